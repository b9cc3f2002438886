/-! looking back: the greatest minute from which one is there by a minute -/
theorem Rc_cons {v : Vw} {p : Nat} {ly : Nat → Int → Nat} {l0 l1 : Nat} {a0 c0 t0 a1 c1 t1 : Int} (he : Eg v p ly l0 a0 c0 t0 l1 a1 c1 t1) : ∀ n l a c t, Rc v p ly l1 a1 c1 t1 n l a c t → Rc v p ly l0 a0 c0 t0 (n + 1) l a c t := by
  intro n
  induction n with
  | zero =>
    rintro l a c t ⟨rfl, rfl, rfl, rfl⟩
    exact ⟨l0, a0, c0, t0, ⟨rfl, rfl, rfl, rfl⟩, he⟩
  | succ n ih =>
    rintro l a c t ⟨l2, a2, c2, t2, h1, h2⟩
    exact ⟨l2, a2, c2, t2, ih _ _ _ _ h1, h2⟩
theorem Rc_uncons {v : Vw} {p : Nat} {ly : Nat → Int → Nat} {l0 : Nat} {a0 c0 t0 : Int} : ∀ n l a c t, Rc v p ly l0 a0 c0 t0 (n + 1) l a c t → ∃ l1 a1 c1 t1, Eg v p ly l0 a0 c0 t0 l1 a1 c1 t1 ∧ Rc v p ly l1 a1 c1 t1 n l a c t := by
  intro n
  induction n with
  | zero =>
    rintro l a c t ⟨l2, a2, c2, t2, ⟨rfl, rfl, rfl, rfl⟩, h2⟩
    exact ⟨l, a, c, t, h2, rfl, rfl, rfl, rfl⟩
  | succ n ih =>
    rintro l a c t ⟨l2, a2, c2, t2, h1, h2⟩
    obtain ⟨l1, a1, c1, t1, k1, k2⟩ := ih _ _ _ _ h1
    exact ⟨l1, a1, c1, t1, k1, l2, a2, c2, t2, k2, h2⟩
theorem Eg_early {v : Vw} {p : Nat} {ly : Nat → Int → Nat} {l l' : Nat} {a c t a' c' t' T : Int} (hL : Lb v) (h : Eg v p ly l a c t l' a' c' t') (hT : T ≤ t) : ∃ T', T' ≤ t' ∧ Eg v p ly l a c T l' a' c' T' := by
  rcases h with ⟨h1, h2, e0, e1, e2, e3⟩ | ⟨r, s, h1, e1, h3, h2, h4, e0, e2, e3⟩
  · exact ⟨T + 1, by omega, Or.inl ⟨h1, h2, e0, e1, e2, rfl⟩⟩
  · have := tme_mono (v := v) (p := p) (r := r) (a := a) (s := s) (hL.2.1 r h1) hT
    exact ⟨T + tme v p r a T s, by omega, Or.inr ⟨r, s, h1, e1, h3, h2, h4, e0, e2, rfl⟩⟩
theorem Rc_early {v : Vw} {p : Nat} {ly : Nat → Int → Nat} {l0 : Nat} {a0 c0 t0 T0 : Int} (hL : Lb v) (h0 : T0 ≤ t0) : ∀ n l a c t, Rc v p ly l0 a0 c0 t0 n l a c t → ∃ t', t' ≤ t ∧ Rc v p ly l0 a0 c0 T0 n l a c t' := by
  intro n
  induction n with
  | zero => rintro l a c t ⟨rfl, rfl, rfl, rfl⟩; exact ⟨T0, h0, rfl, rfl, rfl, rfl⟩
  | succ n ih =>
    rintro l a c t ⟨l1, a1, c1, t1, h1, h2⟩
    obtain ⟨t', g1, g2⟩ := ih _ _ _ _ h1
    obtain ⟨T', k1, k2⟩ := Eg_early hL h2 g1
    exact ⟨T', k1, l1, a1, c1, t', g2, k2⟩
/-- from a, c at x one can be at e by g -/
def Bk (v : Vw) (p : Nat) (e g a c x : Int) : Prop := ∃ n c' t, Rc v p ly0 0 a c x n 0 e c' t ∧ t ≤ g
theorem Bk_early {v : Vw} {p : Nat} {e g a c x y : Int} (hL : Lb v) (h : Bk v p e g a c x) (hy : y ≤ x) : Bk v p e g a c y := by
  obtain ⟨n, c', t, h1, h2⟩ := h
  obtain ⟨t', g1, g2⟩ := Rc_early hL hy _ _ _ _ _ h1
  exact ⟨n, c', t', g2, by omega⟩
theorem Bk_step {v : Vw} {p : Nat} {e g a c x a' c' t u : Int} (hL : Lb v) (he : Eg v p ly0 0 a c x 0 a' c' t) (ht : t ≤ u) (h : Bk v p e g a' c' u) : Bk v p e g a c x := by
  obtain ⟨n, c2, t2, h1, h2⟩ := Bk_early hL h ht
  exact ⟨n + 1, c2, t2, Rc_cons he _ _ _ _ _ h1, h2⟩
theorem oth_sym {v : Vw} {r : Nat} {a b : Int} (hR : Rb v r) (h : oth v r a = b) (hb : b ≠ -1) : oth v r b = a := by
  have h5 := hR.2.2.2.2.1
  by_cases h1 : v 1 r = a
  · rw [oth_1 h1] at h
    rw [oth_2 (by omega) h, h1]
  · by_cases h2 : v 2 r = a
    · rw [oth_2 h1 h2] at h
      rw [oth_1 h, h2]
    · rw [oth_3 h1 h2] at h
      omega
def Ebk (v : Vw) (p i : Nat) (u : Int) (j : Nat) (x : Int) : Prop := ∃ t, t ≤ u ∧ Eg v p ly0 0 ((j / 6 : Nat) : Int) ((j % 6 : Nat) : Int) x 0 ((i / 6 : Nat) : Int) ((i % 6 : Nat) : Int) t
def Bx (v : Vw) (p i : Nat) (u : Int) (S T : St) : Prop := (∀ c k, c ≠ 52 → T c k = S c k) ∧ ∀ j, j < 36 → zz S 52 j ≤ zz T 52 j ∧ (zz T 52 j = zz S 52 j ∨ (Ebk v p i u j (zz T 52 j) ∧ u - 240 ≤ zz T 52 j ∧ zz T 52 j < u ∧ ((j / 6 : Nat) : Int) < v 0 0))
theorem Bx.rf (v : Vw) (p i : Nat) (u : Int) (S : St) : Bx v p i u S S := ⟨fun _ _ _ => rfl, fun _ _ => ⟨Int.le_refl _, Or.inl rfl⟩⟩
theorem cv_52s {v : Vw} {S T : St} (h : ∀ c k, c ≠ 52 → T c k = S c k) (hS : Sv v (cv S 11)) : Sv v (cv T 11) := by
  have e : ∀ f k, f ≤ 10 → cv T 11 f k = cv S 11 f k := fun f k hf => by unfold cv zz; rw [h _ _ (by omega)]
  refine hS.trans ⟨fun k _ => e _ _ (by omega), fun r _ => ⟨e _ _ (by omega), e _ _ (by omega), e _ _ (by omega)⟩, fun q _ => ⟨e _ _ (by omega), e _ _ (by omega), e _ _ (by omega), e _ _ (by omega)⟩⟩
theorem cv_52p {p : Nat} {S T : St} (h : ∀ c k, c ≠ 52 → T c k = S c k) (hP : Pb (cv S 11) p) : Pb (cv T 11) p := by
  have e : ∀ f k, f ≤ 10 → cv T 11 f k = cv S 11 f k := fun f k hf => by unfold cv zz; rw [h _ _ (by omega)]
  exact Pb_congr (e _ _ (by omega)) ⟨e _ _ (by omega), e _ _ (by omega), e _ _ (by omega), e _ _ (by omega), e _ _ (by omega), e _ _ (by omega)⟩ hP
theorem s_X4_reachBack {v : Vw} {p i a' c' : Nat} {u x : Int} {S T : St} {post : St → Prop} (ha : a' < 6) (hc : c' < 6) (x1 : -1500000000 ≤ x) (x2 : x < 2147483648) (hR : Bx v p i u S T) (hE : Ebk v p i u (6 * a' + c') x) (hu : u - 240 ≤ x) (hu2 : x < u) (hav : (a' : Int) < v 0 0) (h : ∀ T', Bx v p i u S T' → (∀ k, zz T 52 k ≤ zz T' 52 k) → x ≤ zz T' 52 (6 * a' + c') → post T') : wp_X4_reachBack (iI a') (iI c') (iI x) T post := by
  unfold wp_X4_reachBack
  intro v1 e1
  obtain ⟨j, hj⟩ : ∃ j : Nat, 6 * a' + c' = j := ⟨_, rfl⟩
  have e1 : v1 = iI (j : Int) := by
    rw [e1, show (6 : Int32) = iI 6 from rfl, iI_mul, iI_add]
    congr 1
    omega
  have hj2 : j < 36 := by omega
  have xj : ix (iI (j : Int)) = j := by rw [iI_ix (by omega) (by omega)]; simp
  have ij : vp_in (iI (j : Int)) 36 := (iI_in (by omega) (by omega)).mpr ⟨by omega, by omega⟩
  rw [hj] at h hE
  have l1 := zz_lo T 52 j
  have l2 := zz_hi T 52 j
  rw [e1, xj]
  have hle : iI x ≤ T 52 j ↔ x ≤ zz T 52 j := by
    rw [zz_S T 52 j]
    exact iI_le (by omega) (by omega) (by omega) (by omega)
  refine ⟨ij, fun e => h T hR (fun _ => Int.le_refl _) (hle.mp e), fun e => ⟨ij, fun S4 e4 => ?_⟩⟩
  have ht : ¬ x ≤ zz T 52 j := fun q => e (hle.mpr q)
  have zj : zz S4 52 j = x := zz_iI (by rw [e4, up_at]) (by omega) (by omega)
  have zk : ∀ k, k ≠ j → zz S4 52 k = zz T 52 k := fun k hk => by unfold zz; rw [e4, up_ne _ _ (by omega)]
  refine h S4 ⟨fun c k hc => ?_, fun k hk => ?_⟩ (fun k => ?_) (by omega)
  · rw [e4, up_ne _ _ (by omega)]; exact hR.1 c k hc
  · by_cases hkj : k = j
    · rw [hkj, zj]
      have := (hR.2 j hj2).1
      exact ⟨by omega, Or.inr ⟨hE, hu, hu2, by omega⟩⟩
    · rw [zk k hkj]; exact hR.2 k hk
  · by_cases hkj : k = j
    · rw [hkj, zj]; omega
    · rw [zk k hkj]; exact Int.le_refl _
theorem hur_lo {v : Vw} {p : Nat} {a t : Int} (h : t ≤ v 6 p - 10) : hur v p a t = hur v p a (v 6 p - 10) := by
  unfold hur
  rw [if_neg (by omega), if_neg (by omega), if_neg (by omega), if_neg (by omega)]
theorem hur_mid {v : Vw} {p : Nat} {a t : Int} (h : v 6 p - 10 < t) (h2 : t ≤ v 6 p) : hur v p a t = hur v p a (v 6 p) := by
  unfold hur
  rw [if_pos (by omega), if_neg (by omega), if_pos (by omega), if_neg (by omega)]
theorem hur_hi {v : Vw} {p : Nat} {a t : Int} (h : v 6 p < t) : hur v p a t = hur v p a (v 6 p + 1) := by
  unfold hur
  rw [if_pos (by omega), if_pos (by omega), if_pos (by omega), if_pos (by omega)]
/-- what looking back rests on -/
def Bq (v : Vw) (p : Nat) (S : St) : Prop := Lb v ∧ (p : Int) < v 0 2 ∧ Sv v (cv S 11) ∧ Pb (cv S 11) p
theorem s_X4_leavesBy {v : Vw} {p r : Nat} {a s A : Int} {S T : St} {post : Int32 → St → Prop} (hd : Bq v p S) (hT : ∀ c k, c ≠ 52 → T c k = S c k) (hr : (r : Int) < v 0 1) (ha : 0 ≤ a ∧ a < 6) (hs : 0 ≤ s ∧ s ≤ 5) (hA : -1000000000 ≤ A ∧ A ≤ 1000000000) (h : ∀ L, L + tme v p r a L s ≤ A → (∀ x, x + tme v p r a x s ≤ A → x ≤ L) → A - 240 ≤ L → L < A → post (iI L) T) : wp_X4_leavesBy (iI p) (iI r) (iI a) (iI s) (iI A) T post := by
  obtain ⟨hL, hp, hS, hP⟩ := hd
  obtain ⟨b0, b0', b1, b1', b2, b2', _⟩ := id hL.1
  have hS' := cv_52s hT hS
  have hP' := cv_52p hT hP
  have hH' := Sv_Hb hS' hL.1
  have rT : Rb (cv T 11) r := Sv_Rb hS' hr (hL.2.1 r hr)
  have g6 := (hL.2.2 p hp).2.2.2.2
  have e6 : zz T 17 p = v 6 p := (hS'.2.2 p hp).2.2.1
  have xp : ix (iI (p : Int)) = p := by rw [iI_ix (by omega) (by omega)]; simp
  have ip : vp_in (iI (p : Int)) 4 := (iI_in (by omega) (by omega)).mpr ⟨by omega, by omega⟩
  have lo : ∀ x, x ≤ v 6 p - 10 → tme v p r a x s = tme v p r a (v 6 p - 10) s := fun x hx => by unfold tme; rw [hur_lo hx]
  have mid : ∀ x, v 6 p - 10 < x → x ≤ v 6 p → tme v p r a x s = tme v p r a (v 6 p) s := fun x hx hx2 => by unfold tme; rw [hur_mid hx hx2]
  have hi : ∀ x, v 6 p < x → tme v p r a x s = tme v p r a (v 6 p + 1) s := fun x hx => by unfold tme; rw [hur_hi hx]
  have m1 := tme_mono (v := v) (p := p) (r := r) (a := a) (s := s) (hL.2.1 r hr) (show v 6 p - 10 ≤ v 6 p by omega)
  have m2 := tme_mono (v := v) (p := p) (r := r) (a := a) (s := s) (hL.2.1 r hr) (show v 6 p ≤ v 6 p + 1 by omega)
  have k1 := tme_b (v := v) (p := p) (r := r) a (v 6 p - 10) (s := s) (hL.2.2 p hp) (hL.2.1 r hr) hs.1
  have k2 := tme_b (v := v) (p := p) (r := r) a (v 6 p) (s := s) (hL.2.2 p hp) (hL.2.1 r hr) hs.1
  have k3 := tme_b (v := v) (p := p) (r := r) a (v 6 p + 1) (s := s) (hL.2.2 p hp) (hL.2.1 r hr) hs.1
  have et : ∀ x, tme (cv T 11) p r a x s = tme v p r a x s := fun x => tme_Sv hS' hp hr _ _ _
  generalize q1 : tme v p r a (v 6 p - 10) s = T1 at *
  generalize q2 : tme v p r a (v 6 p) s = T2 at *
  generalize q3 : tme v p r a (v 6 p + 1) s = T3 at *
  have all : ∀ x L, (x ≤ v 6 p - 10 → x + T1 ≤ A → x ≤ L) → (v 6 p - 10 < x → x ≤ v 6 p → x + T2 ≤ A → x ≤ L) → (v 6 p < x → x + T3 ≤ A → x ≤ L) → x + tme v p r a x s ≤ A → x ≤ L := by
    intro x L f1 f2 f3 hx
    by_cases c1 : x ≤ v 6 p - 10
    · rw [lo x c1] at hx; exact f1 c1 hx
    · by_cases c2 : x ≤ v 6 p
      · rw [mid x (by omega) c2] at hx; exact f2 (by omega) c2 hx
      · rw [hi x (by omega)] at hx; exact f3 (by omega) hx
  unfold wp_X4_leavesBy
  rw [xp, zz_S T 17 p, e6]
  refine ⟨ip, fun v1 e1 => ?_⟩
  rw [e1, show (1 : Int32) = iI 1 from rfl, iI_add, show (10 : Int32) = iI 10 from rfl, iI_sub]
  refine s_X6_lasts (o := 11) hH' hP' rT (by omega) (by omega) ha.1 ha.2 (by omega) (by omega) hs.1 (by omega) ?_
  rw [et, q3, iI_sub]
  intro v4 e4
  rw [e4, iI_le (by omega) (by omega) (by omega) (by omega)]
  refine ⟨fun c3 => ?_, fun c3 => h _ (by rw [hi _ (by omega)]; omega) (fun x => all x _ (fun _ _ => by omega) (fun _ _ _ => by omega) (fun _ _ => by omega)) (by omega) (by omega)⟩
  refine s_X6_lasts (o := 11) hH' hP' rT (by omega) (by omega) ha.1 ha.2 (by omega) (by omega) hs.1 (by omega) ?_
  rw [et, q2, iI_sub]
  intro v8 e8
  have e8 : v8 = iI (if A - T2 < v 6 p then A - T2 else v 6 p) := by
    rw [e8]
    by_cases hlt : A - T2 < v 6 p
    · rw [if_pos hlt, if_pos ((iI_lt (by omega) (by omega) (by omega) (by omega)).mpr hlt)]
    · rw [if_neg hlt, if_neg (fun e => hlt ((iI_lt (by omega) (by omega) (by omega) (by omega)).mp e))]
  obtain ⟨F, hF⟩ : ∃ F : Int, F = (if A - T2 < v 6 p then A - T2 else v 6 p) := ⟨_, rfl⟩
  have hF2 : F ≤ v 6 p ∧ F ≤ A - T2 ∧ (F = v 6 p ∨ F = A - T2) := by
    rw [hF]
    split <;> omega
  rw [← hF] at e8
  clear hF
  rw [e8, iI_le (by omega) (by omega) (by omega) (by omega)]
  refine ⟨fun c2 => ?_, fun c2 => h _ (by rw [mid _ (by omega) (by omega)]; omega) (fun x => all x _ (fun _ _ => by omega) (fun _ _ _ => by omega) (fun _ _ => by omega)) (by omega) (by omega)⟩
  refine s_X6_lasts (o := 11) hH' hP' rT (by omega) (by omega) ha.1 ha.2 (by omega) (by omega) hs.1 (by omega) ?_
  rw [et, q1, iI_sub]
  have e9 : (if iI (A - T1) < iI (v 6 p - 10) then iI (A - T1) else iI (v 6 p - 10)) = iI (if A - T1 < v 6 p - 10 then A - T1 else v 6 p - 10) := by
    by_cases hlt : A - T1 < v 6 p - 10
    · rw [if_pos hlt, if_pos ((iI_lt (by omega) (by omega) (by omega) (by omega)).mpr hlt)]
    · rw [if_neg hlt, if_neg (fun e => hlt ((iI_lt (by omega) (by omega) (by omega) (by omega)).mp e))]
  rw [e9]
  obtain ⟨F2, hG⟩ : ∃ F2 : Int, F2 = (if A - T1 < v 6 p - 10 then A - T1 else v 6 p - 10) := ⟨_, rfl⟩
  have hG2 : F2 ≤ v 6 p - 10 ∧ F2 ≤ A - T1 ∧ (F2 = v 6 p - 10 ∨ F2 = A - T1) := by
    rw [hG]
    split <;> omega
  rw [← hG]
  clear hG
  exact h _ (by rw [lo _ (by omega)]; omega) (fun x => all x _ (fun _ _ => by omega) (fun _ _ _ => by omega) (fun _ _ => by omega)) (by omega) (by omega)
theorem s_back_in {v : Vw} {p i r b : Nat} {u : Int} {S : St} {k51 : Int32 → Int32 → Int32 → Int32 → Int32 → St → Prop} {post : St → Prop} (hd : Bq v p S) (hi : i < 36) (hi2 : ((i / 6 : Nat) : Int) < v 0 0) (hu : -900000000 ≤ u ∧ u ≤ 900000000) (hr : (r : Int) < v 0 1) (hb : oth v r ((i / 6 : Nat) : Int) = (b : Int)) : ∀ (d s : Nat) (T : St), s + d + i % 6 = 6 → Bx v p i u S T → (∀ T', Bx v p i u S T' → (∀ k, zz T 52 k ≤ zz T' 52 k) → (∀ s' : Nat, s ≤ s' → s' + i % 6 ≤ 5 → ∀ x, x + tme v p r (b : Int) x s' ≤ u → x ≤ zz T' 52 (6 * b + (i % 6 + s'))) → k51 (iI p) (iI ((i / 6 : Nat) : Int)) (iI ((i % 6 : Nat) : Int)) (iI u) (iI r + 1) T') → L_X4_spreadBack_87 k51 post (d + 1) (iI p) (iI ((i / 6 : Nat) : Int)) (iI ((i % 6 : Nat) : Int)) (iI u) (iI r) (iI b) (iI s) T := by
  obtain ⟨hL, hp, hS, hP⟩ := id hd
  obtain ⟨b0, b0', b1, b1', b2, b2', _⟩ := id hL.1
  have ob := oth_b ((i / 6 : Nat) : Int) (hL.2.1 r hr) hL.1
  rw [hb] at ob
  have ho := oth_sym (hL.2.1 r hr) hb (by omega)
  intro d
  induction d with
  | zero =>
    intro s T hs hR h
    show BD_X4_spreadBack_87 k51 (L_X4_spreadBack_87 k51 post 0) post _ _ _ _ _ _ _ _
    unfold BD_X4_spreadBack_87
    rw [iI_add, show (5 : Int32) = iI 5 from rfl, iI_lt (by omega) (by omega) (by omega) (by omega)]
    exact ⟨fun _ => h T hR (fun _ => Int.le_refl _) (fun s' q1 q2 => absurd q1 (by omega)), fun e => absurd (by omega) e⟩
  | succ d ih =>
    intro s T hs hR h
    show BD_X4_spreadBack_87 k51 (L_X4_spreadBack_87 k51 post (d + 1)) post _ _ _ _ _ _ _ _
    unfold BD_X4_spreadBack_87
    have es : iI (s : Int) + 1 = iI ((s + 1 : Nat) : Int) := by rw [show (1 : Int32) = iI 1 from rfl, iI_add]; rfl
    have ec : iI ((i % 6 : Nat) : Int) + iI (s : Int) = iI ((i % 6 + s : Nat) : Int) := by rw [iI_add]; rfl
    rw [ec, es, show (5 : Int32) = iI 5 from rfl, iI_lt (by omega) (by omega) (by omega) (by omega)]
    refine ⟨fun q => absurd q (by omega), fun _ => ?_⟩
    refine s_X4_leavesBy hd hR.1 hr (by omega) (by omega) (by omega) ?_
    intro L l1 l2 l3 l4
    refine s_X4_reachBack (v := v) (p := p) (i := i) (u := u) (S := S) (by omega) (by omega) (by omega) (by omega) hR ?_ l3 l4 (by omega) ?_
    · refine ⟨L + tme v p r (b : Int) L s, l1, Or.inr ⟨r, s, hr, ?_, by omega, by omega, ?_, rfl, ?_, ?_⟩⟩
      · rw [show (6 * b + (i % 6 + s)) / 6 = b from by omega]; exact ho
      · omega
      · omega
      · rw [show (6 * b + (i % 6 + s)) / 6 = b from by omega]
    · intro T1 hR1 le1 lj
      refine ih (s + 1) T1 (by omega) hR1 ?_
      intro T2 hR2 le2 l2'
      refine h T2 hR2 (fun k => Int.le_trans (le1 k) (le2 k)) (fun s' q1 q2 x hx => ?_)
      by_cases hss : s' = s
      · subst hss
        have := l2 x hx
        have := le2 (6 * b + (i % 6 + s'))
        omega
      · exact l2' s' (by omega) q2 x hx
theorem s_back_mid {v : Vw} {p i : Nat} {u : Int} {S : St} {post : St → Prop} (hd : Bq v p S) (hi : i < 36) (hi2 : ((i / 6 : Nat) : Int) < v 0 0) (hu : -900000000 ≤ u ∧ u ≤ 900000000) : ∀ (d r : Nat) (T : St), (r : Int) + d = v 0 1 → Bx v p i u S T → (∀ T', Bx v p i u S T' → (∀ k, zz T 52 k ≤ zz T' 52 k) → (∀ r' b : Nat, r ≤ r' → (r' : Int) < v 0 1 → oth v r' ((i / 6 : Nat) : Int) = (b : Int) → ∀ s' : Nat, s' + i % 6 ≤ 5 → ∀ x, x + tme v p r' (b : Int) x s' ≤ u → x ≤ zz T' 52 (6 * b + (i % 6 + s'))) → post T') → L_X4_spreadBack_51 post (d + 1) (iI p) (iI ((i / 6 : Nat) : Int)) (iI ((i % 6 : Nat) : Int)) (iI u) (iI r) T := by
  obtain ⟨hL, hp, hS, hP⟩ := id hd
  obtain ⟨b0, b0', b1, b1', b2, b2', _⟩ := id hL.1
  have e11 : zz S 11 1 = v 0 1 := hS.1 1 (by omega)
  intro d
  induction d with
  | zero =>
    intro r T hr hR h
    show BD_X4_spreadBack_51 (L_X4_spreadBack_51 post 0) post _ _ _ _ _ _
    unfold BD_X4_spreadBack_51
    rw [hR.1 11 1 (by omega), zz_S S 11 1, e11, iI_le (by omega) (by omega) (by omega) (by omega)]
    exact ⟨fun _ => h T hR (fun _ => Int.le_refl _) (fun r' b q1 q2 => absurd q2 (by omega)), fun e => absurd (by omega) e⟩
  | succ d ih =>
    intro r T hr hR h
    show BD_X4_spreadBack_51 (L_X4_spreadBack_51 post (d + 1)) post _ _ _ _ _ _
    unfold BD_X4_spreadBack_51
    have hrv : (r : Int) < v 0 1 := by omega
    have ob := oth_b ((i / 6 : Nat) : Int) (hL.2.1 r hrv) hL.1
    have er : iI (r : Int) + 1 = iI ((r + 1 : Nat) : Int) := by rw [show (1 : Int32) = iI 1 from rfl, iI_add]; rfl
    rw [hR.1 11 1 (by omega), zz_S S 11 1, e11, iI_le (by omega) (by omega) (by omega) (by omega)]
    refine ⟨fun q => absurd q (by omega), fun _ => ?_⟩
    refine s_X6_otherEnd (o := 11) (by omega) (by omega) (by omega) ?_
    rw [oth_Sv (cv_52s hR.1 hS) hrv]
    have em1 : iI (oth v r ((i / 6 : Nat) : Int)) = -1 ↔ oth v r ((i / 6 : Nat) : Int) = -1 := by
      rw [show (-1 : Int32) = iI (-1) from by decide]
      exact iI_eq (by omega) (by omega) (by omega) (by omega)
    rw [em1]
    constructor
    · intro hne
      obtain ⟨b, hb⟩ : ∃ b : Nat, oth v r ((i / 6 : Nat) : Int) = (b : Int) := ⟨(oth v r ((i / 6 : Nat) : Int)).toNat, by omega⟩
      rw [hb]
      refine ⟨6 - i % 6 + 1, ?_⟩
      rw [show (0 : Int32) = iI ((0 : Nat) : Int) from rfl]
      refine s_back_in hd hi hi2 hu hrv hb (6 - i % 6) 0 T (by omega) hR ?_
      intro T1 hR1 le1 l1
      rw [er]
      refine ih (r + 1) T1 (by omega) hR1 ?_
      intro T2 hR2 le2 l2
      refine h T2 hR2 (fun k => Int.le_trans (le1 k) (le2 k)) (fun r' b' q1 q2 q3 s' q4 x hx => ?_)
      by_cases hrr : r' = r
      · subst hrr
        have : b' = b := by rw [hb] at q3; omega
        subst this
        exact Int.le_trans (l1 s' (by omega) q4 x hx) (le2 _)
      · exact l2 r' b' (by omega) q2 q3 s' q4 x hx
    · intro heq
      rw [er]
      refine ih (r + 1) T (by omega) hR ?_
      intro T2 hR2 le2 l2
      refine h T2 hR2 le2 (fun r' b' q1 q2 q3 s' q4 x hx => ?_)
      by_cases hrr : r' = r
      · subst hrr
        rw [heq] at q3
        omega
      · exact l2 r' b' (by omega) q2 q3 s' q4 x hx
theorem s_X4_spreadBack {v : Vw} {p i : Nat} {u : Int} {S : St} {post : St → Prop} (hd : Bq v p S) (hi : i < 36) (hi2 : ((i / 6 : Nat) : Int) < v 0 0) (hu : -900000000 ≤ u ∧ u ≤ 900000000) (eu : zz S 52 i = u) (h : ∀ T', Bx v p i u S T' → (∀ a c x t, (0 ≤ a ∧ a < v 0 0) → (0 ≤ c ∧ c ≤ 5) → Eg v p ly0 0 a c x 0 ((i / 6 : Nat) : Int) ((i % 6 : Nat) : Int) t → t ≤ u → x ≤ zz T' 52 (6 * a.toNat + c.toNat)) → post T') : wp_X4_spreadBack (iI p) (iI i) S post := by
  obtain ⟨hL, hp, hS, hP⟩ := id hd
  obtain ⟨b0, b0', b1, b1', b2, b2', b3, b3', _⟩ := id hL.1
  have xi : ix (iI (i : Int)) = i := by rw [iI_ix (by omega) (by omega)]; simp
  have ii : vp_in (iI (i : Int)) 36 := (iI_in (by omega) (by omega)).mpr ⟨by omega, by omega⟩
  have hH' := Sv_Hb hS hL.1
  have e3 : cv S 11 0 3 = v 0 3 := hS.1 3 (by omega)
  unfold wp_X4_spreadBack
  intro v1 e1 v2 e2
  have e1 : v1 = iI ((i / 6 : Nat) : Int) := by
    rw [e1, show (6 : Int32) = iI 6 from rfl, iI_div (by omega) (by omega) (by omega) (by omega)]
    rfl
  have e2 : v2 = iI ((i % 6 : Nat) : Int) := by
    rw [e2, show (6 : Int32) = iI 6 from rfl, iI_rem (by omega) (by omega) (by omega) (by omega)]
    rfl
  rw [e1, e2, xi, zz_S S 52 i, eu]
  refine ⟨ii, fun v3 ev3 => ?_⟩
  rw [ev3]
  have rest : ∀ T, Bx v p i u S T → (bt (v 0 3) ((i / 6 : Nat) : Int) = 1 → 0 < i % 6 → u - 1 ≤ zz T 52 (6 * (i / 6) + (i % 6 - 1))) → B_X4_spreadBack_51 post (iI p) (iI ((i / 6 : Nat) : Int)) (iI ((i % 6 : Nat) : Int)) (iI u) 0 T := by
    intro T hR hw
    refine ⟨(v 0 1).toNat + 1, ?_⟩
    rw [show (0 : Int32) = iI ((0 : Nat) : Int) from rfl]
    refine s_back_mid hd hi hi2 hu (v 0 1).toNat 0 T (by omega) hR ?_
    intro T' hR' le' l'
    refine h T' hR' (fun a c x t ha hc he ht => ?_)
    rcases he with ⟨k1, k2, _, k3, k4, k5⟩ | ⟨r, s, k1, k2, k3, k4, k5, _, k6, k7⟩
    · have hwt := hw (by rw [k3]; exact k1) (by omega)
      have := le' (6 * (i / 6) + (i % 6 - 1))
      rw [show 6 * a.toNat + c.toNat = 6 * (i / 6) + (i % 6 - 1) from by omega]
      omega
    · obtain ⟨b, hb⟩ : ∃ b : Nat, a = (b : Int) := ⟨a.toNat, by omega⟩
      obtain ⟨s', hs'⟩ : ∃ s' : Nat, s = (s' : Int) := ⟨s.toNat, by omega⟩
      have ho := oth_sym (hL.2.1 r k1) k2 k3
      have := l' r b (by omega) k1 (by rw [ho, hb]) s' (by omega) x (by rw [← hb, ← hs']; omega)
      rw [show 6 * a.toNat + c.toNat = 6 * b + (i % 6 + s') from by omega]
      exact this
  refine s_X6_hasInn hH' (by omega) (by omega) (fun q => ⟨fun e => absurd e (by decide), fun _ => ?_⟩) (fun q => ⟨fun _ => rest S (Bx.rf _ _ _ _ _) (fun e => by rw [e3] at q; omega), fun e => absurd rfl e⟩)
  rw [e3] at q
  rw [show (0 : Int32) = iI 0 from rfl, iI_le (by omega) (by omega) (by omega) (by omega)]
  refine ⟨fun h0 => rest S (Bx.rf _ _ _ _ _) (fun _ e => by omega), fun h0 => ?_⟩
  rw [show (1 : Int32) = iI 1 from rfl, iI_sub, iI_sub, show ((i % 6 : Nat) : Int) - 1 = ((i % 6 - 1 : Nat) : Int) from by omega]
  refine s_X4_reachBack (v := v) (p := p) (i := i) (u := u) (S := S) (by omega) (by omega) (by omega) (by omega) (Bx.rf _ _ _ _ _) ?_ (by omega) (by omega) hi2 ?_
  · refine ⟨u, Int.le_refl _, Or.inl ⟨?_, by omega, rfl, by omega, by omega, by omega⟩⟩
    rw [show (6 * (i / 6) + (i % 6 - 1)) / 6 = i / 6 from by omega]
    exact q
  · intro T hR _ lj
    exact rest T hR (fun _ _ => lj)
