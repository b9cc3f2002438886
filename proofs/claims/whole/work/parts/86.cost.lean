/-! how soon all are where they would be -/
theorem Ag.at {v w : Vw} (h : Ag v w) {f k : Nat} (hf : f ≤ 10) (h0 : f = 0 → k < 6) (h1 : f = 1 ∨ f = 2 ∨ f = 3 → (k : Int) < v 0 1) (h2 : 4 ≤ f → (k : Int) < v 0 2) : w f k = v f k := by
  obtain ⟨g0, g1, g2⟩ := h
  rcases (show f = 0 ∨ f = 1 ∨ f = 2 ∨ f = 3 ∨ f = 4 ∨ f = 5 ∨ f = 6 ∨ f = 7 ∨ f = 8 ∨ f = 9 ∨ f = 10 by omega) with rfl | rfl | rfl | rfl | rfl | rfl | rfl | rfl | rfl | rfl | rfl
  · exact g0 k (h0 rfl)
  · exact (g1 k (h1 (by omega))).1
  · exact (g1 k (h1 (by omega))).2.1
  · exact (g1 k (h1 (by omega))).2.2
  · exact (g2 k (h2 (by omega))).1
  · exact (g2 k (h2 (by omega))).2.1
  · exact (g2 k (h2 (by omega))).2.2.1
  · exact (g2 k (h2 (by omega))).2.2.2.1
  · exact (g2 k (h2 (by omega))).2.2.2.2.1
  · exact (g2 k (h2 (by omega))).2.2.2.2.2.1
  · exact (g2 k (h2 (by omega))).2.2.2.2.2.2
def vset (v : Vw) (f0 k0 : Nat) (m : Int) : Vw := fun f k => if f = f0 ∧ k = k0 then m else v f k
theorem vset_ne {v : Vw} {f0 k0 f k : Nat} {m : Int} (h : ¬ (f = f0 ∧ k = k0)) : vset v f0 k0 m f k = v f k := if_neg h
theorem vset_at {v : Vw} {f0 k0 : Nat} {m : Int} : vset v f0 k0 m f0 k0 = m := if_pos ⟨rfl, rfl⟩
theorem Lb_bits {v : Vw} {k0 : Nat} {m : Int} (hL : Lb v) (hk : k0 = 3 ∨ k0 = 4) (hm : 0 ≤ m ∧ m < 64) : Lb (vset v 0 k0 m) := by
  obtain ⟨⟨a1, a2, a3, a4, a5, a6, a7, a8, a9, a10, a11, a12⟩, g1, g2⟩ := hL
  have e : ∀ f k, ¬ (f = 0 ∧ k = k0) → vset v 0 k0 m f k = v f k := fun f k h => vset_ne h
  refine ⟨?_, fun r hr => ?_, fun p hp => ?_⟩
  · rcases hk with rfl | rfl
    · unfold Hb
      rw [e 0 0 (by omega), e 0 1 (by omega), e 0 2 (by omega), vset_at, e 0 4 (by omega), e 0 5 (by omega)]
      exact ⟨a1, a2, a3, a4, a5, a6, hm.1, hm.2, a9, a10, a11, a12⟩
    · unfold Hb
      rw [e 0 0 (by omega), e 0 1 (by omega), e 0 2 (by omega), vset_at, e 0 3 (by omega), e 0 5 (by omega)]
      exact ⟨a1, a2, a3, a4, a5, a6, a7, a8, hm.1, hm.2, a11, a12⟩
  · rw [e 0 1 (by omega)] at hr
    exact Rb_congr (e 0 0 (by omega)) ⟨e _ _ (by omega), e _ _ (by omega), e _ _ (by omega)⟩ (g1 r hr)
  · rw [e 0 2 (by omega)] at hp
    exact Pb_congr (e 0 0 (by omega)) ⟨e _ _ (by omega), e _ _ (by omega), e _ _ (by omega), e _ _ (by omega), e _ _ (by omega), e _ _ (by omega)⟩ (g2 p hp)
theorem Lb_mil {v : Vw} {i : Nat} {m : Int} (hL : Lb v) (hm : 1 ≤ m ∧ m ≤ 20) : Lb (vset v 3 i m) := by
  obtain ⟨g0, g1, g2⟩ := hL
  have e : ∀ f k, ¬ (f = 3 ∧ k = i) → vset v 3 i m f k = v f k := fun f k h => vset_ne h
  refine ⟨Hb_congr (fun k _ => e 0 k (by omega)) g0, fun r hr => ?_, fun p hp => ?_⟩
  · rw [e 0 1 (by omega)] at hr
    obtain ⟨q1, q2, q3, q4, q5, q6, q7⟩ := g1 r hr
    unfold Rb
    rw [e 0 0 (by omega), e 1 r (by omega), e 2 r (by omega)]
    refine ⟨q1, q2, q3, q4, q5, ?_⟩
    by_cases hri : r = i
    · rw [hri, vset_at]; exact hm
    · rw [e 3 r (by omega)]; exact ⟨q6, q7⟩
  · rw [e 0 2 (by omega)] at hp
    exact Pb_congr (e 0 0 (by omega)) ⟨e _ _ (by omega), e _ _ (by omega), e _ _ (by omega), e _ _ (by omega), e _ _ (by omega), e _ _ (by omega)⟩ (g2 p hp)
theorem Mb_vset {v : Vw} {f0 k0 : Nat} {m : Int} (h : Mb v) (hf : ¬ (f0 = 0 ∧ k0 = 2)) (hf2 : f0 ≠ 10) : Mb (vset v f0 k0 m) := by
  intro p hp
  rw [vset_ne (by omega)] at hp
  rw [vset_ne (by omega)]
  exact h p hp
theorem cv_vset {v : Vw} {T U : St} {f0 k0 : Nat} {m : Int} (h : Ag v (cv T 11)) (hc : ¬ (f0 = 0 ∧ k0 ≤ 2)) (hm : zz U (11 + f0) k0 = m) (ho : ∀ f k, f ≤ 10 → ¬ (f = f0 ∧ k = k0) → U (11 + f) k = T (11 + f) k) : Ag (vset v f0 k0 m) (cv U 11) := by
  refine Ag.of (fun f k hf h0 h1 h2 => ?_)
  rw [vset_ne (by omega)] at h1 h2
  by_cases hh : f = f0 ∧ k = k0
  · obtain ⟨rfl, rfl⟩ := hh
    rw [vset_at]
    exact hm
  · rw [vset_ne hh, ← h.at hf h0 h1 h2]
    unfold cv zz
    rw [ho f k hf hh]
theorem mz_vset {v : Vw} {S U : St} {f0 k0 j : Nat} {m : Int} (h : Ag v (mz S 75)) (b1 : v 0 1 ≤ 9) (b2 : v 0 2 ≤ 4) (hf0 : (f0 = 0 ∧ k0 = 3 ∧ j = 16) ∨ (f0 = 0 ∧ k0 = 4 ∧ j = 17) ∨ (f0 = 3 ∧ j = 18 + k0 ∧ k0 < 9)) (hm : zz U 76 j = m) (h76 : ∀ k, k < 28 → k ≠ j → U 76 k = S 75 k) (hU : ∀ c k, c = 71 ∧ k ≠ 0 ∨ c = 73 ∨ c = 74 → U c k = S c k) : Ag (vset v f0 k0 m) (mz U 76) := by
  have z : ∀ c k, c = 71 ∧ k ≠ 0 ∨ c = 73 ∨ c = 74 → zz U c k = zz S c k := fun c k h => by unfold zz; rw [hU c k h]
  have z76 : ∀ k, k < 28 → k ≠ j → zz U 76 k = zz S 75 k := fun k h1 h2 => by unfold zz; rw [h76 k h1 h2]
  refine Ag.of (fun f k hf h0 h1 h2 => ?_)
  rw [vset_ne (by omega)] at h1 h2
  by_cases hh : f = f0 ∧ k = k0
  · obtain ⟨rfl, rfl⟩ := hh
    rw [vset_at]
    rcases hf0 with ⟨rfl, rfl, rfl⟩ | ⟨rfl, rfl, rfl⟩ | ⟨rfl, rfl, _⟩ <;> exact hm
  · rw [vset_ne hh, ← h.at hf h0 h1 h2]
    have k9 : f = 1 ∨ f = 2 ∨ f = 3 → k < 9 := fun e => by have := h1 e; omega
    have k4 : 4 ≤ f → k < 4 := fun e => by have := h2 e; omega
    clear h h1 h2
    rcases (show f = 0 ∨ f = 1 ∨ f = 2 ∨ f = 3 ∨ f = 4 ∨ f = 5 ∨ f = 6 ∨ f = 7 ∨ f = 8 ∨ f = 9 ∨ f = 10 by omega) with rfl | rfl | rfl | rfl | rfl | rfl | rfl | rfl | rfl | rfl | rfl
    · have hk := h0 rfl
      rcases (show k = 0 ∨ k = 1 ∨ k = 2 ∨ k = 3 ∨ k = 4 ∨ k = 5 by omega) with rfl | rfl | rfl | rfl | rfl | rfl
      · exact z _ _ (by omega)
      · exact z _ _ (by omega)
      · exact z _ _ (by omega)
      · exact z76 16 (by omega) (by omega)
      · exact z76 17 (by omega) (by omega)
      · exact z76 27 (by omega) (by omega)
    · exact z _ _ (by omega)
    · exact z _ _ (by omega)
    · exact z76 (18 + k) (by omega) (by omega)
    · exact z _ _ (by omega)
    · exact z _ _ (by omega)
    · exact z _ _ (by omega)
    · exact z76 (4 * k) (by omega) (by omega)
    · exact z76 (4 * k + 1) (by omega) (by omega)
    · exact z76 (4 * k + 2) (by omega) (by omega)
    · exact z76 (4 * k + 3) (by omega) (by omega)
/-- how soon p is where p would be -/
def Sn (v : Vw) (p : Nat) (z : Int) : Prop := Soon v p (v 7 p) (v 8 p) (v 10 p) (v 4 p) z
/-- and all of the first n, together -/
def Tg (v : Vw) : Nat → Int → Prop
  | 0, x => x = 0
  | n + 1, x => ∃ y z, Tg v n y ∧ Sn v n z ∧ x = if y = 100000000 ∨ z = 100000000 then 100000000 else y + z
theorem Tg_uniq {v : Vw} : ∀ n x y, Tg v n x → Tg v n y → x = y := by
  intro n
  induction n with
  | zero => intro x y h1 h2; exact Eq.trans h1 (Eq.symm h2)
  | succ n ih =>
    rintro x y ⟨a, b, h1, h2, e1⟩ ⟨a', b', k1, k2, e2⟩
    rw [e1, e2, ih _ _ h1 k1, Soon_uniq h2 k2]
theorem Tg_pre {v : Vw} : ∀ d n x, Tg v (n + d) x → ∃ y, Tg v n y ∧ (y = 100000000 → x = 100000000) := by
  intro d
  induction d with
  | zero => intro n x h; exact ⟨x, h, id⟩
  | succ d ih =>
    rintro n x ⟨a, b, h1, h2, e1⟩
    obtain ⟨y, h3, h4⟩ := ih n a h1
    exact ⟨y, h3, fun e => by rw [e1, if_pos (Or.inl (h4 e))]⟩
def TA (v : Vw) (N : Nat) (x : Int) : Prop := (x = 100000000 ∧ ∃ n, n ≤ N ∧ Tg v n 100000000) ∨ (x ≠ 100000000 ∧ Tg v N x)
theorem TA_of {v : Vw} {N : Nat} {x : Int} (h : Tg v N x) : TA v N x := by
  by_cases e : x = 100000000
  · exact Or.inl ⟨e, N, Nat.le_refl _, e ▸ h⟩
  · exact Or.inr ⟨e, h⟩
theorem TA_uniq {v : Vw} {N : Nat} {x y : Int} (hx : TA v N x) (hy : TA v N y) : x = y := by
  have key : ∀ n z, n ≤ N → Tg v n 100000000 → Tg v N z → z = 100000000 := by
    intro n z hn h1 h2
    obtain ⟨y, h3, h4⟩ := Tg_pre (N - n) n z (by rw [show n + (N - n) = N from by omega]; exact h2)
    exact h4 (Tg_uniq n _ _ h3 h1)
  rcases hx with ⟨e, n, hn, h⟩ | ⟨e, h⟩ <;> rcases hy with ⟨e', n', hn', h'⟩ | ⟨e', h'⟩
  · omega
  · exact absurd (key n y hn h h') e'
  · exact absurd (key n' x hn' h' h) e
  · exact Tg_uniq N _ _ h h'
/-- the same ways, though they may last longer -/
def Gq (v w : Vw) : Prop := w 0 1 = v 0 1 ∧ w 0 3 = v 0 3 ∧ ∀ r : Nat, (r : Int) < v 0 1 → w 1 r = v 1 r ∧ w 2 r = v 2 r
theorem Gq.symm {v w : Vw} (h : Gq v w) : Gq w v := ⟨h.1.symm, h.2.1.symm, fun r hr => by obtain ⟨q1, q2⟩ := h.2.2 r (by rw [← h.1]; exact hr); exact ⟨q1.symm, q2.symm⟩⟩
theorem Rc_Gq {v w : Vw} {p : Nat} {ly : Nat → Int → Nat} {l0 : Nat} {a0 c0 t0 : Int} (hG : Gq v w) : ∀ n l a c t, Rc v p ly l0 a0 c0 t0 n l a c t → ∃ t', Rc w p ly l0 a0 c0 t0 n l a c t' := by
  intro n
  induction n with
  | zero => rintro l a c t h; exact ⟨t, h⟩
  | succ n ih =>
    rintro l a c t ⟨l1, a1, c1, t1, h1, h2⟩
    obtain ⟨t', g⟩ := ih _ _ _ _ h1
    rcases h2 with ⟨k1, k2, e0, e1, e2, e3⟩ | ⟨r, s, k1, e1, k3, k2, k4, e0, e2, e3⟩
    · exact ⟨t' + 1, l1, a1, c1, t', g, Or.inl ⟨by rw [hG.2.1]; exact k1, k2, e0, e1, e2, rfl⟩⟩
    · exact ⟨t' + tme w p r a1 t' s, l1, a1, c1, t', g, Or.inr ⟨r, s, by rw [hG.1]; exact k1, (oth_up (hG.2.2 r k1).1 (hG.2.2 r k1).2).trans e1, k3, k2, k4, e0, e2, rfl⟩⟩
theorem Sn_Gq {v w : Vw} {p : Nat} {x y : Int} (hG : Gq v w) (hp : w 4 p = v 4 p ∧ w 7 p = v 7 p ∧ w 8 p = v 8 p ∧ w 10 p = v 10 p) (hx : Sn v p x) (hy : Sn w p y) (h : x ≠ 100000000) : y ≠ 100000000 := by
  intro e
  unfold Sn at hy
  rw [hp.1, hp.2.1, hp.2.2.1, hp.2.2.2] at hy
  rcases hx with ⟨_, _, ⟨n, c, h1⟩, _⟩ | ⟨e2, _⟩
  · obtain ⟨t', g⟩ := Rc_Gq hG _ _ _ _ _ h1
    rcases hy with ⟨_, q, _⟩ | ⟨_, q⟩
    · omega
    · exact q _ _ _ g
  · exact h e2
theorem Tg_bad {v : Vw} : ∀ n, Tg v n 100000000 → (∀ m x, m < n → Tg v m x → x = 100000000 ∨ x < 10000000) → (∀ m x, m < n → Sn v m x → x = 100000000 ∨ x < 10000000) → ∃ j, j < n ∧ Sn v j 100000000 := by
  intro n
  induction n with
  | zero => intro h; exact absurd (show (100000000 : Int) = 0 from h) (by decide)
  | succ n ih =>
    rintro ⟨y, z, h1, h2, e⟩ hb hb2
    by_cases hz : z = 100000000
    · exact ⟨n, by omega, hz ▸ h2⟩
    · by_cases hy : y = 100000000
      · obtain ⟨j, h3, h4⟩ := ih (hy ▸ h1) (fun m x hm => hb m x (by omega)) (fun m x hm => hb2 m x (by omega))
        exact ⟨j, by omega, h4⟩
      · rw [if_neg (by omega)] at e
        have := hb n y (by omega) h1
        have := hb2 n z (by omega) h2
        omega
theorem Tg_good {v : Vw} : ∀ n x, Tg v n x → x ≠ 100000000 → ∀ j, j < n → ∃ z, Sn v j z ∧ z ≠ 100000000 := by
  intro n
  induction n with
  | zero => intro x _ _ j hj; omega
  | succ n ih =>
    rintro x ⟨y, z, h1, h2, e⟩ hx j hj
    have hyz : ¬ (y = 100000000 ∨ z = 100000000) := fun q => hx (by rw [e, if_pos q])
    by_cases hjn : j = n
    · rw [hjn]; exact ⟨z, h2, fun q => hyz (Or.inr q)⟩
    · exact ih y h1 (fun q => hyz (Or.inl q)) j (by omega)
theorem Sn_b {v : Vw} {p : Nat} {x : Int} (hM : Mb v) (hp : (p : Int) < v 0 2) (h : Sn v p x) : x = 100000000 ∨ (0 ≤ x ∧ x ≤ 100000) := by
  have := hM p hp
  rcases h with ⟨h1, h2, _⟩ | ⟨h1, _⟩
  · exact Or.inr (by omega)
  · exact Or.inl h1
theorem Tg_b {v : Vw} (hM : Mb v) : ∀ (n : Nat) x, (n : Int) ≤ v 0 2 → Tg v n x → x = 100000000 ∨ (0 ≤ x ∧ x ≤ 100000 * n) := by
  intro n
  induction n with
  | zero => intro x _ h; exact Or.inr (by rw [show x = 0 from h]; omega)
  | succ n ih =>
    rintro x hn ⟨y, z, h1, h2, e⟩
    have a := ih y (by omega) h1
    have b := Sn_b hM (by omega) h2
    rw [e]
    split
    · exact Or.inl rfl
    · exact Or.inr (by omega)
theorem TA_Gq {v w : Vw} {N : Nat} {x y : Int} (hM : Mb v) (hM' : Mb w) (hN : (N : Int) ≤ v 0 2) (hN4 : v 0 2 ≤ 4) (h02 : w 0 2 = v 0 2) (hG : Gq v w) (hp : ∀ p, p < N → w 4 p = v 4 p ∧ w 7 p = v 7 p ∧ w 8 p = v 8 p ∧ w 10 p = v 10 p) (hx : TA v N x) (hy : TA w N y) (h : x ≠ 100000000) : y ≠ 100000000 := by
  rcases hx with ⟨e, _⟩ | ⟨_, hx⟩
  · exact absurd e h
  · rcases hy with ⟨e, n, hn, hy⟩ | ⟨e, _⟩
    · obtain ⟨j, hj, hs⟩ := Tg_bad n hy (fun m x hm hh => by have := Tg_b hM' m x (by omega) hh; omega) (fun m x hm hh => by have := Sn_b hM' (by omega) hh; omega)
      obtain ⟨z, h1, h2⟩ := Tg_good N x hx h j (by omega)
      exact absurd rfl (Sn_Gq hG (hp j (by omega)) h1 hs h2)
    · exact e
theorem s_X4_allTogether {v : Vw} {S : St} {post : Int32 → St → Prop} (hL : Lb v) (hM : Mb v) (hA : Ag v (cv S 11)) (h : ∀ T x, (∀ c k, c ≠ 51 → c ≠ 53 → c ≠ 54 → T c k = S c k) → 0 ≤ x → x ≤ 100000000 → TA v (v 0 2).toNat x → post (iI (if x = 100000000 then -1 else x)) T) : wp_X4_allTogether S post := by
  obtain ⟨b0, b0', b1, b1', b2, b2', _⟩ := id hL.1
  have key : ∀ (d n : Nat) (T : St) (x : Int), n + d = (v 0 2).toNat → (∀ c k, c ≠ 51 → c ≠ 53 → c ≠ 54 → T c k = S c k) → Tg v n x → x ≠ 100000000 → L_X4_allTogether_4 post (d + 1) (iI x) (iI n) T := by
    intro d
    induction d with
    | zero =>
      intro n T x hn oT hx hx2
      show BD_X4_allTogether_4 (L_X4_allTogether_4 post 0) post _ _ _
      unfold BD_X4_allTogether_4
      have e2 : T 11 2 = iI (v 0 2) := by
        rw [oT _ _ (by omega) (by omega) (by omega), zz_S S 11 2]
        congr 1
        exact hA.1 2 (by omega)
      have xb := Tg_b hM n x (by omega) hx
      rw [e2, iI_le (by omega) (by omega) (by omega) (by omega)]
      refine ⟨fun _ => ?_, fun e => absurd (by omega) e⟩
      have := h T x oT (by omega) (by omega) (TA_of (show Tg v (v 0 2).toNat x from by rw [← hn]; exact hx))
      rw [if_neg hx2] at this
      exact this
    | succ d ih =>
      intro n T x hn oT hx hx2
      show BD_X4_allTogether_4 (L_X4_allTogether_4 post (d + 1)) post _ _ _
      unfold BD_X4_allTogether_4
      have e2 : T 11 2 = iI (v 0 2) := by
        rw [oT _ _ (by omega) (by omega) (by omega), zz_S S 11 2]
        congr 1
        exact hA.1 2 (by omega)
      have xb := Tg_b hM n x (by omega) hx
      have hn2 : (n : Int) < v 0 2 := by omega
      obtain ⟨_, _, _, _, _, _, r7, r7', r8, r8', _⟩ := hL.2.2 n hn2
      have mb := hM n hn2
      have en : iI (n : Int) + 1 = iI ((n + 1 : Nat) : Int) := by rw [show (1 : Int32) = iI 1 from rfl, iI_add]; rfl
      have hAT : Ag v (cv T 11) := hA.trans (Ag.of (fun f k _ _ _ _ => by unfold cv zz; rw [oT _ _ (by omega) (by omega) (by omega)]))
      have hn3 : (n : Int) < cv T 11 0 2 := by rw [hAT.1 2 (by omega)]; exact hn2
      obtain ⟨_, _, _, w7, w8, _, w10⟩ := hAT.2.2 n hn2
      rw [e2, iI_le (by omega) (by omega) (by omega) (by omega), en]
      refine ⟨fun e => absurd e (by omega), fun _ => ?_⟩
      refine s_X4_soonestAtErrand (v := v) (a0 := v 7 n) (c0 := v 8 n) (t0 := v 10 n) hL hn2 hAT.sv ((Ag_Lb hAT hL).2.2 n hn3) w7 w8 w10 ⟨r7, r7'⟩ ⟨r8, r8'⟩ (by omega) ?_
      intro T2 y o2 ya yb hy
      have oT2 : ∀ c k, c ≠ 51 → c ≠ 53 → c ≠ 54 → T2 c k = S c k := fun c k h1 h2 h3 => by rw [o2 c k h1 h2 h3, oT c k h1 h2 h3]
      have yb2 := Sn_b hM hn2 hy
      by_cases hy2 : y = 100000000
      · rw [if_pos hy2]
        refine ⟨fun e => absurd (by decide) e, fun _ => ?_⟩
        have := h T2 100000000 oT2 (by omega) (by omega) (Or.inl ⟨rfl, n + 1, by omega, x, y, hx, hy, by rw [if_pos (Or.inr hy2)]⟩)
        rw [if_pos rfl] at this
        exact this
      · rw [if_neg hy2]
        rw [show (-1 : Int32) = iI (-1) from by decide, iI_eq (by omega) (by omega) (by omega) (by omega)]
        refine ⟨fun _ v5 e5 => ?_, fun e => absurd e (by omega)⟩
        rw [e5, iI_add]
        exact ih (n + 1) T2 (x + y) (by omega) oT2 ⟨x, y, hx, hy, by rw [if_neg (by omega)]⟩ (by omega)
  exact ⟨(v 0 2).toNat + 1, key (v 0 2).toNat 0 S 0 (by omega) (fun _ _ _ _ _ => rfl) rfl (by decide)⟩
theorem s_X8_together {v : Vw} {S : St} {post : Int32 → St → Prop} (hL : Lb v) (hM : Mb v) (hA : Ag v (mz S 76)) (h : ∀ T x, (∀ c k, c ≠ 81 → c ≠ 82 → T c k = S c k) → 0 ≤ x → x ≤ 100000000 → TA v (v 0 2).toNat x → post (iI x) T) : wp_X8_together S post := by
  obtain ⟨b0, b0', b1, b1', b2, b2', _⟩ := id hL.1
  have key : ∀ (d n : Nat) (T : St) (x : Int), n + d = (v 0 2).toNat → (∀ c k, c ≠ 81 → c ≠ 82 → T c k = S c k) → Tg v n x → L_X8_together_4 post (d + 1) (iI x) (iI n) T := by
    intro d
    induction d with
    | zero =>
      intro n T x hn oT hx
      show BD_X8_together_4 (L_X8_together_4 post 0) post _ _ _
      unfold BD_X8_together_4
      have e2 : T 71 12 = iI (v 0 2) := by
        rw [oT _ _ (by omega) (by omega), zz_S S 71 12]
        congr 1
        exact hA.1 2 (by omega)
      have xb := Tg_b hM n x (by omega) hx
      rw [e2, iI_le (by omega) (by omega) (by omega) (by omega)]
      exact ⟨fun _ => h T x oT (by omega) (by omega) (TA_of (show Tg v (v 0 2).toNat x from by rw [← hn]; exact hx)), fun e => absurd (by omega) e⟩
    | succ d ih =>
      intro n T x hn oT hx
      show BD_X8_together_4 (L_X8_together_4 post (d + 1)) post _ _ _
      unfold BD_X8_together_4
      have e2 : T 71 12 = iI (v 0 2) := by
        rw [oT _ _ (by omega) (by omega), zz_S S 71 12]
        congr 1
        exact hA.1 2 (by omega)
      have xb := Tg_b hM n x (by omega) hx
      have hn2 : (n : Int) < v 0 2 := by omega
      obtain ⟨r4, r4', _, _, _, _, r7, r7', r8, r8', _⟩ := hL.2.2 n hn2
      have mb := hM n hn2
      have en : iI (n : Int) + 1 = iI ((n + 1 : Nat) : Int) := by rw [show (1 : Int32) = iI 1 from rfl, iI_add]; rfl
      have hAT : Ag v (mz T 76) := by rw [mz_fr oT]; exact hA
      have hn3 : (n : Int) < mz T 76 0 2 := by rw [hAT.1 2 (by omega)]; exact hn2
      obtain ⟨w4, _, _, w7, w8, _, w10⟩ := hAT.2.2 n hn2
      have w4 : zz T 74 (5 * n + 1) = v 4 n := w4
      have w7 : zz T 76 (4 * n) = v 7 n := w7
      have w8 : zz T 76 (4 * n + 1) = v 8 n := w8
      have w10 : zz T 76 (4 * n + 3) = v 10 n := w10
      rw [e2, iI_le (by omega) (by omega) (by omega) (by omega), en]
      refine ⟨fun e => absurd e (by omega), fun _ => ?_⟩
      refine s_X8_errand (by omega) ?_
      rw [zz_S T 74 (5 * n + 1), w4]
      refine s_X8_soonestOf hL hn2 hAT.sv ((Ag_Lb hAT hL).2.2 n hn3) (by rw [w10]; omega) (by omega) ?_
      rw [w7, w8, w10]
      intro T2 y o2 ya yb hy
      have oT2 : ∀ c k, c ≠ 81 → c ≠ 82 → T2 c k = S c k := fun c k h1 h2 => by rw [o2 c k h1 h2, oT c k h1 h2]
      have yb2 := Sn_b hM hn2 hy
      rw [show (100000000 : Int32) = iI 100000000 from rfl, iI_eq (by omega) (by omega) (by omega) (by omega), iI_eq (by omega) (by omega) (by omega) (by omega)]
      refine ⟨fun e => ih (n + 1) T2 _ (by omega) oT2 ⟨x, y, hx, hy, by rw [if_pos (Or.inr e)]⟩, fun e => ⟨fun e2 v8 e8 => ?_, fun e2 => ih (n + 1) T2 _ (by omega) oT2 ⟨x, y, hx, hy, by rw [if_pos (Or.inl e2)]⟩⟩⟩
      rw [e8, iI_add]
      exact ih (n + 1) T2 (x + y) (by omega) oT2 ⟨x, y, hx, hy, by rw [if_neg (by omega)]⟩
  exact ⟨(v 0 2).toNat + 1, key (v 0 2).toNat 0 S 0 (by omega) (fun _ _ _ _ => rfl) rfl⟩
