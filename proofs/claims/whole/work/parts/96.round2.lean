/-! rounds: the reference's search over layers -/
def Rx2 (v : Vw) (p : Nat) (ly : Nat → Int → Nat) (i : Nat) (u : Int) (S T : St) : Prop := (∀ c k, c ≠ 83 → T c k = S c k) ∧ ∀ j, j < 2304 → zz T 83 j ≤ zz S 83 j ∧ (zz T 83 j = zz S 83 j ∨ Ec v p ly (i / 36) (i % 36) u j (zz T 83 j))
theorem Rx2.rf (v : Vw) (p : Nat) (ly : Nat → Int → Nat) (i : Nat) (u : Int) (S : St) : Rx2 v p ly i u S S := ⟨fun _ _ _ => rfl, fun _ _ => ⟨Int.le_refl _, Or.inl rfl⟩⟩
theorem mz_83 {S T : St} (h : ∀ c k, c ≠ 83 → c ≠ 84 → T c k = S c k) : mz T 76 = mz S 76 := by
  have z : ∀ c k, c ≠ 83 → c ≠ 84 → zz T c k = zz S c k := fun c k hc hd => by unfold zz; rw [h c k hc hd]
  funext f k
  unfold mz
  split
  · split <;> exact z _ _ (by omega) (by omega)
  all_goals exact z _ _ (by omega) (by omega)
theorem s_X8_reaches {v : Vw} {p : Nat} {ly : Nat → Int → Nat} {i j : Nat} {u t : Int} {S T : St} {post : St → Prop} (hj : j < 2304) (t1 : -2147483648 ≤ t) (t2 : t < 2147483648) (hR : Rx2 v p ly i u S T) (hE : Ec v p ly (i / 36) (i % 36) u j t) (h : ∀ T', Rx2 v p ly i u S T' → (∀ k, zz T' 83 k ≤ zz T 83 k) → zz T' 83 j ≤ t → post T') : wp_X8_reaches (iI j) (iI t) T post := by
  unfold wp_X8_reaches
  have xj : ix (iI (j : Int)) = j := by rw [iI_ix (by omega) (by omega)]; simp
  have ij : vp_in (iI (j : Int)) 2304 := (iI_in (by omega) (by omega)).mpr ⟨by omega, by omega⟩
  have l1 := zz_lo T 83 j
  have l2 := zz_hi T 83 j
  rw [xj]
  have eT : T 83 j = iI (zz T 83 j) := zz_S T 83 j
  have hle : T 83 j ≤ iI t ↔ zz T 83 j ≤ t := by
    rw [eT]
    exact iI_le (by omega) (by omega) t1 t2
  refine ⟨ij, fun e => ⟨ij, ij, fun S2 e2 => ?_⟩, fun e => ⟨ij, fun S4 e4 => ?_⟩⟩
  · have : S2 = T := by
      rw [e2]
      funext c k
      by_cases hk : c = 83 ∧ k = j
      · rw [hk.1, hk.2, up_at]
      · rw [up_ne _ _ hk]
    rw [this]
    exact h T hR (fun _ => Int.le_refl _) (hle.mp e)
  · have ht : ¬ zz T 83 j ≤ t := fun q => e (hle.mpr q)
    have zj : zz S4 83 j = t := zz_iI (by rw [e4, up_at]) t1 t2
    have zk : ∀ k, k ≠ j → zz S4 83 k = zz T 83 k := fun k hk => by unfold zz; rw [e4, up_ne _ _ (by omega)]
    refine h S4 ⟨fun c k hc => ?_, fun k hk => ?_⟩ (fun k => ?_) (by omega)
    · rw [e4, up_ne _ _ (by omega)]; exact hR.1 c k hc
    · by_cases hkj : k = j
      · rw [hkj, zj]
        have := (hR.2 j hj).1
        exact ⟨by omega, Or.inr hE⟩
      · rw [zk k hkj]; exact hR.2 k hk
    · by_cases hkj : k = j
      · rw [hkj, zj]; omega
      · rw [zk k hkj]; exact Int.le_refl _
def Rd2 (v : Vw) (p s i : Nat) (u : Int) (S : St) : Prop := Lb v ∧ (p : Int) < v 0 2 ∧ s < 64 ∧ i < 2304 ∧ (i / 36) ||| s = s ∧ ((i % 36 / 6 : Nat) : Int) < v 0 0 ∧ Sv v (mz S 76) ∧ Pb (mz S 76) p ∧ zz S 83 i = u ∧ 0 ≤ u ∧ u ≤ 1000000
theorem Rx2_i {v : Vw} {p s i : Nat} {u : Int} {S T : St} (hd : Rd2 v p s i u S) (h : Rx2 v p (lyS s) i u S T) : zz T 83 i = u := by
  obtain ⟨hL, hp, hs, hi, hli, hi2, hS, hP, e, h1, h2⟩ := hd
  obtain ⟨g1, g2⟩ := h.2 i hi
  rcases g2 with g | g
  · rw [g, e]
  · have := Eg_pos hL hp g
    omega
theorem s_rounds_in {v : Vw} {p s i r : Nat} {u b : Int} {S : St} {k55 : Int32 → Int32 → Int32 → Int32 → Int32 → Int32 → St → Prop} {post : St → Prop} (hd : Rd2 v p s i u S) (hr : (r : Int) < v 0 1) (hb : oth v r ((i % 36 / 6 : Nat) : Int) = b) : ∀ (d q : Nat) (T : St), q + d = i % 36 % 6 + 1 → Rx2 v p (lyS s) i u S T → (∀ T', Rx2 v p (lyS s) i u S T' → (∀ k, zz T' 83 k ≤ zz T 83 k) → (b ≠ -1 → ∀ q' : Nat, q ≤ q' → q' ≤ i % 36 % 6 → zz T' 83 (36 * lyS s (i / 36) b + 6 * b.toNat + (i % 36 % 6 - q')) ≤ u + tme v p r ((i % 36 / 6 : Nat) : Int) u q') → k55 (iI p) (iI s) (iI i) (iI ((i % 36 / 6 : Nat) : Int)) (iI ((i % 36 % 6 : Nat) : Int)) (iI (r : Int) + 1) T') → L_X8_roundsOn_77 k55 post (d + 1) (iI p) (iI s) (iI i) (iI ((i % 36 / 6 : Nat) : Int)) (iI ((i % 36 % 6 : Nat) : Int)) (iI r) (iI b) (iI q) T := by
  obtain ⟨hL, hp, hs, hi, hli, hi2, hS, hP, e, h1, h2⟩ := id hd
  obtain ⟨b0, b0', b1, b1', b2, b2', _⟩ := id hL.1
  have ob := oth_b ((i % 36 / 6 : Nat) : Int) (hL.2.1 r hr) hL.1
  rw [hb] at ob
  intro d
  induction d with
  | zero =>
    intro q T hq hR h
    show BD_X8_roundsOn_77 k55 (L_X8_roundsOn_77 k55 post 0) post _ _ _ _ _ _ _ _ _
    unfold BD_X8_roundsOn_77
    rw [iI_lt (by omega) (by omega) (by omega) (by omega)]
    exact ⟨fun _ => h T hR (fun _ => Int.le_refl _) (fun _ q' w1 w2 => absurd w1 (by omega)), fun e => absurd (by omega) e⟩
  | succ d ih =>
    intro q T hq hR h
    show BD_X8_roundsOn_77 k55 (L_X8_roundsOn_77 k55 post (d + 1)) post _ _ _ _ _ _ _ _ _
    unfold BD_X8_roundsOn_77
    have es : iI (q : Int) + 1 = iI ((q + 1 : Nat) : Int) := by rw [show (1 : Int32) = iI 1 from rfl, iI_add]; rfl
    have xi : ix (iI (i : Int)) = i := by rw [iI_ix (by omega) (by omega)]; simp
    have ii : vp_in (iI (i : Int)) 2304 := (iI_in (by omega) (by omega)).mpr ⟨by omega, by omega⟩
    have eu : T 83 i = iI u := by rw [← Rx2_i hd hR]; exact zz_S T 83 i
    have e36 : iI (i : Int) / 36 = iI ((i / 36 : Nat) : Int) := by rw [show (36 : Int32) = iI 36 from rfl, iI_div (by omega) (by omega) (by omega) (by omega)]; rfl
    rw [iI_lt (by omega) (by omega) (by omega) (by omega), es, xi, eu, e36, show (-1 : Int32) = iI (-1) from by decide, iI_eq (by omega) (by omega) (by omega) (by omega)]
    refine ⟨fun w => absurd w (by omega), fun _ => ⟨fun w => h T hR (fun _ => Int.le_refl _) (fun w' => absurd w w'), fun hne v3 e3 => ⟨ii, ii, ?_⟩⟩⟩
    obtain ⟨bn, rfl⟩ : ∃ bn : Nat, b = (bn : Int) := ⟨b.toNat, by omega⟩
    have hly := lyS_ok hs hli (show bn < 6 by omega)
    rw [hly.1] at e3
    have em : mz T 76 = mz S 76 := mz_83 (fun c k a1 _ => hR.1 c k a1)
    have rS : Rb (mz S 76) r := Sv_Rb hS hr (hL.2.1 r hr)
    have tb := tme_b (v := v) (p := p) (r := r) ((i % 36 / 6 : Nat) : Int) u (s := q) (hL.2.2 p hp) (hL.2.1 r hr) (by omega)
    refine s_X8_time (a0 := 76) (by rw [em]; exact Sv_Hb hS hL.1) (by rw [em]; exact hP) (by rw [em]; exact rS) (by omega) (by omega) (by omega) (by omega) (by omega) (by omega) (by omega) (by omega) ?_
    rw [em, tme_Sv hS hp hr, iI_add, e3, show (6 : Int32) = iI 6 from rfl, show (36 : Int32) = iI 36 from rfl, iI_mul, iI_mul, iI_add, iI_add, iI_sub]
    obtain ⟨la, hla⟩ : ∃ la : Nat, lyS s (i / 36) (bn : Int) = la := ⟨_, rfl⟩
    rw [hla] at hly
    rw [hla] at h ⊢
    have ej : (36 : Int) * (la : Int) + 6 * (bn : Int) + ((i % 36 % 6 : Nat) : Int) - (q : Int) = ((36 * la + 6 * bn + (i % 36 % 6 - q) : Nat) : Int) := by omega
    rw [ej]
    have j0 : (36 * la + 6 * bn + (i % 36 % 6 - q)) / 36 = la := by omega
    have j1 : (36 * la + 6 * bn + (i % 36 % 6 - q)) % 36 / 6 = bn := by omega
    have j2 : (36 * la + 6 * bn + (i % 36 % 6 - q)) % 36 % 6 = i % 36 % 6 - q := by omega
    refine s_X8_reaches (v := v) (p := p) (ly := lyS s) (i := i) (u := u) (S := S) (by omega) (by omega) (by omega) hR ?_ ?_
    · unfold Ec
      rw [j0, j1, j2]
      exact Or.inr ⟨r, q, hr, hb, hne, by omega, by omega, hla.symm, by omega, rfl⟩
    · intro T1 hR1 le1 lj
      refine ih (q + 1) T1 (by omega) hR1 ?_
      intro T2 hR2 le2 l2
      refine h T2 hR2 (fun k => Int.le_trans (le2 k) (le1 k)) (fun w q' w1 w2 => ?_)
      by_cases hss : q' = q
      · rw [hss, Int.toNat_natCast]
        exact Int.le_trans (le2 _) lj
      · have := l2 w q' (by omega) w2
        rw [hla] at this
        exact this
theorem s_rounds_mid {v : Vw} {p s i : Nat} {u : Int} {S : St} {post : St → Prop} (hd : Rd2 v p s i u S) : ∀ (d r : Nat) (T : St), (r : Int) + d = v 0 1 → Rx2 v p (lyS s) i u S T → (∀ T', Rx2 v p (lyS s) i u S T' → (∀ k, zz T' 83 k ≤ zz T 83 k) → (∀ r' : Nat, r ≤ r' → (r' : Int) < v 0 1 → oth v r' ((i % 36 / 6 : Nat) : Int) ≠ -1 → ∀ q' : Nat, q' ≤ i % 36 % 6 → zz T' 83 (36 * lyS s (i / 36) (oth v r' ((i % 36 / 6 : Nat) : Int)) + 6 * (oth v r' ((i % 36 / 6 : Nat) : Int)).toNat + (i % 36 % 6 - q')) ≤ u + tme v p r' ((i % 36 / 6 : Nat) : Int) u q') → post T') → L_X8_roundsOn_55 post (d + 1) (iI p) (iI s) (iI i) (iI ((i % 36 / 6 : Nat) : Int)) (iI ((i % 36 % 6 : Nat) : Int)) (iI r) T := by
  obtain ⟨hL, hp, hs, hi, hli, hi2, hS, hP, e, h1, h2⟩ := id hd
  obtain ⟨b0, b0', b1, b1', b2, b2', _⟩ := id hL.1
  have e11 : zz S 71 11 = v 0 1 := hS.1 1 (by omega)
  intro d
  induction d with
  | zero =>
    intro r T hr hR h
    show BD_X8_roundsOn_55 (L_X8_roundsOn_55 post 0) post _ _ _ _ _ _ _
    unfold BD_X8_roundsOn_55
    rw [hR.1 71 11 (by omega), zz_S S 71 11, e11, iI_le (by omega) (by omega) (by omega) (by omega)]
    exact ⟨fun _ => h T hR (fun _ => Int.le_refl _) (fun r' q1 q2 => absurd q2 (by omega)), fun e => absurd (by omega) e⟩
  | succ d ih =>
    intro r T hr hR h
    show BD_X8_roundsOn_55 (L_X8_roundsOn_55 post (d + 1)) post _ _ _ _ _ _ _
    unfold BD_X8_roundsOn_55
    have hrv : (r : Int) < v 0 1 := by omega
    have ob := oth_b ((i % 36 / 6 : Nat) : Int) (hL.2.1 r hrv) hL.1
    have er : iI (r : Int) + 1 = iI ((r + 1 : Nat) : Int) := by rw [show (1 : Int32) = iI 1 from rfl, iI_add]; rfl
    rw [hR.1 71 11 (by omega), zz_S S 71 11, e11, iI_le (by omega) (by omega) (by omega) (by omega)]
    refine ⟨fun q => absurd q (by omega), fun _ => ?_⟩
    refine s_X8_otherEnd (a0 := 76) (by omega) (by omega) (by omega) ?_
    rw [mz_83 (fun c k a1 _ => hR.1 c k a1), oth_Sv hS hrv]
    refine ⟨i % 36 % 6 + 1 + 1, ?_⟩
    rw [show (0 : Int32) = iI ((0 : Nat) : Int) from rfl]
    refine s_rounds_in hd hrv rfl (i % 36 % 6 + 1) 0 T (by omega) hR ?_
    intro T1 hR1 le1 l1
    rw [er]
    refine ih (r + 1) T1 (by omega) hR1 ?_
    intro T2 hR2 le2 l2
    refine h T2 hR2 (fun k => Int.le_trans (le2 k) (le1 k)) (fun r' q1 q2 q3 q' q4 => ?_)
    by_cases hrr : r' = r
    · subst hrr
      exact Int.le_trans (le2 _) (l1 q3 q' (by omega) q4)
    · exact l2 r' (by omega) q2 q3 q' q4
theorem s_X8_roundsOn {v : Vw} {p s i : Nat} {u : Int} {S : St} {post : St → Prop} (hd : Rd2 v p s i u S) (h : ∀ T', Rx2 v p (lyS s) i u S T' → (∀ l' a' c' t', Eg v p (lyS s) (i / 36) ((i % 36 / 6 : Nat) : Int) ((i % 36 % 6 : Nat) : Int) u l' a' c' t' → zz T' 83 (36 * l' + 6 * a'.toNat + c'.toNat) ≤ t') → post T') : wp_X8_roundsOn (iI p) (iI s) (iI i) S post := by
  obtain ⟨hL, hp, hs, hi, hli, hi2, hS, hP, e, h1, h2⟩ := id hd
  obtain ⟨b0, b0', b1, b1', b2, b2', b3, b3', _⟩ := id hL.1
  have xi : ix (iI (i : Int)) = i := by rw [iI_ix (by omega) (by omega)]; simp
  have ii : vp_in (iI (i : Int)) 2304 := (iI_in (by omega) (by omega)).mpr ⟨by omega, by omega⟩
  unfold wp_X8_roundsOn
  intro v1 e1 v2 e2
  have e6 : iI (i : Int) / iI 6 = iI ((i / 6 : Nat) : Int) := by rw [iI_div (by omega) (by omega) (by omega) (by omega)]; rfl
  have e1 : v1 = iI ((i % 36 / 6 : Nat) : Int) := by
    rw [e1, show (6 : Int32) = iI 6 from rfl, e6, iI_rem (by omega) (by omega) (by omega) (by omega)]
    congr 1
    omega
  have e2 : v2 = iI ((i % 36 % 6 : Nat) : Int) := by
    rw [e2, show (6 : Int32) = iI 6 from rfl, iI_rem (by omega) (by omega) (by omega) (by omega)]
    congr 1
    omega
  rw [e1, e2]
  have e3 : zz S 76 16 = v 0 3 := hS.1 3 (by omega)
  have hb := bt_01 (v 0 3) ((i % 36 / 6 : Nat) : Int)
  have eb : (S 76 16 >>> (iI ((i % 36 / 6 : Nat) : Int) &&& 31)) &&& 1 = 1 ↔ bt (v 0 3) ((i % 36 / 6 : Nat) : Int) = 1 := by
    rw [zz_S S 76 16, e3, bit_get b3 b3' (by omega) (by omega), show (1 : Int32) = iI 1 from rfl, iI_eq (by omega) (by omega) (by omega) (by omega)]
  rw [eb, show (5 : Int32) = iI 5 from rfl, iI_le (by omega) (by omega) (by omega) (by omega)]
  have roads : ∀ T, Rx2 v p (lyS s) i u S T → (bt (v 0 3) ((i % 36 / 6 : Nat) : Int) = 1 → i % 36 % 6 < 5 → zz T 83 (i + 1) ≤ u + 1) → B_X8_roundsOn_55 post (iI p) (iI s) (iI i) (iI ((i % 36 / 6 : Nat) : Int)) (iI ((i % 36 % 6 : Nat) : Int)) 0 T := by
    intro T hR hw
    refine ⟨(v 0 1).toNat + 1, ?_⟩
    rw [show (0 : Int32) = iI ((0 : Nat) : Int) from rfl]
    refine s_rounds_mid hd (v 0 1).toNat 0 T (by omega) hR ?_
    intro T' hR' le' l'
    refine h T' hR' ?_
    intro l2 a' c' t' hE
    have hin := Eg_in hL (show 0 ≤ ((i % 36 / 6 : Nat) : Int) ∧ ((i % 36 / 6 : Nat) : Int) < v 0 0 from ⟨by omega, hi2⟩) (show 0 ≤ ((i % 36 % 6 : Nat) : Int) ∧ ((i % 36 % 6 : Nat) : Int) ≤ 5 from ⟨by omega, by omega⟩) hE
    rcases hE with ⟨k1, k2, k0, k3, k4, k5⟩ | ⟨r, q, k1, k2, k3, k4, k5, k0, k6, k7⟩
    · have hx : 36 * l2 + 6 * a'.toNat + c'.toNat = i + 1 := by omega
      rw [hx, k5]
      exact Int.le_trans (le' _) (hw k1 (by omega))
    · obtain ⟨qn, rfl⟩ : ∃ qn : Nat, q = (qn : Int) := ⟨q.toNat, by omega⟩
      have hx := l' r (by omega) k1 (by rw [k2]; exact k3) qn (by omega)
      rw [k2, ← k0] at hx
      have hy : 36 * l2 + 6 * a'.toNat + c'.toNat = 36 * l2 + 6 * a'.toNat + (i % 36 % 6 - qn) := by omega
      rw [hy, k7]
      exact hx
  refine ⟨fun hn => roads S (Rx2.rf _ _ _ _ _ _) (fun q => absurd q hn), fun hy => ⟨fun h5 => roads S (Rx2.rf _ _ _ _ _ _) (fun _ q => absurd q (by omega)), fun h5 => ⟨by rw [xi] at *; exact ii, ?_⟩⟩⟩
  have eu : S 83 i = iI u := by rw [← e]; exact zz_S S 83 i
  rw [xi, eu, show (1 : Int32) = iI 1 from rfl, iI_add, iI_add, show (i : Int) + 1 = ((i + 1 : Nat) : Int) from rfl]
  refine s_X8_reaches (v := v) (p := p) (ly := lyS s) (i := i) (u := u) (S := S) (by omega) (by omega) (by omega) (Rx2.rf _ _ _ _ _ _) ?_ ?_
  · unfold Ec
    exact Or.inl ⟨hy, by omega, by omega, by omega, by omega, rfl⟩
  · intro T' hR' _ l'
    exact roads T' hR' (fun _ _ => l')
theorem s_X8_nextFar {S : St} {post : Int32 → St → Prop} (hf : ∀ j, j < 2304 → zz S 84 j = 0 ∨ zz S 84 j = 1) (h1 : (∀ j, j < 2304 → zz S 84 j = 0 → 100000000 ≤ zz S 83 j) → post (iI (-1)) S) (h2 : ∀ i : Nat, i < 2304 → zz S 84 i = 0 → zz S 83 i < 100000000 → (∀ j, j < 2304 → zz S 84 j = 0 → zz S 83 i ≤ zz S 83 j) → post (iI i) S) : wp_X8_nextFar 2304 S post := by
  have key : ∀ (d n : Nat) (b : Int), n + d = 2304 → (b = -1 ∧ ∀ j, j < n → zz S 84 j = 0 → 100000000 ≤ zz S 83 j) ∨ (0 ≤ b ∧ b < n ∧ zz S 84 b.toNat = 0 ∧ zz S 83 b.toNat < 100000000 ∧ ∀ j, j < n → zz S 84 j = 0 → zz S 83 b.toNat ≤ zz S 83 j) → L_X8_nextFar_4 post (d + 1) 2304 (iI b) (iI n) S := by
    intro d
    induction d with
    | zero =>
      intro n b hn hb
      show BD_X8_nextFar_4 (L_X8_nextFar_4 post 0) post _ _ _ _
      unfold BD_X8_nextFar_4
      rw [show (2304 : Int32) = iI 2304 from rfl, iI_le (by omega) (by omega) (by omega) (by omega)]
      refine ⟨fun _ => ?_, fun e => absurd (by omega) e⟩
      rcases hb with ⟨rfl, hb⟩ | ⟨g1, g2, g3, g4, g5⟩
      · exact h1 (fun j hj => hb j (by omega))
      · have : iI b = iI (b.toNat : Int) := by congr 1; omega
        rw [this]
        exact h2 b.toNat (by omega) g3 g4 (fun j hj => g5 j (by omega))
    | succ d ih =>
      intro n b hn hb
      show BD_X8_nextFar_4 (L_X8_nextFar_4 post (d + 1)) post _ _ _ _
      unfold BD_X8_nextFar_4
      have xn : ix (iI (n : Int)) = n := by rw [iI_ix (by omega) (by omega)]; simp
      have ni : vp_in (iI (n : Int)) 2304 := (iI_in (by omega) (by omega)).mpr ⟨by omega, by omega⟩
      have en : iI (n : Int) + 1 = iI ((n + 1 : Nat) : Int) := by rw [show (1 : Int32) = iI 1 from rfl, iI_add]; rfl
      have l1 := zz_lo S 83 n
      have l2 := zz_hi S 83 n
      have e0 : S 84 n = 0 ↔ zz S 84 n = 0 := by
        rw [zz_S S 84 n, show (0 : Int32) = iI 0 from rfl]
        have := hf n (by omega)
        exact iI_eq (by omega) (by omega) (by omega) (by omega)
      have e8 : (100000000 : Int32) ≤ S 83 n ↔ 100000000 ≤ zz S 83 n := by
        rw [zz_S S 83 n, show (100000000 : Int32) = iI 100000000 from rfl]
        exact iI_le (by omega) (by omega) (by omega) (by omega)
      have eb : iI b = -1 ↔ b = -1 := by
        rw [show (-1 : Int32) = iI (-1) from by decide]
        exact iI_eq (by omega) (by omega) (by omega) (by omega)
      have eN : (2304 : Int32) ≤ iI (n : Int) ↔ (2304 : Int) ≤ n := by
        rw [show (2304 : Int32) = iI 2304 from rfl]
        exact iI_le (by omega) (by omega) (by omega) (by omega)
      rw [eN, xn, en, e0, e8, eb]
      have keep : (zz S 84 n = 0 → (b = -1 → 100000000 ≤ zz S 83 n) ∧ (b ≠ -1 → zz S 83 b.toNat ≤ zz S 83 n)) → L_X8_nextFar_4 post (d + 1) 2304 (iI b) (iI ((n + 1 : Nat) : Int)) S := by
        intro hk
        refine ih (n + 1) b (by omega) ?_
        rcases hb with ⟨hb1, hb⟩ | ⟨g1, g2, g3, g4, g5⟩
        · refine Or.inl ⟨hb1, fun j hj hz => ?_⟩
          by_cases hjn : j = n
          · subst hjn; exact (hk hz).1 hb1
          · exact hb j (by omega) hz
        · refine Or.inr ⟨g1, by omega, g3, g4, fun j hj hz => ?_⟩
          by_cases hjn : j = n
          · subst hjn; exact (hk hz).2 (by omega)
          · exact g5 j (by omega) hz
      have take : zz S 84 n = 0 → zz S 83 n < 100000000 → (b ≠ -1 → zz S 83 n < zz S 83 b.toNat) → L_X8_nextFar_4 post (d + 1) 2304 (iI (n : Int)) (iI ((n + 1 : Nat) : Int)) S := by
        intro q1 q2 q3
        refine ih (n + 1) n (by omega) (Or.inr ⟨by omega, by omega, by rw [Int.toNat_natCast]; exact q1, by rw [Int.toNat_natCast]; exact q2, fun j hj hz => ?_⟩)
        rw [Int.toNat_natCast]
        by_cases hjn : j = n
        · rw [hjn]; exact Int.le_refl _
        · rcases hb with ⟨hb1, hb⟩ | ⟨g1, g2, g3, g4, g5⟩
          · have := hb j (by omega) hz
            omega
          · have := g5 j (by omega) hz
            have := q3 (by omega)
            omega
      refine ⟨fun q => absurd q (by omega), fun _ => ⟨ni, fun hz => keep (fun q => absurd q hz), fun hz => ⟨ni, fun h8 => keep (fun _ => ⟨fun _ => h8, fun hb' => ?_⟩), fun h8 => ⟨fun hb1 => take hz (by omega) (fun q => absurd hb1 q), fun hb1 => ⟨ni, ?_⟩⟩⟩⟩⟩
      · rcases hb with ⟨hb1, hb⟩ | ⟨g1, g2, g3, g4, g5⟩
        · exact absurd hb1 hb'
        · omega
      · rcases hb with ⟨hb2, hb⟩ | ⟨g1, g2, g3, g4, g5⟩
        · exact absurd hb2 hb1
        · have xb : ix (iI b) = b.toNat := by rw [iI_ix (by omega) (by omega)]
          have bi : vp_in (iI b) 2304 := (iI_in (by omega) (by omega)).mpr ⟨by omega, by omega⟩
          have m1 := zz_lo S 83 b.toNat
          have m2 := zz_hi S 83 b.toNat
          have ec : S 83 b.toNat ≤ S 83 n ↔ zz S 83 b.toNat ≤ zz S 83 n := by
            rw [zz_S S 83 b.toNat, zz_S S 83 n]
            exact iI_le (by omega) (by omega) (by omega) (by omega)
          rw [xb, ec]
          exact ⟨bi, fun q => keep (fun _ => ⟨fun q' => absurd q' hb1, fun _ => q⟩), fun q => take hz (by omega) (fun _ => by omega)⟩
  exact ⟨2304 + 1, key 2304 0 (-1) (by omega) (Or.inl ⟨rfl, fun j hj => absurd hj (by omega)⟩)⟩
def Dk2 (v : Vw) (p s l0 : Nat) (a0 c0 t0 : Int) (T : St) : Prop := (∀ j, j < 2304 → zz T 84 j = 0 ∨ zz T 84 j = 1) ∧ (∀ j, j < 2304 → zz T 83 j = 100000000 ∨ (((j % 36 / 6 : Nat) : Int) < v 0 0 ∧ 0 ≤ zz T 83 j ∧ zz T 83 j ≤ t0 + 240 * (cn (zz T 84) 2304 : Int) ∧ ∃ n, Rc v p (lyS s) l0 a0 c0 t0 n (j / 36) ((j % 36 / 6 : Nat) : Int) ((j % 36 % 6 : Nat) : Int) (zz T 83 j))) ∧ (∀ j, j < 2304 → zz T 84 j = 1 → zz T 83 j < 100000000 ∧ j / 36 ≠ s ∧ ∀ l' a' c' t', Eg v p (lyS s) (j / 36) ((j % 36 / 6 : Nat) : Int) ((j % 36 % 6 : Nat) : Int) (zz T 83 j) l' a' c' t' → zz T 83 (36 * l' + 6 * a'.toNat + c'.toNat) ≤ t') ∧ (∀ j k, j < 2304 → k < 2304 → zz T 84 j = 1 → zz T 84 k = 0 → zz T 83 j ≤ zz T 83 k) ∧ zz T 83 (36 * l0 + 6 * a0.toNat + c0.toNat) ≤ t0
theorem Dk2_step {v : Vw} {p s l0 i : Nat} {a0 c0 t0 : Int} {T T' : St} (hL : Lb v) (hp : (p : Int) < v 0 2) (hs : s < 64) (hl0 : l0 ||| s = s) (ha : 0 ≤ a0 ∧ a0 < v 0 0) (hc : 0 ≤ c0 ∧ c0 ≤ 5) (h : Dk2 v p s l0 a0 c0 t0 T) (hi : i < 2304) (hz : zz T 84 i = 0) (hl : zz T 83 i < 100000000) (his : i / 36 ≠ s) (hm : ∀ j, j < 2304 → zz T 84 j = 0 → zz T 83 i ≤ zz T 83 j) (hR : Rx2 v p (lyS s) i (zz T 83 i) (up T 84 i 1) T') (hE : ∀ l' a' c' t', Eg v p (lyS s) (i / 36) ((i % 36 / 6 : Nat) : Int) ((i % 36 % 6 : Nat) : Int) (zz T 83 i) l' a' c' t' → zz T' 83 (36 * l' + 6 * a'.toNat + c'.toNat) ≤ t') : Dk2 v p s l0 a0 c0 t0 T' ∧ cn (zz T' 84) 2304 = cn (zz T 84) 2304 + 1 := by
  obtain ⟨d1, d2, d3, d4, d5⟩ := h
  obtain ⟨b0, b0', _⟩ := id hL.1
  have f1 : zz T' 84 i = 1 := by unfold zz; rw [hR.1 84 i (by omega), up_at]; decide
  have f2 : ∀ j, j ≠ i → zz T' 84 j = zz T 84 j := fun j hj => by unfold zz; rw [hR.1 84 j (by omega), up_ne _ _ (by omega)]
  have hcn := cn_up (f := zz T 84) (g := zz T' 84) 2304 i hi hz f1 f2
  have lab : ∀ j, j < 2304 → zz T' 83 j ≤ zz T 83 j ∧ (zz T' 83 j = zz T 83 j ∨ Ec v p (lyS s) (i / 36) (i % 36) (zz T 83 i) j (zz T' 83 j)) := fun j hj => by
    have := hR.2 j hj
    have e : zz (up T 84 i 1) 83 j = zz T 83 j := by unfold zz; rw [up_ne _ _ (by omega)]
    rw [e] at this
    exact this
  have ilow : ((i % 36 / 6 : Nat) : Int) < v 0 0 ∧ 0 ≤ zz T 83 i ∧ zz T 83 i ≤ t0 + 240 * (cn (zz T 84) 2304 : Int) ∧ ∃ n, Rc v p (lyS s) l0 a0 c0 t0 n (i / 36) ((i % 36 / 6 : Nat) : Int) ((i % 36 % 6 : Nat) : Int) (zz T 83 i) := by
    rcases d2 i hi with q | q
    · omega
    · exact q
  obtain ⟨i1, i2, i3, n0, i4⟩ := ilow
  have keep : ∀ j, j < 2304 → (zz T 84 j = 1 ∨ j = i) → zz T' 83 j = zz T 83 j := fun j hj hsj => by
    rcases (lab j hj).2 with q | q
    · exact q
    · have := (lab j hj).1
      have hpos := Eg_pos hL hp q
      rcases hsj with hsj | hsj
      · have := d4 j i hj hi hsj hz
        omega
      · rw [hsj] at this hpos
        omega
  refine ⟨⟨fun j hj => ?_, fun j hj => ?_, fun j hj hsj => ?_, fun j k hj hk hs1 hs2 => ?_, ?_⟩, hcn⟩
  · by_cases hji : j = i
    · rw [hji]; exact Or.inr f1
    · rw [f2 j hji]; exact d1 j hj
  · rcases (lab j hj).2 with q | q
    · rw [q]
      rcases d2 j hj with w | ⟨w1, w2, w3, w4⟩
      · exact Or.inl w
      · exact Or.inr ⟨w1, w2, by omega, w4⟩
    · have hpos := Eg_pos hL hp q
      have hin := Eg_in hL (show 0 ≤ ((i % 36 / 6 : Nat) : Int) ∧ ((i % 36 / 6 : Nat) : Int) < v 0 0 from ⟨by omega, i1⟩) (show 0 ≤ ((i % 36 % 6 : Nat) : Int) ∧ ((i % 36 % 6 : Nat) : Int) ≤ 5 from ⟨by omega, by omega⟩) q
      exact Or.inr ⟨hin.1.2, by omega, by omega, n0 + 1, i / 36, _, _, _, i4, q⟩
  · by_cases hji : j = i
    · subst hji
      have k := keep j hj (Or.inr rfl)
      rw [k]
      exact ⟨hl, his, hE⟩
    · rw [f2 j hji] at hsj
      have k := keep j hj (Or.inl hsj)
      rw [k]
      obtain ⟨w1, w2, w3⟩ := d3 j hj hsj
      refine ⟨w1, w2, fun l' a' c' t' hEg => ?_⟩
      have hx := w3 l' a' c' t' hEg
      have hjv : ((j % 36 / 6 : Nat) : Int) < v 0 0 ∧ (j / 36) ||| s = s := by
        rcases d2 j hj with w | ⟨w1', _, _, n, w4⟩
        · omega
        · exact ⟨w1', (Rc_lyS hL hp hs hl0 ha hc _ _ _ _ _ w4).1⟩
      have hin := Eg_in hL (show 0 ≤ ((j % 36 / 6 : Nat) : Int) ∧ ((j % 36 / 6 : Nat) : Int) < v 0 0 from ⟨by omega, hjv.1⟩) (show 0 ≤ ((j % 36 % 6 : Nat) : Int) ∧ ((j % 36 % 6 : Nat) : Int) ≤ 5 from ⟨by omega, by omega⟩) hEg
      have hly := Eg_lyS hL hs hjv.2 (show 0 ≤ ((j % 36 / 6 : Nat) : Int) ∧ ((j % 36 / 6 : Nat) : Int) < v 0 0 from ⟨by omega, hjv.1⟩) (show 0 ≤ ((j % 36 % 6 : Nat) : Int) ∧ ((j % 36 % 6 : Nat) : Int) ≤ 5 from ⟨by omega, by omega⟩) hEg
      have := (lab (36 * l' + 6 * a'.toNat + c'.toNat) (by omega)).1
      omega
  · have hki : k ≠ i := fun q => by rw [q, f1] at hs2; omega
    rw [f2 k hki] at hs2
    have hk2 := hm k hk hs2
    have hji : zz T' 83 j = zz T 83 j := keep j hj (by
      by_cases q : j = i
      · exact Or.inr q
      · rw [f2 j q] at hs1; exact Or.inl hs1)
    have hij : zz T 83 j ≤ zz T 83 i := by
      by_cases q : j = i
      · rw [q]; exact Int.le_refl _
      · rw [f2 j q] at hs1; exact d4 j i hj hi hs1 hz
    rw [hji]
    rcases (lab k hk).2 with q | q
    · omega
    · have hpos := Eg_pos hL hp q
      omega
  · have hls : l0 ≤ s := by
      have := Nat.left_le_or (n := l0) (m := s)
      omega
    have := (lab (36 * l0 + 6 * a0.toNat + c0.toNat) (by omega)).1
    omega
/-- all that is reached is settled, or comes no sooner than what is not settled -/
theorem Dk2_cut {v : Vw} {p s l0 : Nat} {a0 c0 t0 x : Int} {T : St} (hL : Lb v) (hp : (p : Int) < v 0 2) (hs : s < 64) (hl0 : l0 ||| s = s) (ha : 0 ≤ a0 ∧ a0 < v 0 0) (hc : 0 ≤ c0 ∧ c0 ≤ 5) (h : Dk2 v p s l0 a0 c0 t0 T) (hx : ∀ j, j < 2304 → zz T 84 j = 0 → x ≤ zz T 83 j) : ∀ n l a c t, Rc v p (lyS s) l0 a0 c0 t0 n l a c t → (zz T 84 (36 * l + 6 * a.toNat + c.toNat) = 1 ∧ zz T 83 (36 * l + 6 * a.toNat + c.toNat) ≤ t) ∨ x ≤ t := by
  obtain ⟨d1, d2, d3, d4, d5⟩ := h
  obtain ⟨b0, b0', _⟩ := id hL.1
  have hls : l0 ≤ s := by
    have := Nat.left_le_or (n := l0) (m := s)
    omega
  intro n
  induction n with
  | zero =>
    rintro l a c t ⟨rfl, rfl, rfl, rfl⟩
    have hj : 36 * l + 6 * a.toNat + c.toNat < 2304 := by omega
    rcases d1 _ hj with q | q
    · have := hx _ hj q
      exact Or.inr (by omega)
    · exact Or.inl ⟨q, d5⟩
  | succ n ih =>
    rintro l a c t ⟨l1, a1, c1, t1, h1, h2⟩
    have hpos := Eg_pos hL hp h2
    rcases ih _ _ _ _ h1 with ⟨q1, q2⟩ | q
    · obtain ⟨g1, g2, _⟩ := Rc_in hL hp ha hc n _ _ _ _ h1
      obtain ⟨k1, k2, k3⟩ := Rc_lyS hL hp hs hl0 ha hc n _ _ _ _ h1
      have hin := Eg_in hL g1 g2 h2
      have hly := Eg_lyS hL hs k1 g1 g2 h2
      have hj1 : 36 * l1 + 6 * a1.toNat + c1.toNat < 2304 := by omega
      have hj : 36 * l + 6 * a.toNat + c.toNat < 2304 := by omega
      obtain ⟨T', w1, w2⟩ := Eg_early hL h2 q2
      have hw := (d3 _ hj1 q1).2.2 l a c T'
      rw [show (36 * l1 + 6 * a1.toNat + c1.toNat) / 36 = l1 from by omega, show (((36 * l1 + 6 * a1.toNat + c1.toNat) % 36 / 6 : Nat) : Int) = a1 from by omega, show (((36 * l1 + 6 * a1.toNat + c1.toNat) % 36 % 6 : Nat) : Int) = c1 from by omega] at hw
      have hlab := hw w2
      rcases d1 _ hj with q | q
      · have := hx _ hj q
        exact Or.inr (by omega)
      · exact Or.inl ⟨q, by omega⟩
    · exact Or.inr (by omega)
theorem s_X8_round_loop {v : Vw} {p s l0 : Nat} {a0 c0 t0 : Int} {S : St} {post : Int32 → St → Prop} (hL : Lb v) (hp : (p : Int) < v 0 2) (hs : s < 64) (hl0 : l0 ||| s = s) (ha : 0 ≤ a0 ∧ a0 < v 0 0) (hc : 0 ≤ c0 ∧ c0 ≤ 5) (ht : 0 ≤ t0 ∧ t0 ≤ 100000) (hS : Sv v (mz S 76)) (hP : Pb (mz S 76) p) (h : ∀ T x, (∀ c k, c ≠ 83 → c ≠ 84 → T c k = S c k) → RS v p s l0 a0 c0 t0 x → post (iI (if x = 100000000 then -1 else x)) T) : ∀ (d : Nat) (T : St) (x : Int), cn (zz T 84) 2304 + d = 2304 → (∀ c k, c ≠ 83 → c ≠ 84 → T c k = S c k) → Dk2 v p s l0 a0 c0 t0 T → (x = -1 ∧ ∀ j, j < 2304 → zz T 84 j = 0 → 100000000 ≤ zz T 83 j) ∨ (∃ i : Nat, x = (i : Int) ∧ i < 2304 ∧ zz T 84 i = 0 ∧ zz T 83 i < 100000000 ∧ ∀ j, j < 2304 → zz T 84 j = 0 → zz T 83 i ≤ zz T 83 j) → L_X8_round_121 post (d + 1) (iI p) (iI s) (iI x) T := by
  have none : ∀ T : St, cn (zz T 84) 2304 ≤ 2304 → (∀ c k, c ≠ 83 → c ≠ 84 → T c k = S c k) → Dk2 v p s l0 a0 c0 t0 T → (∀ j, j < 2304 → zz T 84 j = 0 → 100000000 ≤ zz T 83 j) → B_X8_round_159 post (iI (-1)) T := by
    intro T hcl hF hD hx
    unfold B_X8_round_159
    refine ⟨fun e => absurd (by decide) e, fun _ => ?_⟩
    have hRS : RS v p s l0 a0 c0 t0 100000000 := by
      refine Or.inr ⟨rfl, ?_⟩
      have all : ∀ n l a c t, Rc v p (lyS s) l0 a0 c0 t0 n l a c t → zz T 84 (36 * l + 6 * a.toNat + c.toNat) = 1 ∧ zz T 83 (36 * l + 6 * a.toNat + c.toNat) ≤ t := by
        obtain ⟨d1, d2, d3, d4, d5⟩ := hD
        obtain ⟨b0, b0', _⟩ := id hL.1
        have hls : l0 ≤ s := by
          have := Nat.left_le_or (n := l0) (m := s)
          omega
        intro n
        induction n with
        | zero =>
          rintro l a c t ⟨rfl, rfl, rfl, rfl⟩
          have hj : 36 * l + 6 * a.toNat + c.toNat < 2304 := by omega
          rcases d1 _ hj with q | q
          · have := hx _ hj q
            omega
          · exact ⟨q, d5⟩
        | succ n ih =>
          rintro l a c t ⟨l1, a1, c1, t1, h1, h2⟩
          obtain ⟨q1, q2⟩ := ih _ _ _ _ h1
          obtain ⟨g1, g2, _⟩ := Rc_in hL hp ha hc n _ _ _ _ h1
          obtain ⟨k1, k2, k3⟩ := Rc_lyS hL hp hs hl0 ha hc n _ _ _ _ h1
          have hin := Eg_in hL g1 g2 h2
          have hly := Eg_lyS hL hs k1 g1 g2 h2
          have hj1 : 36 * l1 + 6 * a1.toNat + c1.toNat < 2304 := by omega
          have hj : 36 * l + 6 * a.toNat + c.toNat < 2304 := by omega
          obtain ⟨T', w1, w2⟩ := Eg_early hL h2 q2
          have hpos := Eg_pos hL hp w2
          have hw := (d3 _ hj1 q1).2.2 l a c T'
          rw [show (36 * l1 + 6 * a1.toNat + c1.toNat) / 36 = l1 from by omega, show (((36 * l1 + 6 * a1.toNat + c1.toNat) % 36 / 6 : Nat) : Int) = a1 from by omega, show (((36 * l1 + 6 * a1.toNat + c1.toNat) % 36 % 6 : Nat) : Int) = c1 from by omega] at hw
          have hlab := hw w2
          have hsm : zz T 83 (36 * l1 + 6 * a1.toNat + c1.toNat) ≤ 900000 := by
            rcases d2 _ hj1 with q | ⟨_, _, q, _⟩
            · have := (d3 _ hj1 q1).1
              omega
            · omega
          rcases d1 _ hj with q | q
          · have := hx _ hj q
            omega
          · exact ⟨q, by omega⟩
      intro n a c t hR
      have := all n s a c t hR
      obtain ⟨g1, g2, _⟩ := Rc_in hL hp ha hc n _ _ _ _ hR
      have hb := hL.1.2.1
      exact (hD.2.2.1 _ (by omega) this.1).2.1 (by omega)
    have := h T 100000000 hF hRS
    rw [if_pos rfl] at this
    exact this
  intro d
  induction d with
  | zero =>
    intro T x hd hF hD hx
    show BD_X8_round_121 (L_X8_round_121 post 0) post _ _ _ _
    have hcl := cn_le (zz T 84) 2304
    rcases hx with ⟨rfl, hx⟩ | ⟨i, rfl, hi, hz, _⟩
    · unfold BD_X8_round_121
      exact ⟨fun _ => none T hcl hF hD hx, fun e => absurd (by decide) e⟩
    · have := cn_lt 2304 i hi hz
      omega
  | succ d ih =>
    intro T x hd hF hD hx
    show BD_X8_round_121 (L_X8_round_121 post (d + 1)) post _ _ _ _
    have hcl := cn_le (zz T 84) 2304
    rcases hx with ⟨rfl, hx⟩ | ⟨i, rfl, hi, hz, hl, hm⟩
    · unfold BD_X8_round_121
      exact ⟨fun _ => none T hcl hF hD hx, fun e => absurd (by decide) e⟩
    · unfold BD_X8_round_121
      have xi : ix (iI (i : Int)) = i := by rw [iI_ix (by omega) (by omega)]; simp
      have ii : vp_in (iI (i : Int)) 2304 := (iI_in (by omega) (by omega)).mpr ⟨by omega, by omega⟩
      have e36 : iI (i : Int) / 36 = iI ((i / 36 : Nat) : Int) := by rw [show (36 : Int32) = iI 36 from rfl, iI_div (by omega) (by omega) (by omega) (by omega)]; rfl
      have em := mz_83 hF
      have hlow := hD.2.1 i hi
      have hil : ((i % 36 / 6 : Nat) : Int) < v 0 0 ∧ 0 ≤ zz T 83 i ∧ zz T 83 i ≤ 900000 ∧ ∃ n, Rc v p (lyS s) l0 a0 c0 t0 n (i / 36) ((i % 36 / 6 : Nat) : Int) ((i % 36 % 6 : Nat) : Int) (zz T 83 i) := by
        rcases hlow with q | ⟨q1, q2, q3, q4⟩
        · omega
        · exact ⟨q1, q2, by omega, q4⟩
      obtain ⟨i1, i2, i3, n0, i4⟩ := hil
      rw [show (-1 : Int32) = iI (-1) from by decide, iI_eq (by omega) (by omega) (by omega) (by omega), e36, iI_eq (by omega) (by omega) (by omega) (by omega), xi]
      refine ⟨fun e => absurd e (by omega), fun _ => ⟨fun hls => ?_, fun hls => ⟨ii, fun S3 e3 => ?_⟩⟩⟩
      · unfold B_X8_round_159
        rw [show (-1 : Int32) = iI (-1) from by decide, iI_eq (by omega) (by omega) (by omega) (by omega), xi, zz_S T 83 i]
        refine ⟨fun _ => ⟨ii, ?_⟩, fun e => absurd e (by omega)⟩
        have his : i / 36 = s := by omega
        have hRS : RS v p s l0 a0 c0 t0 (zz T 83 i) := by
          refine Or.inl ⟨i2, hl, ⟨n0, _, _, by rw [his] at i4; exact i4⟩, fun n a c t hR => ?_⟩
          rcases Dk2_cut hL hp hs hl0 ha hc hD hm n s a c t hR with ⟨q1, q2⟩ | q
          · obtain ⟨g1, g2, _⟩ := Rc_in hL hp ha hc n _ _ _ _ hR
            have hb := hL.1.2.1
            exact absurd (show (36 * s + 6 * a.toNat + c.toNat) / 36 = s by omega) (hD.2.2.1 _ (by omega) q1).2.1
          · exact q
        have := h T (zz T 83 i) hF hRS
        rw [if_neg (by omega)] at this
        exact this
      · have his : i / 36 ≠ s := by omega
        have o3 : ∀ c k, ¬ (c = 84 ∧ k = i) → S3 c k = T c k := fun c k hh => by rw [e3, up_ne _ _ hh]
        have em3 : mz S3 76 = mz S 76 := mz_83 (fun c k a1 a2 => by rw [o3 c k (by omega), hF c k a1 a2])
        have hsub := Rc_lyS hL hp hs hl0 ha hc _ _ _ _ _ i4
        have hd3 : Rd2 v p s i (zz T 83 i) S3 := ⟨hL, hp, hs, hi, hsub.1, i1, by rw [em3]; exact hS, by rw [em3]; exact hP, by unfold zz; rw [o3 _ _ (by omega)], i2, by omega⟩
        refine s_X8_roundsOn hd3 ?_
        intro T' hR hE
        rw [e3] at hR
        obtain ⟨hD', hcn⟩ := Dk2_step hL hp hs hl0 ha hc hD hi hz hl his hm hR hE
        have hF' : ∀ c k, c ≠ 83 → c ≠ 84 → T' c k = S c k := fun c k a1 a2 => by rw [hR.1 c k a1, up_ne _ _ (by omega), hF c k a1 a2]
        refine s_X8_nextFar hD'.1 (fun hx => ?_) (fun i' hi2 hz2 hl2 hm2 => ?_)
        · exact ih T' (-1) (by omega) hF' hD' (Or.inl ⟨rfl, hx⟩)
        · exact ih T' i' (by omega) hF' hD' (Or.inr ⟨i', rfl, hi2, hz2, hl2, hm2⟩)
