/-! the reference's spreading from one node -/
def ly0 : Nat → Int → Nat := fun _ _ => 0
/-- the step from node i at u to node j at t -/
def Ej (v : Vw) (p i : Nat) (u : Int) (j : Nat) (t : Int) : Prop := Eg v p ly0 0 ((i / 6 : Nat) : Int) ((i % 6 : Nat) : Int) u 0 ((j / 6 : Nat) : Int) ((j % 6 : Nat) : Int) t
def Rx (v : Vw) (p i : Nat) (u : Int) (S T : St) : Prop := (∀ c k, c ≠ 81 → T c k = S c k) ∧ ∀ j, j < 36 → zz T 81 j ≤ zz S 81 j ∧ (zz T 81 j = zz S 81 j ∨ Ej v p i u j (zz T 81 j))
theorem Rx.rf (v : Vw) (p i : Nat) (u : Int) (S : St) : Rx v p i u S S := ⟨fun _ _ _ => rfl, fun _ _ => ⟨Int.le_refl _, Or.inl rfl⟩⟩
theorem mz_81 {S T : St} (h : ∀ c k, c ≠ 81 → T c k = S c k) : mz T 76 = mz S 76 := by
  have z : ∀ c k, c ≠ 81 → zz T c k = zz S c k := fun c k hc => by unfold zz; rw [h c k hc]
  funext f k
  unfold mz
  split
  · split <;> exact z _ _ (by omega)
  all_goals exact z _ _ (by omega)
theorem s_X8_comes {v : Vw} {p i j : Nat} {u t : Int} {S T : St} {post : St → Prop} (hj : j < 36) (t1 : -2147483648 ≤ t) (t2 : t < 2147483648) (hR : Rx v p i u S T) (hE : Ej v p i u j t) (h : ∀ T', Rx v p i u S T' → (∀ k, zz T' 81 k ≤ zz T 81 k) → zz T' 81 j ≤ t → post T') : wp_X8_comes (iI j) (iI t) T post := by
  unfold wp_X8_comes
  have xj : ix (iI (j : Int)) = j := by rw [iI_ix (by omega) (by omega)]; simp
  have ij : vp_in (iI (j : Int)) 36 := (iI_in (by omega) (by omega)).mpr ⟨by omega, by omega⟩
  have l1 := zz_lo T 81 j
  have l2 := zz_hi T 81 j
  rw [xj]
  have eT : T 81 j = iI (zz T 81 j) := zz_S T 81 j
  have hle : T 81 j ≤ iI t ↔ zz T 81 j ≤ t := by
    rw [eT]
    exact iI_le (by omega) (by omega) t1 t2
  refine ⟨ij, fun e => ⟨ij, ij, fun S2 e2 => ?_⟩, fun e => ⟨ij, fun S4 e4 => ?_⟩⟩
  · have : S2 = T := by
      rw [e2]
      funext c k
      by_cases hk : c = 81 ∧ k = j
      · rw [hk.1, hk.2, up_at]
      · rw [up_ne _ _ hk]
    rw [this]
    exact h T hR (fun _ => Int.le_refl _) (hle.mp e)
  · have ht : ¬ zz T 81 j ≤ t := fun q => e (hle.mpr q)
    have zj : zz S4 81 j = t := zz_iI (by rw [e4, up_at]) t1 t2
    have zk : ∀ k, k ≠ j → zz S4 81 k = zz T 81 k := fun k hk => by unfold zz; rw [e4, up_ne _ _ (by omega)]
    refine h S4 ⟨fun c k hc => ?_, fun k hk => ?_⟩ (fun k => ?_) (by omega)
    · rw [e4, up_ne _ _ (by omega)]; exact hR.1 c k hc
    · by_cases hkj : k = j
      · rw [hkj, zj]
        have := (hR.2 j hj).1
        exact ⟨by omega, Or.inr hE⟩
      · rw [zk k hkj]; exact hR.2 k hk
    · by_cases hkj : k = j
      · rw [hkj, zj]; omega
      · rw [zk k hkj]; exact Int.le_refl _
/-- what the spreading from a node rests on -/
def Rd (v : Vw) (p i : Nat) (u : Int) (S : St) : Prop := Lb v ∧ (p : Int) < v 0 2 ∧ i < 36 ∧ ((i / 6 : Nat) : Int) < v 0 0 ∧ Sv v (mz S 76) ∧ Pb (mz S 76) p ∧ zz S 81 i = u ∧ 0 ≤ u ∧ u ≤ 1000000
theorem Rx_i {v : Vw} {p i : Nat} {u : Int} {S T : St} (hd : Rd v p i u S) (h : Rx v p i u S T) : zz T 81 i = u := by
  obtain ⟨hL, hp, hi, hi2, hS, hP, e, h1, h2⟩ := hd
  obtain ⟨g1, g2⟩ := h.2 i hi
  rcases g2 with g | g
  · rw [g, e]
  · have := Eg_pos hL hp g
    omega
theorem s_X8_spreads_in {v : Vw} {p i r : Nat} {u b : Int} {S : St} {k55 : Int32 → Int32 → St → Prop} {k125 : Int32 → Int32 → Int32 → Int32 → Int32 → St → Prop} {post : St → Prop} (hd : Rd v p i u S) (hr : (r : Int) < v 0 1) (hb : oth v r ((i / 6 : Nat) : Int) = b) : ∀ (d s : Nat) (T : St), s + d = i % 6 + 1 → Rx v p i u S T → (∀ T', Rx v p i u S T' → (∀ k, zz T' 81 k ≤ zz T 81 k) → (b ≠ -1 → ∀ s' : Nat, s ≤ s' → s' ≤ i % 6 → zz T' 81 (6 * b.toNat + i % 6 - s') ≤ u + tme v p r ((i / 6 : Nat) : Int) u s') → k125 (iI p) (iI i) (iI ((i / 6 : Nat) : Int)) (iI ((i % 6 : Nat) : Int)) (iI ((r : Int)) + 1) T') → L_X8_spreads_147 k55 k125 post (d + 1) (iI p) (iI i) (iI ((i / 6 : Nat) : Int)) (iI ((i % 6 : Nat) : Int)) (iI r) (iI b) (iI s) T := by
  obtain ⟨hL, hp, hi, hi2, hS, hP, e, h1, h2⟩ := id hd
  obtain ⟨b0, b0', b1, b1', b2, b2', _⟩ := id hL.1
  have ob := oth_b ((i / 6 : Nat) : Int) (hL.2.1 r hr) hL.1
  rw [hb] at ob
  intro d
  induction d with
  | zero =>
    intro s T hs hR h
    show BD_X8_spreads_147 k55 k125 (L_X8_spreads_147 k55 k125 post 0) post _ _ _ _ _ _ _ _
    unfold BD_X8_spreads_147
    rw [iI_lt (by omega) (by omega) (by omega) (by omega)]
    exact ⟨fun _ => h T hR (fun _ => Int.le_refl _) (fun _ s' q1 q2 => absurd q1 (by omega)), fun e => absurd (by omega) e⟩
  | succ d ih =>
    intro s T hs hR h
    show BD_X8_spreads_147 k55 k125 (L_X8_spreads_147 k55 k125 post (d + 1)) post _ _ _ _ _ _ _ _
    unfold BD_X8_spreads_147
    have es : iI (s : Int) + 1 = iI ((s + 1 : Nat) : Int) := by rw [show (1 : Int32) = iI 1 from rfl, iI_add]; rfl
    have xi : ix (iI (i : Int)) = i := by rw [iI_ix (by omega) (by omega)]; simp
    have ii : vp_in (iI (i : Int)) 36 := (iI_in (by omega) (by omega)).mpr ⟨by omega, by omega⟩
    have eu : T 81 i = iI u := by rw [← Rx_i hd hR]; exact zz_S T 81 i
    rw [iI_lt (by omega) (by omega) (by omega) (by omega), es, xi, eu, show (-1 : Int32) = iI (-1) from by decide, iI_eq (by omega) (by omega) (by omega) (by omega)]
    refine ⟨fun q => absurd q (by omega), fun _ => ⟨fun q => h T hR (fun _ => Int.le_refl _) (fun q' => absurd q q'), fun hne => ⟨ii, ii, ?_⟩⟩⟩
    obtain ⟨bn, rfl⟩ : ∃ bn : Nat, b = (bn : Int) := ⟨b.toNat, by omega⟩
    have em : mz T 76 = mz S 76 := mz_81 hR.1
    have rS : Rb (mz S 76) r := Sv_Rb hS hr (hL.2.1 r hr)
    have tb := tme_b (v := v) (p := p) (r := r) ((i / 6 : Nat) : Int) u (s := s) (hL.2.2 p hp) (hL.2.1 r hr) (by omega)
    refine s_X8_time (a0 := 76) (by rw [em]; exact Sv_Hb hS hL.1) (by rw [em]; exact hP) (by rw [em]; exact rS) (by omega) (by omega) (by omega) (by omega) (by omega) (by omega) (by omega) (by omega) ?_
    rw [em, tme_Sv hS hp hr, iI_add, show (6 : Int32) = iI 6 from rfl, iI_mul, iI_add, iI_sub]
    have ej : (6 : Int) * (bn : Int) + ((i % 6 : Nat) : Int) - (s : Int) = ((6 * bn + i % 6 - s : Nat) : Int) := by omega
    rw [ej]
    have j1 : (6 * bn + i % 6 - s) / 6 = bn := by omega
    have j2 : (6 * bn + i % 6 - s) % 6 = i % 6 - s := by omega
    refine s_X8_comes (v := v) (p := p) (i := i) (u := u) (S := S) (by omega) (by omega) (by omega) hR ?_ ?_
    · unfold Ej
      rw [j1, j2]
      exact Or.inr ⟨r, s, hr, hb, hne, by omega, by omega, rfl, by omega, rfl⟩
    · intro T1 hR1 le1 lj
      refine ih (s + 1) T1 (by omega) hR1 ?_
      intro T2 hR2 le2 l2
      refine h T2 hR2 (fun k => Int.le_trans (le2 k) (le1 k)) (fun q s' q1 q2 => ?_)
      by_cases hss : s' = s
      · rw [hss, Int.toNat_natCast]
        exact Int.le_trans (le2 _) lj
      · exact l2 q s' (by omega) q2
