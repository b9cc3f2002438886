/-! calls that look -/
def CallOk (wx wm : St → (Int32 → St → Prop) → Prop) : Prop := ∀ S : St, Inv S → ∀ G : Prop → Prop, (∀ p : Prop, p → G p) → ∀ P : Int32 → Int32 → St → Prop, (∀ (r : Int32) (S2 : St), Inv S2 → P r r S2) → wx S (fun r S1 => G (wm S1 (P r)))
theorem zz_inj {S T : St} {c k c' k' : Nat} (h : zz S c k = zz T c' k') : S c k = T c' k' := Int32.toInt_inj.mp h
theorem sm_thr (S : St) : Sm S (up S 71 0 0) := fun c k h => up_ne _ _ (by unfold ps at h; omega)
theorem CallOk.fin {S S2 : St} {P : Int32 → Int32 → St → Prop} (hP : ∀ (r : Int32) (S2 : St), Inv S2 → P r r S2) (hI : Inv S2) {r r2 : Int32} (h : r = r2) : P r r2 S2 := h ▸ hP r S2 hI
theorem call_fault : CallOk wp_X7_fault wp_X8_fault := by
  intro S hI G hG P hP
  unfold wp_X7_fault
  apply hG
  intro S1 e1
  have hs := sm_thr S
  rw [← e1] at hs
  refine CallOk.fin (S := S) hP (hI.sm hs) ?_
  rw [hs 71 9 (by unfold ps; omega)]
  exact (zz_inj hI.2.1.2.2.2.1).symm
theorem call_told (x : Int32) : CallOk (wp_X7_told x) (wp_X8_told x) := by
  intro S hI G hG P hP
  obtain ⟨z, z1, z2, rfl⟩ := iI_ex x
  obtain ⟨⟨⟨hH, _⟩, _, ⟨a0, _⟩⟩, ⟨t1, _⟩, ⟨k1, _⟩, ⟨b1, _⟩, _⟩ := id hI
  have g0 : S 71 10 = S 0 0 := zz_inj (a0 0 (by omega))
  have g1 : S 71 11 = S 0 1 := zz_inj (a0 1 (by omega))
  have g2 : S 71 12 = S 0 2 := zz_inj (a0 2 (by omega))
  have g3 : S 75 16 = S 0 3 := zz_inj (a0 3 (by omega))
  have g4 : S 75 17 = S 0 4 := zz_inj (a0 4 (by omega))
  have g5 : S 71 2 = S 48 1 := zz_inj t1
  have g6 : S 71 25 = S 63 0 := zz_inj k1
  have g7 : S 71 27 = S 69 0 := zz_inj b1
  have hs := sm_thr S
  have M : ∀ r : Int32, (z < 0 ∨ 7 < z → r = -1000000002) → (z = 0 → r = S 0 0) → (z = 1 → r = S 0 1) → (z = 2 → r = S 0 2) → (z = 3 → r = S 48 1) → (z = 4 → r = S 0 3) → (z = 5 → r = S 0 4) → (z = 6 → r = S 63 0) → (z = 7 → r = S 69 0) → wp_X8_told (iI z) S (P r) := by
    intro r q0 q1 q2 q3 q4 q5 q6 q7 q8
    unfold wp_X8_told
    intro S1 e1
    rw [← e1] at hs
    have fin : ∀ r2 : Int32, r = r2 → P r r2 S1 := fun r2 h => CallOk.fin (S := S) hP (hI.sm hs) h
    have hh : ∀ c k, ps c k → S1 c k = S c k := hs
    simp only [wp_X8_in]
    rw [hh 71 2 (by unfold ps; omega), hh 71 10 (by unfold ps; omega), hh 71 11 (by unfold ps; omega), hh 71 12 (by unfold ps; omega), hh 75 16 (by unfold ps; omega), hh 75 17 (by unfold ps; omega), hh 71 25 (by unfold ps; omega), hh 71 27 (by unfold ps; omega)]
    simp (disch := omega) only [iI_add, iI_sub, iI_mul, iI_le, iI_lt, iI_eq, iI_ix, iI_in, iI_neg, iI_lit, not_true_eq_false, not_false_eq_true, false_implies, true_implies, true_and, and_true, false_and, and_false]
    (repeat' (first | assumption | refine ⟨?_, ?_⟩ | intro _)) <;> first | omega | (apply fin; first | (rw [g0]; apply q1; omega) | (rw [g1]; apply q2; omega) | (rw [g2]; apply q3; omega) | (rw [g5]; apply q4; omega) | (rw [g3]; apply q5; omega) | (rw [g4]; apply q6; omega) | (rw [g6]; apply q7; omega) | (rw [g7]; apply q8; omega) | (apply q0; omega))
  unfold wp_X7_told
  rw [iI_toInt z1 z2]
  simp (disch := omega) only [iI_add, iI_sub, iI_mul, iI_le, iI_lt, iI_eq, iI_ix, iI_in, iI_neg, iI_lit]
  (repeat' (first | assumption | refine ⟨?_, ?_⟩ | intro _)) <;> apply hG <;> apply M <;> intros <;> first | rfl | omega
theorem hh_zz {S S1 : St} (h : Sm S S1) {c k : Nat} (hp : ps c k) : zz S1 c k = zz S c k := Sm_zz h hp
theorem hh_sm {S S1 : St} (h : Sm S S1) : ∀ c k, ps c k → S1 c k = S c k := h
theorem call_road (x y : Int32) : CallOk (wp_X7_road x y) (wp_X8_road x y) := by
  intro S hI G hG P hP
  obtain ⟨z, z1, z2, rfl⟩ := iI_ex x
  obtain ⟨w, w1, w2, rfl⟩ := iI_ex y
  obtain ⟨⟨⟨hH, _⟩, _, ⟨a0, a1, _⟩⟩, _⟩ := id hI
  have g1 : zz S 71 11 = zz S 0 1 := a0 1 (by omega)
  have b1 : 0 ≤ zz S 0 1 ∧ zz S 0 1 ≤ 9 := ⟨hH.2.2.1, hH.2.2.2.1⟩
  have hs := sm_thr S
  have M : ∀ r : Int32, (¬ (0 ≤ z ∧ z < zz S 0 1) → r = -1000000001) → ((0 ≤ z ∧ z < zz S 0 1) → ¬ (0 ≤ w ∧ w ≤ 2) → r = -1000000002) → ((0 ≤ z ∧ z < zz S 0 1) → w = 0 → r = S 1 z.toNat) → ((0 ≤ z ∧ z < zz S 0 1) → w = 1 → r = S 2 z.toNat) → ((0 ≤ z ∧ z < zz S 0 1) → w = 2 → r = S 3 z.toNat) → wp_X8_road (iI z) (iI w) S (P r) := by
    intro r q0 q1 q2 q3 q4
    unfold wp_X8_road
    intro S1 e1
    rw [← e1] at hs
    have fin : ∀ r2 : Int32, r = r2 → P r r2 S1 := fun r2 h => CallOk.fin (S := S) hP (hI.sm hs) h
    have hh := hh_sm hs
    have e11 : zz S1 71 11 = zz S 0 1 := (Sm_zz hs (by unfold ps; omega)).trans g1
    refine s_X8_isRoad z1 z2 (by omega) (fun h1 h2 => ⟨fun _ => ?_, fun q => absurd q (by decide)⟩) (fun h => ⟨fun q => absurd rfl q, fun _ => fin _ (q0 (by omega))⟩)
    rw [e11] at h2
    obtain ⟨r1, r2, r3⟩ := a1 z.toNat (by show (z.toNat : Int) < zz S 0 1; omega)
    have r1 : S 73 (3 * z.toNat) = S 1 z.toNat := zz_inj r1
    have r2 : S 73 (3 * z.toNat + 1) = S 2 z.toNat := zz_inj r2
    have r3 : S 75 (18 + z.toNat) = S 3 z.toNat := zz_inj r3
    refine s_X8_in (a := 0) (b := 2) w1 w2 (by omega) (by omega) (by omega) (by omega) (fun h3 h4 => ⟨fun _ => ?_, fun q => absurd q (by decide)⟩) (fun h => ⟨fun q => absurd rfl q, fun _ => fin _ (q1 ⟨h1, h2⟩ (by omega))⟩)
    simp (disch := omega) only [iI_add, iI_sub, iI_mul, iI_le, iI_lt, iI_eq, iI_ix, iI_in, iI_neg, iI_lit, not_true_eq_false, not_false_eq_true, false_implies, true_implies, true_and, and_true, false_and, and_false]
    refine ⟨fun h5 => ⟨by omega, ?_⟩, fun h5 => ⟨by omega, ?_⟩⟩
    · rcases (show w = 0 ∨ w = 1 by omega) with rfl | rfl
      · rw [show ((3 : Int) * z + 0).toNat = 3 * z.toNat by omega, hh 73 _ (by unfold ps; omega), r1]
        exact fin _ (q2 ⟨h1, h2⟩ rfl)
      · rw [show ((3 : Int) * z + 1).toNat = 3 * z.toNat + 1 by omega, hh 73 _ (by unfold ps; omega), r2]
        exact fin _ (q3 ⟨h1, h2⟩ rfl)
    · rw [show ((18 : Int) + z).toNat = 18 + z.toNat by omega, hh 75 _ (by unfold ps; omega), r3]
      exact fin _ (q4 ⟨h1, h2⟩ h5)
  unfold wp_X7_road
  refine s_X6_hasRoad z1 z2 (fun h1 h2 => ⟨fun _ => ?_, fun q => absurd q (by decide)⟩) (fun h => ⟨fun q => absurd rfl q, fun _ => hG _ (M _ (fun _ => rfl) (fun q => absurd q h) (fun q => absurd q h) (fun q => absurd q h) (fun q => absurd q h))⟩)
  rw [iI_toInt w1 w2]
  simp (disch := omega) only [iI_add, iI_sub, iI_mul, iI_le, iI_lt, iI_eq, iI_ix, iI_in, iI_neg, iI_lit, not_true_eq_false, not_false_eq_true, false_implies, true_implies, true_and, and_true, false_and, and_false]
  (repeat' (first | assumption | refine ⟨?_, ?_⟩ | intro _)) <;> first | omega | (apply hG; apply M <;> intros <;> first | rfl | omega)
