/-! persons and roads of both sides -/
theorem Inv.pers {S : St} (h : Inv S) {p : Nat} (hp : (p : Int) < zz S 0 2) : p < 4 ∧ Pb (cv S 0) p ∧ Pb (mz S 75) p ∧ (0 ≤ zz S 10 p ∧ zz S 10 p ≤ 90999) ∧ S 74 (5 * p + 1) = S 4 p ∧ S 74 (5 * p + 2) = S 5 p ∧ S 74 (5 * p + 4) = S 6 p ∧ S 75 (4 * p) = S 7 p ∧ S 75 (4 * p + 1) = S 8 p ∧ S 75 (4 * p + 2) = S 9 p ∧ S 75 (4 * p + 3) = S 10 p := by
  obtain ⟨⟨hL, hM, hA⟩, _⟩ := id h
  have hL' := Ag_Lb hA hL
  obtain ⟨q1, q2, q3, q4, q5, q6, q7⟩ := hA.2.2 p hp
  have b : zz S 0 2 ≤ 4 := hL.1.2.2.2.2.2.1
  have e2 : mz S 75 0 2 = cv S 0 0 2 := hA.1 2 (by omega)
  exact ⟨by omega, hL.2.2 p hp, hL'.2.2 p (by rw [e2]; exact hp), hM p hp, zz_inj q1, zz_inj q2, zz_inj q3, zz_inj q4, zz_inj q5, zz_inj q6, zz_inj q7⟩
theorem Inv.road {S : St} (h : Inv S) {r : Nat} (hr : (r : Int) < zz S 0 1) : r < 9 ∧ Rb (cv S 0) r ∧ Rb (mz S 75) r ∧ S 73 (3 * r) = S 1 r ∧ S 73 (3 * r + 1) = S 2 r ∧ S 75 (18 + r) = S 3 r := by
  obtain ⟨⟨hL, hM, hA⟩, _⟩ := id h
  have hL' := Ag_Lb hA hL
  obtain ⟨q1, q2, q3⟩ := hA.2.1 r hr
  have b : zz S 0 1 ≤ 9 := hL.1.2.2.2.1
  have e2 : mz S 75 0 1 = cv S 0 0 1 := hA.1 1 (by omega)
  exact ⟨by omega, hL.2.1 r hr, hL'.2.1 r (by rw [e2]; exact hr), zz_inj q1, zz_inj q2, zz_inj q3⟩
theorem Inv.head {S : St} (h : Inv S) : Hb (cv S 0) ∧ Hb (mz S 75) ∧ zz S 71 10 = zz S 0 0 ∧ zz S 71 11 = zz S 0 1 ∧ zz S 71 12 = zz S 0 2 ∧ zz S 75 16 = zz S 0 3 ∧ zz S 75 17 = zz S 0 4 ∧ zz S 75 27 = zz S 0 5 := by
  obtain ⟨⟨hL, hM, hA⟩, _⟩ := id h
  exact ⟨hL.1, (Ag_Lb hA hL).1, hA.1 0 (by omega), hA.1 1 (by omega), hA.1 2 (by omega), hA.1 3 (by omega), hA.1 4 (by omega), hA.1 5 (by omega)⟩
theorem hur_Ag {v w : Vw} (h : Ag v w) {p : Nat} (hp : (p : Int) < v 0 2) (a t : Int) : hur w p a t = hur v p a t := by
  obtain ⟨q1, q2, q3, q4, q5, q6, q7⟩ := h.2.2 p hp
  unfold hur
  rw [q2, q3, q6, h.1 4 (by omega)]
theorem tme_Ag {v w : Vw} (h : Ag v w) {p r : Nat} (hp : (p : Int) < v 0 2) (hr : (r : Int) < v 0 1) (a t s : Int) : tme w p r a t s = tme v p r a t s := by
  unfold tme tmh
  rw [hur_Ag h hp, (h.2.1 r hr).2.2]
theorem oth_Ag {v w : Vw} (h : Ag v w) {r : Nat} (hr : (r : Int) < v 0 1) (a : Int) : oth w r a = oth v r a := oth_up (h.2.1 r hr).1 (h.2.1 r hr).2.1
theorem cal_Ag {v w : Vw} (h : Ag v w) (a c n : Int) : cal w a c n = cal v a c n := by unfold cal; rw [h.1 3 (by omega)]
theorem call_person (x y : Int32) : CallOk (wp_X7_person x y) (wp_X8_person x y) := by
  intro S hI G hG P hP
  obtain ⟨z, z1, z2, rfl⟩ := iI_ex x
  obtain ⟨w, w1, w2, rfl⟩ := iI_ex y
  have hH0 := hI.head
  have b2 : 0 ≤ zz S 0 2 := hH0.1.2.2.2.2.1
  have M : ∀ r : Int32, (¬ (0 ≤ z ∧ z < zz S 0 2) → r = -1000000001) → ((0 ≤ z ∧ z < zz S 0 2) → ¬ (0 ≤ w ∧ w ≤ 7) → r = -1000000002) → ((0 ≤ z ∧ z < zz S 0 2) → w = 0 → r = S 7 z.toNat) → ((0 ≤ z ∧ z < zz S 0 2) → w = 1 → r = S 4 z.toNat) → ((0 ≤ z ∧ z < zz S 0 2) → w = 2 → r = S 5 z.toNat) → ((0 ≤ z ∧ z < zz S 0 2) → w = 3 → r = S 8 z.toNat) → ((0 ≤ z ∧ z < zz S 0 2) → w = 4 → r = S 6 z.toNat) → ((0 ≤ z ∧ z < zz S 0 2) → w = 5 → r = S 9 z.toNat) → ((0 ≤ z ∧ z < zz S 0 2) → w = 6 → r = S 10 z.toNat) → ((0 ≤ z ∧ z < zz S 0 2) → w = 7 → r = iI (hur (cv S 0) z.toNat (zz S 7 z.toNat) (zz S 10 z.toNat))) → wp_X8_person (iI z) (iI w) S (P r) := by
    intro r q0 q1 c0 c1 c2 c3 c4 c5 c6 c7
    unfold wp_X8_person
    intro S1 e1
    have hs := sm_thr S
    rw [← e1] at hs
    have hI1 := hI.sm hs
    have fin : ∀ r2 : Int32, r = r2 → P r r2 S1 := fun r2 h => CallOk.fin (S := S) hP hI1 h
    have hh := hh_sm hs
    have e11 : zz S1 71 12 = zz S 0 2 := (Sm_zz hs (by unfold ps; omega)).trans hH0.2.2.2.2.1
    refine s_X8_isPerson z1 z2 (by omega) (fun h1 h2 => ⟨fun _ => ?_, fun q => absurd q (by decide)⟩) (fun h => ⟨fun q => absurd rfl q, fun _ => fin _ (q0 (by omega))⟩)
    rw [e11] at h2
    have hz : (z.toNat : Int) = z := by omega
    have hz2 : iI z = iI (z.toNat : Int) := by rw [hz]
    obtain ⟨p4, pb, pm, pt, f1, f2, f3, f4, f5, f6, f7⟩ := hI.pers (p := z.toNat) (by omega)
    refine s_X8_in (a := 0) (b := 7) w1 w2 (by omega) (by omega) (by omega) (by omega) (fun h3 h4 => ⟨fun _ => ?_, fun q => absurd q (by decide)⟩) (fun h => ⟨fun q => absurd rfl q, fun _ => fin _ (q1 ⟨h1, h2⟩ (by omega))⟩)
    rcases (show w = 0 ∨ w = 1 ∨ w = 2 ∨ w = 3 ∨ w = 4 ∨ w = 5 ∨ w = 6 ∨ w = 7 by omega) with rfl | rfl | rfl | rfl | rfl | rfl | rfl | rfl
    · simp (disch := omega) only [B_X8_person_49, B_X8_person_86, iI_add, iI_sub, iI_mul, iI_le, iI_lt, iI_eq, iI_ix, iI_in, iI_neg, iI_lit, not_true_eq_false, not_false_eq_true, false_implies, true_implies, true_and, and_true, false_and, and_false]
      (repeat' (first | assumption | refine ⟨?_, ?_⟩ | intro _)) <;> first | omega | (rw [show ((4 : Int) * z + 0).toNat = 4 * z.toNat by omega, hh 75 _ (by unfold ps; omega), f4]; exact fin _ (c0 ⟨h1, h2⟩ rfl))
    · simp (disch := omega) only [B_X8_person_49, B_X8_person_86, iI_add, iI_sub, iI_mul, iI_le, iI_lt, iI_eq, iI_ix, iI_in, iI_neg, iI_lit, not_true_eq_false, not_false_eq_true, false_implies, true_implies, true_and, and_true, false_and, and_false]
      (repeat' (first | assumption | refine ⟨?_, ?_⟩ | intro _)) <;> first | omega | (rw [show ((5 : Int) * z + 1).toNat = 5 * z.toNat + 1 by omega, hh 74 _ (by unfold ps; omega), f1]; exact fin _ (c1 ⟨h1, h2⟩ rfl))
    · simp (disch := omega) only [B_X8_person_49, B_X8_person_86, iI_add, iI_sub, iI_mul, iI_le, iI_lt, iI_eq, iI_ix, iI_in, iI_neg, iI_lit, not_true_eq_false, not_false_eq_true, false_implies, true_implies, true_and, and_true, false_and, and_false]
      (repeat' (first | assumption | refine ⟨?_, ?_⟩ | intro _)) <;> first | omega | (rw [show ((5 : Int) * z + 2).toNat = 5 * z.toNat + 2 by omega, hh 74 _ (by unfold ps; omega), f2]; exact fin _ (c2 ⟨h1, h2⟩ rfl))
    · simp (disch := omega) only [B_X8_person_49, B_X8_person_86, iI_add, iI_sub, iI_mul, iI_le, iI_lt, iI_eq, iI_ix, iI_in, iI_neg, iI_lit, not_true_eq_false, not_false_eq_true, false_implies, true_implies, true_and, and_true, false_and, and_false]
      (repeat' (first | assumption | refine ⟨?_, ?_⟩ | intro _)) <;> first | omega | (rw [show ((4 : Int) * z + 1).toNat = 4 * z.toNat + 1 by omega, hh 75 _ (by unfold ps; omega), f5]; exact fin _ (c3 ⟨h1, h2⟩ rfl))
    · simp (disch := omega) only [B_X8_person_49, B_X8_person_86, iI_add, iI_sub, iI_mul, iI_le, iI_lt, iI_eq, iI_ix, iI_in, iI_neg, iI_lit, not_true_eq_false, not_false_eq_true, false_implies, true_implies, true_and, and_true, false_and, and_false]
      (repeat' (first | assumption | refine ⟨?_, ?_⟩ | intro _)) <;> first | omega | (rw [show ((5 : Int) * z + 4).toNat = 5 * z.toNat + 4 by omega, hh 74 _ (by unfold ps; omega), f3]; exact fin _ (c4 ⟨h1, h2⟩ rfl))
    · simp (disch := omega) only [B_X8_person_49, B_X8_person_86, iI_add, iI_sub, iI_mul, iI_le, iI_lt, iI_eq, iI_ix, iI_in, iI_neg, iI_lit, not_true_eq_false, not_false_eq_true, false_implies, true_implies, true_and, and_true, false_and, and_false]
      (repeat' (first | assumption | refine ⟨?_, ?_⟩ | intro _)) <;> first | omega | (rw [show ((4 : Int) * z + 2).toNat = 4 * z.toNat + 2 by omega, hh 75 _ (by unfold ps; omega), f6]; exact fin _ (c5 ⟨h1, h2⟩ rfl))
    · simp (disch := omega) only [B_X8_person_49, B_X8_person_86, iI_add, iI_sub, iI_mul, iI_le, iI_lt, iI_eq, iI_ix, iI_in, iI_neg, iI_lit, not_true_eq_false, not_false_eq_true, false_implies, true_implies, true_and, and_true, false_and, and_false]
      (repeat' (first | assumption | refine ⟨?_, ?_⟩ | intro _)) <;> first | omega | (rw [show ((4 : Int) * z + 3).toNat = 4 * z.toNat + 3 by omega, hh 75 _ (by unfold ps; omega), f7]; exact fin _ (c6 ⟨h1, h2⟩ rfl))
    · have hA1 := hI1.1.2.2
      have hH1 := hI1.head
      obtain ⟨-, -, pm1, -⟩ := hI1.pers (p := z.toNat) (by rw [hh_zz hs (by unfold ps; omega)]; omega)
      have key : wp_X8_hurry 75 (iI z) (S1 75 (ix ((4 : Int32) * iI z))) (S1 75 (ix ((4 : Int32) * iI z + 3))) 0 S1 (fun r3 S2 => P r r3 S2) := by
        have x0 : ix ((4 : Int32) * iI z) = 4 * z.toNat := by
          simp (disch := omega) only [iI_add, iI_sub, iI_mul, iI_le, iI_lt, iI_eq, iI_ix, iI_in, iI_neg, iI_lit]; omega
        have x3 : ix ((4 : Int32) * iI z + 3) = 4 * z.toNat + 3 := by
          simp (disch := omega) only [iI_add, iI_sub, iI_mul, iI_le, iI_lt, iI_eq, iI_ix, iI_in, iI_neg, iI_lit]; omega
        rw [x0, x3, hh 75 _ (by unfold ps; omega), hh 75 _ (by unfold ps; omega), f4, f7, zz_S S 7, zz_S S 10, hz2]
        have g7 : 0 ≤ zz S 7 z.toNat ∧ zz S 7 z.toNat < zz S 0 0 := ⟨pb.2.2.2.2.2.2.1, pb.2.2.2.2.2.2.2.1⟩
        have g0 : zz S 0 0 ≤ 6 := hH0.1.2.1
        refine s_X8_hurry (s := 0) hH1.2.1 pm1 p4 g7.1 (by omega) (by omega) (by omega) (by omega) (by omega) ?_
        apply fin
        rw [c7 ⟨h1, h2⟩ rfl]
        have hb := hur_b (zz S 7 z.toNat) (zz S 10 z.toNat) pb
        have e3 : hur (mz S1 75) z.toNat (zz S 7 z.toNat) (zz S 10 z.toNat) = hur (cv S 0) z.toNat (zz S 7 z.toNat) (zz S 10 z.toNat) := by
          rw [hur_Ag hA1 (by show (z.toNat : Int) < zz S1 0 2; rw [hh_zz hs (by unfold ps; omega)]; omega)]
          refine hur_Ag (cv_Ag hI.1.1 (fun f k hf _ _ _ => ?_)) (by show (z.toNat : Int) < zz S 0 2; omega) _ _
          exact hs _ _ (by unfold ps; omega)
        rw [e3, if_neg (by omega)]
        congr 1
        omega
      simp (disch := omega) only [B_X8_person_49, B_X8_person_86, iI_add, iI_sub, iI_mul, iI_le, iI_lt, iI_eq, iI_ix, iI_in, iI_neg, iI_lit, not_true_eq_false, not_false_eq_true, false_implies, true_implies, true_and, and_true, false_and, and_false]
      simp (disch := omega) only [iI_add, iI_sub, iI_mul, iI_le, iI_lt, iI_eq, iI_ix, iI_in, iI_neg, iI_lit, not_true_eq_false, not_false_eq_true, false_implies, true_implies, true_and, and_true, false_and, and_false] at key
      (repeat' (first | assumption | refine ⟨?_, ?_⟩ | intro _)) <;> first | omega | exact key
  unfold wp_X7_person
  refine s_X6_hasPerson z1 z2 (fun h1 h2 => ⟨fun _ => ?_, fun q => absurd q (by decide)⟩) (fun h => ⟨fun q => absurd rfl q, fun _ => hG _ (M _ (fun _ => rfl) (fun q => absurd q h) (fun q => absurd q h) (fun q => absurd q h) (fun q => absurd q h) (fun q => absurd q h) (fun q => absurd q h) (fun q => absurd q h) (fun q => absurd q h) (fun q => absurd q h))⟩)
  have hz2 : iI z = iI (z.toNat : Int) := by congr 1; omega
  obtain ⟨p4, pb, pm, pt, f1, f2, f3, f4, f5, f6, f7⟩ := hI.pers (p := z.toNat) (by omega)
  have xz : ix (iI z) = z.toNat := iI_ix h1 z2
  have iz : vp_in (iI z) 4 := (iI_in z1 z2).mpr ⟨h1, by omega⟩
  rw [iI_toInt w1 w2, xz]
  have g7 : 0 ≤ zz S 7 z.toNat ∧ zz S 7 z.toNat < zz S 0 0 := ⟨pb.2.2.2.2.2.2.1, pb.2.2.2.2.2.2.2.1⟩
  have g0 : zz S 0 0 ≤ 6 := hH0.1.2.1
  have key : w = 7 → wp_X6_hurry 0 (iI z) (S 7 z.toNat) (S 10 z.toNat) S (fun r6 S5 => G (wp_X8_person (iI z) (iI w) S5 (P r6))) := by
    intro h7
    rw [zz_S S 7, zz_S S 10]
    have := s_X6_hurry (o := 0) (p := z.toNat) (a := zz S 7 z.toNat) (t := zz S 10 z.toNat) (S := S) (post := fun r6 S5 => G (wp_X8_person (iI z) (iI w) S5 (P r6))) hH0.1 pb (by omega) g7.1 (by omega) (by omega) (by omega) (hG _ (M _ (by omega) (by omega) (by omega) (by omega) (by omega) (by omega) (by omega) (by omega) (by omega) (fun _ _ => rfl)))
    rw [← hz2] at this
    exact this
  generalize wp_X6_hurry 0 (iI z) (S 7 z.toNat) (S 10 z.toNat) S (fun r6 S5 => G (wp_X8_person (iI z) (iI w) S5 (P r6))) = KK at *
  simp (disch := omega) only [iI_add, iI_sub, iI_mul, iI_le, iI_lt, iI_eq, iI_ix, iI_in, iI_neg, iI_lit, not_true_eq_false, not_false_eq_true, false_implies, true_implies, true_and, and_true, false_and, and_false]
  refine ⟨fun q => hG _ (M _ (by omega) (fun _ _ => rfl) (by omega) (by omega) (by omega) (by omega) (by omega) (by omega) (by omega) (by omega)), ?_⟩
  (repeat' (first | assumption | refine ⟨?_, ?_⟩ | intro _)) <;> first | omega | (apply key; omega) | (apply hG; apply M <;> intros <;> first | rfl | omega)
