/-! calls that change the land -/
theorem up2_ne {S S1 S2 : St} {c1 k1 c2 k2 : Nat} {v1 v2 : Int32} (e1 : S1 = up S c1 k1 v1) (e2 : S2 = up S1 c2 k2 v2) {c k : Nat} (h1 : ¬ (c = c1 ∧ k = k1)) (h2 : ¬ (c = c2 ∧ k = k2)) : S2 c k = S c k := by rw [e2, up_ne _ _ h2, e1, up_ne _ _ h1]
theorem call_seed (x : Int32) : CallOk (wp_X7_seed x) (wp_X8_seed x) := by
  intro S hI G hG P hP
  obtain ⟨z, z1, z2, rfl⟩ := iI_ex x
  have hH0 := hI.head
  unfold wp_X7_seed
  rw [show (0 : Int32) = iI 0 from rfl, iI_le (by omega) (by omega) z1 z2]
  constructor
  · intro hz v2 hv2 S3 e3
    apply hG
    unfold wp_X8_seed
    intro S4 e4
    rw [show (0 : Int32) = iI 0 from rfl, iI_le (by omega) (by omega) z1 z2]
    refine ⟨fun _ => ?_, fun q => absurd hz q⟩
    intro v5 hv5 S6 e6
    have f27 : S 75 27 = S 0 5 := zz_inj hH0.2.2.2.2.2.2.2
    have hv : v2 = v5 := by
      rw [hv2, hv5, e4, up_ne _ _ (by omega), e3, up_ne _ _ (by omega), f27]
    have n : ∀ c k, ps c k → ¬ (c = 0 ∧ k = 5) → ¬ (c = 75 ∧ k = 27) → S6 c k = S c k := by
      intro c k hp h1 h2
      rw [e6, up_ne _ _ h2, e4, up_ne _ _ (by unfold ps at hp; omega), e3, up_ne _ _ h1]
    have t0 : S6 0 5 = iI z := by rw [e6, up_ne _ _ (by omega), e4, up_ne _ _ (by omega), e3, up_at]
    have t1 : S6 75 27 = iI z := by rw [e6, up_at]
    have hI2 : Inv S6 := Inv_h hI (Or.inr (Or.inr ⟨rfl, rfl⟩)) n (t1.trans t0.symm) ⟨by unfold zz; rw [t0, iI_toInt z1 z2]; exact hz, by omega⟩
    exact CallOk.fin (S := S) hP hI2 hv
  · intro hz
    apply hG
    unfold wp_X8_seed
    intro S4 e4
    have hs := sm_thr S
    rw [← e4] at hs
    rw [show (0 : Int32) = iI 0 from rfl, iI_le (by omega) (by omega) z1 z2]
    exact ⟨fun q => absurd q hz, fun _ => CallOk.fin (S := S) hP (hI.sm hs) rfl⟩
theorem call_load (x y : Int32) : CallOk (wp_X7_load x y) (wp_X8_load x y) := by
  intro S hI G hG P hP
  obtain ⟨z, z1, z2, rfl⟩ := iI_ex x
  obtain ⟨w, w1, w2, rfl⟩ := iI_ex y
  have hH0 := hI.head
  have b2 : 0 ≤ zz S 0 2 := hH0.1.2.2.2.2.1
  unfold wp_X7_load
  refine s_X6_hasPerson z1 z2 (fun h1 h2 => ⟨fun _ => ?_, fun q => absurd q (by decide)⟩) (fun h => ⟨fun q => absurd rfl q, fun _ => hG _ ?_⟩)
  · obtain ⟨p4, pb, pm, pt, f1, f2, f3, f4, f5, f6, f7⟩ := hI.pers (p := z.toNat) (by omega)
    refine s_X7_outside (a := 0) (b := 9) w1 w2 (by omega) (by omega) (by omega) (by omega) (fun h3 h4 => ⟨fun _ => ?_, fun q => absurd rfl q⟩) (fun h => ⟨fun q => absurd q (by decide), fun _ => hG _ ?_⟩)
    · have xz : ix (iI z) = z.toNat := iI_ix h1 z2
      have iz : vp_in (iI z) 4 := (iI_in z1 z2).mpr ⟨h1, by omega⟩
      rw [xz]
      refine ⟨iz, fun v7 hv7 => ⟨iz, fun S8 e8 => hG _ ?_⟩⟩
      unfold wp_X8_load
      intro S1 e1
      have e12 : zz S1 71 12 = zz S 0 2 := by
        unfold zz
        rw [up2_ne e8 e1 (by omega) (by omega)]
        exact hH0.2.2.2.2.1
      refine s_X8_isPerson z1 z2 (by omega) (fun _ _ => ⟨fun _ => ?_, fun q => absurd q (by decide)⟩) (fun h => absurd ⟨h1, by omega⟩ h)
      refine s_X8_in (a := 0) (b := 9) w1 w2 (by omega) (by omega) (by omega) (by omega) (fun _ _ => ⟨fun _ => ?_, fun q => absurd q (by decide)⟩) (fun h => absurd ⟨h3, h4⟩ h)
      have x2 : ix ((4 : Int32) * iI z + 2) = 4 * z.toNat + 2 := by
        simp (disch := omega) only [iI_add, iI_sub, iI_mul, iI_le, iI_lt, iI_eq, iI_ix, iI_in, iI_neg, iI_lit]; omega
      have i2 : vp_in ((4 : Int32) * iI z + 2) 28 := by
        simp (disch := omega) only [iI_add, iI_sub, iI_mul, iI_le, iI_lt, iI_eq, iI_ix, iI_in, iI_neg, iI_lit]; omega
      rw [x2]
      refine ⟨i2, fun v8 hv8 => ⟨i2, fun S9 e9 => ?_⟩⟩
      have hv : v7 = v8 := by rw [hv7, hv8, up2_ne e8 e1 (by omega) (by omega), f6]
      have n : ∀ c k, ps c k → ¬ (k = z.toNat ∧ 7 ≤ c ∧ c ≤ 10) → ¬ (c = 75 ∧ 4 * z.toNat ≤ k ∧ k ≤ 4 * z.toNat + 3) → S9 c k = S c k := by
        intro c k hp q1 q2
        rw [e9, up_ne _ _ (by omega), up2_ne e8 e1 (by omega) (by unfold ps at hp; omega)]
      have t9 : S9 9 z.toNat = iI w := by rw [e9, up_ne _ _ (by omega), e1, up_ne _ _ (by omega), e8, up_at]
      have t75 : S9 75 (4 * z.toNat + 2) = iI w := by rw [e9, up_at]
      have o : ∀ c k, ¬ (c = 9) → ¬ (c = 71 ∧ k = 0) → ¬ (c = 75 ∧ k = 4 * z.toNat + 2) → S9 c k = S c k := by
        intro c k q1 q2 q3
        rw [e9, up_ne _ _ q3, up2_ne e8 e1 (by omega) (by omega)]
      have oz : ∀ c k, ¬ (c = 9) → ¬ (c = 71 ∧ k = 0) → ¬ (c = 75 ∧ k = 4 * z.toNat + 2) → zz S9 c k = zz S c k := fun c k q1 q2 q3 => by unfold zz; rw [o c k q1 q2 q3]
      have g := pb
      obtain ⟨_, _, _, _, _, _, g1, g2, g3, g4, g5, g6⟩ := g
      simp only [cv, Nat.zero_add] at g1 g2 g3 g4
      have hI2 : Inv S9 := by
        refine Inv_p hI (p := z.toNat) (by omega) n ?_ ?_ (t75.trans t9.symm) ?_ ?_ ?_ ?_ ?_
        · rw [o 75 _ (by omega) (by omega) (by omega), o 7 _ (by omega) (by omega) (by omega), f4]
        · rw [o 75 _ (by omega) (by omega) (by omega), o 8 _ (by omega) (by omega) (by omega), f5]
        · rw [o 75 _ (by omega) (by omega) (by omega), o 10 _ (by omega) (by omega) (by omega), f7]
        · rw [oz 7 _ (by omega) (by omega) (by omega)]; exact ⟨g1, g2⟩
        · rw [oz 8 _ (by omega) (by omega) (by omega)]; exact ⟨g3, g4⟩
        · unfold zz; rw [t9, iI_toInt w1 w2]; exact ⟨h3, h4⟩
        · rw [oz 10 _ (by omega) (by omega) (by omega)]; exact pt
      exact CallOk.fin (S := S) hP hI2 hv
    · unfold wp_X8_load
      intro S1 e1
      have hs := sm_thr S
      rw [← e1] at hs
      have e12 : zz S1 71 12 = zz S 0 2 := (hh_zz hs (by unfold ps; omega)).trans hH0.2.2.2.2.1
      refine s_X8_isPerson z1 z2 (by omega) (fun _ _ => ⟨fun _ => ?_, fun q => absurd q (by decide)⟩) (fun h => absurd ⟨h1, by omega⟩ h)
      exact s_X8_in (a := 0) (b := 9) w1 w2 (by omega) (by omega) (by omega) (by omega) (fun q1 q2 => absurd ⟨q1, q2⟩ h) (fun _ => ⟨fun q => absurd rfl q, fun _ => CallOk.fin (S := S) hP (hI.sm hs) rfl⟩)
  · unfold wp_X8_load
    intro S1 e1
    have hs := sm_thr S
    rw [← e1] at hs
    have e12 : zz S1 71 12 = zz S 0 2 := (hh_zz hs (by unfold ps; omega)).trans hH0.2.2.2.2.1
    exact s_X8_isPerson z1 z2 (by omega) (fun q1 q2 => absurd ⟨q1, by omega⟩ h) (fun _ => ⟨fun q => absurd rfl q, fun _ => CallOk.fin (S := S) hP (hI.sm hs) rfl⟩)
theorem call_miles (x y : Int32) : CallOk (wp_X7_miles x y) (wp_X8_miles x y) := by
  intro S hI G hG P hP
  obtain ⟨z, z1, z2, rfl⟩ := iI_ex x
  obtain ⟨w, w1, w2, rfl⟩ := iI_ex y
  have hH0 := hI.head
  have b2 : 0 ≤ zz S 0 1 := hH0.1.2.2.1
  unfold wp_X7_miles
  refine s_X6_hasRoad z1 z2 (fun h1 h2 => ⟨fun _ => ?_, fun q => absurd q (by decide)⟩) (fun h => ⟨fun q => absurd rfl q, fun _ => hG _ ?_⟩)
  · obtain ⟨p4, rb, rm, f1, f2, f3⟩ := hI.road (r := z.toNat) (by omega)
    refine s_X7_outside (a := 1) (b := 20) w1 w2 (by omega) (by omega) (by omega) (by omega) (fun h3 h4 => ⟨fun _ => ?_, fun q => absurd rfl q⟩) (fun h => ⟨fun q => absurd q (by decide), fun _ => hG _ ?_⟩)
    · have xz : ix (iI z) = z.toNat := iI_ix h1 z2
      have iz : vp_in (iI z) 9 := (iI_in z1 z2).mpr ⟨h1, by omega⟩
      rw [xz]
      refine ⟨iz, fun v7 hv7 => ⟨iz, fun S8 e8 => hG _ ?_⟩⟩
      unfold wp_X8_miles
      intro S1 e1
      have e12 : zz S1 71 11 = zz S 0 1 := by
        unfold zz
        rw [up2_ne e8 e1 (by omega) (by omega)]
        exact hH0.2.2.2.1
      refine s_X8_isRoad z1 z2 (by omega) (fun _ _ => ⟨fun _ => ?_, fun q => absurd q (by decide)⟩) (fun h => absurd ⟨h1, by omega⟩ h)
      refine s_X8_in (a := 1) (b := 20) w1 w2 (by omega) (by omega) (by omega) (by omega) (fun _ _ => ⟨fun _ => ?_, fun q => absurd q (by decide)⟩) (fun h => absurd ⟨h3, h4⟩ h)
      have x2 : ix ((18 : Int32) + iI z) = 18 + z.toNat := by
        simp (disch := omega) only [iI_add, iI_sub, iI_mul, iI_le, iI_lt, iI_eq, iI_ix, iI_in, iI_neg, iI_lit]; omega
      have i2 : vp_in ((18 : Int32) + iI z) 28 := by
        simp (disch := omega) only [iI_add, iI_sub, iI_mul, iI_le, iI_lt, iI_eq, iI_ix, iI_in, iI_neg, iI_lit]; omega
      rw [x2]
      refine ⟨i2, fun v8 hv8 => ⟨i2, fun S9 e9 => ?_⟩⟩
      have hv : v7 = v8 := by rw [hv7, hv8, up2_ne e8 e1 (by omega) (by omega), f3]
      have n : ∀ c k, ps c k → ¬ (c = 3 ∧ k = z.toNat) → ¬ (c = 75 ∧ k = 18 + z.toNat) → S9 c k = S c k := by
        intro c k hp q1 q2
        rw [e9, up_ne _ _ (by omega), up2_ne e8 e1 (by omega) (by unfold ps at hp; omega)]
      have t9 : S9 3 z.toNat = iI w := by rw [e9, up_ne _ _ (by omega), e1, up_ne _ _ (by omega), e8, up_at]
      have t75 : S9 75 (18 + z.toNat) = iI w := by rw [e9, up_at]
      have hI2 : Inv S9 := Inv_r hI (r := z.toNat) (by omega) n (t75.trans t9.symm) (by unfold zz; rw [t9, iI_toInt w1 w2]; exact ⟨h3, h4⟩)
      exact CallOk.fin (S := S) hP hI2 hv
    · unfold wp_X8_miles
      intro S1 e1
      have hs := sm_thr S
      rw [← e1] at hs
      have e12 : zz S1 71 11 = zz S 0 1 := (hh_zz hs (by unfold ps; omega)).trans hH0.2.2.2.1
      refine s_X8_isRoad z1 z2 (by omega) (fun _ _ => ⟨fun _ => ?_, fun q => absurd q (by decide)⟩) (fun h => absurd ⟨h1, by omega⟩ h)
      exact s_X8_in (a := 1) (b := 20) w1 w2 (by omega) (by omega) (by omega) (by omega) (fun q1 q2 => absurd ⟨q1, q2⟩ h) (fun _ => ⟨fun q => absurd rfl q, fun _ => CallOk.fin (S := S) hP (hI.sm hs) rfl⟩)
  · unfold wp_X8_miles
    intro S1 e1
    have hs := sm_thr S
    rw [← e1] at hs
    have e12 : zz S1 71 11 = zz S 0 1 := (hh_zz hs (by unfold ps; omega)).trans hH0.2.2.2.1
    exact s_X8_isRoad z1 z2 (by omega) (fun q1 q2 => absurd ⟨q1, by omega⟩ h) (fun _ => ⟨fun q => absurd rfl q, fun _ => CallOk.fin (S := S) hP (hI.sm hs) rfl⟩)
