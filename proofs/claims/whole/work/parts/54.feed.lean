/-! feed, write -/
theorem call_feed (x : Int32) : CallOk (wp_X7_feed x) (wp_X8_feed x) := by
  intro S hI G hG P hP
  obtain ⟨z, z1, z2, rfl⟩ := iI_ex x
  obtain ⟨hL, ⟨t1, t2, t3, t4, t5⟩, hK, hB, hIm⟩ := id hI
  have et : S 71 2 = S 48 1 := zz_inj t1
  unfold wp_X7_feed
  refine s_X7_outside (a := 0) (b := 255) z1 z2 (by omega) (by omega) (by omega) (by omega) (fun h1 h2 => ⟨fun _ => ?_, fun e => absurd rfl e⟩) (fun h => ⟨fun e => absurd e (by decide), fun _ => hG _ ?_⟩)
  · unfold wp_X5_add
    have x1 : ix (S 48 1) = (zz S 48 1).toNat := by rw [zz_S S 48 1, iI_ix t2 (by omega)]
    rw [x1, zz_S S 48 1]
    simp (disch := omega) only [show (250 : Int32) = iI 250 from rfl, iI_lt, iI_in]
    refine ⟨fun hlt => ⟨by omega, fun S2 e2 S4 e4 => hG _ ?_⟩, fun hlt => hG _ ?_⟩
    · have e48 : S2 48 1 = iI (zz S 48 1) := by rw [e2, up_ne _ _ (by omega), ← zz_S]
      rw [e48, show (1 : Int32) = iI 1 from rfl, iI_add] at e4
      unfold wp_X8_feed
      intro T e1
      refine s_X8_in (a := 0) (b := 255) z1 z2 (by omega) (by omega) (by omega) (by omega) (fun _ _ => ⟨fun _ => ?_, fun e => absurd e (by decide)⟩) (fun h => absurd ⟨h1, h2⟩ h)
      have o1 : ∀ c k, ¬ (c = 48 ∧ k = 1) → ¬ (c = 49 ∧ k = (zz S 48 1).toNat) → ¬ (c = 71 ∧ k = 0) → T c k = S c k := by
        intro c k q1 q2 q3
        rw [e1, up_ne _ _ q3, e4, up_ne _ _ q1, e2, up_ne _ _ q2]
      have e71 : T 71 2 = iI (zz S 48 1) := by rw [o1 _ _ (by omega) (by omega) (by omega), et, ← zz_S]
      rw [e71]
      simp (disch := omega) only [show (250 : Int32) = iI 250 from rfl, iI_eq, iI_in, iI_ix]
      refine ⟨fun _ => ⟨by omega, fun S6 e6 S8 e8 => ?_⟩, fun e => absurd e (by omega)⟩
      have e71' : S6 71 2 = iI (zz S 48 1) := by rw [e6, up_ne _ _ (by omega), e71]
      rw [e71', show (1 : Int32) = iI 1 from rfl, iI_add] at e8
      have o2 : ∀ c k, ¬ (c = 48 ∧ k = 1) → ¬ (c = 49 ∧ k = (zz S 48 1).toNat) → ¬ (c = 71 ∧ (k = 0 ∨ k = 2)) → ¬ (c = 72 ∧ k = (zz S 48 1).toNat) → S8 c k = S c k := by
        intro c k q1 q2 q3 q4
        rw [e8, up_ne _ _ (by omega), e6, up_ne _ _ q4, o1 c k q1 q2 (by omega)]
      have u48 : S8 48 1 = iI (zz S 48 1 + 1) := by rw [e8, up_ne _ _ (by omega), e6, up_ne _ _ (by omega), e1, up_ne _ _ (by omega), e4, up_at]
      have u71 : S8 71 2 = iI (zz S 48 1 + 1) := by rw [e8, up_at]
      have u49 : S8 49 (zz S 48 1).toNat = iI z := by rw [e8, up_ne _ _ (by omega), e6, up_ne _ _ (by omega), e1, up_ne _ _ (by omega), e4, up_ne _ _ (by omega), e2, up_at]
      have u72 : S8 72 (zz S 48 1).toNat = iI z := by rw [e8, up_ne _ _ (by omega), e6, up_at]
      have hI2 : Inv S8 := by
        refine ⟨Inv_L hI (fun c k q => o2 c k (by omega) (by omega) (by omega) (by omega)), ?_, Inv_K hI (fun c k q => o2 c k (by omega) (by omega) (by omega) (by omega)), Inv_B hI (fun c k q => o2 c k (by omega) (by omega) (by omega) (by omega)), Inv_I hI (fun c k q => o2 c k (by omega) (by omega) (by omega) (by omega))⟩
        unfold InvT
        rw [zz_iI u71 (by omega) (by omega), zz_iI u48 (by omega) (by omega)]
        refine ⟨rfl, by omega, by omega, ?_, fun k hk => ?_⟩
        · unfold zz; rw [o2 71 9 (by omega) (by omega) (by omega) (by omega), o2 48 2 (by omega) (by omega) (by omega) (by omega)]; exact t4
        · by_cases hkk : k = (zz S 48 1).toNat
          · subst hkk
            rw [zz_iI u72 (by omega) (by omega), zz_iI u49 (by omega) (by omega)]
            exact ⟨rfl, h1, h2⟩
          · have := t5 k (by omega)
            unfold zz at this ⊢
            rw [o2 72 k (by omega) (by omega) (by omega) (by omega), o2 49 k (by omega) (by omega) (by omega) (by omega)]
            exact this
      refine CallOk.fin (S := S) hP hI2 ?_
      rw [u71, e4, up_at]
    · unfold wp_X8_feed
      intro T e1
      have hs := sm_thr S
      rw [← e1] at hs
      refine s_X8_in (a := 0) (b := 255) z1 z2 (by omega) (by omega) (by omega) (by omega) (fun _ _ => ⟨fun _ => ?_, fun e => absurd e (by decide)⟩) (fun h => absurd ⟨h1, h2⟩ h)
      have e71 : T 71 2 = iI (zz S 48 1) := by rw [hs 71 2 (by unfold ps; omega), et, ← zz_S]
      rw [e71]
      simp (disch := omega) only [show (250 : Int32) = iI 250 from rfl, iI_eq]
      exact ⟨fun e => absurd (by omega) e, fun _ => CallOk.fin (S := S) hP (hI.sm hs) rfl⟩
  · unfold wp_X8_feed
    intro T e1
    have hs := sm_thr S
    rw [← e1] at hs
    exact s_X8_in (a := 0) (b := 255) z1 z2 (by omega) (by omega) (by omega) (by omega) (fun q1 q2 => absurd ⟨q1, q2⟩ h) (fun _ => ⟨fun e => absurd rfl e, fun _ => CallOk.fin (S := S) hP (hI.sm hs) rfl⟩)
theorem call_write (x : Int32) : CallOk (wp_X7_write x) (wp_X8_write x) := by
  intro S hI G hG P hP
  obtain ⟨z, z1, z2, rfl⟩ := iI_ex x
  obtain ⟨hL, hT, hK, ⟨t1, t2, t3, t5⟩, hIm⟩ := id hI
  have hH0 := hI.head
  have b1 : 0 ≤ zz S 0 1 ∧ zz S 0 1 ≤ 9 := ⟨hH0.1.2.2.1, hH0.1.2.2.2.1⟩
  have et : S 71 27 = S 69 0 := zz_inj t1
  -- what both do in the end
  have M : ∀ (T : St) (q : Int32), (z < 0 → z ≠ -2 → T = S ∧ q = -1000000002) → (0 ≤ z → ¬ z / 10 < zz S 0 1 → T = S ∧ q = -1000000001) → (0 ≤ z → z / 10 < zz S 0 1 → ¬ z % 10 ≤ 5 → T = S ∧ q = -1000000002) → ((z = -2 ∨ (0 ≤ z ∧ z / 10 < zz S 0 1 ∧ z % 10 ≤ 5)) → ¬ zz S 69 0 < 30 → T = S ∧ q = -1000000004) → ((z = -2 ∨ (0 ≤ z ∧ z / 10 < zz S 0 1 ∧ z % 10 ≤ 5)) → zz S 69 0 < 30 → T = up (up S 70 (zz S 69 0).toNat (iI z)) 69 0 (iI (zz S 69 0 + 1)) ∧ q = iI (zz S 69 0 + 1)) → wp_X8_write (iI z) T (P q) := by
    intro T q q0 q1 q2 q3 q4
    unfold wp_X8_write
    intro S1 e1
    have fin : ∀ c2 : Int32, T = S ∧ q = c2 → P q c2 S1 := fun c2 h => CallOk.fin (S := S) hP (hI.sm (by rw [e1, h.1]; exact sm_thr S)) h.2
    have hT1 : ∀ c k, ¬ (c = 70) → ¬ (c = 69) → T c k = S c k := by
      intro c k h1 h2
      have hcase : T = S ∨ T = up (up S 70 (zz S 69 0).toNat (iI z)) 69 0 (iI (zz S 69 0 + 1)) := by
        by_cases c1 : z = -2 ∨ (0 ≤ z ∧ z / 10 < zz S 0 1 ∧ z % 10 ≤ 5)
        · by_cases c2 : zz S 69 0 < 30
          · exact Or.inr (q4 c1 c2).1
          · exact Or.inl (q3 c1 c2).1
        · by_cases c2 : 0 ≤ z
          · by_cases c3 : z / 10 < zz S 0 1
            · exact Or.inl (q2 c2 c3 (by omega)).1
            · exact Or.inl (q1 c2 c3).1
          · exact Or.inl (q0 (by omega) (by omega)).1
      rcases hcase with rfl | rfl
      · rfl
      · rw [up_ne _ _ (by omega), up_ne _ _ (by omega)]
    have W44 : (z = -2 ∨ (0 ≤ z ∧ z / 10 < zz S 0 1 ∧ z % 10 ≤ 5)) → B_X8_write_44 (P q) (iI z) S1 := by
      intro hz
      unfold B_X8_write_44
      have e27 : S1 71 27 = iI (zz S 69 0) := by rw [e1, up_ne _ _ (by omega), hT1 _ _ (by omega) (by omega), et, ← zz_S]
      rw [e27]
      simp (disch := omega) only [show (30 : Int32) = iI 30 from rfl, iI_eq, iI_in, iI_ix]
      refine ⟨fun hc => ⟨by omega, fun S2 e2 S4 e4 => ?_⟩, fun hc => fin _ (q3 hz (by omega))⟩
      obtain ⟨hTe, hq⟩ := q4 hz (by omega)
      have e27' : S2 71 27 = iI (zz S 69 0) := by rw [e2, up_ne _ _ (by omega), e27]
      rw [e27', show (1 : Int32) = iI 1 from rfl, iI_add] at e4
      have o2 : ∀ c k, ¬ (c = 70 ∧ k = (zz S 69 0).toNat) → ¬ (c = 69 ∧ k = 0) → ¬ (c = 71 ∧ (k = 0 ∨ k = 27)) → ¬ (c = 80 ∧ k = (zz S 69 0).toNat) → S4 c k = S c k := by
        intro c k p1 p2 p3 p4
        rw [e4, up_ne _ _ (by omega), e2, up_ne _ _ p4, e1, up_ne _ _ (by omega), hTe, up_ne _ _ p2, up_ne _ _ p1]
      have u69 : S4 69 0 = iI (zz S 69 0 + 1) := by rw [e4, up_ne _ _ (by omega), e2, up_ne _ _ (by omega), e1, up_ne _ _ (by omega), hTe, up_at]
      have u71 : S4 71 27 = iI (zz S 69 0 + 1) := by rw [e4, up_at]
      have u70 : S4 70 (zz S 69 0).toNat = iI z := by rw [e4, up_ne _ _ (by omega), e2, up_ne _ _ (by omega), e1, up_ne _ _ (by omega), hTe, up_ne _ _ (by omega), up_at]
      have u80 : S4 80 (zz S 69 0).toNat = iI z := by rw [e4, up_ne _ _ (by omega), e2, up_at]
      have n1 : zz S4 0 1 = zz S 0 1 := by unfold zz; rw [o2 _ _ (by omega) (by omega) (by omega) (by omega)]
      have hI2 : Inv S4 := by
        refine ⟨Inv_L hI (fun c k p => o2 c k (by omega) (by omega) (by omega) (by omega)), Inv_T hI (fun c k p => o2 c k (by omega) (by omega) (by omega) (by omega)), Inv_K hI (fun c k p => o2 c k (by omega) (by omega) (by omega) (by omega)), ?_, Inv_I hI (fun c k p => o2 c k (by omega) (by omega) (by omega) (by omega))⟩
        unfold InvB
        rw [zz_iI u71 (by omega) (by omega), zz_iI u69 (by omega) (by omega)]
        refine ⟨rfl, by omega, by omega, fun i hi => ?_⟩
        unfold StepOk
        rw [n1]
        by_cases hii : i = (zz S 69 0).toNat
        · subst hii
          rw [zz_iI u80 (by omega) (by omega), zz_iI u70 (by omega) (by omega)]
          exact ⟨rfl, hz⟩
        · have h5 := t5 i (by omega)
          have a1 : zz S4 80 i = zz S 80 i := by unfold zz; rw [o2 _ _ (by omega) (by omega) (by omega) (by omega)]
          have a2 : zz S4 70 i = zz S 70 i := by unfold zz; rw [o2 _ _ (by omega) (by omega) (by omega) (by omega)]
          rw [a1, a2]
          exact h5
      exact CallOk.fin (S := S) hP hI2 (by rw [u71, hq])
    have W23 : (0 ≤ z → z / 10 < zz S 0 1) → B_X8_write_23 (P q) (iI z) S1 := by
      intro hz
      unfold B_X8_write_23
      simp (disch := omega) only [show (-2 : Int32) = iI (-2) from by decide, show (0 : Int32) = iI 0 from rfl, iI_eq, iI_lt]
      refine ⟨fun h => W44 (Or.inl h), fun h => ⟨fun h2 => fin _ (q0 h2 h), fun h2 => ?_⟩⟩
      rw [show (10 : Int32) = iI 10 from rfl, iI_rem (by omega) z2 (by omega) (by omega)]
      simp (disch := omega) only [show (5 : Int32) = iI 5 from rfl, iI_le]
      exact ⟨fun h3 => W44 (Or.inr ⟨by omega, hz (by omega), h3⟩), fun h3 => fin _ (q2 (by omega) (hz (by omega)) h3)⟩
    rw [show (0 : Int32) = iI 0 from rfl, iI_lt z1 z2 (by omega) (by omega)]
    refine ⟨fun h => W23 (by omega), fun h => ?_⟩
    rw [show (10 : Int32) = iI 10 from rfl, iI_div (by omega) z2 (by omega) (by omega)]
    have c11 : zz S1 71 11 = zz S 0 1 := by
      unfold zz
      rw [e1, up_ne _ _ (by omega), hT1 _ _ (by omega) (by omega)]
      exact hH0.2.2.2.1
    refine s_X8_isRoad (by omega) (by omega) (by omega) (fun h3 h4 => ⟨fun _ => W23 (by omega), fun e => absurd e (by decide)⟩) (fun h3 => ⟨fun e => absurd rfl e, fun _ => fin _ (q1 (by omega) (by omega))⟩)
  have W31 : (z = -2 ∨ (0 ≤ z ∧ z / 10 < zz S 0 1)) → B_X7_write_31 (fun r S1 => G (wp_X8_write (iI z) S1 (P r))) (iI z) S := by
    intro hz
    have add : (z = -2 ∨ (0 ≤ z ∧ z / 10 < zz S 0 1 ∧ z % 10 ≤ 5)) → wp_X0_add (iI z) S (fun r S1 => G (wp_X8_write (iI z) S1 (P r))) := by
      intro hz2
      unfold wp_X0_add
      have x1 : ix (S 69 0) = (zz S 69 0).toNat := by rw [zz_S S 69 0, iI_ix t2 (by omega)]
      rw [x1, zz_S S 69 0]
      simp (disch := omega) only [show (30 : Int32) = iI 30 from rfl, iI_lt, iI_in]
      refine ⟨fun hlt => ⟨by omega, fun S2 e2 S4 e4 => hG _ (M _ _ (by omega) (by omega) (by omega) (by omega) (fun _ _ => ?_))⟩, fun hlt => hG _ (M _ _ (by omega) (by omega) (by omega) (fun _ _ => ⟨rfl, rfl⟩) (by omega))⟩
      have e69 : S2 69 0 = iI (zz S 69 0) := by rw [e2, up_ne _ _ (by omega), ← zz_S]
      rw [e69, show (1 : Int32) = iI 1 from rfl, iI_add] at e4
      exact ⟨by rw [e4, e2], by rw [e4, up_at]⟩
    unfold B_X7_write_31
    rcases hz with rfl | ⟨h1, h2⟩
    · exact ⟨fun _ => add (Or.inl rfl), fun e => absurd (by decide) e⟩
    · rw [show (10 : Int32) = iI 10 from rfl, iI_rem h1 z2 (by omega) (by omega)]
      simp (disch := omega) only [show (5 : Int32) = iI 5 from rfl, iI_le]
      exact ⟨fun h3 => add (Or.inr ⟨h1, h2, h3⟩), fun h3 => hG _ (M _ _ (by omega) (by omega) (fun _ _ _ => ⟨rfl, rfl⟩) (by omega) (by omega))⟩
  unfold wp_X7_write
  rw [show (0 : Int32) = iI 0 from rfl, iI_lt z1 z2 (by omega) (by omega), iI_le (by omega) (by omega) z1 z2]
  simp (disch := omega) only [show (-2 : Int32) = iI (-2) from by decide, iI_eq]
  refine ⟨fun h => ⟨fun h2 => absurd h (by omega), fun _ => ⟨fun h2 => hG _ (M _ _ (fun _ _ => ⟨rfl, rfl⟩) (by omega) (by omega) (by omega) (by omega)), fun h2 => W31 (Or.inl h2)⟩⟩, fun h => ?_⟩
  rw [show (10 : Int32) = iI 10 from rfl, iI_div (by omega) z2 (by omega) (by omega)]
  refine s_X6_hasRoad (by omega) (by omega) (fun h3 h4 => ⟨fun _ => ⟨fun h5 => W31 (Or.inr ⟨h5, h4⟩), fun h5 => absurd (by omega) h5⟩, fun e => absurd e (by decide)⟩) (fun h3 => ⟨fun e => absurd rfl e, fun _ => hG _ (M _ _ (by omega) (fun _ _ => ⟨rfl, rfl⟩) (by omega) (by omega) (by omega))⟩)
