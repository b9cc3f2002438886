/-! inns, clocks; takes, go, await -/
theorem call_inn (x y : Int32) : CallOk (wp_X7_inn x y) (wp_X8_inn x y) := by
  intro S hI G hG P hP
  obtain ⟨z, z1, z2, rfl⟩ := iI_ex x
  have hH0 := hI.head
  have b2 : 0 ≤ zz S 0 0 ∧ zz S 0 0 ≤ 6 := ⟨hH0.1.1, hH0.1.2.1⟩
  have bb : 0 ≤ zz S 0 3 ∧ zz S 0 3 < 64 := ⟨hH0.1.2.2.2.2.2.2.1, hH0.1.2.2.2.2.2.2.2.1⟩
  unfold wp_X7_inn
  refine s_X6_hasPlace z1 z2 (fun h1 h2 => ⟨fun _ => ?_, fun q => absurd q (by decide)⟩) (fun h => ⟨fun q => absurd rfl q, fun _ => hG _ ?_⟩)
  · intro v4 hv4
    have f16 : S 75 16 = S 0 3 := zz_inj hH0.2.2.2.2.2.1
    have fin : ∀ (S7 S1 S3 : St) (v5 w : Int32) (a : Int), S7 = up S 0 3 (iI a) → 0 ≤ a → a < 64 → S1 = up S7 71 0 0 → v5 = v4 → S3 = up S1 75 16 w → w = iI a → P v4 v5 S3 := by
      intro S7 S1 S3 v5 w a e7 a1 a2 e1 hv e3 hw
      have t0 : S3 0 3 = iI a := by rw [e3, up_ne _ _ (by omega), e1, up_ne _ _ (by omega), e7, up_at]
      have t1 : S3 75 16 = iI a := by rw [e3, up_at, hw]
      have n : ∀ c k, ps c k → ¬ (c = 0 ∧ k = 3) → ¬ (c = 75 ∧ k = 16) → S3 c k = S c k := by
        intro c k hp q1 q2
        rw [e3, up_ne _ _ q2, up2_ne e7 e1 q1 (by unfold ps at hp; omega)]
      have hI2 : Inv S3 := Inv_h hI (Or.inl ⟨rfl, rfl⟩) n (t1.trans t0.symm) (by unfold zz; rw [t0, iI_toInt (by omega) (by omega)]; exact ⟨a1, fun _ => a2⟩)
      exact CallOk.fin (S := S) hP hI2 hv.symm
    have M : ∀ (S7 : St) (a : Int), S7 = up S 0 3 (iI a) → 0 ≤ a → a < 64 → (y = 0 → S 0 3 &&& (((1 : Int32) <<< (iI z &&& 31)) ^^^ (-1)) = iI a) → (¬ y = 0 → S 0 3 ||| ((1 : Int32) <<< (iI z &&& 31)) = iI a) → wp_X8_inn (iI z) y S7 (P v4) := by
      intro S7 a e7 a1 a2 q0 q1
      unfold wp_X8_inn
      intro S1 e1
      have e10 : zz S1 71 10 = zz S 0 0 := by
        unfold zz
        rw [up2_ne e7 e1 (by omega) (by omega)]
        exact hH0.2.2.1
      refine s_X8_isPlace z1 z2 (by omega) (fun _ _ => ⟨fun q => absurd q (by decide), fun _ => ?_⟩) (fun h => absurd ⟨h1, by omega⟩ h)
      have e16 : S1 75 16 = S 0 3 := by rw [up2_ne e7 e1 (by omega) (by omega), f16]
      unfold wp_X8_puts
      have x2 : ix (16 : Int32) = 16 := by decide
      have i2 : vp_in (16 : Int32) 28 := in_lit (by decide)
      rw [x2, e16]
      refine ⟨i2, fun v1 hv1 => ⟨fun hy => ⟨i2, i2, fun S3 e3 => ?_⟩, fun hy => ⟨i2, i2, fun S3 e3 => ?_⟩⟩⟩
      · exact fin S7 S1 S3 v1 _ a e7 a1 a2 e1 (hv1.trans hv4.symm) e3 (q0 hy)
      · exact fin S7 S1 S3 v1 _ a e7 a1 a2 e1 (hv1.trans hv4.symm) e3 (q1 hy)
    unfold wp_X7_withBit
    constructor
    · intro hy S7 e7
      apply hG
      obtain ⟨a, a1, a2, ea, _⟩ := bit_and bb.1 bb.2 h1 (by omega)
      rw [← zz_S S 0 3] at ea
      exact M S7 a (by rw [e7, ea]) a1 a2 (fun _ => ea) (fun q => absurd hy q)
    · intro hy S7 e7
      apply hG
      obtain ⟨a, a1, a2, ea, _⟩ := bit_or bb.1 bb.2 h1 (by omega)
      rw [← zz_S S 0 3] at ea
      exact M S7 a (by rw [e7, ea]) a1 a2 (fun q => absurd q hy) (fun _ => ea)
  · unfold wp_X8_inn
    intro S1 e1
    have hs := sm_thr S
    rw [← e1] at hs
    have e10 : zz S1 71 10 = zz S 0 0 := (hh_zz hs (by unfold ps; omega)).trans hH0.2.2.1
    exact s_X8_isPlace z1 z2 (by omega) (fun q1 q2 => absurd ⟨q1, by omega⟩ h) (fun _ => ⟨fun _ => CallOk.fin (S := S) hP (hI.sm hs) rfl, fun q => absurd rfl q⟩)
theorem call_clock (x y : Int32) : CallOk (wp_X7_clock x y) (wp_X8_clock x y) := by
  intro S hI G hG P hP
  obtain ⟨z, z1, z2, rfl⟩ := iI_ex x
  have hH0 := hI.head
  have b2 : 0 ≤ zz S 0 0 ∧ zz S 0 0 ≤ 6 := ⟨hH0.1.1, hH0.1.2.1⟩
  have bb : 0 ≤ zz S 0 4 ∧ zz S 0 4 < 64 := ⟨hH0.1.2.2.2.2.2.2.2.2.1, hH0.1.2.2.2.2.2.2.2.2.2.1⟩
  unfold wp_X7_clock
  refine s_X6_hasPlace z1 z2 (fun h1 h2 => ⟨fun _ => ?_, fun q => absurd q (by decide)⟩) (fun h => ⟨fun q => absurd rfl q, fun _ => hG _ ?_⟩)
  · intro v4 hv4
    have f16 : S 75 17 = S 0 4 := zz_inj hH0.2.2.2.2.2.2.1
    have fin : ∀ (S7 S1 S3 : St) (v5 w : Int32) (a : Int), S7 = up S 0 4 (iI a) → 0 ≤ a → a < 64 → S1 = up S7 71 0 0 → v5 = v4 → S3 = up S1 75 17 w → w = iI a → P v4 v5 S3 := by
      intro S7 S1 S3 v5 w a e7 a1 a2 e1 hv e3 hw
      have t0 : S3 0 4 = iI a := by rw [e3, up_ne _ _ (by omega), e1, up_ne _ _ (by omega), e7, up_at]
      have t1 : S3 75 17 = iI a := by rw [e3, up_at, hw]
      have n : ∀ c k, ps c k → ¬ (c = 0 ∧ k = 4) → ¬ (c = 75 ∧ k = 17) → S3 c k = S c k := by
        intro c k hp q1 q2
        rw [e3, up_ne _ _ q2, up2_ne e7 e1 q1 (by unfold ps at hp; omega)]
      have hI2 : Inv S3 := Inv_h hI (Or.inr (Or.inl ⟨rfl, rfl⟩)) n (t1.trans t0.symm) (by unfold zz; rw [t0, iI_toInt (by omega) (by omega)]; exact ⟨a1, fun _ => a2⟩)
      exact CallOk.fin (S := S) hP hI2 hv.symm
    have M : ∀ (S7 : St) (a : Int), S7 = up S 0 4 (iI a) → 0 ≤ a → a < 64 → (y = 0 → S 0 4 &&& (((1 : Int32) <<< (iI z &&& 31)) ^^^ (-1)) = iI a) → (¬ y = 0 → S 0 4 ||| ((1 : Int32) <<< (iI z &&& 31)) = iI a) → wp_X8_clock (iI z) y S7 (P v4) := by
      intro S7 a e7 a1 a2 q0 q1
      unfold wp_X8_clock
      intro S1 e1
      have e10 : zz S1 71 10 = zz S 0 0 := by
        unfold zz
        rw [up2_ne e7 e1 (by omega) (by omega)]
        exact hH0.2.2.1
      refine s_X8_isPlace z1 z2 (by omega) (fun _ _ => ⟨fun q => absurd q (by decide), fun _ => ?_⟩) (fun h => absurd ⟨h1, by omega⟩ h)
      have e16 : S1 75 17 = S 0 4 := by rw [up2_ne e7 e1 (by omega) (by omega), f16]
      unfold wp_X8_puts
      have x2 : ix (17 : Int32) = 17 := by decide
      have i2 : vp_in (17 : Int32) 28 := in_lit (by decide)
      rw [x2, e16]
      refine ⟨i2, fun v1 hv1 => ⟨fun hy => ⟨i2, i2, fun S3 e3 => ?_⟩, fun hy => ⟨i2, i2, fun S3 e3 => ?_⟩⟩⟩
      · exact fin S7 S1 S3 v1 _ a e7 a1 a2 e1 (hv1.trans hv4.symm) e3 (q0 hy)
      · exact fin S7 S1 S3 v1 _ a e7 a1 a2 e1 (hv1.trans hv4.symm) e3 (q1 hy)
    unfold wp_X7_withBit
    constructor
    · intro hy S7 e7
      apply hG
      obtain ⟨a, a1, a2, ea, _⟩ := bit_and bb.1 bb.2 h1 (by omega)
      rw [← zz_S S 0 4] at ea
      exact M S7 a (by rw [e7, ea]) a1 a2 (fun _ => ea) (fun q => absurd hy q)
    · intro hy S7 e7
      apply hG
      obtain ⟨a, a1, a2, ea, _⟩ := bit_or bb.1 bb.2 h1 (by omega)
      rw [← zz_S S 0 4] at ea
      exact M S7 a (by rw [e7, ea]) a1 a2 (fun q => absurd q hy) (fun _ => ea)
  · unfold wp_X8_clock
    intro S1 e1
    have hs := sm_thr S
    rw [← e1] at hs
    have e10 : zz S1 71 10 = zz S 0 0 := (hh_zz hs (by unfold ps; omega)).trans hH0.2.2.1
    exact s_X8_isPlace z1 z2 (by omega) (fun q1 q2 => absurd ⟨q1, by omega⟩ h) (fun _ => ⟨fun _ => CallOk.fin (S := S) hP (hI.sm hs) rfl, fun q => absurd rfl q⟩)
theorem call_tear : CallOk wp_X7_tear wp_X8_tear := by
  intro S hI G hG P hP
  unfold wp_X7_tear
  intro v1 hv1 S2 e2 S3 e3
  apply hG
  unfold wp_X8_tear
  intro S4 e4 v5 hv5 S6 e6 S7 e7
  obtain ⟨hL, hT, hK, hB, hIm⟩ := id hI
  have k1 : S 71 25 = S 63 0 := zz_inj hK.1
  have b1 : S 71 27 = S 69 0 := zz_inj hB.1
  have o : ∀ c k, ¬ (c = 63 ∧ k = 0) → ¬ (c = 69 ∧ k = 0) → ¬ (c = 71 ∧ (k = 0 ∨ k = 25 ∨ k = 27)) → S7 c k = S c k := by
    intro c k q1 q2 q3
    rw [e7, up_ne _ _ (by omega), e6, up_ne _ _ (by omega), e4, up_ne _ _ (by omega), e3, up_ne _ _ q2, e2, up_ne _ _ q1]
  have oz : ∀ c k, ¬ (c = 63 ∧ k = 0) → ¬ (c = 69 ∧ k = 0) → ¬ (c = 71 ∧ (k = 0 ∨ k = 25 ∨ k = 27)) → zz S7 c k = zz S c k := fun c k q1 q2 q3 => by unfold zz; rw [o c k q1 q2 q3]
  have t0 : zz S7 63 0 = 0 := by unfold zz; rw [e7, up_ne _ _ (by omega), e6, up_ne _ _ (by omega), e4, up_ne _ _ (by omega), e3, up_ne _ _ (by omega), e2, up_at]; rfl
  have t1 : zz S7 69 0 = 0 := by unfold zz; rw [e7, up_ne _ _ (by omega), e6, up_ne _ _ (by omega), e4, up_ne _ _ (by omega), e3, up_at]; rfl
  have t2 : zz S7 71 25 = 0 := by unfold zz; rw [e7, up_ne _ _ (by omega), e6, up_at]; rfl
  have t3 : zz S7 71 27 = 0 := by unfold zz; rw [e7, up_at]; rfl
  have hv : v1 = v5 := by
    rw [hv1, hv5, e4, up_ne _ _ (by omega), up_ne _ _ (by omega), e3, up_ne _ _ (by omega), up_ne _ _ (by omega), e2, up_ne _ _ (by omega), up_ne _ _ (by omega), k1, b1]
  have hLT : InvL S7 := by
    have hT2 : ∀ c, c ≤ 10 ∨ c = 73 ∨ c = 74 ∨ c = 75 → S7 c = S c := fun c hc => funext fun k => o c k (by omega) (by omega) (by omega)
    have ec : ∀ f, f ≤ 10 → cv S7 0 f = cv S 0 f := fun f hf => funext fun k => oz _ _ (by omega) (by omega) (by omega)
    have a0 : Ag (cv S 0) (cv S7 0) := cv_Ag hL.1 (fun f k hf _ _ _ => o _ _ (by omega) (by omega) (by omega))
    refine ⟨Ag_Lb a0 hL.1, Ag_Mb a0 hL.2.1, ?_⟩
    refine a0.symm.trans (hL.2.2.trans ?_)
    rw [mz_mg, mz_mg]
    have hA := hL.2.2
    rw [mz_mg] at hA
    exact mg_Ag (Ag_Lb hA hL.1) (oz _ _ (by omega) (by omega) (by omega)) (oz _ _ (by omega) (by omega) (by omega)) (oz _ _ (by omega) (by omega) (by omega)) (fun j _ => oz _ _ (by omega) (by omega) (by omega)) (fun j _ => oz _ _ (by omega) (by omega) (by omega)) (fun j _ => oz _ _ (by omega) (by omega) (by omega))
  have hI2 : Inv S7 := by
    refine ⟨hLT, ?_, ⟨by rw [t0, t2], by omega, by omega, fun i hi => by omega⟩, ⟨by rw [t1, t3], by omega, by omega, fun i hi => by omega⟩, ?_⟩
    · obtain ⟨q1, q2, q3, q4, q5⟩ := hT
      unfold InvT
      rw [oz 71 2 (by omega) (by omega) (by omega), oz 48 1 (by omega) (by omega) (by omega), oz 71 9 (by omega) (by omega) (by omega), oz 48 2 (by omega) (by omega) (by omega)]
      refine ⟨q1, q2, q3, q4, fun k hk => ?_⟩
      rw [oz 72 k (by omega) (by omega) (by omega), oz 49 k (by omega) (by omega) (by omega)]
      exact q5 k hk
    · intro i hi
      obtain ⟨h1, h2, h3⟩ := hIm i hi
      rw [oz 78 i (by omega) (by omega) (by omega), oz 46 i (by omega) (by omega) (by omega)]
      refine ⟨h1, h2, fun q => ?_⟩
      obtain ⟨g1, g2, g3⟩ := h3 q
      have a1 : Ag (cv S (22 + 11 * i)) (cv S7 (22 + 11 * i)) := cv_Ag g1 (fun f k hf _ _ _ => o _ _ (by omega) (by omega) (by omega))
      exact ⟨Ag_Lb a1 g1, Ag_Mb a1 g2, a1.symm.trans (g3.trans (mg_Ag (Ag_Lb g3 g1) (oz _ _ (by omega) (by omega) (by omega)) (oz _ _ (by omega) (by omega) (by omega)) (oz _ _ (by omega) (by omega) (by omega)) (fun j _ => oz _ _ (by omega) (by omega) (by omega)) (fun j _ => oz _ _ (by omega) (by omega) (by omega)) (fun j _ => oz _ _ (by omega) (by omega) (by omega))))⟩
  exact CallOk.fin (S := S) hP hI2 hv
