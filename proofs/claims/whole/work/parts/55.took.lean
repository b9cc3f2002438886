/-! took, spent, lie -/
theorem call_took (x1 x2 x3 x4 x5 : Int32) : CallOk (wp_X7_took x1 x2 x3 x4 x5) (wp_X8_took x1 x2 x3 x4 x5) := by
  intro S hI G hG P hP
  obtain ⟨p, p1, p2, rfl⟩ := iI_ex x1
  obtain ⟨r, r1, r2, rfl⟩ := iI_ex x2
  obtain ⟨a, a1, a2, rfl⟩ := iI_ex x3
  obtain ⟨m, m1, m2, rfl⟩ := iI_ex x4
  obtain ⟨s, s1, s2, rfl⟩ := iI_ex x5
  have hH0 := hI.head
  obtain ⟨b0, b0', b1, b1', b2, b2', _⟩ := id hH0.1
  simp only [cv, Nat.add_zero] at b0 b0' b1 b1' b2 b2'
  obtain ⟨hL, hT, ⟨t1, t2, t3, t5⟩, hB, hIm⟩ := id hI
  have et : S 71 25 = S 63 0 := zz_inj t1
  generalize hn : (zz S 63 0).toNat = n at *
  have M : ∀ (T : St) (q : Int32), (∀ c k, ¬ (63 ≤ c ∧ c ≤ 68) → T c k = S c k) → (¬ ((0 ≤ p ∧ p < zz S 0 2) ∧ (0 ≤ r ∧ r < zz S 0 1) ∧ (0 ≤ a ∧ a < zz S 0 0)) → T = S ∧ q = -1000000001) → ((0 ≤ p ∧ p < zz S 0 2) ∧ (0 ≤ r ∧ r < zz S 0 1) ∧ (0 ≤ a ∧ a < zz S 0 0) → ¬ ((0 ≤ m ∧ m ≤ 999) ∧ (1 ≤ s ∧ s ≤ 999)) → T = S ∧ q = -1000000002) → ((0 ≤ p ∧ p < zz S 0 2) ∧ (0 ≤ r ∧ r < zz S 0 1) ∧ (0 ≤ a ∧ a < zz S 0 0) → (0 ≤ m ∧ m ≤ 999) ∧ (1 ≤ s ∧ s ≤ 999) → oth (cv S 0) r.toNat a = -1 → T = S ∧ q = -1000000003) → ((0 ≤ p ∧ p < zz S 0 2) ∧ (0 ≤ r ∧ r < zz S 0 1) ∧ (0 ≤ a ∧ a < zz S 0 0) → (0 ≤ m ∧ m ≤ 999) ∧ (1 ≤ s ∧ s ≤ 999) → oth (cv S 0) r.toNat a ≠ -1 → ¬ zz S 63 0 < 20 → T = S ∧ q = -1000000004) → ((0 ≤ p ∧ p < zz S 0 2) ∧ (0 ≤ r ∧ r < zz S 0 1) ∧ (0 ≤ a ∧ a < zz S 0 0) → (0 ≤ m ∧ m ≤ 999) ∧ (1 ≤ s ∧ s ≤ 999) → oth (cv S 0) r.toNat a ≠ -1 → zz S 63 0 < 20 → T 63 0 = iI (zz S 63 0 + 1) ∧ T 64 n = iI p ∧ T 65 n = iI r ∧ T 66 n = iI a ∧ T 67 n = iI m ∧ T 68 n = iI s ∧ (∀ c k, k ≠ n → 64 ≤ c → T c k = S c k) ∧ q = iI (zz S 63 0 + 1)) → wp_X8_took (iI p) (iI r) (iI a) (iI m) (iI s) T (P q) := by
    intro T q hT1 q0 q1 q2 q3 q4
    unfold wp_X8_took
    intro S1 e1
    have fin : ∀ c2 : Int32, T = S ∧ q = c2 → P q c2 S1 := fun c2 h => CallOk.fin (S := S) hP (hI.sm (by rw [e1, h.1]; exact sm_thr S)) h.2
    have o1 : ∀ c k, ¬ (63 ≤ c ∧ c ≤ 68) → ¬ (c = 71 ∧ k = 0) → S1 c k = S c k := fun c k h1 h2 => by rw [e1, up_ne _ _ h2, hT1 c k h1]
    have z1' : ∀ c k, ¬ (63 ≤ c ∧ c ≤ 68) → ¬ (c = 71 ∧ k = 0) → zz S1 c k = zz S c k := fun c k h1 h2 => by unfold zz; rw [o1 c k h1 h2]
    have c10 : zz S1 71 10 = zz S 0 0 := (z1' _ _ (by omega) (by omega)).trans hH0.2.2.1
    have c11 : zz S1 71 11 = zz S 0 1 := (z1' _ _ (by omega) (by omega)).trans hH0.2.2.2.1
    have c12 : zz S1 71 12 = zz S 0 2 := (z1' _ _ (by omega) (by omega)).trans hH0.2.2.2.2.1
    refine s_X8_isPerson p1 p2 (by omega) (fun h1 h2 => ⟨fun e => absurd e (by decide), fun _ => ?_⟩) (fun h => ⟨fun _ => fin _ (q0 (by omega)), fun e => absurd rfl e⟩)
    refine s_X8_isRoad r1 r2 (by omega) (fun h3 h4 => ⟨fun e => absurd e (by decide), fun _ => ?_⟩) (fun h => ⟨fun _ => fin _ (q0 (by omega)), fun e => absurd rfl e⟩)
    refine s_X8_isPlace a1 a2 (by omega) (fun h5 h6 => ⟨fun _ => ?_, fun e => absurd e (by decide)⟩) (fun h => ⟨fun e => absurd rfl e, fun _ => fin _ (q0 (by omega))⟩)
    refine s_X8_in (a := 0) (b := 999) m1 m2 (by omega) (by omega) (by omega) (by omega) (fun h7 h8 => ⟨fun e => absurd e (by decide), fun _ => ?_⟩) (fun h => ⟨fun _ => fin _ (q1 (by omega) (by omega)), fun e => absurd rfl e⟩)
    refine s_X8_in (a := 1) (b := 999) s1 s2 (by omega) (by omega) (by omega) (by omega) (fun h9 h10 => ⟨fun _ => ?_, fun e => absurd e (by decide)⟩) (fun h => ⟨fun e => absurd rfl e, fun _ => fin _ (q1 (by omega) (by omega))⟩)
    obtain ⟨r9, rb, rm, _⟩ := hI.road (r := r.toNat) (by omega)
    have hr : iI r = iI (r.toNat : Int) := by congr 1; omega
    have hL75 : Lb (mz S 75) := Ag_Lb hI.1.2.2 hI.1.1
    have hAm : Ag (mz S 75) (mz S1 75) := by
      rw [mz_mg] at hL75 ⊢
      rw [mz_mg]
      exact mg_Ag hL75 (z1' _ _ (by omega) (by omega)) (z1' _ _ (by omega) (by omega)) (z1' _ _ (by omega) (by omega)) (fun j _ => z1' _ _ (by omega) (by omega)) (fun j _ => z1' _ _ (by omega) (by omega)) (fun j _ => z1' _ _ (by omega) (by omega))
    have hA : Ag (cv S 0) (mz S1 75) := hI.1.2.2.trans hAm
    have eo : oth (mz S1 75) r.toNat a = oth (cv S 0) r.toNat a := oth_Ag hA (by show (r.toNat : Int) < zz S 0 1; omega) a
    have ob := oth_b a rb hH0.1
    have g00 : cv S 0 0 0 = zz S 0 0 := rfl
    rw [g00] at ob
    have e25 : S1 71 25 = iI (zz S 63 0) := by rw [o1 _ _ (by omega) (by omega), et, ← zz_S]
    have key : ∀ v21 : Int32, v21 = ((5 : Int32) * (S1 71 25)) → oth (cv S 0) r.toNat a ≠ -1 → zz S 63 0 < 20 → vp_in v21 100 ∧ (∀ S22 : St, S22 = up S1 79 (ix v21) (iI p) → vp_in (v21 + 1) 100 ∧ (∀ S24 : St, S24 = up S22 79 (ix (v21 + 1)) (iI r) → vp_in (v21 + 2) 100 ∧ (∀ S26 : St, S26 = up S24 79 (ix (v21 + 2)) (iI a) → vp_in (v21 + 3) 100 ∧ (∀ S28 : St, S28 = up S26 79 (ix (v21 + 3)) (iI m) → vp_in (v21 + 4) 100 ∧ (∀ S30 : St, S30 = up S28 79 (ix (v21 + 4)) (iI s) → ∀ S32 : St, S32 = up S30 71 25 ((S30 71 25) + 1) → P q (S32 71 25) S32))))) := by
      intro v21 hv21 ho hc
      obtain ⟨w63, w64, w65, w66, w67, w68, wo, wq⟩ := q4 (by omega) (by omega) ho hc
      rw [e25, show (5 : Int32) = iI 5 from rfl, iI_mul] at hv21
      have x0 : ix v21 = 5 * n := by rw [hv21]; simp (disch := omega) only [iI_add, iI_sub, iI_mul, iI_le, iI_lt, iI_eq, iI_ix, iI_in, iI_neg, iI_lit]; omega
      have x1 : ix (v21 + 1) = 5 * n + 1 := by rw [hv21]; simp (disch := omega) only [iI_add, iI_sub, iI_mul, iI_le, iI_lt, iI_eq, iI_ix, iI_in, iI_neg, iI_lit]; omega
      have x2 : ix (v21 + 2) = 5 * n + 2 := by rw [hv21]; simp (disch := omega) only [iI_add, iI_sub, iI_mul, iI_le, iI_lt, iI_eq, iI_ix, iI_in, iI_neg, iI_lit]; omega
      have x3 : ix (v21 + 3) = 5 * n + 3 := by rw [hv21]; simp (disch := omega) only [iI_add, iI_sub, iI_mul, iI_le, iI_lt, iI_eq, iI_ix, iI_in, iI_neg, iI_lit]; omega
      have x4 : ix (v21 + 4) = 5 * n + 4 := by rw [hv21]; simp (disch := omega) only [iI_add, iI_sub, iI_mul, iI_le, iI_lt, iI_eq, iI_ix, iI_in, iI_neg, iI_lit]; omega
      have i0 : vp_in v21 100 := by rw [hv21]; simp (disch := omega) only [iI_add, iI_sub, iI_mul, iI_le, iI_lt, iI_eq, iI_ix, iI_in, iI_neg, iI_lit]; omega
      have i1 : vp_in (v21 + 1) 100 := by rw [hv21]; simp (disch := omega) only [iI_add, iI_sub, iI_mul, iI_le, iI_lt, iI_eq, iI_ix, iI_in, iI_neg, iI_lit]; omega
      have i2 : vp_in (v21 + 2) 100 := by rw [hv21]; simp (disch := omega) only [iI_add, iI_sub, iI_mul, iI_le, iI_lt, iI_eq, iI_ix, iI_in, iI_neg, iI_lit]; omega
      have i3 : vp_in (v21 + 3) 100 := by rw [hv21]; simp (disch := omega) only [iI_add, iI_sub, iI_mul, iI_le, iI_lt, iI_eq, iI_ix, iI_in, iI_neg, iI_lit]; omega
      have i4 : vp_in (v21 + 4) 100 := by rw [hv21]; simp (disch := omega) only [iI_add, iI_sub, iI_mul, iI_le, iI_lt, iI_eq, iI_ix, iI_in, iI_neg, iI_lit]; omega
      rw [x0, x1, x2, x3, x4]
      refine ⟨i0, fun S22 e22 => ⟨i1, fun S24 e24 => ⟨i2, fun S26 e26 => ⟨i3, fun S28 e28 => ⟨i4, fun S30 e30 S32 e32 => ?_⟩⟩⟩⟩⟩
      have e25' : S30 71 25 = iI (zz S 63 0) := by rw [e30, up_ne _ _ (by omega), e28, up_ne _ _ (by omega), e26, up_ne _ _ (by omega), e24, up_ne _ _ (by omega), e22, up_ne _ _ (by omega), e25]
      rw [e25', show (1 : Int32) = iI 1 from rfl, iI_add] at e32
      have o2 : ∀ c k, ¬ (c = 79 ∧ 5 * n ≤ k ∧ k ≤ 5 * n + 4) → ¬ (c = 71 ∧ k = 25) → S32 c k = S1 c k := by
        intro c k h1 h2
        rw [e32, up_ne _ _ h2, e30, up_ne _ _ (by omega), e28, up_ne _ _ (by omega), e26, up_ne _ _ (by omega), e24, up_ne _ _ (by omega), e22, up_ne _ _ (by omega)]
      have o3 : ∀ c k, ¬ (63 ≤ c ∧ c ≤ 68) → ¬ (c = 79 ∧ 5 * n ≤ k ∧ k ≤ 5 * n + 4) → ¬ (c = 71 ∧ (k = 25 ∨ k = 0)) → S32 c k = S c k := by
        intro c k h1 h2 h3
        rw [o2 c k h2 (by omega), o1 c k h1 (by omega)]
      have tT : ∀ c k, 63 ≤ c → c ≤ 68 → S32 c k = T c k := fun c k h1 h2 => by rw [o2 c k (by omega) (by omega), e1, up_ne _ _ (by omega)]
      have u0 : S32 79 (5 * n) = iI p := by rw [e32, up_ne _ _ (by omega), e30, up_ne _ _ (by omega), e28, up_ne _ _ (by omega), e26, up_ne _ _ (by omega), e24, up_ne _ _ (by omega), e22, up_at]
      have u1 : S32 79 (5 * n + 1) = iI r := by rw [e32, up_ne _ _ (by omega), e30, up_ne _ _ (by omega), e28, up_ne _ _ (by omega), e26, up_ne _ _ (by omega), e24, up_at]
      have u2 : S32 79 (5 * n + 2) = iI a := by rw [e32, up_ne _ _ (by omega), e30, up_ne _ _ (by omega), e28, up_ne _ _ (by omega), e26, up_at]
      have u3 : S32 79 (5 * n + 3) = iI m := by rw [e32, up_ne _ _ (by omega), e30, up_ne _ _ (by omega), e28, up_at]
      have u4 : S32 79 (5 * n + 4) = iI s := by rw [e32, up_ne _ _ (by omega), e30, up_at]
      have u25 : S32 71 25 = iI (zz S 63 0 + 1) := by rw [e32, up_at]
      have u63 : S32 63 0 = iI (zz S 63 0 + 1) := by rw [tT _ _ (by omega) (by omega), w63]
      have n0 : zz S32 0 0 = zz S 0 0 := by unfold zz; rw [o3 _ _ (by omega) (by omega) (by omega)]
      have n1 : zz S32 0 1 = zz S 0 1 := by unfold zz; rw [o3 _ _ (by omega) (by omega) (by omega)]
      have n2 : zz S32 0 2 = zz S 0 2 := by unfold zz; rw [o3 _ _ (by omega) (by omega) (by omega)]
      have hI2 : Inv S32 := by
        refine ⟨Inv_L hI (fun c k h => o3 c k (by omega) (by omega) (by omega)), Inv_T hI (fun c k h => o3 c k (by omega) (by omega) (by omega)), ?_, Inv_B hI (fun c k h => o3 c k (by omega) (by omega) (by omega)), Inv_I hI (fun c k h => o3 c k (by omega) (by omega) (by omega))⟩
        unfold InvK
        rw [zz_iI u25 (by omega) (by omega), zz_iI u63 (by omega) (by omega), n0, n1, n2]
        refine ⟨rfl, by omega, by omega, fun i hi => ?_⟩
        by_cases hii : i = n
        · subst hii
          rw [zz_iI u0 p1 p2, zz_iI u1 r1 r2, zz_iI u2 a1 a2, zz_iI u3 m1 m2, zz_iI u4 s1 s2, zz_iI ((tT 64 i (by omega) (by omega)).trans w64) p1 p2, zz_iI ((tT 65 i (by omega) (by omega)).trans w65) r1 r2, zz_iI ((tT 66 i (by omega) (by omega)).trans w66) a1 a2, zz_iI ((tT 67 i (by omega) (by omega)).trans w67) m1 m2, zz_iI ((tT 68 i (by omega) (by omega)).trans w68) s1 s2]
          exact ⟨⟨rfl, rfl, rfl, rfl, rfl⟩, by omega, by omega, by omega, by omega, by omega, by omega, by omega, by omega, by omega, by omega⟩
        · have h5 := t5 i (by omega)
          have v : ∀ c, 64 ≤ c → c ≤ 68 → zz S32 c i = zz S c i := fun c h1 h2 => by unfold zz; rw [tT c i (by omega) h2, wo c i hii h1]
          have v79 : ∀ j, j ≤ 4 → zz S32 79 (5 * i + j) = zz S 79 (5 * i + j) := fun j hj => by unfold zz; rw [o3 _ _ (by omega) (by omega) (by omega)]
          have v790 : zz S32 79 (5 * i) = zz S 79 (5 * i) := v79 0 (by omega)
          rw [v790, v79 1 (by omega), v79 2 (by omega), v79 3 (by omega), v79 4 (by omega), v 64 (by omega) (by omega), v 65 (by omega) (by omega), v 66 (by omega) (by omega), v 67 (by omega) (by omega), v 68 (by omega) (by omega)]
          exact h5
      exact CallOk.fin (S := S) hP hI2 (by rw [u25, wq])
    have k2 : wp_X8_otherEnd (iI (r.toNat : Int)) (iI a) S1 (fun r18 S17 => ((¬ r18 = (-1) → ((¬ (S17 71 25) = 20 → ∀ v21 : Int32, v21 = ((5 : Int32) * (S17 71 25)) → vp_in v21 100 ∧ (∀ S22 : St, S22 = up S17 79 (ix v21) (iI p) → vp_in (v21 + 1) 100 ∧ (∀ S24 : St, S24 = up S22 79 (ix (v21 + 1)) (iI r) → vp_in (v21 + 2) 100 ∧ (∀ S26 : St, S26 = up S24 79 (ix (v21 + 2)) (iI a) → vp_in (v21 + 3) 100 ∧ (∀ S28 : St, S28 = up S26 79 (ix (v21 + 3)) (iI m) → vp_in (v21 + 4) 100 ∧ (∀ S30 : St, S30 = up S28 79 (ix (v21 + 4)) (iI s) → ∀ S32 : St, S32 = up S30 71 25 ((S30 71 25) + 1) → P q (S32 71 25) S32)))))) ∧ ((S17 71 25) = 20 → P q (-1000000004) S17))) ∧ (r18 = (-1) → P q (-1000000003) S17))) := by
      refine s_X8_otherEnd (a0 := 75) r9 a1 a2 ?_
      rw [eo]
      have c20 : S1 71 25 = 20 ↔ zz S 63 0 = 20 := by rw [e25, show (20 : Int32) = iI 20 from rfl, iI_eq (by omega) (by omega) (by omega) (by omega)]
      have cm1 : iI (oth (cv S 0) r.toNat a) = -1 ↔ oth (cv S 0) r.toNat a = -1 := by rw [show (-1 : Int32) = iI (-1) from by decide, iI_eq (by omega) (by omega) (by omega) (by omega)]
      rw [c20, cm1]
      exact ⟨fun ho => ⟨fun hc v21 hv => key v21 hv ho (by omega), fun hc => fin _ (q3 (by omega) (by omega) ho (by omega))⟩, fun ho => fin _ (q2 (by omega) (by omega) ho)⟩
    rw [← hr] at k2
    exact k2
  unfold wp_X7_took
  refine s_X6_hasPerson p1 p2 (fun h1 h2 => ⟨fun e => absurd e (by decide), fun _ => ?_⟩) (fun h => ⟨fun _ => hG _ (M _ _ (fun _ _ _ => rfl) (fun _ => ⟨rfl, rfl⟩) (by omega) (by omega) (by omega) (by omega)), fun e => absurd rfl e⟩)
  refine s_X6_hasRoad r1 r2 (fun h3 h4 => ⟨fun e => absurd e (by decide), fun _ => ?_⟩) (fun h => ⟨fun _ => hG _ (M _ _ (fun _ _ _ => rfl) (fun _ => ⟨rfl, rfl⟩) (by omega) (by omega) (by omega) (by omega)), fun e => absurd rfl e⟩)
  refine s_X6_hasPlace a1 a2 (fun h5 h6 => ⟨fun _ => ?_, fun e => absurd e (by decide)⟩) (fun h => ⟨fun e => absurd rfl e, fun _ => hG _ (M _ _ (fun _ _ _ => rfl) (fun _ => ⟨rfl, rfl⟩) (by omega) (by omega) (by omega) (by omega))⟩)
  refine s_X7_outside (a := 0) (b := 999) m1 m2 (by omega) (by omega) (by omega) (by omega) (fun h7 h8 => ⟨fun e => absurd rfl e, fun _ => ?_⟩) (fun h => ⟨fun _ => hG _ (M _ _ (fun _ _ _ => rfl) (by omega) (fun _ _ => ⟨rfl, rfl⟩) (by omega) (by omega) (by omega)), fun e => absurd e (by decide)⟩)
  refine s_X7_outside (a := 1) (b := 999) s1 s2 (by omega) (by omega) (by omega) (by omega) (fun h9 h10 => ⟨fun _ => ?_, fun e => absurd rfl e⟩) (fun h => ⟨fun e => absurd e (by decide), fun _ => hG _ (M _ _ (fun _ _ _ => rfl) (by omega) (fun _ _ => ⟨rfl, rfl⟩) (by omega) (by omega) (by omega))⟩)
  obtain ⟨r9, rb, rm, _⟩ := hI.road (r := r.toNat) (by omega)
  have hr : iI r = iI (r.toNat : Int) := by congr 1; omega
  have ob := oth_b a rb hH0.1
  have g0 : cv S 0 0 0 = zz S 0 0 := rfl
  rw [g0] at ob
  have add : oth (cv S 0) r.toNat a ≠ -1 → wp_X2_add (iI p) (iI r) (iI a) (iI m) (iI s) S (fun r20 S19 => G (wp_X8_took (iI p) (iI r) (iI a) (iI m) (iI s) S19 (P r20))) := by
    intro ho
    unfold wp_X2_add
    have x1 : ix (S 63 0) = n := by rw [zz_S S 63 0, iI_ix t2 (by omega)]; exact hn
    have i1 : zz S 63 0 < 20 → vp_in (S 63 0) 20 := fun h => by rw [zz_S S 63 0, iI_in (by omega) (by omega)]; omega
    have c20 : S 63 0 < 20 ↔ zz S 63 0 < 20 := by rw [zz_S S 63 0, show (20 : Int32) = iI 20 from rfl, iI_lt (by omega) (by omega) (by omega) (by omega)]
    rw [c20]
    refine ⟨fun hc => ?_, fun hc => hG _ (M _ _ (fun _ _ _ => rfl) (by omega) (by omega) (fun _ _ e => absurd e ho) (fun _ _ _ _ => ⟨rfl, rfl⟩) (fun _ _ _ e => absurd e hc))⟩
    rw [x1]
    refine ⟨i1 hc, fun S2 e2 => ?_⟩
    have y2 : S2 63 0 = S 63 0 := by rw [e2, up_ne _ _ (by omega)]
    rw [y2, x1]
    refine ⟨i1 hc, fun S4 e4 => ?_⟩
    have y4 : S4 63 0 = S 63 0 := by rw [e4, up_ne _ _ (by omega), y2]
    rw [y4, x1]
    refine ⟨i1 hc, fun S6 e6 => ?_⟩
    have y6 : S6 63 0 = S 63 0 := by rw [e6, up_ne _ _ (by omega), y4]
    rw [y6, x1]
    refine ⟨i1 hc, fun S8 e8 => ?_⟩
    have y8 : S8 63 0 = S 63 0 := by rw [e8, up_ne _ _ (by omega), y6]
    rw [y8, x1]
    refine ⟨i1 hc, fun S10 e10 S12 e12 => hG _ (M _ _ (fun c k h => ?_) (by omega) (by omega) (fun _ _ e => absurd e ho) (fun _ _ _ e => absurd hc e) (fun _ _ _ _ => ⟨?_, ?_, ?_, ?_, ?_, ?_, ?_, ?_⟩))⟩
    · rw [e12, up_ne _ _ (by omega), e10, up_ne _ _ (by omega), e8, up_ne _ _ (by omega), e6, up_ne _ _ (by omega), e4, up_ne _ _ (by omega), e2, up_ne _ _ (by omega)]
    · rw [e12, up_at, e10, up_ne _ _ (by omega), y8, zz_S S 63 0, show (1 : Int32) = iI 1 from rfl, iI_add]
    · rw [e12, up_ne _ _ (by omega), e10, up_ne _ _ (by omega), e8, up_ne _ _ (by omega), e6, up_ne _ _ (by omega), e4, up_ne _ _ (by omega), e2, up_at]
    · rw [e12, up_ne _ _ (by omega), e10, up_ne _ _ (by omega), e8, up_ne _ _ (by omega), e6, up_ne _ _ (by omega), e4, up_at]
    · rw [e12, up_ne _ _ (by omega), e10, up_ne _ _ (by omega), e8, up_ne _ _ (by omega), e6, up_at]
    · rw [e12, up_ne _ _ (by omega), e10, up_ne _ _ (by omega), e8, up_at]
    · rw [e12, up_ne _ _ (by omega), e10, up_at]
    · intro c k h h2
      rw [e12, up_ne _ _ (by omega), e10, up_ne _ _ (by omega), e8, up_ne _ _ (by omega), e6, up_ne _ _ (by omega), e4, up_ne _ _ (by omega), e2, up_ne _ _ (by omega)]
    · rw [e12, up_at, e10, up_ne _ _ (by omega), y8, zz_S S 63 0, show (1 : Int32) = iI 1 from rfl, iI_add]
  have key : wp_X6_otherEnd 0 (iI (r.toNat : Int)) (iI a) S (fun r17 S16 => ((¬ r17 = (-1) → wp_X2_add (iI p) (iI r) (iI a) (iI m) (iI s) S16 (fun r20 S19 => G (wp_X8_took (iI p) (iI r) (iI a) (iI m) (iI s) S19 (P r20)))) ∧ (r17 = (-1) → G (wp_X8_took (iI p) (iI r) (iI a) (iI m) (iI s) S16 (P (-1000000003)))))) := by
    refine s_X6_otherEnd r9 a1 a2 ?_
    have cm1 : iI (oth (cv S 0) r.toNat a) = -1 ↔ oth (cv S 0) r.toNat a = -1 := by rw [show (-1 : Int32) = iI (-1) from by decide, iI_eq (by omega) (by omega) (by omega) (by omega)]
    rw [cm1]
    exact ⟨add, fun ho => hG _ (M _ _ (fun _ _ _ => rfl) (by omega) (by omega) (fun _ _ _ => ⟨rfl, rfl⟩) (fun _ _ e => absurd ho e) (fun _ _ e => absurd ho e))⟩
  rw [← hr] at key
  exact key
