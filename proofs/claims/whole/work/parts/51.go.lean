/-! takes, go, await -/
theorem call_takes (x1 x2 x3 x4 x5 : Int32) : CallOk (wp_X7_takes x1 x2 x3 x4 x5) (wp_X8_takes x1 x2 x3 x4 x5) := by
  intro S hI G hG P hP
  obtain ⟨p, p1, p2, rfl⟩ := iI_ex x1
  obtain ⟨r, r1, r2, rfl⟩ := iI_ex x2
  obtain ⟨a, a1, a2, rfl⟩ := iI_ex x3
  obtain ⟨m, m1, m2, rfl⟩ := iI_ex x4
  obtain ⟨s, s1, s2, rfl⟩ := iI_ex x5
  have hH0 := hI.head
  obtain ⟨b0, b0', b1, b1', b2, b2', _⟩ := id hH0.1
  simp only [cv, Nat.add_zero] at b0 b0' b1 b1' b2 b2'
  have M : ∀ q : Int32, (¬ ((0 ≤ p ∧ p < zz S 0 2) ∧ (0 ≤ r ∧ r < zz S 0 1) ∧ (0 ≤ a ∧ a < zz S 0 0)) → q = -1000000001) → ((0 ≤ p ∧ p < zz S 0 2) ∧ (0 ≤ r ∧ r < zz S 0 1) ∧ (0 ≤ a ∧ a < zz S 0 0) → ¬ ((0 ≤ m ∧ m ≤ 99999) ∧ (0 ≤ s ∧ s ≤ 5)) → q = -1000000002) → ((0 ≤ p ∧ p < zz S 0 2) ∧ (0 ≤ r ∧ r < zz S 0 1) ∧ (0 ≤ a ∧ a < zz S 0 0) → (0 ≤ m ∧ m ≤ 99999) ∧ (0 ≤ s ∧ s ≤ 5) → oth (cv S 0) r.toNat a = -1 → q = -1000000003) → ((0 ≤ p ∧ p < zz S 0 2) ∧ (0 ≤ r ∧ r < zz S 0 1) ∧ (0 ≤ a ∧ a < zz S 0 0) → (0 ≤ m ∧ m ≤ 99999) ∧ (0 ≤ s ∧ s ≤ 5) → oth (cv S 0) r.toNat a ≠ -1 → q = iI (tme (cv S 0) p.toNat r.toNat a m s)) → wp_X8_takes (iI p) (iI r) (iI a) (iI m) (iI s) S (P q) := by
    intro q q0 q1 q2 q3
    unfold wp_X8_takes
    intro S1 e1
    have hs := sm_thr S
    rw [← e1] at hs
    have hI1 := hI.sm hs
    have fin : ∀ c2 : Int32, q = c2 → P q c2 S1 := fun c2 h => CallOk.fin (S := S) hP hI1 h
    have n0 : zz S1 0 0 = zz S 0 0 := hh_zz hs (by unfold ps; omega)
    have n1 : zz S1 0 1 = zz S 0 1 := hh_zz hs (by unfold ps; omega)
    have n2 : zz S1 0 2 = zz S 0 2 := hh_zz hs (by unfold ps; omega)
    have hH1 := hI1.head
    have c10 := hH1.2.2.1
    have c11 := hH1.2.2.2.1
    have c12 := hH1.2.2.2.2.1
    refine s_X8_isPerson p1 p2 (by omega) (fun h1 h2 => ⟨fun e => absurd e (by decide), fun _ => ?_⟩) (fun h => ⟨fun _ => fin _ (q0 (by omega)), fun e => absurd rfl e⟩)
    refine s_X8_isRoad r1 r2 (by omega) (fun h3 h4 => ⟨fun e => absurd e (by decide), fun _ => ?_⟩) (fun h => ⟨fun _ => fin _ (q0 (by omega)), fun e => absurd rfl e⟩)
    refine s_X8_isPlace a1 a2 (by omega) (fun h5 h6 => ⟨fun _ => ?_, fun e => absurd e (by decide)⟩) (fun h => ⟨fun e => absurd rfl e, fun _ => fin _ (q0 (by omega))⟩)
    refine s_X8_in (a := 0) (b := 99999) m1 m2 (by omega) (by omega) (by omega) (by omega) (fun h7 h8 => ⟨fun e => absurd e (by decide), fun _ => ?_⟩) (fun h => ⟨fun _ => fin _ (q1 (by omega) (by omega)), fun e => absurd rfl e⟩)
    refine s_X8_in (a := 0) (b := 5) s1 s2 (by omega) (by omega) (by omega) (by omega) (fun h9 h10 => ⟨fun _ => ?_, fun e => absurd e (by decide)⟩) (fun h => ⟨fun e => absurd rfl e, fun _ => fin _ (q1 (by omega) (by omega))⟩)
    obtain ⟨p4, pb, pm, _⟩ := hI1.pers (p := p.toNat) (by omega)
    obtain ⟨r9, rb, rm, _⟩ := hI1.road (r := r.toNat) (by omega)
    have hp : iI p = iI (p.toNat : Int) := by congr 1; omega
    have hr : iI r = iI (r.toNat : Int) := by congr 1; omega
    rw [hp, hr]
    have hA : Ag (cv S 0) (mz S1 75) := (cv_Ag hI.1.1 (fun f k hf _ _ _ => hs _ _ (by unfold ps; omega))).trans hI1.1.2.2
    have eo : oth (mz S1 75) r.toNat a = oth (cv S 0) r.toNat a := oth_Ag hA (by show (r.toNat : Int) < zz S 0 1; omega) a
    have et : tme (mz S1 75) p.toNat r.toNat a m s = tme (cv S 0) p.toNat r.toNat a m s := tme_Ag hA (by show (p.toNat : Int) < zz S 0 2; omega) (by show (r.toNat : Int) < zz S 0 1; omega) a m s
    refine s_X8_otherEnd (a0 := 75) r9 a1 a2 ?_
    rw [eo]
    have ob := oth_b a rm hH1.2.1
    rw [eo] at ob
    have g0 : mz S1 75 0 0 = zz S 0 0 := c10.trans n0
    rw [g0] at ob
    simp (disch := omega) only [iI_add, iI_sub, iI_mul, iI_le, iI_lt, iI_eq, iI_ix, iI_in, iI_neg, iI_lit]
    refine ⟨fun ho => ?_, fun ho => fin _ (q2 (by omega) (by omega) ho)⟩
    refine s_X8_time hH1.2.1 pm rm p4 r9 h5 (by omega) (by omega) (by omega) h9 (by omega) ?_
    rw [et]
    exact fin _ (q3 (by omega) (by omega) ho)
  unfold wp_X7_takes
  refine s_X6_hasPerson p1 p2 (fun h1 h2 => ⟨fun e => absurd e (by decide), fun _ => ?_⟩) (fun h => ⟨fun _ => hG _ (M _ (fun _ => rfl) (by omega) (by omega) (by omega)), fun e => absurd rfl e⟩)
  refine s_X6_hasRoad r1 r2 (fun h3 h4 => ⟨fun e => absurd e (by decide), fun _ => ?_⟩) (fun h => ⟨fun _ => hG _ (M _ (fun _ => rfl) (by omega) (by omega) (by omega)), fun e => absurd rfl e⟩)
  refine s_X6_hasPlace a1 a2 (fun h5 h6 => ⟨fun _ => ?_, fun e => absurd e (by decide)⟩) (fun h => ⟨fun e => absurd rfl e, fun _ => hG _ (M _ (fun _ => rfl) (by omega) (by omega) (by omega))⟩)
  refine s_X7_outside (a := 0) (b := 99999) m1 m2 (by omega) (by omega) (by omega) (by omega) (fun h7 h8 => ⟨fun e => absurd rfl e, fun _ => ?_⟩) (fun h => ⟨fun _ => hG _ (M _ (by omega) (fun _ _ => rfl) (by omega) (by omega)), fun e => absurd e (by decide)⟩)
  refine s_X7_outside (a := 0) (b := 5) s1 s2 (by omega) (by omega) (by omega) (by omega) (fun h9 h10 => ⟨fun _ => ?_, fun e => absurd rfl e⟩) (fun h => ⟨fun e => absurd e (by decide), fun _ => hG _ (M _ (by omega) (fun _ _ => rfl) (by omega) (by omega))⟩)
  obtain ⟨p4, pb, pm, _⟩ := hI.pers (p := p.toNat) (by omega)
  obtain ⟨r9, rb, rm, _⟩ := hI.road (r := r.toNat) (by omega)
  have hp : iI p = iI (p.toNat : Int) := by congr 1; omega
  have hr : iI r = iI (r.toNat : Int) := by congr 1; omega
  have ob := oth_b a rb hH0.1
  have g0 : cv S 0 0 0 = zz S 0 0 := rfl
  rw [g0] at ob
  have key : wp_X6_otherEnd 0 (iI (r.toNat : Int)) (iI a) S (fun r17 S16 => ((¬ r17 = (-1) → wp_X6_lasts 0 (iI (p.toNat : Int)) (iI (r.toNat : Int)) (iI a) (iI m) (iI s) S16 (fun r20 S19 => G (wp_X8_takes (iI p) (iI r) (iI a) (iI m) (iI s) S19 (P r20)))) ∧ (r17 = (-1) → G (wp_X8_takes (iI p) (iI r) (iI a) (iI m) (iI s) S16 (P (-1000000003)))))) := by
    refine s_X6_otherEnd r9 a1 a2 ?_
    simp (disch := omega) only [iI_neg, iI_lit, iI_eq]
    refine ⟨fun ho => ?_, fun ho => hG _ (M _ (by omega) (by omega) (fun _ _ _ => rfl) (fun _ _ e => absurd ho e))⟩
    exact s_X6_lasts hH0.1 pb rb p4 r9 h5 (by omega) (by omega) (by omega) h9 (by omega) (hG _ (M _ (by omega) (by omega) (fun _ _ e => absurd e ho) (fun _ _ _ => rfl)))
  rw [← hp, ← hr] at key
  exact key
