/-! await, feed, write -/
theorem call_await (x1 x2 : Int32) : CallOk (wp_X7_await x1 x2) (wp_X8_await x1 x2) := by
  intro S hI G hG P hP
  obtain ⟨p, p1, p2, rfl⟩ := iI_ex x1
  obtain ⟨n, n1, n2, rfl⟩ := iI_ex x2
  have hH0 := hI.head
  obtain ⟨b0, b0', b1, b1', b2, b2', _⟩ := id hH0.1
  simp only [cv, Nat.add_zero] at b0 b0' b1 b1' b2 b2'
  have M : ∀ (T : St) (q : Int32), (∀ c k, (¬ (k = p.toNat ∧ (c = 8 ∨ c = 10))) → T c k = S c k) → (¬ (0 ≤ p ∧ p < zz S 0 2) → T = S ∧ q = -1000000001) → (0 ≤ p ∧ p < zz S 0 2 → ¬ (1 ≤ n ∧ n ≤ 999) → T = S ∧ q = -1000000002) → (0 ≤ p ∧ p < zz S 0 2 → 1 ≤ n ∧ n ≤ 999 → ¬ zz S 10 p.toNat ≤ 90000 → T = S ∧ q = -1000000004) → (0 ≤ p ∧ p < zz S 0 2 → 1 ≤ n ∧ n ≤ 999 → zz S 10 p.toNat ≤ 90000 → T 10 p.toNat = iI (zz S 10 p.toNat + n) ∧ T 8 p.toNat = iI (cal (cv S 0) (zz S 7 p.toNat) (zz S 8 p.toNat) n) ∧ q = T 10 p.toNat) → wp_X8_await (iI p) (iI n) T (P q) := by
    intro T q hT q0 q1 q2 q3
    unfold wp_X8_await
    intro S1 e1
    have hs : T = S → Sm S S1 := fun h => by rw [e1, h]; exact sm_thr S
    have o1 : ∀ c k, ¬ (k = p.toNat ∧ (c = 8 ∨ c = 10)) → ¬ (c = 71 ∧ k = 0) → S1 c k = S c k := fun c k h1 h2 => by rw [e1, up_ne _ _ h2, hT c k h1]
    have z1' : ∀ c k, ¬ (k = p.toNat ∧ (c = 8 ∨ c = 10)) → ¬ (c = 71 ∧ k = 0) → zz S1 c k = zz S c k := fun c k h1 h2 => by unfold zz; rw [o1 c k h1 h2]
    have fin : ∀ c2 : Int32, T = S ∧ q = c2 → P q c2 S1 := fun c2 h => CallOk.fin (S := S) hP (hI.sm (hs h.1)) h.2
    have c12 : zz S1 71 12 = zz S 0 2 := (z1' _ _ (by omega) (by omega)).trans hH0.2.2.2.2.1
    refine s_X8_isPerson p1 p2 (by omega) (fun h1 h2 => ⟨fun _ => ?_, fun e => absurd e (by decide)⟩) (fun h => ⟨fun e => absurd rfl e, fun _ => fin _ (q0 (by omega))⟩)
    refine s_X8_in (a := 1) (b := 999) n1 n2 (by omega) (by omega) (by omega) (by omega) (fun h9 h10 => ⟨fun _ => ?_, fun e => absurd e (by decide)⟩) (fun h => ⟨fun e => absurd rfl e, fun _ => fin _ (q1 (by omega) (by omega))⟩)
    obtain ⟨p4, pb, pm, pt, f1, f2, f3, f4, f5, f6, f7⟩ := hI.pers (p := p.toNat) (by omega)
    have hp : iI p = iI (p.toNat : Int) := by congr 1; omega
    have x3 : ix ((4 : Int32) * iI p + 3) = 4 * p.toNat + 3 := by
      simp (disch := omega) only [iI_add, iI_sub, iI_mul, iI_le, iI_lt, iI_eq, iI_ix, iI_in, iI_neg, iI_lit]; omega
    have i3 : vp_in ((4 : Int32) * iI p + 3) 28 := by
      simp (disch := omega) only [iI_add, iI_sub, iI_mul, iI_le, iI_lt, iI_eq, iI_ix, iI_in, iI_neg, iI_lit]; omega
    have g := pb
    obtain ⟨_, _, _, _, _, _, g1, g2, g3, g4, g5, g6⟩ := g
    simp only [cv, Nat.zero_add] at g1 g2 g3 g4 g5 g6
    have hL75 : Lb (mz S 75) := Ag_Lb hI.1.2.2 hI.1.1
    have hAm : Ag (mz S 75) (mz S1 75) := by
      rw [mz_mg] at hL75 ⊢
      rw [mz_mg]
      exact mg_Ag hL75 (z1' _ _ (by omega) (by omega)) (z1' _ _ (by omega) (by omega)) (z1' _ _ (by omega) (by omega)) (fun j _ => z1' _ _ (by omega) (by omega)) (fun j _ => z1' _ _ (by omega) (by omega)) (fun j _ => z1' _ _ (by omega) (by omega))
    have hA : Ag (cv S 0) (mz S1 75) := hI.1.2.2.trans hAm
    have hL1 : Lb (mz S1 75) := Ag_Lb hA hI.1.1
    have v0 : zz S1 75 (4 * p.toNat) = zz S 7 p.toNat := by unfold zz; rw [o1 _ _ (by omega) (by omega), f4]
    have v1 : zz S1 75 (4 * p.toNat + 1) = zz S 8 p.toNat := by unfold zz; rw [o1 _ _ (by omega) (by omega), f5]
    have v3 : zz S1 75 (4 * p.toNat + 3) = zz S 10 p.toNat := by unfold zz; rw [o1 _ _ (by omega) (by omega), f7]
    rw [x3, zz_S S1 75, v3]
    simp (disch := omega) only [show (90000 : Int32) = iI 90000 from rfl, iI_le]
    refine ⟨i3, fun hm => ?_, fun hm => fin _ (q2 (by omega) (by omega) hm)⟩
    obtain ⟨w10, w8, wq⟩ := q3 (by omega) (by omega) hm
    rw [hp]
    have n2' : mz S1 75 0 2 = zz S 0 2 := c12
    refine s_X8_await_loop hL1 (by rw [n2']; omega) (by omega) (by omega) (by omega) (by omega) ?_
    intro S' e3 e1' eo
    rw [v3] at e3
    rw [v0, v1, cal_Ag hA] at e1'
    have tc : ∀ c k, c ≤ 10 → S' c k = T c k := fun c k h1 => by rw [eo c k (by omega), e1, up_ne _ _ (by omega)]
    have cb := cal_b (v := cv S 0) (a := zz S 7 p.toNat) (c := zz S 8 p.toNat) (n := n) (by omega) g3 g4
    have hI2 : Inv S' := by
      refine Inv_p hI (p := p.toNat) (by omega) (fun c k hps h1 h2 => ?_) ?_ ?_ ?_ ?_ ?_ ?_ ?_ ?_
      · rw [eo c k (by omega), o1 c k (by omega) (by unfold ps at hps; omega)]
      · rw [eo 75 _ (by omega), o1 _ _ (by omega) (by omega), f4, tc 7 _ (by omega), hT _ _ (by omega)]
      · rw [e1', tc 8 _ (by omega), w8]
      · rw [eo 75 _ (by omega), o1 _ _ (by omega) (by omega), f6, tc 9 _ (by omega), hT _ _ (by omega)]
      · rw [e3, tc 10 _ (by omega), w10]
      · rw [show zz S' 7 p.toNat = zz S 7 p.toNat by unfold zz; rw [tc 7 _ (by omega), hT _ _ (by omega)]]; exact ⟨g1, g2⟩
      · rw [zz_iI ((tc 8 _ (by omega)).trans w8) (by omega) (by omega)]; exact cb
      · rw [show zz S' 9 p.toNat = zz S 9 p.toNat by unfold zz; rw [tc 9 _ (by omega), hT _ _ (by omega)]]; exact ⟨g5, g6⟩
      · rw [zz_iI ((tc 10 _ (by omega)).trans w10) (by omega) (by omega)]; omega
    refine CallOk.fin (S := S) hP hI2 ?_
    rw [e3, ← w10]
    exact wq
  unfold wp_X7_await
  refine s_X6_hasPerson p1 p2 (fun h1 h2 => ⟨fun _ => ?_, fun e => absurd e (by decide)⟩) (fun h => ⟨fun e => absurd rfl e, fun _ => hG _ (M _ _ (fun _ _ _ => rfl) (fun _ => ⟨rfl, rfl⟩) (by omega) (by omega) (by omega))⟩)
  refine s_X7_outside (a := 1) (b := 999) n1 n2 (by omega) (by omega) (by omega) (by omega) (fun h9 h10 => ⟨fun _ => ?_, fun e => absurd rfl e⟩) (fun h => ⟨fun e => absurd e (by decide), fun _ => hG _ (M _ _ (fun _ _ _ => rfl) (by omega) (fun _ _ => ⟨rfl, rfl⟩) (by omega) (by omega))⟩)
  obtain ⟨p4, pb, pm, pt, _⟩ := hI.pers (p := p.toNat) (by omega)
  have hp : iI p = iI (p.toNat : Int) := by congr 1; omega
  have xp : ix (iI p) = p.toNat := iI_ix h1 p2
  have ip : vp_in (iI p) 4 := (iI_in p1 p2).mpr ⟨h1, by omega⟩
  generalize hWm : wp_X8_await (iI p) (iI n) = Wm at *
  rw [xp, zz_S S 10]
  simp (disch := omega) only [show (90000 : Int32) = iI 90000 from rfl, iI_le]
  refine ⟨ip, fun hm => ?_, fun hm => hG _ (M _ _ (fun _ _ _ => rfl) (by omega) (by omega) (fun _ _ _ => ⟨rfl, rfl⟩) (by omega))⟩
  have ip' := ip
  rw [hp] at ip'
  rw [hp]
  refine s_X6_rest hH0.1 pb p4 (by omega) (by omega) ?_
  intro S' e'
  simp only [Nat.zero_add] at e'
  refine ⟨ip', hG _ (M _ _ (fun c k h => ?_) (by omega) (by omega) (by omega) (fun _ _ _ => ⟨?_, ?_, rfl⟩))⟩
  · rw [e', up_ne _ _ (by omega), up_ne _ _ (by omega)]
  · rw [e', up_ne _ _ (by omega), up_at]
  · rw [e', up_at]
theorem Inv_L {S T : St} (h : Inv S) (hs : ∀ c k, c ≤ 10 ∨ c = 75 ∨ (c = 71 ∧ (k = 10 ∨ k = 11 ∨ k = 12)) ∨ (c = 73 ∧ k < 27) ∨ (c = 74 ∧ k < 20) → T c k = S c k) : InvL T := by
  obtain ⟨⟨hL, hM, hA⟩, _⟩ := id h
  have e : ∀ c k, c ≤ 10 ∨ c = 75 ∨ (c = 71 ∧ (k = 10 ∨ k = 11 ∨ k = 12)) ∨ (c = 73 ∧ k < 27) ∨ (c = 74 ∧ k < 20) → zz T c k = zz S c k := fun c k q1 => by unfold zz; rw [hs c k q1]
  have a0 : Ag (cv S 0) (cv T 0) := cv_Ag hL (fun f k hf _ _ _ => hs _ _ (by omega))
  refine ⟨Ag_Lb a0 hL, Ag_Mb a0 hM, a0.symm.trans (hA.trans ?_)⟩
  rw [mz_mg] at hA ⊢
  rw [mz_mg]
  exact mg_Ag (Ag_Lb hA hL) (e _ _ (by omega)) (e _ _ (by omega)) (e _ _ (by omega)) (fun j _ => e _ _ (by omega)) (fun j _ => e _ _ (by omega)) (fun j _ => e _ _ (by omega))
theorem Inv_I {S T : St} (h : Inv S) (hs : ∀ c k, (22 ≤ c ∧ c ≤ 43) ∨ c = 46 ∨ c = 77 ∨ c = 78 ∨ (c = 71 ∧ (k = 10 ∨ k = 11 ∨ k = 12)) ∨ (c = 73 ∧ k < 27) ∨ (c = 74 ∧ k < 20) → T c k = S c k) : InvI T := by
  obtain ⟨_, _, _, _, hI⟩ := h
  have e : ∀ c k, (22 ≤ c ∧ c ≤ 43) ∨ c = 46 ∨ c = 77 ∨ c = 78 ∨ (c = 71 ∧ (k = 10 ∨ k = 11 ∨ k = 12)) ∨ (c = 73 ∧ k < 27) ∨ (c = 74 ∧ k < 20) → zz T c k = zz S c k := fun c k q1 => by unfold zz; rw [hs c k q1]
  intro i hi
  obtain ⟨h1, h2, h3⟩ := hI i hi
  rw [e 78 i (by omega), e 46 i (by omega)]
  refine ⟨h1, h2, fun q => ?_⟩
  obtain ⟨g1, g2, g3⟩ := h3 q
  have a1 : Ag (cv S (22 + 11 * i)) (cv T (22 + 11 * i)) := cv_Ag g1 (fun f k hf _ _ _ => hs _ _ (by omega))
  exact ⟨Ag_Lb a1 g1, Ag_Mb a1 g2, a1.symm.trans (g3.trans (mg_Ag (Ag_Lb g3 g1) (e _ _ (by omega)) (e _ _ (by omega)) (e _ _ (by omega)) (fun j _ => e _ _ (by omega)) (fun j _ => e _ _ (by omega)) (fun j _ => e _ _ (by omega))))⟩
theorem Inv_T {S T : St} (h : Inv S) (hs : ∀ c k, (c = 71 ∧ (k = 2 ∨ k = 9)) ∨ (c = 48 ∧ (k = 1 ∨ k = 2)) ∨ c = 49 ∨ c = 72 → T c k = S c k) : InvT T := by
  obtain ⟨_, ⟨q1, q2, q3, q4, q5⟩, _⟩ := h
  have e : ∀ c k, (c = 71 ∧ (k = 2 ∨ k = 9)) ∨ (c = 48 ∧ (k = 1 ∨ k = 2)) ∨ c = 49 ∨ c = 72 → zz T c k = zz S c k := fun c k q1 => by unfold zz; rw [hs c k q1]
  unfold InvT
  rw [e 71 2 (by omega), e 48 1 (by omega), e 71 9 (by omega), e 48 2 (by omega)]
  refine ⟨q1, q2, q3, q4, fun k hk => ?_⟩
  rw [e 72 k (by omega), e 49 k (by omega)]
  exact q5 k hk
theorem Inv_K {S T : St} (h : Inv S) (hs : ∀ c k, (c = 71 ∧ k = 25) ∨ (63 ≤ c ∧ c ≤ 68) ∨ c = 79 ∨ (c = 0 ∧ k ≤ 2) → T c k = S c k) : InvK T := by
  obtain ⟨_, _, ⟨q1, q2, q3, q4⟩, _⟩ := h
  have e : ∀ c k, (c = 71 ∧ k = 25) ∨ (63 ≤ c ∧ c ≤ 68) ∨ c = 79 ∨ (c = 0 ∧ k ≤ 2) → zz T c k = zz S c k := fun c k q1 => by unfold zz; rw [hs c k q1]
  unfold InvK
  rw [e 71 25 (by omega), e 63 0 (by omega)]
  refine ⟨q1, q2, q3, fun i hi => ?_⟩
  rw [e 79 _ (by omega), e 79 (5 * i + 1) (by omega), e 79 (5 * i + 2) (by omega), e 79 (5 * i + 3) (by omega), e 79 (5 * i + 4) (by omega), e 64 i (by omega), e 65 i (by omega), e 66 i (by omega), e 67 i (by omega), e 68 i (by omega), e 0 0 (by omega), e 0 1 (by omega), e 0 2 (by omega)]
  exact q4 i hi
theorem Inv_B {S T : St} (h : Inv S) (hs : ∀ c k, (c = 71 ∧ k = 27) ∨ c = 69 ∨ c = 70 ∨ c = 80 ∨ (c = 0 ∧ k = 1) → T c k = S c k) : InvB T := by
  obtain ⟨_, _, _, ⟨q1, q2, q3, q4⟩, _⟩ := h
  have e : ∀ c k, (c = 71 ∧ k = 27) ∨ c = 69 ∨ c = 70 ∨ c = 80 ∨ (c = 0 ∧ k = 1) → zz T c k = zz S c k := fun c k q1 => by unfold zz; rw [hs c k q1]
  unfold InvB
  rw [e 71 27 (by omega), e 69 0 (by omega)]
  refine ⟨q1, q2, q3, fun i hi => ?_⟩
  unfold StepOk
  rw [e 80 i (by omega), e 70 i (by omega), e 0 1 (by omega)]
  exact q4 i hi
