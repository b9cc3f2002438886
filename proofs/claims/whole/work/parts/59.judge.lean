/-! judge: the reference's half, the call -/
theorem sv_76 {T T' : St} {p : Nat} (hp : p < 4) (hH : Hb (mz T 76)) (zT : ∀ c k, ¬ (c = 76 ∧ (k = 4 * p ∨ k = 4 * p + 1 ∨ k = 4 * p + 3)) → zz T' c k = zz T c k) : Sv (mz T 76) (mz T' 76) := by
  obtain ⟨_, _, _, b1', _, b2', _⟩ := hH
  refine ⟨fun k hk => ?_, fun r hr => ⟨?_, ?_, ?_⟩, fun q hq => ⟨?_, ?_, ?_, ?_⟩⟩
  · have : k = 0 ∨ k = 1 ∨ k = 2 ∨ k = 3 ∨ k = 4 ∨ k = 5 := by omega
    rcases this with rfl | rfl | rfl | rfl | rfl | rfl <;> exact zT _ _ (by omega)
  all_goals exact zT _ _ (by omega)
theorem s_X8_judge {v : Vw} {p n : Nat} {st : Nat → Int} {x2 : Int32} {post : Int32 → St → Prop} (hJ : Jd v p st n) : ∀ (d i : Nat) (T : St), i + d = n → T 71 27 = iI (n : Int) → (∀ j, j < n → T 80 j = iI (st j)) → Sv v (mz T 76) → 0 ≤ zz T 76 (4 * p) ∧ zz T 76 (4 * p) < v 0 0 → 0 ≤ zz T 76 (4 * p + 1) ∧ zz T 76 (4 * p + 1) ≤ 5 → 0 ≤ zz T 76 (4 * p + 3) ∧ zz T 76 (4 * p + 3) ≤ 100000 + 300 * i → (∀ T' : St, (∀ c k, c ≠ 76 → T' c k = T c k) → zz T' 76 (4 * p + 3) = (jdF v p st d i (zz T 76 (4 * p)) (zz T 76 (4 * p + 1)) (zz T 76 (4 * p + 3))).2 → B_X8_judge_164 post (iI p) x2 (iI (jdF v p st d i (zz T 76 (4 * p)) (zz T 76 (4 * p + 1)) (zz T 76 (4 * p + 3))).1) T') → L_X8_judge_37 post (d + 2) (iI p) x2 (-1) (iI i) T := by
  obtain ⟨hL, hp, hn, hst⟩ := hJ
  have hb := hL.1
  obtain ⟨b0, b0', b1, b1', b2, b2', _⟩ := id hb
  have x0 : ix ((4 : Int32) * iI p) = 4 * p := by
    simp (disch := omega) only [iI_add, iI_sub, iI_mul, iI_le, iI_lt, iI_eq, iI_ix, iI_in, iI_neg, iI_lit]; omega
  have x1 : ix ((4 : Int32) * iI p + 1) = 4 * p + 1 := by
    simp (disch := omega) only [iI_add, iI_sub, iI_mul, iI_le, iI_lt, iI_eq, iI_ix, iI_in, iI_neg, iI_lit]; omega
  have i0 : vp_in ((4 : Int32) * iI p) 28 := by
    simp (disch := omega) only [iI_add, iI_sub, iI_mul, iI_le, iI_lt, iI_eq, iI_ix, iI_in, iI_neg, iI_lit]; omega
  have i1 : vp_in ((4 : Int32) * iI p + 1) 28 := by
    simp (disch := omega) only [iI_add, iI_sub, iI_mul, iI_le, iI_lt, iI_eq, iI_ix, iI_in, iI_neg, iI_lit]; omega
  intro d
  induction d with
  | zero =>
    intro i T hi e71 e80 hS h7 h8 h10 h
    show BD_X8_judge_37 (L_X8_judge_37 post 1) post _ _ _ _ _
    unfold BD_X8_judge_37
    rw [e71, iI_le (by omega) (by omega) (by omega) (by omega)]
    exact ⟨fun _ => h T (fun _ _ _ => rfl) rfl, fun e => absurd (by omega) e⟩
  | succ d ih =>
    intro i T hi e71 e80 hS h7 h8 h10 h
    show BD_X8_judge_37 (L_X8_judge_37 post (d + 2)) post _ _ _ _ _
    unfold BD_X8_judge_37
    have xi : ix (iI (i : Int)) = i := by rw [iI_ix (by omega) (by omega)]; simp
    have ii : vp_in (iI (i : Int)) 30 := (iI_in (by omega) (by omega)).mpr ⟨by omega, by omega⟩
    have hsi := hst i (by omega)
    have hz : -2 ≤ st i ∧ st i ≤ 1000 := by omega
    have g7 : mz T 76 7 p = zz T 76 (4 * p) := rfl
    have g8 : mz T 76 8 p = zz T 76 (4 * p + 1) := rfl
    have hH := Sv_Hb hS hb
    have hP : Pb (mz T 76) p := Sv_Pb hS hp (hL.2.2 p hp) (by rw [g7]; exact h7) (by rw [g8]; exact h8)
    have e80i := e80 i (by omega)
    have ei1 : iI (i : Int) + 1 = iI ((i : Int) + 1) := by rw [show (1 : Int32) = iI 1 from rfl, iI_add]
    rw [e71, iI_le (by omega) (by omega) (by omega) (by omega)]
    refine ⟨fun e => absurd e (by omega), fun _ => ⟨fun e => absurd rfl e, fun _ => ⟨ii, ?_⟩⟩⟩
    rw [xi, x0, e80i, show (-2 : Int32) = iI (-2) from by decide, iI_eq (by omega) (by omega) (by omega) (by omega), ei1]
    have stop : (jdF v p st (d + 1) i (zz T 76 (4 * p)) (zz T 76 (4 * p + 1)) (zz T 76 (4 * p + 3))) = ((i : Int), zz T 76 (4 * p + 3)) → L_X8_judge_37 post (d + 2) (iI p) x2 (iI i) (iI (i + 1)) T := by
      intro e
      rw [e] at h
      show BD_X8_judge_37 (L_X8_judge_37 post (d + 1)) post _ _ _ _ _
      unfold BD_X8_judge_37
      refine ⟨fun _ => h T (fun _ _ _ => rfl) rfl, fun _ => ⟨fun _ => h T (fun _ _ _ => rfl) rfl, fun e => absurd e ?_⟩⟩
      rw [show (-1 : Int32) = iI (-1) from by decide, iI_eq (by omega) (by omega) (by omega) (by omega)]
      omega
    constructor
    · intro hne
      have hs0 : 0 ≤ st i ∧ st i / 10 < v 0 1 ∧ st i % 10 ≤ 5 := by omega
      obtain ⟨r, hr⟩ : ∃ r : Nat, st i / 10 = (r : Int) := ⟨(st i / 10).toNat, by omega⟩
      have hr2 : (st i / 10).toNat = r := by omega
      have r9 : r < 9 := by omega
      have rv : (r : Int) < v 0 1 := by omega
      have rb : Rb (mz T 76) r := Sv_Rb hS rv (hL.2.1 r rv)
      rw [show (10 : Int32) = iI 10 from rfl, iI_div (by omega) (by omega) (by omega) (by omega), hr]
      have eo : oth (mz T 76) r (zz T 76 (4 * p)) = oth v r (zz T 76 (4 * p)) := oth_Sv hS rv _
      have et : tme (mz T 76) p r (zz T 76 (4 * p)) (zz T 76 (4 * p + 3)) (st i % 10) = tme v p r (zz T 76 (4 * p)) (zz T 76 (4 * p + 3)) (st i % 10) := tme_Sv hS hp rv _ _ _
      have ob := oth_b (zz T 76 (4 * p)) (hL.2.1 r rv) hb
      refine ⟨ii, i0, ?_⟩
      rw [zz_S T 76 (4 * p)]
      refine s_X8_otherEnd (a0 := 76) r9 (by omega) (by omega) ?_
      rw [eo]
      rw [show (-1 : Int32) = iI (-1) from by decide, iI_eq (by omega) (by omega) (by omega) (by omega)]
      refine ⟨fun ho => stop (jd_x hne (by rw [hr2]; exact fun q => q.1 ho)), fun ho => ⟨ii, ?_⟩⟩
      rw [e80i, iI_div (by omega) (by omega) (by omega) (by omega), hr, iI_mul, iI_sub, show st i - (r : Int) * 10 = st i % 10 from by omega, x1, zz_S T 76 (4 * p + 1)]
      refine ⟨i1, ?_⟩
      rw [iI_le (by omega) (by omega) (by omega) (by omega)]
      refine ⟨fun hc => ⟨ii, ii, ?_⟩, fun hc => stop (jd_x hne (fun q => hc q.2))⟩
      have tb := tme_b (v := v) (p := p) (r := r) (zz T 76 (4 * p)) (zz T 76 (4 * p + 3)) (s := st i % 10) (hL.2.2 p hp) (hL.2.1 r rv) (by omega)
      refine s_X8_goes (a0 := 76) (by omega) (by omega) hH hP rb (by omega) r9 (by omega) (by omega) h10.1 (by omega) ?_
      intro T' e'
      rw [eo, et] at e'
      have z0 : zz T' 76 (4 * p) = oth v r (zz T 76 (4 * p)) := zz_iI (by rw [e', up_at]) (by omega) (by omega)
      have z1 : zz T' 76 (4 * p + 1) = zz T 76 (4 * p + 1) - st i % 10 := zz_iI (by rw [e', up_ne _ _ (by omega), up_at]) (by omega) (by omega)
      have z3 : zz T' 76 (4 * p + 3) = zz T 76 (4 * p + 3) + tme v p r (zz T 76 (4 * p)) (zz T 76 (4 * p + 3)) (st i % 10) := zz_iI (by rw [e', up_ne _ _ (by omega), up_ne _ _ (by omega), up_at]) (by omega) (by omega)
      have oT : ∀ c k, ¬ (c = 76 ∧ (k = 4 * p ∨ k = 4 * p + 1 ∨ k = 4 * p + 3)) → T' c k = T c k := fun c k hh => by rw [e', up_ne _ _ (by omega), up_ne _ _ (by omega), up_ne _ _ (by omega)]
      have zT : ∀ c k, ¬ (c = 76 ∧ (k = 4 * p ∨ k = 4 * p + 1 ∨ k = 4 * p + 3)) → zz T' c k = zz T c k := fun c k hh => by unfold zz; rw [oT c k hh]
      have hS' : Sv v (mz T' 76) := hS.trans (sv_76 (by omega) hH zT)
      refine ih (i + 1) T' (by omega) (by rw [oT _ _ (by omega), e71]) (fun j hj => by rw [oT _ _ (by omega), e80 j hj]) hS' (by rw [z0]; omega) (by rw [z1]; omega) (by rw [z3]; omega) ?_
      intro T'' o2 h2
      have hjd := jd_g (v := v) (p := p) (d := d) (i := i) (a := zz T 76 (4 * p)) (c := zz T 76 (4 * p + 1)) (t := zz T 76 (4 * p + 3)) hne (by rw [hr2]; exact ⟨ho, hc⟩)
      rw [hr2] at hjd
      rw [z0, z1, z3, ← hjd] at h2 ⊢
      exact h T'' (fun c k hh => by rw [o2 c k hh, oT c k (by omega)]) h2
    · intro heq
      refine s_X8_waits (a0 := 76) hH hP (by omega) ?_
      intro T' e'
      rw [cal_Sv hS] at e'
      have cb := cal_b (v := v) (a := zz T 76 (4 * p)) (c := zz T 76 (4 * p + 1)) (n := 1) (by omega) h8.1 h8.2
      have z1 : zz T' 76 (4 * p + 1) = cal v (zz T 76 (4 * p)) (zz T 76 (4 * p + 1)) 1 := zz_iI (by rw [e', up_at]) (by omega) (by omega)
      have z3 : zz T' 76 (4 * p + 3) = zz T 76 (4 * p + 3) + 1 := zz_iI (by rw [e', up_ne _ _ (by omega), up_at]) (by omega) (by omega)
      have oT : ∀ c k, ¬ (c = 76 ∧ (k = 4 * p + 1 ∨ k = 4 * p + 3)) → T' c k = T c k := fun c k hh => by rw [e', up_ne _ _ (by omega), up_ne _ _ (by omega)]
      have zT : ∀ c k, ¬ (c = 76 ∧ (k = 4 * p ∨ k = 4 * p + 1 ∨ k = 4 * p + 3)) → zz T' c k = zz T c k := fun c k hh => by unfold zz; rw [oT c k (by omega)]
      have z0 : zz T' 76 (4 * p) = zz T 76 (4 * p) := by unfold zz; rw [oT _ _ (by omega)]
      have hS' : Sv v (mz T' 76) := hS.trans (sv_76 (by omega) hH zT)
      refine ih (i + 1) T' (by omega) (by rw [oT _ _ (by omega), e71]) (fun j hj => by rw [oT _ _ (by omega), e80 j hj]) hS' (by rw [z0]; exact h7) (by rw [z1]; exact cb) (by rw [z3]; omega) ?_
      intro T'' o2 h2
      rw [z0, z1, z3, ← jd_w heq] at h2 ⊢
      exact h T'' (fun c k hh => by rw [o2 c k hh, oT c k (by omega)]) h2
theorem call_judge (x1 x2 : Int32) : CallOk (wp_X7_judge x1 x2) (wp_X8_judge x1 x2) := by
  intro S hI G hG P hP
  obtain ⟨p, p1, p2, rfl⟩ := iI_ex x1
  obtain ⟨y, y1, y2, rfl⟩ := iI_ex x2
  have hH0 := hI.head
  obtain ⟨b0, b0', b1, b1', b2, b2', _⟩ := id hH0.1
  simp only [cv, Nat.add_zero] at b0 b0' b1 b1' b2 b2'
  obtain ⟨hL, hT, hK, ⟨t1, t2, t3, t5⟩, hIm⟩ := id hI
  obtain ⟨n, hn⟩ : ∃ n : Nat, zz S 69 0 = (n : Int) := ⟨(zz S 69 0).toNat, by omega⟩
  have hfin : ∀ (T : St), (∀ c k, ¬ (11 ≤ c ∧ c ≤ 21) → ¬ (c = 71 ∧ k = 0) → c ≠ 76 → T c k = S c k) → Inv T := fun T h => hI.sm (fun c k hc => h c k (by unfold ps at hc; omega) (by unfold ps at hc; omega) (by unfold ps at hc; omega))
  have hey : iI y = 0 ↔ y = 0 := by
    rw [show (0 : Int32) = iI 0 from rfl, iI_eq y1 y2 (by omega) (by omega)]
  have J : ∀ q : Nat, (q : Int) < zz S 0 2 → Jd (cv S 0) q (fun i => zz S 70 i) n := fun q hq => ⟨hL.1, hq, by omega, fun i hi => by
    have := (t5 i (by omega)).2
    unfold StepOk at this
    exact this⟩
  have M : ∀ (T : St) (w : Int32), (∀ c k, ¬ (11 ≤ c ∧ c ≤ 21) → T c k = S c k) → (¬ (0 ≤ p ∧ p < zz S 0 2) → w = -1000000001) → ((0 ≤ p ∧ p < zz S 0 2) → ¬ (0 ≤ y ∧ y ≤ 1) → w = -1000000002) → ((0 ≤ p ∧ p < zz S 0 2) → (0 ≤ y ∧ y ≤ 1) → (y = 0 → w = iI (jdF (cv S 0) p.toNat (fun i => zz S 70 i) n 0 (zz S 7 p.toNat) (zz S 8 p.toNat) (zz S 10 p.toNat)).1) ∧ (y ≠ 0 → w.toInt = (jdF (cv S 0) p.toNat (fun i => zz S 70 i) n 0 (zz S 7 p.toNat) (zz S 8 p.toNat) (zz S 10 p.toNat)).2)) → wp_X8_judge (iI p) (iI y) T (P w) := by
    intro T w hT1 q0 q1 q2
    unfold wp_X8_judge
    intro S1 e1
    have o1 : ∀ c k, ¬ (11 ≤ c ∧ c ≤ 21) → ¬ (c = 71 ∧ k = 0) → S1 c k = S c k := fun c k h1 h2 => by rw [e1, up_ne _ _ h2, hT1 c k h1]
    have z1' : ∀ c k, ¬ (11 ≤ c ∧ c ≤ 21) → ¬ (c = 71 ∧ k = 0) → zz S1 c k = zz S c k := fun c k h1 h2 => by unfold zz; rw [o1 c k h1 h2]
    have hI1 : Inv S1 := hfin S1 (fun c k h1 h2 _ => o1 c k h1 h2)
    have c12 : zz S1 71 12 = zz S 0 2 := (z1' _ _ (by omega) (by omega)).trans hH0.2.2.2.2.1
    refine s_X8_isPerson p1 p2 (by omega) (fun h1 h2 => ⟨fun _ => ?_, fun e => absurd e (by decide)⟩) (fun h => ⟨fun e => absurd rfl e, fun _ => CallOk.fin (S := S) hP hI1 (q0 (by omega))⟩)
    refine s_X8_in (a := 0) (b := 1) y1 y2 (by omega) (by omega) (by omega) (by omega) (fun h9 h10 => ⟨fun _ => ?_, fun e => absurd e (by decide)⟩) (fun h => ⟨fun e => absurd rfl e, fun _ => CallOk.fin (S := S) hP hI1 (q1 (by omega) (by omega))⟩)
    obtain ⟨p4, pb, pm, pt, f1, f2, f3, f4, f5, f6, f7⟩ := hI.pers (p := p.toNat) (by omega)
    have g := pb
    obtain ⟨_, _, _, _, _, _, g1, g2, g3, g4, g5, g6⟩ := g
    simp only [cv, Nat.zero_add] at g1 g2 g3 g4 g5 g6
    refine s_X8_asNow ?_
    intro T2 hT2
    have o2 : ∀ c k, ¬ (11 ≤ c ∧ c ≤ 21) → ¬ (c = 71 ∧ k = 0) → c ≠ 76 → T2 c k = S c k := fun c k h1 h2 h3 => by rw [hT2, if_neg (by omega), o1 c k h1 h2]
    have z2 : ∀ c k, ¬ (11 ≤ c ∧ c ≤ 21) → ¬ (c = 71 ∧ k = 0) → c ≠ 76 → zz T2 c k = zz S c k := fun c k h1 h2 h3 => by unfold zz; rw [o2 c k h1 h2 h3]
    have o76 : ∀ k, k < 28 → T2 76 k = S 75 k := fun k hk => by rw [hT2, if_pos ⟨rfl, hk⟩, o1 _ _ (by omega) (by omega)]
    have z76 : ∀ k, k < 28 → zz T2 76 k = zz S 75 k := fun k hk => by unfold zz; rw [o76 k hk]
    have hL75 : Lb (mz S 75) := Ag_Lb hL.2.2 hL.1
    have hAm : Ag (mz S 75) (mz T2 76) := by
      rw [mz_mg] at hL75 ⊢
      rw [mz_mg]
      exact mg_Ag hL75 (z2 _ _ (by omega) (by omega) (by omega)) (z2 _ _ (by omega) (by omega) (by omega)) (z2 _ _ (by omega) (by omega) (by omega)) (fun j _ => z2 _ _ (by omega) (by omega) (by omega)) (fun j _ => z2 _ _ (by omega) (by omega) (by omega)) (fun j hj => z76 j hj)
    have hA := (hL.2.2.trans hAm).sv
    have w0 : zz T2 76 (4 * p.toNat) = zz S 7 p.toNat := by unfold zz; rw [o76 _ (by omega), f4]
    have w1 : zz T2 76 (4 * p.toNat + 1) = zz S 8 p.toNat := by unfold zz; rw [o76 _ (by omega), f5]
    have w3 : zz T2 76 (4 * p.toNat + 3) = zz S 10 p.toNat := by unfold zz; rw [o76 _ (by omega), f7]
    have hp : iI p = iI (p.toNat : Int) := by congr 1; omega
    rw [hp]
    refine ⟨n + 2, s_X8_judge (n := n) (J p.toNat (by omega)) n 0 T2 (by omega) ?_ ?_ hA ?_ ?_ ?_ ?_⟩
    · rw [o2 _ _ (by omega) (by omega) (by omega), zz_inj t1, zz_S S 69 0, hn]
    · intro j hj
      rw [o2 _ _ (by omega) (by omega) (by omega), zz_inj (t5 j (by omega)).1, zz_S S 70 j]
    · rw [w0]; exact ⟨g1, g2⟩
    · rw [w1]; exact ⟨g3, g4⟩
    · rw [w3]; omega
    · intro T3 o3 h3
      rw [w0, w1, w3] at h3 ⊢
      have hI3 : Inv T3 := hfin T3 (fun c k h1 h2 h3 => by rw [o3 c k h3, o2 c k h1 h2 h3])
      obtain ⟨qa, qb⟩ := q2 (by omega) (by omega)
      unfold B_X8_judge_164
      rw [hey]
      have x3 : ix ((4 : Int32) * iI (p.toNat : Int) + 3) = 4 * p.toNat + 3 := by
        simp (disch := omega) only [iI_add, iI_sub, iI_mul, iI_le, iI_lt, iI_eq, iI_ix, iI_in, iI_neg, iI_lit]; omega
      have i3 : vp_in ((4 : Int32) * iI (p.toNat : Int) + 3) 28 := by
        simp (disch := omega) only [iI_add, iI_sub, iI_mul, iI_le, iI_lt, iI_eq, iI_ix, iI_in, iI_neg, iI_lit]; omega
      refine ⟨fun e => ⟨i3, CallOk.fin (S := S) hP hI3 ?_⟩, fun e => CallOk.fin (S := S) hP hI3 (qa e)⟩
      rw [x3]
      exact Int32.toInt_inj.mp ((qb e).trans h3.symm)
  unfold wp_X7_judge
  have z00 : zz S 0 2 = zz S 0 2 := rfl
  refine s_X6_hasPerson (o := 0) p1 p2 (fun h1 h2 => ⟨fun _ => ?_, fun e => absurd e (by decide)⟩) (fun h => ⟨fun e => absurd rfl e, fun _ => hG _ (M S _ (fun _ _ _ => rfl) (fun _ => rfl) (fun e => absurd e h) (fun e => absurd e h))⟩)
  refine s_X7_outside (a := 0) (b := 1) y1 y2 (by omega) (by omega) (by omega) (by omega) (fun h9 h10 => ⟨fun _ => ?_, fun e => absurd rfl e⟩) (fun h => ⟨fun e => absurd e (by decide), fun _ => hG _ (M S _ (fun _ _ _ => rfl) (fun e => absurd ⟨h1, h2⟩ e) (fun _ _ => rfl) (fun _ e => absurd e h))⟩)
  obtain ⟨p4, pb, pm, pt, f1, f2, f3, f4, f5, f6, f7⟩ := hI.pers (p := p.toNat) (by omega)
  have g := pb
  obtain ⟨_, _, _, _, _, _, g1, g2, g3, g4, g5, g6⟩ := g
  simp only [cv, Nat.zero_add] at g1 g2 g3 g4 g5 g6
  refine s_X6_become (o := 11) (o2 := 0) (fun f g hf hg => by omega) ?_
  intro T hT1 hT2
  have hA : Sv (cv S 0) (cv T 11) := (cv_Ag hL.1 (fun f k h1 h2 h3 h4 => hT1 f k h1 h2 h3 h4)).sv
  have w7 : T 18 p.toNat = S 7 p.toNat := hT1 7 p.toNat (by omega) (by omega) (by omega) (by omega)
  have w8 : T 19 p.toNat = S 8 p.toNat := hT1 8 p.toNat (by omega) (by omega) (by omega) (by omega)
  have w10 : T 21 p.toNat = S 10 p.toNat := hT1 10 p.toNat (by omega) (by omega) (by omega) (by omega)
  have u7 : zz T 18 p.toNat = zz S 7 p.toNat := by unfold zz; rw [w7]
  have u8 : zz T 19 p.toNat = zz S 8 p.toNat := by unfold zz; rw [w8]
  have u10 : zz T 21 p.toNat = zz S 10 p.toNat := by unfold zz; rw [w10]
  have hp : iI p = iI (p.toNat : Int) := by congr 1; omega
  unfold wp_X0_follow
  have xp : ix (iI p) = p.toNat := by rw [iI_ix (by omega) (by omega)]
  have ip : vp_in (iI p) 4 := (iI_in (by omega) (by omega)).mpr ⟨by omega, by omega⟩
  rw [xp, hey]
  refine ⟨n + 1, ?_⟩
  have := s_X0_follow (n := n) (post := fun r9 S8 => (¬y = 0 → vp_in (iI p) 4 ∧ G (wp_X8_judge (iI p) (iI y) S8 (P (S8 21 p.toNat)))) ∧ (y = 0 → G (wp_X8_judge (iI p) (iI y) S8 (P r9)))) (J p.toNat (by omega)) n 0 T (by omega) (by rw [hT2 _ _ (by omega), zz_S S 69 0, hn]) (fun j hj => by rw [hT2 _ _ (by omega), zz_S S 70 j]) hA (by rw [u7]; exact ⟨g1, g2⟩) (by rw [u8]; exact ⟨g3, g4⟩) (by rw [u10]; omega)
  rw [u7, u8, u10, ← hp] at this
  refine this ?_
  intro T' o' h'
  have oT : ∀ c k, ¬ (11 ≤ c ∧ c ≤ 21) → T' c k = S c k := fun c k h => by rw [o' c k h, hT2 c k (by omega)]
  exact ⟨fun e => ⟨ip, hG _ (M T' _ oT (fun e => absurd ⟨h1, h2⟩ e) (fun _ e => absurd ⟨h9, h10⟩ e) (fun _ _ => ⟨fun e' => absurd e' e, fun _ => h'⟩))⟩, fun e => hG _ (M T' _ oT (fun e => absurd ⟨h1, h2⟩ e) (fun _ e => absurd ⟨h9, h10⟩ e) (fun _ _ => ⟨fun _ => rfl, fun e' => absurd e e'⟩))⟩
