/-! go, await -/
theorem zz_iI {T : St} {c k : Nat} {z : Int} (h : T c k = iI z) (h1 : -2147483648 ≤ z) (h2 : z < 2147483648) : zz T c k = z := by unfold zz; rw [h, iI_toInt h1 h2]
theorem call_go (x1 x2 x3 : Int32) : CallOk (wp_X7_go x1 x2 x3) (wp_X8_go x1 x2 x3) := by
  intro S hI G hG P hP
  obtain ⟨p, p1, p2, rfl⟩ := iI_ex x1
  obtain ⟨r, r1, r2, rfl⟩ := iI_ex x2
  obtain ⟨s, s1, s2, rfl⟩ := iI_ex x3
  have hH0 := hI.head
  obtain ⟨b0, b0', b1, b1', b2, b2', _⟩ := id hH0.1
  simp only [cv, Nat.add_zero] at b0 b0' b1 b1' b2 b2'
  have M : ∀ (T : St) (q : Int32), (∀ c k, (¬ (k = p.toNat ∧ 7 ≤ c ∧ c ≤ 10)) → T c k = S c k) → (¬ ((0 ≤ p ∧ p < zz S 0 2) ∧ (0 ≤ r ∧ r < zz S 0 1)) → T = S ∧ q = -1000000001) → ((0 ≤ p ∧ p < zz S 0 2) ∧ (0 ≤ r ∧ r < zz S 0 1) → ¬ (0 ≤ s ∧ s ≤ 5) → T = S ∧ q = -1000000002) → ((0 ≤ p ∧ p < zz S 0 2) ∧ (0 ≤ r ∧ r < zz S 0 1) → 0 ≤ s ∧ s ≤ 5 → ¬ (oth (cv S 0) r.toNat (zz S 7 p.toNat) ≠ -1 ∧ s ≤ zz S 8 p.toNat) → T = S ∧ q = -1000000003) → ((0 ≤ p ∧ p < zz S 0 2) ∧ (0 ≤ r ∧ r < zz S 0 1) → 0 ≤ s ∧ s ≤ 5 → (oth (cv S 0) r.toNat (zz S 7 p.toNat) ≠ -1 ∧ s ≤ zz S 8 p.toNat) → ¬ zz S 10 p.toNat ≤ 90000 → T = S ∧ q = -1000000004) → ((0 ≤ p ∧ p < zz S 0 2) ∧ (0 ≤ r ∧ r < zz S 0 1) → 0 ≤ s ∧ s ≤ 5 → (oth (cv S 0) r.toNat (zz S 7 p.toNat) ≠ -1 ∧ s ≤ zz S 8 p.toNat) → zz S 10 p.toNat ≤ 90000 → T 10 p.toNat = iI (zz S 10 p.toNat + tme (cv S 0) p.toNat r.toNat (zz S 7 p.toNat) (zz S 10 p.toNat) s) ∧ T 8 p.toNat = iI (zz S 8 p.toNat - s) ∧ T 7 p.toNat = iI (oth (cv S 0) r.toNat (zz S 7 p.toNat)) ∧ T 9 p.toNat = S 9 p.toNat ∧ q = T 10 p.toNat) → wp_X8_go (iI p) (iI r) (iI s) T (P q) := by
    intro T q hT q0 q1 q2 q3 q4
    unfold wp_X8_go
    intro S1 e1
    have hs : T = S → Sm S S1 := fun h => by rw [e1, h]; exact sm_thr S
    have o1 : ∀ c k, ¬ (k = p.toNat ∧ 7 ≤ c ∧ c ≤ 10) → ¬ (c = 71 ∧ k = 0) → S1 c k = S c k := fun c k h1 h2 => by rw [e1, up_ne _ _ h2, hT c k h1]
    have z1' : ∀ c k, ¬ (k = p.toNat ∧ 7 ≤ c ∧ c ≤ 10) → ¬ (c = 71 ∧ k = 0) → zz S1 c k = zz S c k := fun c k h1 h2 => by unfold zz; rw [o1 c k h1 h2]
    have fin : ∀ c2 : Int32, T = S ∧ q = c2 → P q c2 S1 := fun c2 h => CallOk.fin (S := S) hP (hI.sm (hs h.1)) h.2
    have c11 : zz S1 71 11 = zz S 0 1 := (z1' _ _ (by omega) (by omega)).trans hH0.2.2.2.1
    have c12 : zz S1 71 12 = zz S 0 2 := (z1' _ _ (by omega) (by omega)).trans hH0.2.2.2.2.1
    refine s_X8_isPerson p1 p2 (by omega) (fun h1 h2 => ⟨fun e => absurd e (by decide), fun _ => ?_⟩) (fun h => ⟨fun _ => fin _ (q0 (by omega)), fun e => absurd rfl e⟩)
    refine s_X8_isRoad r1 r2 (by omega) (fun h3 h4 => ⟨fun _ => ?_, fun e => absurd e (by decide)⟩) (fun h => ⟨fun e => absurd rfl e, fun _ => fin _ (q0 (by omega))⟩)
    refine s_X8_in (a := 0) (b := 5) s1 s2 (by omega) (by omega) (by omega) (by omega) (fun h9 h10 => ⟨fun _ => ?_, fun e => absurd e (by decide)⟩) (fun h => ⟨fun e => absurd rfl e, fun _ => fin _ (q1 (by omega) (by omega))⟩)
    obtain ⟨p4, pb, pm, pt, f1, f2, f3, f4, f5, f6, f7⟩ := hI.pers (p := p.toNat) (by omega)
    obtain ⟨r9, rb, rm, _⟩ := hI.road (r := r.toNat) (by omega)
    have hp : iI p = iI (p.toNat : Int) := by congr 1; omega
    have hr : iI r = iI (r.toNat : Int) := by congr 1; omega
    have x0 : ix ((4 : Int32) * iI p) = 4 * p.toNat := by
      simp (disch := omega) only [iI_add, iI_sub, iI_mul, iI_le, iI_lt, iI_eq, iI_ix, iI_in, iI_neg, iI_lit]; omega
    have x1 : ix ((4 : Int32) * iI p + 1) = 4 * p.toNat + 1 := by
      simp (disch := omega) only [iI_add, iI_sub, iI_mul, iI_le, iI_lt, iI_eq, iI_ix, iI_in, iI_neg, iI_lit]; omega
    have x3 : ix ((4 : Int32) * iI p + 3) = 4 * p.toNat + 3 := by
      simp (disch := omega) only [iI_add, iI_sub, iI_mul, iI_le, iI_lt, iI_eq, iI_ix, iI_in, iI_neg, iI_lit]; omega
    have i0 : vp_in ((4 : Int32) * iI p) 28 := by
      simp (disch := omega) only [iI_add, iI_sub, iI_mul, iI_le, iI_lt, iI_eq, iI_ix, iI_in, iI_neg, iI_lit]; omega
    have i1 : vp_in ((4 : Int32) * iI p + 1) 28 := by
      simp (disch := omega) only [iI_add, iI_sub, iI_mul, iI_le, iI_lt, iI_eq, iI_ix, iI_in, iI_neg, iI_lit]; omega
    have i3 : vp_in ((4 : Int32) * iI p + 3) 28 := by
      simp (disch := omega) only [iI_add, iI_sub, iI_mul, iI_le, iI_lt, iI_eq, iI_ix, iI_in, iI_neg, iI_lit]; omega
    have g := pb
    obtain ⟨_, _, _, _, _, _, g1, g2, g3, g4, g5, g6⟩ := g
    simp only [cv, Nat.zero_add] at g1 g2 g3 g4 g5 g6
    -- the reference's view of S1 is that of S
    have hL75 : Lb (mz S 75) := Ag_Lb hI.1.2.2 hI.1.1
    have hAm : Ag (mz S 75) (mz S1 75) := by
      rw [mz_mg] at hL75 ⊢
      rw [mz_mg]
      exact mg_Ag hL75 (z1' _ _ (by omega) (by omega)) (z1' _ _ (by omega) (by omega)) (z1' _ _ (by omega) (by omega)) (fun j _ => z1' _ _ (by omega) (by omega)) (fun j _ => z1' _ _ (by omega) (by omega)) (fun j _ => z1' _ _ (by omega) (by omega))
    have hA : Ag (cv S 0) (mz S1 75) := hI.1.2.2.trans hAm
    have hL1 : Lb (mz S1 75) := Ag_Lb hA hI.1.1
    have n1 : mz S1 75 0 1 = zz S 0 1 := c11
    have n2 : mz S1 75 0 2 = zz S 0 2 := c12
    have pm1 : Pb (mz S1 75) p.toNat := hL1.2.2 _ (by rw [n2]; omega)
    have rm1 : Rb (mz S1 75) r.toNat := hL1.2.1 _ (by rw [n1]; omega)
    have eo : ∀ a, oth (mz S1 75) r.toNat a = oth (cv S 0) r.toNat a := fun a => oth_Ag hA (by show (r.toNat : Int) < zz S 0 1; omega) a
    have et : ∀ a m s, tme (mz S1 75) p.toNat r.toNat a m s = tme (cv S 0) p.toNat r.toNat a m s := fun a m s => tme_Ag hA (by show (p.toNat : Int) < zz S 0 2; omega) (by show (r.toNat : Int) < zz S 0 1; omega) a m s
    have u0 : S1 75 (4 * p.toNat) = iI (zz S 7 p.toNat) := by rw [o1 _ _ (by omega) (by omega), f4, ← zz_S]
    have u1 : S1 75 (4 * p.toNat + 1) = iI (zz S 8 p.toNat) := by rw [o1 _ _ (by omega) (by omega), f5, ← zz_S]
    have u3 : S1 75 (4 * p.toNat + 3) = iI (zz S 10 p.toNat) := by rw [o1 _ _ (by omega) (by omega), f7, ← zz_S]
    have v0 : zz S1 75 (4 * p.toNat) = zz S 7 p.toNat := by unfold zz; rw [o1 _ _ (by omega) (by omega), f4]
    have v1 : zz S1 75 (4 * p.toNat + 1) = zz S 8 p.toNat := by unfold zz; rw [o1 _ _ (by omega) (by omega), f5]
    have v3 : zz S1 75 (4 * p.toNat + 3) = zz S 10 p.toNat := by unfold zz; rw [o1 _ _ (by omega) (by omega), f7]
    rw [x0, x1, x3, u0, hr]
    refine ⟨i0, s_X8_otherEnd (a0 := 75) r9 (by omega) (by omega) ?_⟩
    rw [eo]
    have ob := oth_b (zz S 7 p.toNat) rb hH0.1
    have g00 : cv S 0 0 0 = zz S 0 0 := rfl
    rw [g00] at ob
    rw [u1, u3]
    simp (disch := omega) only [show (-1 : Int32) = iI (-1) from by decide, iI_eq, show (90000 : Int32) = iI 90000 from rfl, iI_le]
    refine ⟨fun ho => fin _ (q2 (by omega) (by omega) (by omega)), fun ho => ⟨i1, fun hc => ⟨i3, fun hm => ?_, fun hm => fin _ (q3 (by omega) (by omega) ⟨ho, hc⟩ hm)⟩, fun hc => fin _ (q2 (by omega) (by omega) (by omega))⟩⟩
    obtain ⟨w10, w8, w7, w9, wq⟩ := q4 (by omega) (by omega) ⟨ho, hc⟩ hm
    rw [hp]
    refine s_X8_goes (by omega) (by omega) hL1.1 pm1 rm1 p4 r9 h9 (by omega) (by omega) (by omega) ?_
    intro S' e'
    rw [v0, v1, v3, eo, et] at e'
    have oS : ∀ c k, ¬ (c = 75 ∧ 4 * p.toNat ≤ k ∧ k ≤ 4 * p.toNat + 3) → S' c k = S1 c k := by
      intro c k h
      rw [e', up_ne _ _ (by omega), up_ne _ _ (by omega), up_ne _ _ (by omega)]
    have t0 : S' 75 (4 * p.toNat) = T 7 p.toNat := by rw [e', up_at, w7]
    have t1 : S' 75 (4 * p.toNat + 1) = T 8 p.toNat := by rw [e', up_ne _ _ (by omega), up_at, w8]
    have t3 : S' 75 (4 * p.toNat + 3) = T 10 p.toNat := by rw [e', up_ne _ _ (by omega), up_ne _ _ (by omega), up_at, w10]
    have t2 : S' 75 (4 * p.toNat + 2) = T 9 p.toNat := by rw [e', up_ne _ _ (by omega), up_ne _ _ (by omega), up_ne _ _ (by omega), o1 _ _ (by omega) (by omega), f6, w9]
    have tc : ∀ c, 7 ≤ c → c ≤ 10 → S' c p.toNat = T c p.toNat := fun c h1 h2 => by rw [oS _ _ (by omega), e1, up_ne _ _ (by omega)]
    have tb := tme_b (zz S 7 p.toNat) (zz S 10 p.toNat) pb rb h9
    have hI2 : Inv S' := by
      refine Inv_p hI (p := p.toNat) (by omega) (fun c k hps h1 h2 => ?_) ?_ ?_ ?_ ?_ ?_ ?_ ?_ ?_
      · rw [oS c k h2, o1 c k h1 (by unfold ps at hps; omega)]
      · rw [t0, tc 7 (by omega) (by omega)]
      · rw [t1, tc 8 (by omega) (by omega)]
      · rw [t2, tc 9 (by omega) (by omega)]
      · rw [t3, tc 10 (by omega) (by omega)]
      · rw [zz_iI ((tc 7 (by omega) (by omega)).trans w7) (by omega) (by omega)]; omega
      · rw [zz_iI ((tc 8 (by omega) (by omega)).trans w8) (by omega) (by omega)]; omega
      · unfold zz; rw [tc 9 (by omega) (by omega), w9]; exact ⟨g5, g6⟩
      · rw [zz_iI ((tc 10 (by omega) (by omega)).trans w10) (by omega) (by omega)]; omega
    have x3' : ix ((4 : Int32) * iI (p.toNat : Int) + 3) = 4 * p.toNat + 3 := by rw [← hp]; exact x3
    refine ⟨by rw [← hp]; exact i3, CallOk.fin (S := S) hP hI2 ?_⟩
    rw [t3]
    exact wq
  unfold wp_X7_go
  refine s_X6_hasPerson p1 p2 (fun h1 h2 => ⟨fun e => absurd e (by decide), fun _ => ?_⟩) (fun h => ⟨fun _ => hG _ (M _ _ (fun _ _ _ => rfl) (fun _ => ⟨rfl, rfl⟩) (by omega) (by omega) (by omega) (by omega)), fun e => absurd rfl e⟩)
  refine s_X6_hasRoad r1 r2 (fun h3 h4 => ⟨fun _ => ?_, fun e => absurd e (by decide)⟩) (fun h => ⟨fun e => absurd rfl e, fun _ => hG _ (M _ _ (fun _ _ _ => rfl) (fun _ => ⟨rfl, rfl⟩) (by omega) (by omega) (by omega) (by omega))⟩)
  refine s_X7_outside (a := 0) (b := 5) s1 s2 (by omega) (by omega) (by omega) (by omega) (fun h9 h10 => ⟨fun _ => ?_, fun e => absurd rfl e⟩) (fun h => ⟨fun e => absurd e (by decide), fun _ => hG _ (M _ _ (fun _ _ _ => rfl) (by omega) (fun _ _ => ⟨rfl, rfl⟩) (by omega) (by omega) (by omega))⟩)
  obtain ⟨p4, pb, pm, pt, _⟩ := hI.pers (p := p.toNat) (by omega)
  obtain ⟨r9, rb, rm, _⟩ := hI.road (r := r.toNat) (by omega)
  have hp : iI p = iI (p.toNat : Int) := by congr 1; omega
  have hr : iI r = iI (r.toNat : Int) := by congr 1; omega
  have xp : ix (iI p) = p.toNat := iI_ix h1 p2
  have ip : vp_in (iI p) 4 := (iI_in p1 p2).mpr ⟨h1, by omega⟩
  generalize hWm : wp_X8_go (iI p) (iI r) (iI s) = Wm at *
  rw [xp]
  have ip' := ip
  rw [hp] at ip'
  rw [hp, hr]
  refine s_X6_canMove (o := 0) pb hH0.1 p4 r9 h9 (by omega) rb (fun c1 c2 => ⟨fun _ => ?_, fun e => absurd e (by decide)⟩) (fun h => ⟨fun e => absurd rfl e, fun _ => hG _ (M _ _ (fun _ _ _ => rfl) (by omega) (by omega) (fun _ _ _ => ⟨rfl, rfl⟩) (fun _ _ e => absurd e h) (fun _ _ e => absurd e h))⟩)
  rw [zz_S S 10]
  have c1' : oth (cv S 0) r.toNat (zz S 7 p.toNat) ≠ -1 := by rw [Nat.zero_add] at c1; exact c1
  have c2' : s ≤ zz S 8 p.toNat := by rw [Nat.zero_add] at c2; exact c2
  simp (disch := omega) only [show (90000 : Int32) = iI 90000 from rfl, iI_le]
  refine ⟨ip', fun hm => ?_, fun hm => hG _ (M _ _ (fun _ _ _ => rfl) (by omega) (by omega) (fun _ _ e => absurd ⟨c1', c2'⟩ e) (fun _ _ _ _ => ⟨rfl, rfl⟩) (by omega))⟩
  refine s_X6_move hH0.1 pb rb p4 r9 h9 (by omega) (by rw [Nat.zero_add]; omega) (by rw [Nat.zero_add]; omega) ?_
  intro S' e'
  simp only [Nat.zero_add] at e'
  refine ⟨ip', hG _ (M _ _ (fun c k h => ?_) (by omega) (by omega) (fun _ _ e => absurd ⟨c1', c2'⟩ e) (by omega) (fun _ _ _ _ => ⟨?_, ?_, ?_, ?_, ?_⟩))⟩
  · rw [e', up_ne _ _ (by omega), up_ne _ _ (by omega), up_ne _ _ (by omega)]
  · rw [e', up_ne _ _ (by omega), up_ne _ _ (by omega), up_at]
  · rw [e', up_ne _ _ (by omega), up_at]
  · rw [e', up_at]
  · rw [e', up_ne _ _ (by omega), up_ne _ _ (by omega), up_ne _ _ (by omega)]
  · rfl
theorem cal_0 {v : Vw} {a c : Int} (h2 : c ≤ 5) : cal v a c 0 = c := by
  unfold cal
  split
  · split <;> omega
  · rfl
theorem cal_s {v : Vw} {a c n : Int} (h0 : 0 ≤ n) (h2 : c ≤ 5) : cal v a (cal v a c n) 1 = cal v a c (n + 1) := by
  unfold cal
  split
  · split <;> split <;> (try split) <;> omega
  · rfl
theorem cal_b {v : Vw} {a c n : Int} (h0 : 0 ≤ n) (h1 : 0 ≤ c) (h2 : c ≤ 5) : 0 ≤ cal v a c n ∧ cal v a c n ≤ 5 := by
  unfold cal
  split
  · split <;> omega
  · omega
theorem s_X8_await_loop {p : Nat} {n : Int} {S : St} {post : Int32 → St → Prop} (hL : Lb (mz S 75)) (hp : (p : Int) < mz S 75 0 2) (hn0 : 0 ≤ n) (hn : n ≤ 999) (ht : 0 ≤ zz S 75 (4 * p + 3)) (ht2 : zz S 75 (4 * p + 3) ≤ 90000)
    (h : ∀ S' : St, S' 75 (4 * p + 3) = iI (zz S 75 (4 * p + 3) + n) → S' 75 (4 * p + 1) = iI (cal (mz S 75) (zz S 75 (4 * p)) (zz S 75 (4 * p + 1)) n) → (∀ c k, ¬ (c = 75 ∧ (k = 4 * p + 1 ∨ k = 4 * p + 3)) → S' c k = S c k) → post (S' 75 (4 * p + 3)) S') : B_X8_await_50 post (iI p) (iI n) 0 S := by
  have hb := hL.1.2.2.2.2.2.1
  have g := hL.2.2 p hp
  obtain ⟨_, _, _, _, _, _, g1, g2, g3, g4, g5, g6⟩ := g
  have e8 : mz S 75 8 p = zz S 75 (4 * p + 1) := rfl
  rw [e8] at g3 g4
  have x3 : ix ((4 : Int32) * iI p + 3) = 4 * p + 3 := by
    simp (disch := omega) only [iI_add, iI_sub, iI_mul, iI_le, iI_lt, iI_eq, iI_ix, iI_in, iI_neg, iI_lit]; omega
  have i3 : vp_in ((4 : Int32) * iI p + 3) 28 := by
    simp (disch := omega) only [iI_add, iI_sub, iI_mul, iI_le, iI_lt, iI_eq, iI_ix, iI_in, iI_neg, iI_lit]; omega
  have key : ∀ (d : Nat) (i : Int) (T : St), i + d = n → 0 ≤ i → T 75 (4 * p + 3) = iI (zz S 75 (4 * p + 3) + i) → T 75 (4 * p + 1) = iI (cal (mz S 75) (zz S 75 (4 * p)) (zz S 75 (4 * p + 1)) i) → (∀ c k, ¬ (c = 75 ∧ (k = 4 * p + 1 ∨ k = 4 * p + 3)) → T c k = S c k) → L_X8_await_50 post (d + 1) (iI p) (iI n) (iI i) T := by
    intro d
    induction d with
    | zero =>
      intro i T hi h0 t3 t1 to
      show BD_X8_await_50 (L_X8_await_50 post 0) post _ _ _ _
      unfold BD_X8_await_50
      simp (disch := omega) only [iI_le]
      refine ⟨fun _ => ?_, fun q => absurd (by omega) q⟩
      unfold B_X8_await_69
      rw [x3]
      have hin : i = n := by omega
      subst hin
      exact ⟨i3, h T t3 t1 to⟩
    | succ d ih =>
      intro i T hi h0 t3 t1 to
      show BD_X8_await_50 (L_X8_await_50 post (d + 1)) post _ _ _ _
      unfold BD_X8_await_50
      simp (disch := omega) only [iI_le]
      refine ⟨fun q => absurd q (by omega), fun _ => ?_⟩
      have z3 : zz T 75 (4 * p + 3) = zz S 75 (4 * p + 3) + i := zz_iI t3 (by omega) (by omega)
      have cb := cal_b (v := mz S 75) (a := zz S 75 (4 * p)) (c := zz S 75 (4 * p + 1)) (n := i) h0 g3 g4
      have z1 : zz T 75 (4 * p + 1) = cal (mz S 75) (zz S 75 (4 * p)) (zz S 75 (4 * p + 1)) i := zz_iI t1 (by omega) (by omega)
      have to' : ∀ c k, ¬ (c = 75 ∧ (k = 4 * p + 1 ∨ k = 4 * p + 3)) → zz T c k = zz S c k := fun c k hh => by unfold zz; rw [to c k hh]
      have hH : Hb (mz T 75) := by
        refine Hb_congr (fun k hk => ?_) hL.1
        rcases (show k = 0 ∨ k = 1 ∨ k = 2 ∨ k = 3 ∨ k = 4 ∨ k = 5 by omega) with rfl | rfl | rfl | rfl | rfl | rfl
        · exact to' 71 10 (by omega)
        · exact to' 71 11 (by omega)
        · exact to' 71 12 (by omega)
        · exact to' 75 16 (by omega)
        · exact to' 75 17 (by omega)
        · exact to' 75 27 (by omega)
      have hP : Pb (mz T 75) p := by
        obtain ⟨q1, q2, q3, q4, q5, q6, q7, q8, q9, q10, q11, q12⟩ := hL.2.2 p hp
        have m0 : mz T 75 0 0 = mz S 75 0 0 := to' 71 10 (by omega)
        have m4 : mz T 75 4 p = mz S 75 4 p := to' 74 (5 * p + 1) (by omega)
        have m5 : mz T 75 5 p = mz S 75 5 p := to' 74 (5 * p + 2) (by omega)
        have m6 : mz T 75 6 p = mz S 75 6 p := to' 74 (5 * p + 4) (by omega)
        have m7 : mz T 75 7 p = mz S 75 7 p := to' 75 (4 * p) (by omega)
        have m9 : mz T 75 9 p = mz S 75 9 p := to' 75 (4 * p + 2) (by omega)
        have m8 : mz T 75 8 p = cal (mz S 75) (zz S 75 (4 * p)) (zz S 75 (4 * p + 1)) i := z1
        unfold Pb
        rw [m0, m4, m5, m6, m7, m8, m9]
        exact ⟨q1, q2, q3, q4, q5, q6, q7, q8, cb.1, cb.2, q11, q12⟩
      refine s_X8_waits hH hP (by omega) ?_
      intro T' eT
      have hc : cal (mz T 75) (zz T 75 (4 * p)) (zz T 75 (4 * p + 1)) 1 = cal (mz S 75) (zz S 75 (4 * p)) (zz S 75 (4 * p + 1)) (i + 1) := by
        rw [z1, to' 75 (4 * p) (by omega)]
        have : cal (mz T 75) (zz S 75 (4 * p)) (cal (mz S 75) (zz S 75 (4 * p)) (zz S 75 (4 * p + 1)) i) 1 = cal (mz S 75) (zz S 75 (4 * p)) (cal (mz S 75) (zz S 75 (4 * p)) (zz S 75 (4 * p + 1)) i) 1 := by
          have m3 : mz T 75 0 3 = mz S 75 0 3 := to' 75 16 (by omega)
          generalize cal (mz S 75) (zz S 75 (4 * p)) (zz S 75 (4 * p + 1)) i = y
          unfold cal
          rw [m3]
        rw [this]
        exact cal_s h0 g4
      rw [hc, z3] at eT
      rw [show (1 : Int32) = iI 1 from rfl, iI_add]
      refine ih (i + 1) T' (by omega) (by omega) ?_ ?_ ?_
      · rw [eT, up_ne _ _ (by omega), up_at]
        congr 1
        omega
      · rw [eT, up_at]
      · intro c k hh
        rw [eT, up_ne _ _ (by omega), up_ne _ _ (by omega), to c k hh]
  refine ⟨n.toNat + 1, key n.toNat 0 S (by omega) (by omega) ?_ ?_ (fun _ _ _ => rfl)⟩
  · rw [Int.add_zero, ← zz_S]
  · rw [cal_0 g4, ← zz_S]
