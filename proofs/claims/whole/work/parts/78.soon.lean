/-! soonest: the call -/
theorem s_X8_soonestOf {v : Vw} {p : Nat} {b : Int} {S : St} {post : Int32 → St → Prop} (hL : Lb v) (hp : (p : Int) < v 0 2) (hS : Sv v (mz S 76)) (hP : Pb (mz S 76) p) (ht : 0 ≤ zz S 76 (4 * p + 3) ∧ zz S 76 (4 * p + 3) ≤ 900000) (hb : 0 ≤ b ∧ b < 6) (h : ∀ T x, (∀ c k, c ≠ 81 → c ≠ 82 → T c k = S c k) → 0 ≤ x → x ≤ 100000000 → Soon v p (zz S 76 (4 * p)) (zz S 76 (4 * p + 1)) (zz S 76 (4 * p + 3)) b x → post (iI x) T) : wp_X8_soonestOf (iI p) (iI b) S post := by
  obtain ⟨b0, b0', b1, b1', b2, b2', _⟩ := id hL.1
  obtain ⟨_, _, _, _, _, _, p7, p7', p8, p8', _⟩ := id hP
  have g7 : mz S 76 7 p = zz S 76 (4 * p) := rfl
  have g8 : mz S 76 8 p = zz S 76 (4 * p + 1) := rfl
  have g0 : mz S 76 0 0 = v 0 0 := hS.1 0 (by omega)
  rw [g7] at p7 p7'
  rw [g8] at p8 p8'
  rw [g0] at p7'
  unfold wp_X8_soonestOf
  have x0 : ix ((4 : Int32) * iI p) = 4 * p := by
    simp (disch := omega) only [iI_add, iI_sub, iI_mul, iI_le, iI_lt, iI_eq, iI_ix, iI_in, iI_neg, iI_lit]; omega
  have x1 : ix ((4 : Int32) * iI p + 1) = 4 * p + 1 := by
    simp (disch := omega) only [iI_add, iI_sub, iI_mul, iI_le, iI_lt, iI_eq, iI_ix, iI_in, iI_neg, iI_lit]; omega
  have x3 : ix ((4 : Int32) * iI p + 3) = 4 * p + 3 := by
    simp (disch := omega) only [iI_add, iI_sub, iI_mul, iI_le, iI_lt, iI_eq, iI_ix, iI_in, iI_neg, iI_lit]; omega
  have i0 : vp_in ((4 : Int32) * iI p) 28 := by
    simp (disch := omega) only [iI_add, iI_sub, iI_mul, iI_le, iI_lt, iI_eq, iI_ix, iI_in, iI_neg, iI_lit]; omega
  have i1 : vp_in ((4 : Int32) * iI p + 1) 28 := by
    simp (disch := omega) only [iI_add, iI_sub, iI_mul, iI_le, iI_lt, iI_eq, iI_ix, iI_in, iI_neg, iI_lit]; omega
  have i3 : vp_in ((4 : Int32) * iI p + 3) 28 := by
    simp (disch := omega) only [iI_add, iI_sub, iI_mul, iI_le, iI_lt, iI_eq, iI_ix, iI_in, iI_neg, iI_lit]; omega
  rw [x0, x1, x3, zz_S S 76 (4 * p), zz_S S 76 (4 * p + 1), zz_S S 76 (4 * p + 3)]
  refine ⟨i0, i3, i1, ?_⟩
  refine s_X8_spreads hL hp ⟨p7, p7'⟩ ⟨p8, p8'⟩ ht hS hP ?_
  intro T oT hSp
  exact s_X8_soonestAt hL hp ⟨p7, p7'⟩ ⟨p8, p8'⟩ ht hb hSp (fun x q1 q2 q3 => h T x oT q1 q2 q3)
theorem call_soonest (x1 x2 : Int32) : CallOk (wp_X7_soonest x1 x2) (wp_X8_soonest x1 x2) := by
  intro S hI G hG P hP
  obtain ⟨p, p1, p2, rfl⟩ := iI_ex x1
  obtain ⟨y, y1, y2, rfl⟩ := iI_ex x2
  have hH0 := hI.head
  obtain ⟨b0, b0', b1, b1', b2, b2', _⟩ := id hH0.1
  simp only [cv, Nat.add_zero] at b0 b0' b1 b1' b2 b2'
  obtain ⟨hL, _⟩ := id hI
  have hfin : ∀ (T : St), (∀ c k, ¬ (11 ≤ c ∧ c ≤ 21) → ¬ (50 ≤ c ∧ c ≤ 54) → ¬ (c = 71 ∧ k = 0) → c ≠ 76 → c ≠ 81 → c ≠ 82 → T c k = S c k) → Inv T := fun T h => hI.sm (fun c k hc => h c k (by unfold ps at hc; omega) (by unfold ps at hc; omega) (by unfold ps at hc; omega) (by unfold ps at hc; omega) (by unfold ps at hc; omega) (by unfold ps at hc; omega))
  have M : ∀ (T : St) (w : Int32), (∀ c k, ¬ (11 ≤ c ∧ c ≤ 21) → ¬ (50 ≤ c ∧ c ≤ 54) → T c k = S c k) → (¬ ((0 ≤ p ∧ p < zz S 0 2) ∧ (0 ≤ y ∧ y < zz S 0 0)) → w = -1000000001) → ((0 ≤ p ∧ p < zz S 0 2) ∧ (0 ≤ y ∧ y < zz S 0 0) → ∃ x, Soon (cv S 0) p.toNat (zz S 7 p.toNat) (zz S 8 p.toNat) (zz S 10 p.toNat) y x ∧ w = iI (if x = 100000000 then -1 else x)) → wp_X8_soonest (iI p) (iI y) T (P w) := by
    intro T w hT1 q0 q1
    unfold wp_X8_soonest
    intro S1 e1
    have o1 : ∀ c k, ¬ (11 ≤ c ∧ c ≤ 21) → ¬ (50 ≤ c ∧ c ≤ 54) → ¬ (c = 71 ∧ k = 0) → S1 c k = S c k := fun c k h1 h2 h3 => by rw [e1, up_ne _ _ h3, hT1 c k h1 h2]
    have z1' : ∀ c k, ¬ (11 ≤ c ∧ c ≤ 21) → ¬ (50 ≤ c ∧ c ≤ 54) → ¬ (c = 71 ∧ k = 0) → zz S1 c k = zz S c k := fun c k h1 h2 h3 => by unfold zz; rw [o1 c k h1 h2 h3]
    have hI1 : Inv S1 := hfin S1 (fun c k h1 h2 h3 _ _ _ => o1 c k h1 h2 h3)
    have c10 : zz S1 71 10 = zz S 0 0 := (z1' _ _ (by omega) (by omega) (by omega)).trans hH0.2.2.1
    have c12 : zz S1 71 12 = zz S 0 2 := (z1' _ _ (by omega) (by omega) (by omega)).trans hH0.2.2.2.2.1
    refine s_X8_isPerson p1 p2 (by omega) (fun h1 h2 => ⟨fun e => absurd e (by decide), fun _ => ?_⟩) (fun h => ⟨fun _ => CallOk.fin (S := S) hP hI1 (q0 (by omega)), fun e => absurd rfl e⟩)
    refine s_X8_isPlace y1 y2 (by omega) (fun h3 h4 => ⟨fun _ => ?_, fun e => absurd e (by decide)⟩) (fun h => ⟨fun e => absurd rfl e, fun _ => CallOk.fin (S := S) hP hI1 (q0 (by omega))⟩)
    obtain ⟨p4, pb, pm, pt, f1, f2, f3, f4, f5, f6, f7⟩ := hI.pers (p := p.toNat) (by omega)
    refine s_X8_asNow ?_
    intro T2 hT2
    have o2 : ∀ c k, ¬ (11 ≤ c ∧ c ≤ 21) → ¬ (50 ≤ c ∧ c ≤ 54) → ¬ (c = 71 ∧ k = 0) → c ≠ 76 → T2 c k = S c k := fun c k h1 h2 h3 h4 => by rw [hT2, if_neg (by omega), o1 c k h1 h2 h3]
    have z2 : ∀ c k, ¬ (11 ≤ c ∧ c ≤ 21) → ¬ (50 ≤ c ∧ c ≤ 54) → ¬ (c = 71 ∧ k = 0) → c ≠ 76 → zz T2 c k = zz S c k := fun c k h1 h2 h3 h4 => by unfold zz; rw [o2 c k h1 h2 h3 h4]
    have o76 : ∀ k, k < 28 → T2 76 k = S 75 k := fun k hk => by rw [hT2, if_pos ⟨rfl, hk⟩, o1 _ _ (by omega) (by omega) (by omega)]
    have z76 : ∀ k, k < 28 → zz T2 76 k = zz S 75 k := fun k hk => by unfold zz; rw [o76 k hk]
    have hL75 : Lb (mz S 75) := Ag_Lb hL.2.2 hL.1
    have hAm : Ag (mz S 75) (mz T2 76) := by
      rw [mz_mg] at hL75 ⊢
      rw [mz_mg]
      exact mg_Ag hL75 (z2 _ _ (by omega) (by omega) (by omega) (by omega)) (z2 _ _ (by omega) (by omega) (by omega) (by omega)) (z2 _ _ (by omega) (by omega) (by omega) (by omega)) (fun j _ => z2 _ _ (by omega) (by omega) (by omega) (by omega)) (fun j _ => z2 _ _ (by omega) (by omega) (by omega) (by omega)) (fun j hj => z76 j hj)
    have hA := hL.2.2.trans hAm
    have hL2 : Lb (mz T2 76) := Ag_Lb hA hL.1
    have hp2 : ((p.toNat : Nat) : Int) < cv S 0 0 2 := by show _ < zz S 0 2; omega
    have w0 : zz T2 76 (4 * p.toNat) = zz S 7 p.toNat := by unfold zz; rw [o76 _ (by omega), f4]
    have w1 : zz T2 76 (4 * p.toNat + 1) = zz S 8 p.toNat := by unfold zz; rw [o76 _ (by omega), f5]
    have w3 : zz T2 76 (4 * p.toNat + 3) = zz S 10 p.toNat := by unfold zz; rw [o76 _ (by omega), f7]
    have hpp : iI p = iI (p.toNat : Int) := by congr 1; omega
    rw [hpp]
    refine s_X8_soonestOf hL.1 hp2 hA.sv (hL2.2.2 _ (by rw [hA.1 2 (by omega)]; exact hp2)) (by rw [w3]; omega) (by omega) ?_
    intro T3 x o3 x1 x2 hx
    rw [w0, w1, w3] at hx
    have hI3 : Inv T3 := hfin T3 (fun c k h1 h2 h3 h4 h5 h6 => by rw [o3 c k h5 h6, o2 c k h1 h2 h3 h4])
    obtain ⟨x', hx', hw⟩ := q1 (by omega)
    have exx : x' = x := Soon_uniq hx' hx
    subst exx
    rw [show (100000000 : Int32) = iI 100000000 from rfl, iI_le (by omega) (by omega) (by omega) (by omega)]
    unfold wp_X8_told_
    refine ⟨fun h8 => ⟨fun _ => CallOk.fin (S := S) hP hI3 ?_, fun e => absurd rfl e⟩, fun h8 => ⟨fun e => absurd e (by decide), fun _ => CallOk.fin (S := S) hP hI3 ?_⟩⟩
    · rw [hw, if_pos (by omega)]; decide
    · rw [hw, if_neg (by omega)]
  unfold wp_X7_soonest
  refine s_X6_hasPerson (o := 0) p1 p2 (fun h1 h2 => ⟨fun e => absurd e (by decide), fun _ => ?_⟩) (fun h => ⟨fun _ => hG _ (M S _ (fun _ _ _ _ => rfl) (fun _ => rfl) (fun e => absurd e.1 h)), fun e => absurd rfl e⟩)
  refine s_X6_hasPlace (o := 0) y1 y2 (fun h3 h4 => ⟨fun _ => ?_, fun e => absurd e (by decide)⟩) (fun h => ⟨fun e => absurd rfl e, fun _ => hG _ (M S _ (fun _ _ _ _ => rfl) (fun _ => rfl) (fun e => absurd e.2 h))⟩)
  obtain ⟨p4, pb, pm, pt, f1, f2, f3, f4, f5, f6, f7⟩ := hI.pers (p := p.toNat) (by omega)
  have g := pb
  obtain ⟨_, _, _, _, _, _, g1, g2, g3, g4, g5, g6⟩ := g
  refine s_X6_become (o := 11) (o2 := 0) (fun f g hf hg => by omega) ?_
  intro T hT1 hT2
  have hA : Ag (cv S 0) (cv T 11) := cv_Ag hL.1 (fun f k h1 h2 h3 h4 => hT1 f k h1 h2 h3 h4)
  have hp2 : ((p.toNat : Nat) : Int) < cv S 0 0 2 := by show _ < zz S 0 2; omega
  have u7 : zz T 18 p.toNat = zz S 7 p.toNat := by unfold zz; rw [show T 18 p.toNat = S 7 p.toNat from hT1 7 p.toNat (by omega) (by omega) (by omega) (by omega)]
  have u8 : zz T 19 p.toNat = zz S 8 p.toNat := by unfold zz; rw [show T 19 p.toNat = S 8 p.toNat from hT1 8 p.toNat (by omega) (by omega) (by omega) (by omega)]
  have u10 : zz T 21 p.toNat = zz S 10 p.toNat := by unfold zz; rw [show T 21 p.toNat = S 10 p.toNat from hT1 10 p.toNat (by omega) (by omega) (by omega) (by omega)]
  have hpp : iI p = iI (p.toNat : Int) := by congr 1; omega
  have key := s_X4_soon (v := cv S 0) (p := p.toNat) (g := y) (S := T) (post := fun r S1 => G (wp_X8_soonest (iI p) (iI y) S1 (P r))) hL.1 hp2 hA.sv ((Ag_Lb hA hL.1).2.2 _ (by rw [hA.1 2 (by omega)]; exact hp2)) u7 u8 u10 ⟨g1, g2⟩ ⟨g3, g4⟩ (by omega) ⟨h3, h4⟩
  rw [← hpp] at key
  refine key ?_
  intro T2 x o2 hx
  exact hG _ (M T2 _ (fun c k h1 h2 => by rw [o2 c k (by omega) (by omega) (by omega), hT2 c k (by omega)]) (fun e => absurd ⟨⟨h1, h2⟩, h3, h4⟩ e) (fun _ => ⟨x, hx, rfl⟩))
