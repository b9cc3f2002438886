/-! lend -/
theorem call_lend (x1 x2 x3 : Int32) : CallOk (wp_X7_lend x1 x2 x3) (wp_X8_lend x1 x2 x3) := by
  intro S hI G hG P hP
  obtain ⟨p, p1, p2, rfl⟩ := iI_ex x1
  obtain ⟨q, q1, q2, rfl⟩ := iI_ex x2
  obtain ⟨s, s1, s2, rfl⟩ := iI_ex x3
  have hH0 := hI.head
  obtain ⟨b0, b0', b1, b1', b2, b2', _⟩ := id hH0.1
  simp only [cv, Nat.add_zero] at b0 b0' b1 b1' b2 b2'
  obtain ⟨hL, _⟩ := id hI
  have hfin : ∀ (T : St), (∀ c k, ¬ (11 ≤ c ∧ c ≤ 21) → ¬ (50 ≤ c ∧ c ≤ 54) → ¬ (c = 71 ∧ k = 0) → c ≠ 76 → c ≠ 81 → c ≠ 82 → T c k = S c k) → Inv T := fun T h => hI.sm (fun c k hc => h c k (by unfold ps at hc; omega) (by unfold ps at hc; omega) (by unfold ps at hc; omega) (by unfold ps at hc; omega) (by unfold ps at hc; omega) (by unfold ps at hc; omega))
  have epq : iI p = iI q ↔ p = q := iI_eq p1 p2 q1 q2
  have M : ∀ (T : St) (w : Int32), (∀ c k, ¬ (11 ≤ c ∧ c ≤ 21) → ¬ (50 ≤ c ∧ c ≤ 54) → T c k = S c k) → (¬ ((0 ≤ p ∧ p < zz S 0 2) ∧ (0 ≤ q ∧ q < zz S 0 2) ∧ p ≠ q) → w = -1000000001) → ((0 ≤ p ∧ p < zz S 0 2) ∧ (0 ≤ q ∧ q < zz S 0 2) ∧ p ≠ q → ¬ (0 ≤ s ∧ s ≤ 5) → w = -1000000002) → ((0 ≤ p ∧ p < zz S 0 2) ∧ (0 ≤ q ∧ q < zz S 0 2) ∧ p ≠ q → (0 ≤ s ∧ s ≤ 5) → ¬ (zz S 7 p.toNat = zz S 7 q.toNat ∧ s ≤ zz S 8 p.toNat) → w = -1000000003) → ((0 ≤ p ∧ p < zz S 0 2) ∧ (0 ≤ q ∧ q < zz S 0 2) ∧ p ≠ q → (0 ≤ s ∧ s ≤ 5) → (zz S 7 p.toNat = zz S 7 q.toNat ∧ s ≤ zz S 8 p.toNat) → ∃ y, Soon (cv S 0) q.toNat (zz S 7 q.toNat) (zz S 8 q.toNat) (zz S 10 q.toNat) (cv S 0 4 q.toNat) y ∧ (y = 100000000 → w = -1) ∧ (y ≠ 100000000 → ∃ y2, Soon (cv S 0) q.toNat (zz S 7 q.toNat) (if zz S 8 q.toNat + s < 5 then zz S 8 q.toNat + s else 5) (zz S 10 q.toNat) (cv S 0 4 q.toNat) y2 ∧ w = iI (y - y2))) → wp_X8_lend (iI p) (iI q) (iI s) T (P w) := by
    intro T w hT1 k0 k1 k2 k3
    unfold wp_X8_lend
    intro S1 e1
    have o1 : ∀ c k, ¬ (11 ≤ c ∧ c ≤ 21) → ¬ (50 ≤ c ∧ c ≤ 54) → ¬ (c = 71 ∧ k = 0) → S1 c k = S c k := fun c k h1 h2 h3 => by rw [e1, up_ne _ _ h3, hT1 c k h1 h2]
    have z1' : ∀ c k, ¬ (11 ≤ c ∧ c ≤ 21) → ¬ (50 ≤ c ∧ c ≤ 54) → ¬ (c = 71 ∧ k = 0) → zz S1 c k = zz S c k := fun c k h1 h2 h3 => by unfold zz; rw [o1 c k h1 h2 h3]
    have hI1 : Inv S1 := hfin S1 (fun c k h1 h2 h3 _ _ _ => o1 c k h1 h2 h3)
    have c12 : zz S1 71 12 = zz S 0 2 := (z1' _ _ (by omega) (by omega) (by omega)).trans hH0.2.2.2.2.1
    refine s_X8_isPerson p1 p2 (by omega) (fun h1 h2 => ⟨fun e => absurd e (by decide), fun _ => ?_⟩) (fun h => ⟨fun _ => CallOk.fin (S := S) hP hI1 (k0 (by omega)), fun e => absurd rfl e⟩)
    refine s_X8_isPerson q1 q2 (by omega) (fun h3 h4 => ⟨fun e => absurd e (by decide), fun _ => ?_⟩) (fun h => ⟨fun _ => CallOk.fin (S := S) hP hI1 (k0 (by omega)), fun e => absurd rfl e⟩)
    rw [epq]
    refine ⟨fun hne => ?_, fun he => CallOk.fin (S := S) hP hI1 (k0 (by omega))⟩
    refine s_X8_in (a := 0) (b := 5) s1 s2 (by omega) (by omega) (by omega) (by omega) (fun h5 h6 => ⟨fun _ => ?_, fun e => absurd e (by decide)⟩) (fun h => ⟨fun e => absurd rfl e, fun _ => CallOk.fin (S := S) hP hI1 (k1 (by omega) (by omega))⟩)
    obtain ⟨p4, pb, pm, pt, _, _, _, f4, f5, f6, f7⟩ := hI.pers (p := p.toNat) (by omega)
    obtain ⟨q4, qb, qm, qt, g1, g2, g3, g4, g5, g6, g7⟩ := hI.pers (p := q.toNat) (by omega)
    obtain ⟨_, _, _, _, _, _, _, _, pc, pc', _⟩ := id pb
    obtain ⟨r1, r1', _, _, _, _, r7, r7', r8, r8', _⟩ := id qb
    simp only [cv, Nat.zero_add] at pc pc' r1 r1' r7 r7' r8 r8'
    have hpp : iI p = iI (p.toNat : Int) := by congr 1; omega
    have hqq : iI q = iI (q.toNat : Int) := by congr 1; omega
    have xp0 : ix ((4 : Int32) * iI p) = 4 * p.toNat := by
      simp (disch := omega) only [iI_add, iI_sub, iI_mul, iI_le, iI_lt, iI_eq, iI_ix, iI_in, iI_neg, iI_lit]; omega
    have xp1 : ix ((4 : Int32) * iI p + 1) = 4 * p.toNat + 1 := by
      simp (disch := omega) only [iI_add, iI_sub, iI_mul, iI_le, iI_lt, iI_eq, iI_ix, iI_in, iI_neg, iI_lit]; omega
    have xq0 : ix ((4 : Int32) * iI q) = 4 * q.toNat := by
      simp (disch := omega) only [iI_add, iI_sub, iI_mul, iI_le, iI_lt, iI_eq, iI_ix, iI_in, iI_neg, iI_lit]; omega
    have xq1 : ix ((4 : Int32) * iI q + 1) = 4 * q.toNat + 1 := by
      simp (disch := omega) only [iI_add, iI_sub, iI_mul, iI_le, iI_lt, iI_eq, iI_ix, iI_in, iI_neg, iI_lit]; omega
    have ip0 : vp_in ((4 : Int32) * iI p) 28 := by
      simp (disch := omega) only [iI_add, iI_sub, iI_mul, iI_le, iI_lt, iI_eq, iI_ix, iI_in, iI_neg, iI_lit]; omega
    have ip1 : vp_in ((4 : Int32) * iI p + 1) 28 := by
      simp (disch := omega) only [iI_add, iI_sub, iI_mul, iI_le, iI_lt, iI_eq, iI_ix, iI_in, iI_neg, iI_lit]; omega
    have iq0 : vp_in ((4 : Int32) * iI q) 28 := by
      simp (disch := omega) only [iI_add, iI_sub, iI_mul, iI_le, iI_lt, iI_eq, iI_ix, iI_in, iI_neg, iI_lit]; omega
    have iq1 : vp_in ((4 : Int32) * iI q + 1) 28 := by
      simp (disch := omega) only [iI_add, iI_sub, iI_mul, iI_le, iI_lt, iI_eq, iI_ix, iI_in, iI_neg, iI_lit]; omega
    have ep7 : S1 75 (4 * p.toNat) = S 7 p.toNat := by rw [o1 _ _ (by omega) (by omega) (by omega), f4]
    have eq7 : S1 75 (4 * q.toNat) = S 7 q.toNat := by rw [o1 _ _ (by omega) (by omega) (by omega), g4]
    have ep8 : S1 75 (4 * p.toNat + 1) = iI (zz S 8 p.toNat) := by rw [o1 _ _ (by omega) (by omega) (by omega), f5]; exact zz_S S 8 _
    have e77 : S 7 p.toNat = S 7 q.toNat ↔ zz S 7 p.toNat = zz S 7 q.toNat := ⟨fun e => by unfold zz; rw [e], fun e => zz_inj e⟩
    rw [xp0, xq0, ep7, eq7, e77]
    refine ⟨ip0, iq0, fun hn => CallOk.fin (S := S) hP hI1 (k2 (by omega) (by omega) (fun e => hn e.1)), fun h77 => ⟨ip1, ?_⟩⟩
    rw [xp1, ep8, iI_le (by omega) (by omega) (by omega) (by omega)]
    refine ⟨fun h8 => ?_, fun hn => CallOk.fin (S := S) hP hI1 (k2 (by omega) (by omega) (fun e => hn e.2))⟩
    obtain ⟨y, hy, hya, hyb⟩ := k3 (by omega) (by omega) ⟨h77, h8⟩
    refine s_X8_asNow ?_
    intro T2 hT2
    have o2 : ∀ c k, ¬ (11 ≤ c ∧ c ≤ 21) → ¬ (50 ≤ c ∧ c ≤ 54) → ¬ (c = 71 ∧ k = 0) → c ≠ 76 → T2 c k = S c k := fun c k h1 h2 h3 h4 => by rw [hT2, if_neg (by omega), o1 c k h1 h2 h3]
    have o76 : ∀ k, k < 28 → T2 76 k = S 75 k := fun k hk => by rw [hT2, if_pos ⟨rfl, hk⟩, o1 _ _ (by omega) (by omega) (by omega)]
    have hL75 : Lb (mz S 75) := Ag_Lb hL.2.2 hL.1
    have hp2 : ((q.toNat : Nat) : Int) < cv S 0 0 2 := by show _ < zz S 0 2; omega
    -- any state that keeps the land, with array 76 = now but for the calm of q
    have view : ∀ U : St, (∀ c k, ¬ (11 ≤ c ∧ c ≤ 21) → ¬ (50 ≤ c ∧ c ≤ 54) → ¬ (c = 71 ∧ k = 0) → c ≠ 76 → c ≠ 81 → c ≠ 82 → U c k = S c k) → (∀ k, k < 28 → k ≠ 4 * q.toNat + 1 → U 76 k = S 75 k) → Sv (cv S 0) (mz U 76) := by
      intro U hU h76
      have zU : ∀ c k, ¬ (11 ≤ c ∧ c ≤ 21) → ¬ (50 ≤ c ∧ c ≤ 54) → ¬ (c = 71 ∧ k = 0) → c ≠ 76 → c ≠ 81 → c ≠ 82 → zz U c k = zz S c k := fun c k a1 a2 a3 a4 a5 a6 => by unfold zz; rw [hU c k a1 a2 a3 a4 a5 a6]
      have z76 : ∀ k, k < 28 → k ≠ 4 * q.toNat + 1 → zz U 76 k = zz S 75 k := fun k hk hk2 => by unfold zz; rw [h76 k hk hk2]
      refine hL.2.2.sv.trans ⟨fun k hk => ?_, fun r hr => ?_, fun a ha => ?_⟩
      · have : k = 0 ∨ k = 1 ∨ k = 2 ∨ k = 3 ∨ k = 4 ∨ k = 5 := by omega
        rcases this with rfl | rfl | rfl | rfl | rfl | rfl
        · exact zU _ _ (by omega) (by omega) (by omega) (by omega) (by omega) (by omega)
        · exact zU _ _ (by omega) (by omega) (by omega) (by omega) (by omega) (by omega)
        · exact zU _ _ (by omega) (by omega) (by omega) (by omega) (by omega) (by omega)
        · exact z76 _ (by omega) (by omega)
        · exact z76 _ (by omega) (by omega)
        · exact z76 _ (by omega) (by omega)
      · have hr9 : r < 9 := by have := hL75.1.2.2.2.1; omega
        exact ⟨zU _ _ (by omega) (by omega) (by omega) (by omega) (by omega) (by omega), zU _ _ (by omega) (by omega) (by omega) (by omega) (by omega) (by omega), z76 _ (by omega) (by omega)⟩
      · have ha4 : a < 4 := by have := hL75.1.2.2.2.2.2.1; omega
        exact ⟨zU _ _ (by omega) (by omega) (by omega) (by omega) (by omega) (by omega), zU _ _ (by omega) (by omega) (by omega) (by omega) (by omega) (by omega), zU _ _ (by omega) (by omega) (by omega) (by omega) (by omega) (by omega), z76 _ (by omega) (by omega)⟩
    have pbU : ∀ U : St, Sv (cv S 0) (mz U 76) → U 76 (4 * q.toNat) = S 75 (4 * q.toNat) → (0 ≤ zz U 76 (4 * q.toNat + 1) ∧ zz U 76 (4 * q.toNat + 1) ≤ 5) → Pb (mz U 76) q.toNat := by
      intro U hU h0 h1
      have e0 : zz U 76 (4 * q.toNat) = zz S 7 q.toNat := by unfold zz; rw [h0, g4]
      refine Sv_Pb hU hp2 qb ?_ h1
      show 0 ≤ zz U 76 (4 * q.toNat) ∧ zz U 76 (4 * q.toNat) < zz S 0 0
      rw [e0]
      exact ⟨r7, r7'⟩
    have w0 : zz T2 76 (4 * q.toNat) = zz S 7 q.toNat := by unfold zz; rw [o76 _ (by omega), g4]
    have w1 : zz T2 76 (4 * q.toNat + 1) = zz S 8 q.toNat := by unfold zz; rw [o76 _ (by omega), g5]
    have w3 : zz T2 76 (4 * q.toNat + 3) = zz S 10 q.toNat := by unfold zz; rw [o76 _ (by omega), g7]
    have V2 : Sv (cv S 0) (mz T2 76) := view T2 (fun c k a1 a2 a3 a4 _ _ => o2 c k a1 a2 a3 a4) (fun k hk _ => o76 k hk)
    have er4 : iI (cv S 0 4 q.toNat) = S 4 q.toNat := (zz_S S 4 _).symm
    rw [hqq]
    refine s_X8_errand q4 ?_
    rw [o2 74 _ (by omega) (by omega) (by omega) (by omega), g1, ← er4]
    refine s_X8_soonestOf hL.1 hp2 V2 (pbU T2 V2 (o76 _ (by omega)) (by rw [w1]; exact ⟨r8, r8'⟩)) (by rw [w3]; omega) ⟨r1, by show zz S 4 q.toNat < 6; omega⟩ ?_
    intro T3 x o3 xa xb hx
    rw [w0, w1, w3] at hx
    have exx : y = x := Soon_uniq hy hx
    subst exx
    rw [← hqq, xq1]
    have e8 : T3 75 (4 * q.toNat + 1) = iI (zz S 8 q.toNat) := by rw [o3 _ _ (by omega) (by omega), o2 _ _ (by omega) (by omega) (by omega) (by omega), g5]; exact zz_S S 8 _
    have second : ∀ C0 : Int, C0 = (if zz S 8 q.toNat + s < 5 then zz S 8 q.toNat + s else 5) → B_X8_lend_134 (P w) (iI q) (iI y) (iI C0) ((4 : Int32) * iI q + 1) T3 := by
      intro C0 hC0
      have hC : 0 ≤ C0 ∧ C0 ≤ 5 := by rw [hC0]; split <;> omega
      unfold B_X8_lend_134
      rw [xq1]
      refine ⟨iq1, fun S4 e4 => ?_⟩
      have o4 : ∀ c k, ¬ (c = 76 ∧ k = 4 * q.toNat + 1) → S4 c k = T3 c k := fun c k hh => by rw [e4, up_ne _ _ hh]
      have V4 : Sv (cv S 0) (mz S4 76) := view S4 (fun c k a1 a2 a3 a4 a5 a6 => by rw [o4 c k (by omega), o3 c k a5 a6, o2 c k a1 a2 a3 a4]) (fun k hk hk2 => by rw [o4 _ _ (by omega), o3 _ _ (by omega) (by omega), o76 k hk])
      have y0 : S4 76 (4 * q.toNat) = S 75 (4 * q.toNat) := by rw [o4 _ _ (by omega), o3 _ _ (by omega) (by omega), o76 _ (by omega)]
      have v0 : zz S4 76 (4 * q.toNat) = zz S 7 q.toNat := by unfold zz; rw [y0, g4]
      have v1 : zz S4 76 (4 * q.toNat + 1) = C0 := zz_iI (by rw [e4, up_at]) (by omega) (by omega)
      have v3 : zz S4 76 (4 * q.toNat + 3) = zz S 10 q.toNat := by unfold zz; rw [o4 _ _ (by omega), o3 _ _ (by omega) (by omega), o76 _ (by omega), g7]
      rw [hqq]
      refine s_X8_errand q4 ?_
      rw [o4 74 _ (by omega), o3 _ _ (by omega) (by omega), o2 74 _ (by omega) (by omega) (by omega) (by omega), g1, ← er4]
      refine s_X8_soonestOf hL.1 hp2 V4 (pbU S4 V4 y0 (by rw [v1]; exact hC)) (by rw [v3]; omega) ⟨r1, by show zz S 4 q.toNat < 6; omega⟩ ?_
      intro T5 x2 o5 ya yb hx2
      rw [v0, v1, v3, hC0] at hx2
      have hI5 : Inv T5 := hfin T5 (fun c k a1 a2 a3 a4 a5 a6 => by rw [o5 c k a5 a6, o4 c k (by omega), o3 c k a5 a6, o2 c k a1 a2 a3 a4])
      rw [show (100000000 : Int32) = iI 100000000 from rfl, iI_le (by omega) (by omega) (by omega) (by omega)]
      unfold wp_X8_told_
      refine ⟨fun h8 => ⟨fun _ => CallOk.fin (S := S) hP hI5 (hya (by omega)), fun e => absurd rfl e⟩, fun h8 => ⟨fun e => absurd e (by decide), fun _ => CallOk.fin (S := S) hP hI5 ?_⟩⟩
      obtain ⟨y2, hy2, hw⟩ := hyb (by omega)
      rw [hw, Soon_uniq hy2 hx2, iI_sub]
    rw [e8, iI_add, show (5 : Int32) = iI 5 from rfl, iI_le (by omega) (by omega) (by omega) (by omega)]
    refine ⟨iq1, fun h5' => ⟨iq1, second _ (by split <;> omega)⟩, fun h5' => second _ (by rw [if_neg (by omega)])⟩
  unfold wp_X7_lend
  refine s_X6_hasPerson (o := 0) p1 p2 (fun h1 h2 => ⟨fun e => absurd e (by decide), fun _ => ?_⟩) (fun h => ⟨fun _ => hG _ (M S _ (fun _ _ _ _ => rfl) (fun _ => rfl) (fun e => absurd e.1 h) (fun e => absurd e.1 h) (fun e => absurd e.1 h)), fun e => absurd rfl e⟩)
  refine s_X6_hasPerson (o := 0) q1 q2 (fun h3 h4 => ⟨fun e => absurd e (by decide), fun _ => ?_⟩) (fun h => ⟨fun _ => hG _ (M S _ (fun _ _ _ _ => rfl) (fun _ => rfl) (fun e => absurd e.2.1 h) (fun e => absurd e.2.1 h) (fun e => absurd e.2.1 h)), fun e => absurd rfl e⟩)
  rw [epq]
  refine ⟨fun hne => ?_, fun he => hG _ (M S _ (fun _ _ _ _ => rfl) (fun _ => rfl) (fun e => absurd he e.2.2) (fun e => absurd he e.2.2) (fun e => absurd he e.2.2))⟩
  have ok : (0 ≤ p ∧ p < zz S 0 2) ∧ (0 ≤ q ∧ q < zz S 0 2) ∧ p ≠ q := ⟨⟨h1, h2⟩, ⟨h3, h4⟩, hne⟩
  refine s_X7_outside (a := 0) (b := 5) s1 s2 (by omega) (by omega) (by omega) (by omega) (fun h5 h6 => ⟨fun _ => ?_, fun e => absurd rfl e⟩) (fun h => ⟨fun e => absurd e (by decide), fun _ => hG _ (M S _ (fun _ _ _ _ => rfl) (fun e => absurd ok e) (fun _ _ => rfl) (fun _ e => absurd e h) (fun _ e => absurd e h))⟩)
  obtain ⟨p4, pb, pm, pt, _, _, _, f4, f5, f6, f7⟩ := hI.pers (p := p.toNat) (by omega)
  obtain ⟨q4, qb, qm, qt, g1, g2, g3, g4, g5, g6, g7⟩ := hI.pers (p := q.toNat) (by omega)
  obtain ⟨_, _, _, _, _, _, _, _, pc, pc', _⟩ := id pb
  obtain ⟨r1, r1', _, _, _, _, r7, r7', r8, r8', _⟩ := id qb
  simp only [cv, Nat.zero_add] at pc pc' r1 r1' r7 r7' r8 r8'
  have hqq : iI q = iI (q.toNat : Int) := by congr 1; omega
  have xp : ix (iI p) = p.toNat := by rw [iI_ix (by omega) (by omega)]
  have xq : ix (iI q) = q.toNat := by rw [iI_ix (by omega) (by omega)]
  have ip : vp_in (iI p) 4 := (iI_in (by omega) (by omega)).mpr ⟨by omega, by omega⟩
  have iq : vp_in (iI q) 4 := (iI_in (by omega) (by omega)).mpr ⟨by omega, by omega⟩
  have e77 : S 7 p.toNat = S 7 q.toNat ↔ zz S 7 p.toNat = zz S 7 q.toNat := ⟨fun e => by unfold zz; rw [e], fun e => zz_inj e⟩
  rw [xp, xq, e77, zz_S S 8 p.toNat, iI_le (by omega) (by omega) (by omega) (by omega)]
  refine ⟨ip, iq, fun hn => hG _ (M S _ (fun _ _ _ _ => rfl) (fun e => absurd ok e) (fun _ e => absurd ⟨h5, h6⟩ e) (fun _ _ _ => rfl) (fun _ _ e => absurd e.1 hn)), fun h77 => ⟨ip, fun h8 => ?_, fun hn => hG _ (M S _ (fun _ _ _ _ => rfl) (fun e => absurd ok e) (fun _ e => absurd ⟨h5, h6⟩ e) (fun _ _ _ => rfl) (fun _ _ e => absurd e.2 hn))⟩⟩
  refine s_X6_become (o := 11) (o2 := 0) (fun f g hf hg => by omega) ?_
  intro T hT1 hT2
  have hA : Ag (cv S 0) (cv T 11) := cv_Ag hL.1 (fun f k h1 h2 h3 h4 => hT1 f k h1 h2 h3 h4)
  have hp2 : ((q.toNat : Nat) : Int) < cv S 0 0 2 := by show _ < zz S 0 2; omega
  have u7 : T 18 q.toNat = S 7 q.toNat := hT1 7 q.toNat (by omega) (by omega) (by omega) (by omega)
  have u8 : T 19 q.toNat = S 8 q.toNat := hT1 8 q.toNat (by omega) (by omega) (by omega) (by omega)
  have u10 : T 21 q.toNat = S 10 q.toNat := hT1 10 q.toNat (by omega) (by omega) (by omega) (by omega)
  rw [hqq]
  refine s_X4_soonestAtErrand (v := cv S 0) (a0 := zz S 7 q.toNat) (c0 := zz S 8 q.toNat) (t0 := zz S 10 q.toNat) hL.1 hp2 hA.sv ((Ag_Lb hA hL.1).2.2 _ (by rw [hA.1 2 (by omega)]; exact hp2)) (by unfold zz; rw [u7]) (by unfold zz; rw [u8]) (by unfold zz; rw [u10]) ⟨r7, r7'⟩ ⟨r8, r8'⟩ (by omega) ?_
  intro T2 y o2 ya yb hy
  have oT2 : ∀ c k, ¬ (11 ≤ c ∧ c ≤ 21) → ¬ (50 ≤ c ∧ c ≤ 54) → T2 c k = S c k := fun c k a1 a2 => by rw [o2 c k (by omega) (by omega) (by omega), hT2 c k (by omega)]
  have em1 : iI (if y = 100000000 then -1 else y) = -1 ↔ y = 100000000 := by
    rw [show (-1 : Int32) = iI (-1) from by decide]
    split
    · next e => exact ⟨fun _ => e, fun _ => rfl⟩
    · next e => rw [iI_eq (by omega) (by omega) (by omega) (by omega)]; omega
  rw [em1, ← hqq, oT2 8 _ (by omega) (by omega), zz_S S 8 q.toNat, iI_add]
  refine ⟨fun hyn => ⟨iq, iq, fun S5 e5 => ?_⟩, fun hye => hG _ (M T2 _ oT2 (fun e => absurd ok e) (fun _ e => absurd ⟨h5, h6⟩ e) (fun _ _ e => absurd ⟨h77, h8⟩ e) (fun _ _ _ => ⟨y, hy, fun _ => rfl, fun e => absurd hye e⟩))⟩
  obtain ⟨C0, hC0⟩ : ∃ C0 : Int, C0 = (if zz S 8 q.toNat + s < 5 then zz S 8 q.toNat + s else 5) := ⟨_, rfl⟩
  have hC : zz S 8 q.toNat ≤ C0 ∧ 0 ≤ C0 ∧ C0 ≤ 5 := by rw [hC0]; split <;> omega
  have e5 : S5 = up T2 19 q.toNat (iI C0) := by
    rw [e5, hC0, show (5 : Int32) = iI 5 from rfl]
    congr 1
    by_cases hlt : zz S 8 q.toNat + s < 5
    · rw [if_pos hlt, if_pos ((iI_lt (by omega) (by omega) (by omega) (by omega)).mpr hlt)]
    · rw [if_neg hlt, if_neg (fun e => hlt ((iI_lt (by omega) (by omega) (by omega) (by omega)).mp e))]
  have o5 : ∀ c k, ¬ (c = 19 ∧ k = q.toNat) → S5 c k = T2 c k := fun c k hh => by rw [e5, up_ne _ _ hh]
  have cvz : ∀ f k, f ≤ 10 → f ≠ 8 → cv S5 11 f k = cv T 11 f k := fun f k hf h8 => by unfold cv zz; rw [o5 _ _ (by omega), o2 _ _ (by omega) (by omega) (by omega)]
  have V5 : Sv (cv S 0) (cv S5 11) := hA.sv.trans ⟨fun k _ => cvz _ _ (by omega) (by omega), fun r _ => ⟨cvz _ _ (by omega) (by omega), cvz _ _ (by omega) (by omega), cvz _ _ (by omega) (by omega)⟩, fun a _ => ⟨cvz _ _ (by omega) (by omega), cvz _ _ (by omega) (by omega), cvz _ _ (by omega) (by omega), cvz _ _ (by omega) (by omega)⟩⟩
  have z7 : zz S5 18 q.toNat = zz S 7 q.toNat := by unfold zz; rw [o5 _ _ (by omega), o2 _ _ (by omega) (by omega) (by omega), u7]
  have z8 : zz S5 19 q.toNat = C0 := zz_iI (by rw [e5, up_at]) (by omega) (by omega)
  have z10 : zz S5 21 q.toNat = zz S 10 q.toNat := by unfold zz; rw [o5 _ _ (by omega), o2 _ _ (by omega) (by omega) (by omega), u10]
  rw [hqq]
  refine s_X4_soonestAtErrand (v := cv S 0) (a0 := zz S 7 q.toNat) (c0 := C0) (t0 := zz S 10 q.toNat) hL.1 hp2 V5 (Sv_Pb V5 hp2 qb (by show 0 ≤ zz S5 18 q.toNat ∧ zz S5 18 q.toNat < zz S 0 0; rw [z7]; exact ⟨r7, r7'⟩) (by show 0 ≤ zz S5 19 q.toNat ∧ zz S5 19 q.toNat ≤ 5; rw [z8]; exact hC.2)) z7 z8 z10 ⟨r7, r7'⟩ hC.2 (by omega) ?_
  intro T6 y2 o6 y2a y2b hy2
  have hy2n : y2 ≠ 100000000 := by
    intro e
    rcases hy2 with ⟨_, w, _⟩ | ⟨_, w⟩
    · omega
    · rcases hy with ⟨_, _, ⟨n, c, w2⟩, _⟩ | ⟨w2, _⟩
      · obtain ⟨n', C, T', w3, _⟩ := Rc_calm hL.1 hC.1 hC.2.2 _ _ _ _ _ w2
        exact w _ _ _ w3
      · exact hyn w2
  rw [if_neg hyn, if_neg hy2n, iI_sub, ← hqq]
  refine hG _ (M T6 _ (fun c k a1 a2 => by rw [o6 c k (by omega) (by omega) (by omega), o5 c k (by omega), oT2 c k a1 a2]) (fun e => absurd ok e) (fun _ e => absurd ⟨h5, h6⟩ e) (fun _ _ e => absurd ⟨h77, h8⟩ e) (fun _ _ _ => ⟨y, hy, fun e => absurd e hyn, fun _ => ⟨y2, by rw [← hC0]; exact hy2, rfl⟩⟩))
