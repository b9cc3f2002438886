/-! meet: the call, whole -/
theorem call_meet (x1 x2 x3 : Int32) : CallOk (wp_X7_meet x1 x2 x3) (wp_X8_meet x1 x2 x3) := by
  intro S hI G hG P hP
  obtain ⟨p, p1, p2, rfl⟩ := iI_ex x1
  obtain ⟨q, q1, q2, rfl⟩ := iI_ex x2
  obtain ⟨s, s1, s2, rfl⟩ := iI_ex x3
  have hH0 := hI.head
  obtain ⟨b0, b0', b1, b1', b2, b2', _⟩ := id hH0.1
  simp only [cv, Nat.add_zero] at b0 b0' b1 b1' b2 b2'
  obtain ⟨hL, _⟩ := id hI
  have hfin : ∀ (T : St), (∀ c k, ¬ (11 ≤ c ∧ c ≤ 21) → ¬ (47 ≤ c ∧ c ≤ 54 ∧ c ≠ 48 ∧ c ≠ 49) → ¬ (c = 71 ∧ k = 0) → c ≠ 76 → c ≠ 81 → c ≠ 82 → c ≠ 89 → T c k = S c k) → Inv T := fun T h => hI.sm (fun c k hc => h c k (by unfold ps at hc; omega) (by unfold ps at hc; omega) (by unfold ps at hc; omega) (by unfold ps at hc; omega) (by unfold ps at hc; omega) (by unfold ps at hc; omega) (by unfold ps at hc; omega))
  have epq : iI p = iI q ↔ p = q := iI_eq p1 p2 q1 q2
  obtain ⟨n, hn⟩ : ∃ n : Nat, zz S 0 0 = (n : Int) := ⟨(zz S 0 0).toNat, by omega⟩
  have es0 : iI s = 0 ↔ s = 0 := by rw [show (0 : Int32) = iI 0 from rfl]; exact iI_eq s1 s2 (by omega) (by omega)
  have es1 : iI s = 1 ↔ s = 1 := by rw [show (1 : Int32) = iI 1 from rfl]; exact iI_eq s1 s2 (by omega) (by omega)
  have e1 : (-1 : Int32) = iI (-1) := by decide
  have M : ∀ (T : St) (w : Int32), (∀ c k, ¬ (11 ≤ c ∧ c ≤ 21) → ¬ (47 ≤ c ∧ c ≤ 54 ∧ c ≠ 48 ∧ c ≠ 49) → T c k = S c k) → (¬ ((0 ≤ p ∧ p < zz S 0 2) ∧ (0 ≤ q ∧ q < zz S 0 2) ∧ p ≠ q) → w = -1000000001) → ((0 ≤ p ∧ p < zz S 0 2) ∧ (0 ≤ q ∧ q < zz S 0 2) ∧ p ≠ q → ¬ (0 ≤ s ∧ s ≤ 1) → w = -1000000002) → ((0 ≤ p ∧ p < zz S 0 2) ∧ (0 ≤ q ∧ q < zz S 0 2) ∧ p ≠ q → (0 ≤ s ∧ s ≤ 1) → ∃ A B : Nat → Int, Cn n A ∧ Cn n B ∧ (∀ b : Nat, b < n → Soon (cv S 0) p.toNat (zz S 7 p.toNat) (zz S 8 p.toNat) (zz S 10 p.toNat) b (A b)) ∧ (∀ b : Nat, b < n → Soon (cv S 0) q.toNat (zz S 7 q.toNat) (zz S 8 q.toNat) (zz S 10 q.toNat) b (B b)) ∧ w = iI (if (mtF A B n 0 (-1) 100000000).1 = -1 then -1 else if s = 1 then (mtF A B n 0 (-1) 100000000).1 else (mtF A B n 0 (-1) 100000000).2)) → wp_X8_meet (iI p) (iI q) (iI s) T (P w) := by
    intro T w hT1 k0 k1 k3
    unfold wp_X8_meet
    intro S1 e1'
    have o1 : ∀ c k, ¬ (11 ≤ c ∧ c ≤ 21) → ¬ (47 ≤ c ∧ c ≤ 54 ∧ c ≠ 48 ∧ c ≠ 49) → ¬ (c = 71 ∧ k = 0) → S1 c k = S c k := fun c k h1 h2 h3 => by rw [e1', up_ne _ _ h3, hT1 c k h1 h2]
    have z1' : ∀ c k, ¬ (11 ≤ c ∧ c ≤ 21) → ¬ (47 ≤ c ∧ c ≤ 54 ∧ c ≠ 48 ∧ c ≠ 49) → ¬ (c = 71 ∧ k = 0) → zz S1 c k = zz S c k := fun c k h1 h2 h3 => by unfold zz; rw [o1 c k h1 h2 h3]
    have hI1 : Inv S1 := hfin S1 (fun c k h1 h2 h3 _ _ _ _ => o1 c k h1 h2 h3)
    have c12 : zz S1 71 12 = zz S 0 2 := (z1' _ _ (by omega) (by omega) (by omega)).trans hH0.2.2.2.2.1
    refine s_X8_isPerson p1 p2 (by omega) (fun h1 h2 => ⟨fun e => absurd e (by decide), fun _ => ?_⟩) (fun h => ⟨fun _ => CallOk.fin (S := S) hP hI1 (k0 (by omega)), fun e => absurd rfl e⟩)
    refine s_X8_isPerson q1 q2 (by omega) (fun h3 h4 => ⟨fun e => absurd e (by decide), fun _ => ?_⟩) (fun h => ⟨fun _ => CallOk.fin (S := S) hP hI1 (k0 (by omega)), fun e => absurd rfl e⟩)
    rw [epq]
    refine ⟨fun hne => ?_, fun he => CallOk.fin (S := S) hP hI1 (k0 (by omega))⟩
    refine s_X8_in (a := 0) (b := 1) s1 s2 (by omega) (by omega) (by omega) (by omega) (fun h5 h6 => ⟨fun _ => ?_, fun e => absurd e (by decide)⟩) (fun h => ⟨fun e => absurd rfl e, fun _ => CallOk.fin (S := S) hP hI1 (k1 (by omega) (by omega))⟩)
    obtain ⟨A, B, hA, hB, sA, sB, hw⟩ := k3 (by omega) (by omega)
    refine s_X8_asNow ?_
    intro T2 hT2
    have o2 : ∀ c k, ¬ (11 ≤ c ∧ c ≤ 21) → ¬ (47 ≤ c ∧ c ≤ 54 ∧ c ≠ 48 ∧ c ≠ 49) → ¬ (c = 71 ∧ k = 0) → c ≠ 76 → T2 c k = S c k := fun c k h1 h2 h3 h4 => by rw [hT2, if_neg (by omega), o1 c k h1 h2 h3]
    have o76 : ∀ k, k < 28 → T2 76 k = S 75 k := fun k hk => by rw [hT2, if_pos ⟨rfl, hk⟩, o1 _ _ (by omega) (by omega) (by omega)]
    have view : ∀ U : St, (∀ c k, c ≠ 81 → c ≠ 82 → c ≠ 89 → U c k = T2 c k) → Ag (cv S 0) (mz U 76) := fun U hU => now_view hI (fun k hk => by rw [hU _ _ (by omega) (by omega) (by omega), o76 k hk]) (fun c k h => by rw [hU _ _ (by omega) (by omega) (by omega), o2 c k (by omega) (by omega) (by omega) (by omega)])
    have h10 : T2 71 10 = iI (n : Int) := by rw [o2 _ _ (by omega) (by omega) (by omega) (by omega), ← hn, zz_inj hH0.2.2.1]; exact zz_S S 0 0
    have hpp : iI p = iI (p.toNat : Int) := by congr 1; omega
    have hqq : iI q = iI (q.toNat : Int) := by congr 1; omega
    have nb := hA.1
    refine ⟨n + 1, ?_⟩
    refine s_X8_meet_48 (S := T2) hA h10 ?_ ?_ n 0 T2 (by omega) (fun _ _ _ _ _ => rfl) (fun b hb => absurd hb (by omega))
    · intro U po b hU hb hpo
      rw [hpp]
      refine s_X8_soonNow hI (by omega) (view U hU) (by omega) ?_
      intro T' x o' _ _ hx
      rw [← Soon_uniq (sA b hb) hx]
      exact hpo T' o'
    · intro T3 o3 h89
      unfold B_X8_meet_77
      rw [e1, show (100000000 : Int32) = iI 100000000 from rfl]
      refine ⟨n + 1, ?_⟩
      refine s_X8_meet_87 (S := T3) hA hB (by rw [o3 _ _ (by omega) (by omega) (by omega), h10]) h89 ?_ n 0 (-1) 100000000 T3 (by omega) (by omega) (by omega) (by omega) (by omega) (fun _ _ _ _ => rfl) ?_
      · intro U po b hU hb hpo
        rw [hqq]
        refine s_X8_soonNow hI (by omega) (view U (fun c k a1 a2 a3 => by rw [hU c k a1 a2, o3 c k a1 a2 a3])) (by omega) ?_
        intro T' x o' _ _ hx
        rw [← Soon_uniq (sB b hb) hx]
        exact hpo T' o'
      · intro bp bm T4 e4 o4
        have hI4 : Inv T4 := hfin T4 (fun c k a1 a2 a3 a4 a5 a6 a7 => by rw [o4 c k a5 a6, o3 c k a5 a6 a7, o2 c k a1 a2 a3 a4])
        have hmb := mt_b hA hB n 0 (-1) 100000000 (by omega) (by omega) (by omega) (by omega) (by omega)
        rw [← e4] at hw hmb
        unfold B_X8_meet_169
        rw [e1, iI_eq (by omega) (by omega) (by omega) (by omega), es1]
        refine ⟨fun hb => CallOk.fin (S := S) hP hI4 ?_, fun hb => ⟨fun hs => CallOk.fin (S := S) hP hI4 ?_, fun hs => CallOk.fin (S := S) hP hI4 ?_⟩⟩
        · rw [hw, if_pos hb, hb]
        · rw [hw, if_neg hb, if_neg hs]
        · rw [hw, if_neg hb, if_pos hs]
  unfold wp_X7_meet
  refine s_X6_hasPerson (o := 0) p1 p2 (fun h1 h2 => ⟨fun e => absurd e (by decide), fun _ => ?_⟩) (fun h => ⟨fun _ => hG _ (M S _ (fun _ _ _ _ => rfl) (fun _ => rfl) (fun e => absurd e.1 h) (fun e => absurd e.1 h)), fun e => absurd rfl e⟩)
  refine s_X6_hasPerson (o := 0) q1 q2 (fun h3 h4 => ⟨fun e => absurd e (by decide), fun _ => ?_⟩) (fun h => ⟨fun _ => hG _ (M S _ (fun _ _ _ _ => rfl) (fun _ => rfl) (fun e => absurd e.2.1 h) (fun e => absurd e.2.1 h)), fun e => absurd rfl e⟩)
  rw [epq]
  refine ⟨fun hne => ?_, fun he => hG _ (M S _ (fun _ _ _ _ => rfl) (fun _ => rfl) (fun e => absurd he e.2.2) (fun e => absurd he e.2.2))⟩
  have ok : (0 ≤ p ∧ p < zz S 0 2) ∧ (0 ≤ q ∧ q < zz S 0 2) ∧ p ≠ q := ⟨⟨h1, h2⟩, ⟨h3, h4⟩, hne⟩
  refine s_X7_outside (a := 0) (b := 1) s1 s2 (by omega) (by omega) (by omega) (by omega) (fun h5 h6 => ⟨fun _ => ?_, fun e => absurd rfl e⟩) (fun h => ⟨fun e => absurd e (by decide), fun _ => hG _ (M S _ (fun _ _ _ _ => rfl) (fun e => absurd ok e) (fun _ _ => rfl) (fun _ e => absurd e h))⟩)
  refine s_X6_become (o := 11) (o2 := 0) (fun f g hf hg => by omega) ?_
  intro T hT1 hT2
  have hAg : Ag (cv S 0) (cv T 11) := cv_Ag hL.1 (fun f k h1 h2 h3 h4 => hT1 f k h1 h2 h3 h4)
  have hpp : iI p = iI (p.toNat : Int) := by congr 1; omega
  have hqq : iI q = iI (q.toNat : Int) := by congr 1; omega
  have start : ∀ a : Nat, (a : Int) < zz S 0 2 → ((0 ≤ zz S 7 a ∧ zz S 7 a < cv S 0 0 0) ∧ (0 ≤ zz S 8 a ∧ zz S 8 a ≤ 5) ∧ (0 ≤ zz S 10 a ∧ zz S 10 a ≤ 900000)) := by
    intro a ha
    obtain ⟨_, pb, _, pt, _⟩ := hI.pers ha
    obtain ⟨_, _, _, _, _, _, g1, g2, g3, g4, _⟩ := id pb
    simp only [cv, Nat.zero_add] at g1 g2 g3 g4
    exact ⟨⟨g1, g2⟩, ⟨g3, g4⟩, by omega⟩
  have hnv : cv S 0 0 0 = (n : Int) := hn
  rw [hpp, e1]
  refine s_X4_exploreNow hI (by omega) hAg (by omega) ?_
  intro T2 Z m o2 hF hs
  obtain ⟨sp1, sp2, sp3⟩ := start p.toNat (by omega)
  obtain ⟨sq1, sq2, sq3⟩ := start q.toNat (by omega)
  have hp2 : ((p.toNat : Nat) : Int) < cv S 0 0 2 := by show _ < zz S 0 2; omega
  have hq2 : ((q.toNat : Nat) : Int) < cv S 0 0 2 := by show _ < zz S 0 2; omega
  obtain ⟨A, hA, hAat⟩ := Fn_all hL.1 hp2 sp1 sp2 sp3 hF hs
  have cA : Cn n A := ⟨by omega, fun b hb => ⟨(hA b (by omega)).1, (hA b (by omega)).2.1⟩⟩
  have h00 : T2 0 0 = iI (n : Int) := by rw [o2 _ _ (by omega) (by omega) (by omega), hT2 _ _ (by omega), ← hn]; exact zz_S S 0 0
  refine ⟨n + 1, ?_⟩
  refine s_X7_meet_66 (S := T2) cA h00 ?_ ?_ n 0 T2 (by omega) (fun _ _ _ => rfl) (fun b hb => absurd hb (by omega))
  · intro U po b hU hb hpo
    exact hAat U po b (fun j _ => by unfold zz; rw [hU _ _ (by omega)]) (by omega) hpo
  · intro T3 o3 h47
    unfold B_X7_meet_100
    have hAg3 : Ag (cv S 0) (cv T3 11) := by
      refine cv_Ag hL.1 (fun f k a1 a2 a3 a4 => ?_)
      rw [o3 _ _ (by omega), o2 _ _ (by omega) (by omega) (by omega)]
      exact hT1 f k a1 a2 a3 a4
    rw [hqq, e1]
    refine s_X4_exploreNow hI (by omega) hAg3 (by omega) ?_
    intro T4 Z2 m2 o4 hF2 hs2
    obtain ⟨B, hB, hBat⟩ := Fn_all hL.1 hq2 sq1 sq2 sq3 hF2 hs2
    have cB : Cn n B := ⟨by omega, fun b hb => ⟨(hB b (by omega)).1, (hB b (by omega)).2.1⟩⟩
    refine ⟨n + 1, ?_⟩
    have key := s_X7_meet_119 (n := n) (A := A) (B := B) (S := T4) (x3 := iI s) (post := fun r S1 => G (wp_X8_meet (iI p) (iI q) (iI s) S1 (P r))) cA cB (by rw [o4 _ _ (by omega) (by omega) (by omega), o3 _ _ (by omega), h00]) (fun b hb => by rw [o4 _ _ (by omega) (by omega) (by omega), h47 b hb]) (fun po b hb hpo => hBat T4 po b (fun _ _ => rfl) (by omega) hpo) n 0 (-1) 100000000 (by omega) (by omega) (by omega) (by omega) (by omega) (by omega)
    rw [← hpp, ← hqq]
    refine key ?_
    intro bp bm e4 hpm
    have oM : ∀ c k, ¬ (11 ≤ c ∧ c ≤ 21) → ¬ (47 ≤ c ∧ c ≤ 54 ∧ c ≠ 48 ∧ c ≠ 49) → T4 c k = S c k := fun c k a1 a2 => by rw [o4 c k (by omega) (by omega) (by omega), o3 c k (by omega), o2 c k (by omega) (by omega) (by omega), hT2 c k (by omega)]
    unfold B_X7_meet_203
    rw [es0]
    refine ⟨fun hs0 => hG _ (M T4 _ oM (fun e => absurd ok e) (fun _ e => absurd ⟨h5, h6⟩ e) (fun _ _ => ⟨A, B, cA, cB, fun b hb => (hA b (by omega)).2.2, fun b hb => (hB b (by omega)).2.2, ?_⟩)), fun hs0 => hG _ (M T4 _ oM (fun e => absurd ok e) (fun _ e => absurd ⟨h5, h6⟩ e) (fun _ _ => ⟨A, B, cA, cB, fun b hb => (hA b (by omega)).2.2, fun b hb => (hB b (by omega)).2.2, ?_⟩))⟩
    · rw [← e4]
      show iI bp = iI (if bp = -1 then -1 else if s = 1 then bp else bm)
      by_cases hb : bp = -1
      · rw [if_pos hb, hb]
      · rw [if_neg hb, if_pos (by omega)]
    · rw [← e4]
      show iI (if bp = -1 then -1 else bm) = iI (if bp = -1 then -1 else if s = 1 then bp else bm)
      rw [if_neg (show ¬ s = 1 by omega)]
