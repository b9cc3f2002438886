/-! round: the call -/
theorem s_X8_round_fill {v : Vw} {p s l0 : Nat} {a0 c0 t0 : Int} {S : St} {post : Int32 → St → Prop} (hL : Lb v) (hp : (p : Int) < v 0 2) (hs : s < 64) (hl0 : l0 = s &&& 2 ^ a0.toNat) (ha : 0 ≤ a0 ∧ a0 < v 0 0) (hc : 0 ≤ c0 ∧ c0 ≤ 5) (ht : 0 ≤ t0 ∧ t0 ≤ 100000) (hS : Sv v (mz S 76)) (hP : Pb (mz S 76) p) (e0 : zz S 76 (4 * p) = a0) (e1 : zz S 76 (4 * p + 1) = c0) (e3 : zz S 76 (4 * p + 3) = t0) (h : ∀ T x, (∀ c k, c ≠ 83 → c ≠ 84 → T c k = S c k) → RS v p s l0 a0 c0 t0 x → post (iI (if x = 100000000 then -1 else x)) T) : B_X8_round_38 post (iI p) (iI s) 0 S := by
  obtain ⟨b0, b0', b1, b1', b2, b2', _⟩ := id hL.1
  have x0 : ix ((4 : Int32) * iI p) = 4 * p := by
    simp (disch := omega) only [iI_add, iI_sub, iI_mul, iI_le, iI_lt, iI_eq, iI_ix, iI_in, iI_neg, iI_lit]; omega
  have x1 : ix ((4 : Int32) * iI p + 1) = 4 * p + 1 := by
    simp (disch := omega) only [iI_add, iI_sub, iI_mul, iI_le, iI_lt, iI_eq, iI_ix, iI_in, iI_neg, iI_lit]; omega
  have x3 : ix ((4 : Int32) * iI p + 3) = 4 * p + 3 := by
    simp (disch := omega) only [iI_add, iI_sub, iI_mul, iI_le, iI_lt, iI_eq, iI_ix, iI_in, iI_neg, iI_lit]; omega
  have i0 : vp_in ((4 : Int32) * iI p) 28 := by
    simp (disch := omega) only [iI_add, iI_sub, iI_mul, iI_le, iI_lt, iI_eq, iI_ix, iI_in, iI_neg, iI_lit]; omega
  have i1 : vp_in ((4 : Int32) * iI p + 1) 28 := by
    simp (disch := omega) only [iI_add, iI_sub, iI_mul, iI_le, iI_lt, iI_eq, iI_ix, iI_in, iI_neg, iI_lit]; omega
  have i3 : vp_in ((4 : Int32) * iI p + 3) 28 := by
    simp (disch := omega) only [iI_add, iI_sub, iI_mul, iI_le, iI_lt, iI_eq, iI_ix, iI_in, iI_neg, iI_lit]; omega
  have hsub := set_sub ⟨s, hs⟩ ⟨a0.toNat, by omega⟩
  have hsub1 : l0 ||| s = s := by rw [hl0]; exact hsub.1
  have hsub2 : l0 < 64 := by rw [hl0]; exact hsub.2
  have eset : iI (s : Int) &&& ((1 : Int32) <<< (iI a0 &&& 31)) = iI (l0 : Int) := by
    have := set_bit ⟨s, hs⟩ ⟨a0.toNat, by omega⟩
    rw [hl0, ← this]
    show _ = iI (s : Int) &&& ((1 : Int32) <<< (iI (a0.toNat : Int) &&& 31))
    rw [Int.toNat_of_nonneg ha.1]
  have key : ∀ (d n : Nat) (T : St), n + d = 2304 → (∀ c k, c ≠ 83 → c ≠ 84 → T c k = S c k) → (∀ j, j < n → T 83 j = 100000000 ∧ T 84 j = 0) → L_X8_round_38 post (d + 1) (iI p) (iI s) (iI n) T := by
    intro d
    induction d with
    | zero =>
      intro n T hn hF hj
      show BD_X8_round_38 (L_X8_round_38 post 0) post _ _ _ _
      unfold BD_X8_round_38
      rw [show (2304 : Int32) = iI 2304 from rfl, iI_le (by omega) (by omega) (by omega) (by omega)]
      refine ⟨fun _ => ?_, fun e => absurd (by omega) e⟩
      unfold B_X8_round_66
      obtain ⟨i, hi⟩ : ∃ i : Nat, 36 * l0 + 6 * a0.toNat + c0.toNat = i := ⟨_, rfl⟩
      have ei : (36 : Int32) * iI (l0 : Int) + (6 : Int32) * iI a0 + iI c0 = iI (i : Int) := by
        rw [show (36 : Int32) = iI 36 from rfl, show (6 : Int32) = iI 6 from rfl, iI_mul, iI_mul, iI_add, iI_add]
        congr 1
        omega
      have xi : ix (iI (i : Int)) = i := by rw [iI_ix (by omega) (by omega)]; simp
      have ii : vp_in (iI (i : Int)) 2304 := (iI_in (by omega) (by omega)).mpr ⟨by omega, by omega⟩
      rw [x0, x1, x3, hF 76 _ (by omega) (by omega), hF 76 _ (by omega) (by omega), hF 76 _ (by omega) (by omega), zz_S S 76 (4 * p), zz_S S 76 (4 * p + 1), zz_S S 76 (4 * p + 3), e0, e1, e3, eset, ei]
      refine ⟨i0, i0, i1, fun v1 ev1 => ?_⟩
      rw [ev1, xi]
      refine ⟨i3, ii, fun S2 e2 => ?_⟩
      have hi36 : i < 2304 := by omega
      have z1 : zz S2 83 i = t0 := zz_iI (by rw [e2, up_at]) (by omega) (by omega)
      have z2 : ∀ j, j < 2304 → j ≠ i → zz S2 83 j = 100000000 := fun j h1 h2 => by
        unfold zz
        rw [e2, up_ne _ _ (by omega), (hj j (by omega)).1]
        decide
      have z3 : ∀ j, j < 2304 → zz S2 84 j = 0 := fun j h1 => by
        unfold zz
        rw [e2, up_ne _ _ (by omega), (hj j (by omega)).2]
        decide
      have hc0 : cn (zz S2 84) 2304 = 0 := cn_0 2304 z3
      refine ⟨2304 + 1, s_X8_round_loop hL hp hs hsub1 ha hc ht hS hP h 2304 S2 i (by omega) (fun c k h1 h2 => by rw [e2, up_ne _ _ (by omega), hF c k h1 h2]) ⟨fun j h1 => Or.inl (z3 j h1), fun j h1 => ?_, fun j h1 h2 => ?_, fun j k h1 _ h2 => ?_, ?_⟩ (Or.inr ⟨i, rfl, hi36, z3 i hi36, by omega, fun j h1 _ => ?_⟩)⟩
      · by_cases hji : j = i
        · subst hji
          rw [z1, hc0]
          exact Or.inr ⟨by omega, ht.1, by omega, 0, by omega, by omega, by omega, rfl⟩
        · exact Or.inl (z2 j h1 hji)
      · have := z3 j h1
        omega
      · have := z3 j h1
        omega
      · rw [hi, z1]; exact Int.le_refl _
      · by_cases hji : j = i
        · rw [hji]; exact Int.le_refl _
        · rw [z1, z2 j h1 hji]; omega
    | succ d ih =>
      intro n T hn hF hj
      show BD_X8_round_38 (L_X8_round_38 post (d + 1)) post _ _ _ _
      unfold BD_X8_round_38
      have xn : ix (iI (n : Int)) = n := by rw [iI_ix (by omega) (by omega)]; simp
      have ni : vp_in (iI (n : Int)) 2304 := (iI_in (by omega) (by omega)).mpr ⟨by omega, by omega⟩
      have en : iI (n : Int) + 1 = iI ((n + 1 : Nat) : Int) := by rw [show (1 : Int32) = iI 1 from rfl, iI_add]; rfl
      rw [show (2304 : Int32) = iI 2304 from rfl, iI_le (by omega) (by omega) (by omega) (by omega), xn, en]
      refine ⟨fun q => absurd q (by omega), fun _ => ⟨ni, fun S2 e2 => ⟨ni, fun S4 e4 => ?_⟩⟩⟩
      refine ih (n + 1) S4 (by omega) (fun c k h1 h2 => by rw [e4, up_ne _ _ (by omega), e2, up_ne _ _ (by omega), hF c k h1 h2]) (fun j h1 => ?_)
      by_cases hjn : j = n
      · subst hjn
        rw [e4, up_at, up_ne _ _ (by omega), e2, up_at]
        exact ⟨rfl, rfl⟩
      · rw [e4, up_ne _ _ (by omega), up_ne _ _ (by omega), e2, up_ne _ _ (by omega), up_ne _ _ (by omega)]
        exact hj j (by omega)
  have := key 2304 0 S (by omega) (fun _ _ _ _ => rfl) (fun j hj => absurd hj (by omega))
  exact ⟨2304 + 1, this⟩
theorem call_round (x1 x2 : Int32) : CallOk (wp_X7_round x1 x2) (wp_X8_round x1 x2) := by
  intro S hI G hG P hP
  obtain ⟨p, p1, p2, rfl⟩ := iI_ex x1
  obtain ⟨s, s1, s2, rfl⟩ := iI_ex x2
  have hH0 := hI.head
  obtain ⟨b0, b0', b1, b1', b2, b2', _⟩ := id hH0.1
  simp only [cv, Nat.add_zero] at b0 b0' b1 b1' b2 b2'
  obtain ⟨hL, _⟩ := id hI
  obtain ⟨n, hn⟩ : ∃ n : Nat, zz S 0 0 = (n : Int) := ⟨(zz S 0 0).toNat, by omega⟩
  have hn6 : n < 7 := by omega
  have hNb := pow_b ⟨n, hn6⟩
  have hNs := shl_n ⟨n, hn6⟩
  obtain ⟨N, hN⟩ : ∃ N : Nat, N = 2 ^ n := ⟨_, rfl⟩
  have hNb : 1 ≤ N ∧ N ≤ 64 := by rw [hN]; exact hNb
  have hNs : ((1 : Int32) <<< (iI (n : Int) &&& 31)) = iI (N : Int) := by rw [hN]; exact hNs
  have hfin : ∀ (T : St), (∀ c k, ¬ (11 ≤ c ∧ c ≤ 21) → ¬ (50 ≤ c ∧ c ≤ 54) → ¬ (c = 71 ∧ k = 0) → c ≠ 76 → c ≠ 83 → c ≠ 84 → T c k = S c k) → Inv T := fun T h => hI.sm (fun c k hc => h c k (by unfold ps at hc; omega) (by unfold ps at hc; omega) (by unfold ps at hc; omega) (by unfold ps at hc; omega) (by unfold ps at hc; omega) (by unfold ps at hc; omega))
  have M : ∀ (T : St) (w : Int32), (∀ c k, ¬ (11 ≤ c ∧ c ≤ 21) → ¬ (50 ≤ c ∧ c ≤ 54) → T c k = S c k) → (¬ ((0 ≤ p ∧ p < zz S 0 2) ∧ (0 ≤ s ∧ s ≤ (N : Int) - 1)) → w = -1000000001) → ((0 ≤ p ∧ p < zz S 0 2) ∧ (0 ≤ s ∧ s ≤ (N : Int) - 1) → ∃ x, RS (cv S 0) p.toNat s.toNat (s.toNat &&& 2 ^ (zz S 7 p.toNat).toNat) (zz S 7 p.toNat) (zz S 8 p.toNat) (zz S 10 p.toNat) x ∧ w = iI (if x = 100000000 then -1 else x)) → wp_X8_round (iI p) (iI s) T (P w) := by
    intro T w hT1 q0 q1
    unfold wp_X8_round
    intro S1 e1
    have o1 : ∀ c k, ¬ (11 ≤ c ∧ c ≤ 21) → ¬ (50 ≤ c ∧ c ≤ 54) → ¬ (c = 71 ∧ k = 0) → S1 c k = S c k := fun c k h1 h2 h3 => by rw [e1, up_ne _ _ h3, hT1 c k h1 h2]
    have z1' : ∀ c k, ¬ (11 ≤ c ∧ c ≤ 21) → ¬ (50 ≤ c ∧ c ≤ 54) → ¬ (c = 71 ∧ k = 0) → zz S1 c k = zz S c k := fun c k h1 h2 h3 => by unfold zz; rw [o1 c k h1 h2 h3]
    have hI1 : Inv S1 := hfin S1 (fun c k h1 h2 h3 _ _ _ => o1 c k h1 h2 h3)
    have c12 : zz S1 71 12 = zz S 0 2 := (z1' _ _ (by omega) (by omega) (by omega)).trans hH0.2.2.2.2.1
    have c10 : S1 71 10 = iI (n : Int) := by rw [o1 _ _ (by omega) (by omega) (by omega), ← hn, zz_inj hH0.2.2.1]; exact zz_S S 0 0
    refine s_X8_isPerson p1 p2 (by omega) (fun h1 h2 => ⟨fun e => absurd e (by decide), fun _ => ?_⟩) (fun h => ⟨fun _ => CallOk.fin (S := S) hP hI1 (q0 (by omega)), fun e => absurd rfl e⟩)
    have eN : ((1 : Int32) <<< ((S1 71 10) &&& 31)) - 1 = iI ((N : Int) - 1) := by
      rw [c10, hNs, show (1 : Int32) = iI 1 from rfl, iI_sub]
    rw [eN, show (0 : Int32) = iI 0 from rfl]
    refine s_X8_in (a := 0) (b := (N : Int) - 1) s1 s2 (by omega) (by omega) (by omega) (by omega) (fun h3 h4 => ⟨fun _ => ?_, fun e => absurd e (by decide)⟩) (fun h => ⟨fun e => absurd rfl e, fun _ => CallOk.fin (S := S) hP hI1 (q0 (by omega))⟩)
    obtain ⟨p4, pb, pm, pt, f1, f2, f3, f4, f5, f6, f7⟩ := hI.pers (p := p.toNat) (by omega)
    obtain ⟨_, _, _, _, _, _, r7, r7', r8, r8', _⟩ := id pb
    simp only [cv, Nat.zero_add] at r7 r7' r8 r8'
    obtain ⟨x, hx, hw⟩ := q1 (by omega)
    refine s_X8_asNow ?_
    intro T2 hT2
    have o2 : ∀ c k, ¬ (11 ≤ c ∧ c ≤ 21) → ¬ (50 ≤ c ∧ c ≤ 54) → ¬ (c = 71 ∧ k = 0) → c ≠ 76 → T2 c k = S c k := fun c k h1 h2 h3 h4 => by rw [hT2, if_neg (by omega), o1 c k h1 h2 h3]
    have o76 : ∀ k, k < 28 → T2 76 k = S 75 k := fun k hk => by rw [hT2, if_pos ⟨rfl, hk⟩, o1 _ _ (by omega) (by omega) (by omega)]
    have A2 : Ag (cv S 0) (mz T2 76) := now_view hI o76 (fun c k h => o2 c k (by omega) (by omega) (by omega) (by omega))
    have hpp : iI p = iI (p.toNat : Int) := by congr 1; omega
    have hss : iI s = iI (s.toNat : Int) := by congr 1; omega
    have hp2 : ((p.toNat : Nat) : Int) < cv S 0 0 2 := by show _ < zz S 0 2; omega
    have w0 : zz T2 76 (4 * p.toNat) = zz S 7 p.toNat := by unfold zz; rw [o76 _ (by omega), f4]
    have w1 : zz T2 76 (4 * p.toNat + 1) = zz S 8 p.toNat := by unfold zz; rw [o76 _ (by omega), f5]
    have w3 : zz T2 76 (4 * p.toNat + 3) = zz S 10 p.toNat := by unfold zz; rw [o76 _ (by omega), f7]
    rw [hpp, hss]
    refine s_X8_round_fill (v := cv S 0) (a0 := zz S 7 p.toNat) (c0 := zz S 8 p.toNat) (t0 := zz S 10 p.toNat) hL.1 hp2 (by omega) rfl ⟨r7, r7'⟩ ⟨r8, r8'⟩ (by omega) A2.sv ((Ag_Lb A2 hL.1).2.2 _ (by rw [A2.1 2 (by omega)]; exact hp2)) w0 w1 w3 ?_
    intro T3 x' o3 hx'
    have hI3 : Inv T3 := hfin T3 (fun c k a1 a2 a3 a4 a5 a6 => by rw [o3 c k a5 a6, o2 c k a1 a2 a3 a4])
    exact CallOk.fin (S := S) hP hI3 (by rw [hw, RS_uniq hx hx'])
  unfold wp_X7_round
  refine s_X6_hasPerson (o := 0) p1 p2 (fun h1 h2 => ⟨fun e => absurd e (by decide), fun _ => ?_⟩) (fun h => ⟨fun _ => hG _ (M S _ (fun _ _ _ _ => rfl) (fun _ => rfl) (fun e => absurd e.1 h)), fun e => absurd rfl e⟩)
  unfold wp_X6_allPlaces
  have eN : ((1 : Int32) <<< ((S 0 0) &&& 31)) - 1 = iI ((N : Int) - 1) := by
    rw [zz_S S 0 0, hn, hNs, show (1 : Int32) = iI 1 from rfl, iI_sub]
  rw [eN, show (0 : Int32) = iI 0 from rfl]
  refine s_X7_outside (a := 0) (b := (N : Int) - 1) s1 s2 (by omega) (by omega) (by omega) (by omega) (fun h3 h4 => ⟨fun _ => ?_, fun e => absurd rfl e⟩) (fun h => ⟨fun e => absurd e (by decide), fun _ => hG _ (M S _ (fun _ _ _ _ => rfl) (fun _ => rfl) (fun e => absurd e.2 h))⟩)
  obtain ⟨p4, pb, pm, pt, _⟩ := hI.pers (p := p.toNat) (by omega)
  obtain ⟨_, _, _, _, _, _, r7, r7', r8, r8', _⟩ := id pb
  have hp2 : ((p.toNat : Nat) : Int) < cv S 0 0 2 := by show _ < zz S 0 2; omega
  simp only [cv, Nat.zero_add] at r7 r7' r8 r8'
  have hpp : iI p = iI (p.toNat : Int) := by congr 1; omega
  have hss : iI s = iI (s.toNat : Int) := by congr 1; omega
  refine s_X6_become (o := 11) (o2 := 0) (fun f g hf hg => by omega) ?_
  intro T hT1 hT2
  have hA : Ag (cv S 0) (cv T 11) := cv_Ag hL.1 (fun f k h1 h2 h3 h4 => hT1 f k h1 h2 h3 h4)
  have u7 : zz T 18 p.toNat = zz S 7 p.toNat := by unfold zz; rw [show T 18 p.toNat = S 7 p.toNat from hT1 7 p.toNat (by omega) (by omega) (by omega) (by omega)]
  have u8 : zz T 19 p.toNat = zz S 8 p.toNat := by unfold zz; rw [show T 19 p.toNat = S 8 p.toNat from hT1 8 p.toNat (by omega) (by omega) (by omega) (by omega)]
  have u10 : zz T 21 p.toNat = zz S 10 p.toNat := by unfold zz; rw [show T 21 p.toNat = S 10 p.toNat from hT1 10 p.toNat (by omega) (by omega) (by omega) (by omega)]
  have hPT : Pb (cv T 11) p.toNat := (Ag_Lb hA hL.1).2.2 _ (by rw [hA.1 2 (by omega)]; exact hp2)
  have s64 : s.toNat < 64 := by omega
  have hsub := set_sub ⟨s.toNat, s64⟩ ⟨(zz S 7 p.toNat).toNat, by omega⟩
  rw [hpp, hss, show (-1 : Int32) = iI (-1) from by decide]
  refine s_X4_exploreSet (v := cv S 0) (a0 := zz S 7 p.toNat) (c0 := zz S 8 p.toNat) (t0 := zz S 10 p.toNat) hL.1 hp2 s64 hA.sv hPT u7 u8 u10 ⟨r7, r7'⟩ ⟨r8, r8'⟩ (by omega) rfl ?_
  intro T2 o2 hD
  refine s_X4_soonestWith hL.1 hp2 s64 hsub.1 ⟨r7, r7'⟩ ⟨r8, r8'⟩ (by omega) hD ?_
  intro y ya yb hy
  rw [← hpp, ← hss]
  exact hG _ (M T2 _ (fun c k a1 a2 => by rw [o2 c k (by omega) (by omega) (by omega), hT2 c k (by omega)]) (fun e => absurd ⟨⟨h1, h2⟩, h3, h4⟩ e) (fun _ => ⟨y, hy, rfl⟩))
