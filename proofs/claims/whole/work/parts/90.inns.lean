/-! inns: the call -/
theorem s_fewest_in {S0 T0 : St} {n : Nat} {N : Nat} {k : Int} {k20 : Int32 → Int32 → St → Prop} {post : Int32 → St → Prop} (hI : Inv S0) (hA : Ag (cv S0 0) (cv T0 11)) (o0 : ∀ c k, ¬ (11 ≤ c ∧ c ≤ 21) → ¬ (50 ≤ c ∧ c ≤ 54) → T0 c k = S0 c k) (hN : 1 ≤ N ∧ N ≤ 64) (hk : 0 ≤ k ∧ k ≤ 6) (hc : ∀ T, (∀ c k, ¬ (c = 11 ∧ k = 3) → c ≠ 51 → c ≠ 53 → c ≠ 54 → T c k = T0 c k) → (∀ m : Int, 0 ≤ m → m < N → InT (cv S0 0) m → on6 m ≠ k) → k20 (iI ((N : Int) - 1)) (iI (k + 1)) T) (hf : ∀ T (m : Int), (∀ c k, ¬ (c = 11 ∧ k = 3) → c ≠ 51 → c ≠ 53 → c ≠ 54 → T c k = T0 c k) → 0 ≤ m → m < N → InT (cv S0 0) m → on6 m = k → (∀ m' : Int, 0 ≤ m' → m' < m → InT (cv S0 0) m' → on6 m' ≠ k) → post (iI m) T) : ∀ (d s : Nat) (T : St), s + d = N → (∀ c k, ¬ (c = 11 ∧ k = 3) → c ≠ 51 → c ≠ 53 → c ≠ 54 → T c k = T0 c k) → (∀ m : Int, 0 ≤ m → m < s → InT (cv S0 0) m → on6 m ≠ k) → L_X7_fewestInns_33 k20 post (d + 1) (iI ((N : Int) - 1)) (iI k) (iI s) T := by
  intro d
  induction d with
  | zero =>
    intro s T hs oT hj
    show BD_X7_fewestInns_33 k20 (L_X7_fewestInns_33 k20 post 0) post _ _ _ _
    unfold BD_X7_fewestInns_33
    rw [iI_lt (by omega) (by omega) (by omega) (by omega), show (1 : Int32) = iI 1 from rfl, iI_add]
    refine ⟨fun _ => hc T oT (fun m h1 h2 => hj m h1 (by omega)), fun e => absurd (by omega) e⟩
  | succ d ih =>
    intro s T hs oT hj
    show BD_X7_fewestInns_33 k20 (L_X7_fewestInns_33 k20 post (d + 1)) post _ _ _ _
    unfold BD_X7_fewestInns_33
    have en : iI (s : Int) + 1 = iI ((s + 1 : Nat) : Int) := by rw [show (1 : Int32) = iI 1 from rfl, iI_add]; rfl
    have ob := on6_b (m := (s : Int))
    rw [iI_lt (by omega) (by omega) (by omega) (by omega), en]
    refine ⟨fun e => absurd e (by omega), fun _ => s_bitCount (by omega) (by omega) ?_⟩
    rw [iI_eq (by omega) (by omega) (by omega) (by omega)]
    refine ⟨fun hne => ih (s + 1) T (by omega) oT (fun m h1 h2 hin => ?_), fun heq => ?_⟩
    · by_cases hms : m = s
      · rw [hms]; exact hne
      · exact hj m h1 (by omega) hin
    · have hm : 0 ≤ (s : Int) ∧ (s : Int) < 64 := by omega
      refine s_X7_allInTimeWith hI hm (cv_vset hA (by omega) (zz_iI (by rw [up_at]) (by omega) (by omega)) (fun f k hf hh => by rw [up_ne _ _ (by omega), oT _ _ (by omega) (by omega) (by omega) (by omega)])) (fun c k a1 a2 => by rw [oT _ _ (by omega) (by omega) (by omega) (by omega), o0 c k a1 a2]) (fun T2 o2 hin => ?_) (fun T2 o2 hout => ?_)
      · refine ⟨fun e => absurd e (by decide), fun _ => hf T2 s (fun c k a1 a2 a3 a4 => by rw [o2 c k a1 a2 a3 a4, oT c k a1 a2 a3 a4]) (by omega) (by omega) hin heq (fun m' h1 h2 => hj m' h1 (by omega))⟩
      · refine ⟨fun _ => ih (s + 1) T2 (by omega) (fun c k a1 a2 a3 a4 => by rw [o2 c k a1 a2 a3 a4, oT c k a1 a2 a3 a4]) (fun m h1 h2 hin => ?_), fun e => absurd rfl e⟩
        by_cases hms : m = s
        · rw [hms] at hin; exact absurd hin (OutT_In hout)
        · exact hj m h1 (by omega) hin
theorem s_fewest_out {S0 T0 : St} {n : Nat} {N : Nat} {post : Int32 → St → Prop} (hI : Inv S0) (hA : Ag (cv S0 0) (cv T0 11)) (o0 : ∀ c k, ¬ (11 ≤ c ∧ c ≤ 21) → ¬ (50 ≤ c ∧ c ≤ 54) → T0 c k = S0 c k) (hn : zz S0 0 0 = (n : Int)) (hn6 : n ≤ 6) (hN : 1 ≤ N ∧ N ≤ 64) (hNn : ∀ m : Int, 0 ≤ m → m < N → on6 m ≤ n) (hall : InT (cv S0 0) ((N : Int) - 1)) (h : ∀ T r, (∀ c k, ¬ (c = 11 ∧ k = 3) → c ≠ 51 → c ≠ 53 → c ≠ 54 → T c k = T0 c k) → Fw (cv S0 0) N r → post (iI r) T) : ∀ (d k : Nat) (T : St), k + d = n + 1 → (∀ c k, ¬ (c = 11 ∧ k = 3) → c ≠ 51 → c ≠ 53 → c ≠ 54 → T c k = T0 c k) → (∀ m : Int, 0 ≤ m → m < N → InT (cv S0 0) m → (k : Int) ≤ on6 m) → L_X7_fewestInns_20 post (d + 1) (iI ((N : Int) - 1)) (iI k) T := by
  intro d
  induction d with
  | zero =>
    intro k T hk oT hj
    have h1 := hj _ (by omega) (by omega) hall
    have h2 := hNn ((N : Int) - 1) (by omega) (by omega)
    omega
  | succ d ih =>
    intro k T hk oT hj
    show BD_X7_fewestInns_20 (L_X7_fewestInns_20 post (d + 1)) post _ _ _
    unfold BD_X7_fewestInns_20
    rw [oT 0 0 (by omega) (by omega) (by omega) (by omega), o0 0 0 (by omega) (by omega), zz_S S0 0 0, hn, iI_lt (by omega) (by omega) (by omega) (by omega)]
    refine ⟨fun e => absurd e (by omega), fun _ => ⟨N + 1, ?_⟩⟩
    rw [show (0 : Int32) = iI ((0 : Nat) : Int) from rfl]
    refine s_fewest_in (n := n) hI hA o0 hN (by omega) (fun T2 o2 hne => ?_) (fun T2 m o2 h0 h1 hin he hl => h T2 m o2 (Or.inr ⟨h0, h1, hin, fun m' q0 q1 qin => ?_⟩)) N 0 T (by omega) oT (fun m h1 h2 => absurd h2 (by omega))
    · have := ih (k + 1) T2 (by omega) o2 (fun m h0 h1 hin => by
        have a := hj m h0 h1 hin
        have b := hne m h0 h1 hin
        omega)
      exact this
    · have a := hj m' q0 q1 qin
      by_cases hlt : m' < m
      · have := hl m' q0 hlt qin
        omega
      · omega
theorem s_X8_inns_loop {S0 T0 : St} {n : Nat} {N : Nat} {x1 : Int} {post : Int32 → St → Prop} (hI : Inv S0) (o0 : ∀ c k, ¬ (11 ≤ c ∧ c ≤ 21) → ¬ (50 ≤ c ∧ c ≤ 54) → ¬ (c = 71 ∧ k = 0) → c ≠ 76 → T0 c k = S0 c k) (o76 : ∀ k, k < 28 → T0 76 k = S0 75 k) (hx : 0 ≤ x1 ∧ x1 ≤ 1) (hn : zz S0 0 0 = (n : Int)) (hN : 1 ≤ N ∧ N ≤ 64) (hNs : ((1 : Int32) <<< (iI (n : Int) &&& 31)) = iI (N : Int)) (h : ∀ T r, (∀ c k, c ≠ 76 → c ≠ 81 → c ≠ 82 → T c k = T0 c k) → Fw (cv S0 0) N r → post (iI (if x1 = 0 ∧ r ≠ -1 then on6 r else r)) T) : ∀ (d s : Nat) (T : St) (b : Int), s + d = N → (∀ c k, ¬ (c = 76 ∧ k = 16) → c ≠ 81 → c ≠ 82 → T c k = T0 c k) → Fw (cv S0 0) s b → L_X8_inns_25 post (d + 1) (iI x1) (iI b) (iI s) T := by
  have hH0 := hI.head
  obtain ⟨b0, b0', b1, b1', b2, b2', _⟩ := id hH0.1
  simp only [cv, Nat.add_zero] at b0 b0' b1 b1' b2 b2'
  obtain ⟨hL, _⟩ := id hI
  have e10 : ∀ T : St, (∀ c k, ¬ (c = 76 ∧ k = 16) → c ≠ 81 → c ≠ 82 → T c k = T0 c k) → T 71 10 = iI (n : Int) := fun T oT => by rw [oT _ _ (by omega) (by omega) (by omega), o0 _ _ (by omega) (by omega) (by omega) (by omega), ← hn, zz_inj hH0.2.2.1]; exact zz_S S0 0 0
  intro d
  induction d with
  | zero =>
    intro s T b hs oT hF
    show BD_X8_inns_25 (L_X8_inns_25 post 0) post _ _ _ _
    unfold BD_X8_inns_25
    rw [e10 T oT, hNs, iI_le (by omega) (by omega) (by omega) (by omega)]
    refine ⟨fun _ => ?_, fun e => absurd (by omega) e⟩
    have hsN : s = N := by omega
    rw [hsN] at hF
    have hb : -1 ≤ b ∧ b < 64 := by
      rcases hF with ⟨e, _⟩ | ⟨h1, h2, _⟩ <;> omega
    have hp := h T b (fun c k a1 a2 a3 => oT c k (by omega) a2 a3) hF
    unfold B_X8_inns_78
    rw [show (-1 : Int32) = iI (-1) from by decide, iI_eq (by omega) (by omega) (by omega) (by omega), show (1 : Int32) = iI 1 from rfl, iI_eq (by omega) (by omega) (by omega) (by omega)]
    refine ⟨fun e => ?_, fun e => ⟨fun e2 => s_ones (by omega) (by omega) ?_, fun e2 => ?_⟩⟩
    · rw [if_neg (by omega)] at hp; exact hp
    · rw [if_pos ⟨by omega, e⟩] at hp; exact hp
    · rw [if_neg (by omega)] at hp; exact hp
  | succ d ih =>
    intro s T b hs oT hF
    show BD_X8_inns_25 (L_X8_inns_25 post (d + 1)) post _ _ _ _
    unfold BD_X8_inns_25
    have hb : -1 ≤ b ∧ b < 64 := by
      rcases hF with ⟨e, _⟩ | ⟨h1, h2, _⟩ <;> omega
    have en : iI (s : Int) + 1 = iI ((s + 1 : Nat) : Int) := by rw [show (1 : Int32) = iI 1 from rfl, iI_add]; rfl
    have step : (b = -1 ∨ on6 s < on6 b) → B_X8_inns_51 (L_X8_inns_25 post (d + 1)) post (iI x1) (iI b) (iI s) T := by
      intro hbs
      unfold B_X8_inns_51
      intro S1 e1
      have o1 : ∀ c k, ¬ (c = 76 ∧ k = 16) → S1 c k = T c k := fun c k h => by rw [e1, up_ne _ _ h]
      have A1 : Ag (vset (cv S0 0) 0 3 s) (mz S1 76) := mz_vset (j := 16) hL.2.2 b1' b2' (by omega) (zz_iI (by rw [e1, up_at]) (by omega) (by omega)) (fun k h1 h2 => by rw [o1 _ _ (by omega), oT _ _ (by omega) (by omega) (by omega), o76 k h1]) (fun c k h => by rw [o1 _ _ (by omega), oT _ _ (by omega) (by omega) (by omega), o0 c k (by omega) (by omega) (by omega) (by omega)])
      refine s_X8_areInTime hI (by omega) A1 ?_
      intro T2 x o2 hx2
      have oT2 : ∀ c k, ¬ (c = 76 ∧ k = 16) → c ≠ 81 → c ≠ 82 → T2 c k = T0 c k := fun c k a1 a2 a3 => by rw [o2 c k a2 a3, o1 c k a1, oT c k a1 a2 a3]
      rw [en]
      rcases hx2 with ⟨rfl, hin⟩ | ⟨rfl, hin⟩
      · refine ⟨fun _ => ih (s + 1) T2 b (by omega) oT2 ?_, fun e => absurd rfl e⟩
        rcases hF with ⟨e, q⟩ | ⟨q1, q2, q3, q4⟩
        · refine Or.inl ⟨e, fun m h1 h2 => ?_⟩
          by_cases hms : m = s
          · rw [hms]; exact hin
          · exact q m h1 (by omega)
        · refine Or.inr ⟨q1, by omega, q3, fun m h1 h2 hm => ?_⟩
          by_cases hms : m = s
          · rw [hms] at hm; exact absurd hm hin
          · exact q4 m h1 (by omega) hm
      · refine ⟨fun e => absurd e (by decide), fun _ => ih (s + 1) T2 s (by omega) oT2 (Or.inr ⟨by omega, by omega, hin, fun m h1 h2 hm => ?_⟩)⟩
        by_cases hms : m = s
        · rw [hms]; omega
        · rcases hF with ⟨e, q⟩ | ⟨q1, q2, q3, q4⟩
          · exact absurd hm (q m h1 (by omega))
          · have := q4 m h1 (by omega) hm
            omega
    rw [e10 T oT, hNs, iI_le (by omega) (by omega) (by omega) (by omega), show (-1 : Int32) = iI (-1) from by decide, iI_eq (by omega) (by omega) (by omega) (by omega)]
    refine ⟨fun e => absurd e (by omega), fun _ => ⟨fun e => step (Or.inl e), fun e => s_ones (by omega) (by omega) (s_ones (by omega) (by omega) ?_)⟩⟩
    have ob := on6_b (m := (s : Int))
    have ob2 := on6_b (m := b)
    rw [iI_le (by omega) (by omega) (by omega) (by omega), en]
    refine ⟨fun hle => ih (s + 1) T b (by omega) oT ?_, fun hle => step (Or.inr (by omega))⟩
    rcases hF with ⟨q, _⟩ | ⟨q1, q2, q3, q4⟩
    · exact absurd q e
    · refine Or.inr ⟨q1, by omega, q3, fun m h1 h2 hm => ?_⟩
      by_cases hms : m = s
      · rw [hms]; omega
      · exact q4 m h1 (by omega) hm
theorem call_inns (x1 : Int32) : CallOk (wp_X7_inns x1) (wp_X8_inns x1) := by
  intro S hI G hG P hP
  obtain ⟨y, y1, y2, rfl⟩ := iI_ex x1
  have hH0 := hI.head
  obtain ⟨b0, b0', b1, b1', b2, b2', _⟩ := id hH0.1
  simp only [cv, Nat.add_zero] at b0 b0' b1 b1' b2 b2'
  obtain ⟨hL, _⟩ := id hI
  obtain ⟨n, hn⟩ : ∃ n : Nat, zz S 0 0 = (n : Int) := ⟨(zz S 0 0).toNat, by omega⟩
  have hn6 : n < 7 := by omega
  have hNb := pow_b ⟨n, hn6⟩
  have hNs := shl_n ⟨n, hn6⟩
  have hNo : ∀ m : Int, 0 ≤ m → m < ((2 ^ n : Nat) : Int) → on6 m ≤ n := fun m h1 h2 => by
    have hb2 : 2 ^ n ≤ 64 := hNb.2
    have := on6_le ⟨n, hn6⟩ ⟨m.toNat, by omega⟩ (by show m.toNat < 2 ^ n; omega)
    rw [show (((⟨m.toNat, by omega⟩ : Fin 64).val : Nat) : Int) = m from Int.toNat_of_nonneg h1] at this
    exact this
  have hsub : ∀ m : Int, 0 ≤ m → m < ((2 ^ n : Nat) : Int) → Sub m (((2 ^ n : Nat) : Int) - 1) := fun m h1 h2 a a0 a6 ha => by
    have hb1 : 1 ≤ 2 ^ n := hNb.1
    have hb2 : 2 ^ n ≤ 64 := hNb.2
    have := sub_all ⟨n, hn6⟩ ⟨m.toNat, by omega⟩ (by show m.toNat < 2 ^ n; omega) ⟨a.toNat, by omega⟩
    rw [show (((⟨m.toNat, by omega⟩ : Fin 64).val : Nat) : Int) = m from Int.toNat_of_nonneg h1, show (((⟨a.toNat, by omega⟩ : Fin 6).val : Nat) : Int) = a from Int.toNat_of_nonneg a0] at this
    have t := this ha
    have e : (((2 ^ (⟨n, hn6⟩ : Fin 7).val - 1 : Nat)) : Int) = ((2 ^ n : Nat) : Int) - 1 := by
      show (((2 ^ n - 1 : Nat)) : Int) = ((2 ^ n : Nat) : Int) - 1
      omega
    rw [e] at t
    exact t
  obtain ⟨N, hN⟩ : ∃ N : Nat, N = 2 ^ n := ⟨_, rfl⟩
  have hNb : 1 ≤ N ∧ N ≤ 64 := by rw [hN]; exact hNb
  have hNs : ((1 : Int32) <<< (iI (n : Int) &&& 31)) = iI (N : Int) := by rw [hN]; exact hNs
  rw [← hN] at hNo hsub
  have hfin : ∀ (T : St), (∀ c k, ¬ (11 ≤ c ∧ c ≤ 21) → ¬ (50 ≤ c ∧ c ≤ 54) → ¬ (c = 71 ∧ k = 0) → c ≠ 76 → c ≠ 81 → c ≠ 82 → T c k = S c k) → Inv T := fun T h => hI.sm (fun c k hc => h c k (by unfold ps at hc; omega) (by unfold ps at hc; omega) (by unfold ps at hc; omega) (by unfold ps at hc; omega) (by unfold ps at hc; omega) (by unfold ps at hc; omega))
  have M : ∀ (T : St) (w : Int32), (∀ c k, ¬ (11 ≤ c ∧ c ≤ 21) → ¬ (50 ≤ c ∧ c ≤ 54) → T c k = S c k) → (¬ (0 ≤ y ∧ y ≤ 1) → w = -1000000002) → (0 ≤ y ∧ y ≤ 1 → ∃ r, Fw (cv S 0) N r ∧ w = iI (if y = 0 ∧ r ≠ -1 then on6 r else r)) → wp_X8_inns (iI y) T (P w) := by
    intro T w hT1 k0 k1
    unfold wp_X8_inns
    intro S1 e1
    have o1 : ∀ c k, ¬ (11 ≤ c ∧ c ≤ 21) → ¬ (50 ≤ c ∧ c ≤ 54) → ¬ (c = 71 ∧ k = 0) → S1 c k = S c k := fun c k h1 h2 h3 => by rw [e1, up_ne _ _ h3, hT1 c k h1 h2]
    have hI1 : Inv S1 := hfin S1 (fun c k h1 h2 h3 _ _ _ => o1 c k h1 h2 h3)
    refine s_X8_in (a := 0) (b := 1) y1 y2 (by omega) (by omega) (by omega) (by omega) (fun h1 h2 => ⟨fun _ => ?_, fun e => absurd e (by decide)⟩) (fun h => ⟨fun e => absurd rfl e, fun _ => CallOk.fin (S := S) hP hI1 (k0 (by omega))⟩)
    obtain ⟨r, hr, hw⟩ := k1 ⟨h1, h2⟩
    refine s_X8_asNow ?_
    intro T2 hT2
    have o2 : ∀ c k, ¬ (11 ≤ c ∧ c ≤ 21) → ¬ (50 ≤ c ∧ c ≤ 54) → ¬ (c = 71 ∧ k = 0) → c ≠ 76 → T2 c k = S c k := fun c k h1 h2 h3 h4 => by rw [hT2, if_neg (by omega), o1 c k h1 h2 h3]
    have o76 : ∀ k, k < 28 → T2 76 k = S 75 k := fun k hk => by rw [hT2, if_pos ⟨rfl, hk⟩, o1 _ _ (by omega) (by omega) (by omega)]
    rw [show (-1 : Int32) = iI (-1) from by decide, show (0 : Int32) = iI ((0 : Nat) : Int) from rfl]
    refine ⟨N + 1, ?_⟩
    refine s_X8_inns_loop hI o2 o76 ⟨h1, h2⟩ hn hNb hNs ?_ N 0 T2 (-1) (by omega) (fun _ _ _ _ _ => rfl) (Or.inl ⟨rfl, fun m q1 q2 => absurd q2 (by omega)⟩)
    intro T3 r' o3 hr'
    have hI3 : Inv T3 := hfin T3 (fun c k a1 a2 a3 a4 a5 a6 => by rw [o3 c k a4 a5 a6, o2 c k a1 a2 a3 a4])
    exact CallOk.fin (S := S) hP hI3 (by rw [hw, Fw_uniq hr hr'])
  unfold wp_X7_inns
  refine s_X7_outside (a := 0) (b := 1) y1 y2 (by omega) (by omega) (by omega) (by omega) (fun h1 h2 => ⟨fun _ => ?_, fun e => absurd rfl e⟩) (fun h => ⟨fun e => absurd e (by decide), fun _ => hG _ (M S _ (fun _ _ _ _ => rfl) (fun _ => rfl) (fun e => absurd e h))⟩)
  refine s_X6_become (o := 11) (o2 := 0) (fun f g hf hg => by omega) ?_
  intro T hT1 hT2
  have hA : Ag (cv S 0) (cv T 11) := cv_Ag hL.1 (fun f k h1 h2 h3 h4 => hT1 f k h1 h2 h3 h4)
  have o0 : ∀ c k, ¬ (11 ≤ c ∧ c ≤ 21) → ¬ (50 ≤ c ∧ c ≤ 54) → T c k = S c k := fun c k a1 a2 => hT2 c k (by omega)
  have fin : ∀ (T5 : St) (r : Int), (∀ c k, ¬ (11 ≤ c ∧ c ≤ 21) → ¬ (50 ≤ c ∧ c ≤ 54) → T5 c k = S c k) → Fw (cv S 0) N r → ((¬ iI y = 0 → G (wp_X8_inns (iI y) T5 (P (iI r)))) ∧ (iI y = 0 → ((iI r = (-1) → G (wp_X8_inns (iI y) T5 (P (iI r)))) ∧ (¬ iI r = (-1) → wp_J6_bitCount_0f7a4 (iI r) T5 (fun r10 S9 => G (wp_X8_inns (iI y) S9 (P r10))))))) := by
    intro T5 r o5 hr
    have hb : -1 ≤ r ∧ r < 64 := by
      rcases hr with ⟨e, _⟩ | ⟨h1, h2, _⟩ <;> omega
    rw [show (0 : Int32) = iI 0 from rfl, iI_eq (by omega) (by omega) (by omega) (by omega), show (-1 : Int32) = iI (-1) from by decide, iI_eq (by omega) (by omega) (by omega) (by omega)]
    refine ⟨fun e => hG _ (M T5 _ o5 (fun e => absurd ⟨h1, h2⟩ e) (fun _ => ⟨r, hr, by rw [if_neg (by omega)]⟩)), fun e => ⟨fun e2 => hG _ (M T5 _ o5 (fun e => absurd ⟨h1, h2⟩ e) (fun _ => ⟨r, hr, by rw [if_neg (by omega)]⟩)), fun e2 => s_bitCount (by omega) (by omega) (hG _ (M T5 _ o5 (fun e => absurd ⟨h1, h2⟩ e) (fun _ => ⟨r, hr, by rw [if_pos ⟨e, e2⟩]⟩)))⟩⟩
  unfold wp_X7_fewestInns wp_X6_allPlaces
  have eN : ((1 : Int32) <<< ((T 0 0) &&& 31)) - 1 = iI ((N : Int) - 1) := by
    rw [o0 0 0 (by omega) (by omega), zz_S S 0 0, hn, hNs, show (1 : Int32) = iI 1 from rfl, iI_sub]
  rw [eN]
  refine s_X7_allInTimeWith hI (by omega) (cv_vset hA (by omega) (zz_iI (by rw [up_at]) (by omega) (by omega)) (fun f k hf hh => by rw [up_ne _ _ (by omega)])) o0 (fun T2 o2 hin => ?_) (fun T2 o2 hout => ?_)
  · refine ⟨fun _ => ⟨(n + 1) + 1, ?_⟩, fun e => absurd e (by decide)⟩
    rw [show (0 : Int32) = iI ((0 : Nat) : Int) from rfl]
    refine s_fewest_out (n := n) hI hA o0 hn (by omega) hNb hNo hin ?_ (n + 1) 0 T2 (by omega) o2 (fun m _ _ _ => by have := on6_b (m := m); omega)
    intro T3 r o3 hr
    exact fin T3 r (fun c k a1 a2 => by rw [o3 c k (by omega) (by omega) (by omega) (by omega), o0 c k a1 a2]) hr
  · refine ⟨fun e => absurd rfl e, fun _ => ?_⟩
    have := fin T2 (-1) (fun c k a1 a2 => by rw [o2 c k (by omega) (by omega) (by omega) (by omega), o0 c k a1 a2]) (Or.inl ⟨rfl, fun m q1 q2 => InT_sub hL.1 (by omega) (hsub m q1 q2) hout⟩)
    exact this
