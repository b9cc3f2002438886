/-! cost -/
theorem bits_Gq {v : Vw} {m m' : Int} : Gq (vset v 0 4 m) (vset v 0 4 m') := ⟨by rw [vset_ne (by omega), vset_ne (by omega)], by rw [vset_ne (by omega), vset_ne (by omega)], fun r _ => ⟨by rw [vset_ne (by omega), vset_ne (by omega)], by rw [vset_ne (by omega), vset_ne (by omega)]⟩⟩
theorem cv_fr51 {v : Vw} {S T : St} (h : Ag v (cv S 11)) (hT : ∀ c k, c ≠ 51 → c ≠ 53 → c ≠ 54 → T c k = S c k) : Ag v (cv T 11) := h.trans (Ag.of (fun f k _ _ _ _ => by unfold cv zz; rw [hT _ _ (by omega) (by omega) (by omega)]))
theorem call_cost (x1 : Int32) : CallOk (wp_X7_cost x1) (wp_X8_cost x1) := by
  intro S hI G hG P hP
  obtain ⟨y, y1, y2, rfl⟩ := iI_ex x1
  have hH0 := hI.head
  obtain ⟨b0, b0', b1, b1', b2, b2', _, _, b4, b4', _⟩ := id hH0.1
  simp only [cv, Nat.add_zero] at b0 b0' b1 b1' b2 b2' b4 b4'
  obtain ⟨hL, _⟩ := id hI
  have hfin : ∀ (T : St), (∀ c k, ¬ (11 ≤ c ∧ c ≤ 21) → ¬ (50 ≤ c ∧ c ≤ 54) → ¬ (c = 71 ∧ k = 0) → c ≠ 76 → c ≠ 81 → c ≠ 82 → T c k = S c k) → Inv T := fun T h => hI.sm (fun c k hc => h c k (by unfold ps at hc; omega) (by unfold ps at hc; omega) (by unfold ps at hc; omega) (by unfold ps at hc; omega) (by unfold ps at hc; omega) (by unfold ps at hc; omega))
  have f16 : S 75 17 = S 0 4 := zz_inj hH0.2.2.2.2.2.2.1
  have M : ∀ (T : St) (w : Int32), (∀ c k, ¬ (11 ≤ c ∧ c ≤ 21) → ¬ (50 ≤ c ∧ c ≤ 54) → T c k = S c k) → (¬ (0 ≤ y ∧ y < zz S 0 0) → w = -1000000001) → (∀ m0 m1, 0 ≤ y ∧ y < zz S 0 0 → 0 ≤ m0 ∧ m0 < 64 → 0 ≤ m1 ∧ m1 < 64 → S 0 4 &&& (((1 : Int32) <<< (iI y &&& 31)) ^^^ (-1)) = iI m0 → S 0 4 ||| ((1 : Int32) <<< (iI y &&& 31)) = iI m1 → ∃ u0, TA (vset (cv S 0) 0 4 m0) (zz S 0 2).toNat u0 ∧ (u0 = 100000000 → w = -1) ∧ (u0 ≠ 100000000 → ∃ u1, TA (vset (cv S 0) 0 4 m1) (zz S 0 2).toNat u1 ∧ w = iI (u1 - u0))) → wp_X8_cost (iI y) T (P w) := by
    intro T w hT1 k0 k1
    unfold wp_X8_cost
    intro S1 e1
    have o1 : ∀ c k, ¬ (11 ≤ c ∧ c ≤ 21) → ¬ (50 ≤ c ∧ c ≤ 54) → ¬ (c = 71 ∧ k = 0) → S1 c k = S c k := fun c k h1 h2 h3 => by rw [e1, up_ne _ _ h3, hT1 c k h1 h2]
    have z1' : ∀ c k, ¬ (11 ≤ c ∧ c ≤ 21) → ¬ (50 ≤ c ∧ c ≤ 54) → ¬ (c = 71 ∧ k = 0) → zz S1 c k = zz S c k := fun c k h1 h2 h3 => by unfold zz; rw [o1 c k h1 h2 h3]
    have hI1 : Inv S1 := hfin S1 (fun c k h1 h2 h3 _ _ _ => o1 c k h1 h2 h3)
    have c10 : zz S1 71 10 = zz S 0 0 := (z1' _ _ (by omega) (by omega) (by omega)).trans hH0.2.2.1
    refine s_X8_isPlace y1 y2 (by omega) (fun h1 h2 => ⟨fun _ => ?_, fun e => absurd e (by decide)⟩) (fun h => ⟨fun e => absurd rfl e, fun _ => CallOk.fin (S := S) hP hI1 (k0 (by omega))⟩)
    obtain ⟨m0, m0a, m0b, em0, _⟩ := bit_and b4 b4' h1 (by omega)
    obtain ⟨m1, m1a, m1b, em1, _⟩ := bit_or b4 b4' h1 (by omega)
    rw [← zz_S S 0 4] at em0 em1
    obtain ⟨u0, hu0, hua, hub⟩ := k1 m0 m1 (by omega) ⟨m0a, m0b⟩ ⟨m1a, m1b⟩ em0 em1
    refine s_X8_asNow ?_
    intro T2 hT2
    have o2 : ∀ c k, ¬ (11 ≤ c ∧ c ≤ 21) → ¬ (50 ≤ c ∧ c ≤ 54) → ¬ (c = 71 ∧ k = 0) → c ≠ 76 → T2 c k = S c k := fun c k h1 h2 h3 h4 => by rw [hT2, if_neg (by omega), o1 c k h1 h2 h3]
    have o76 : ∀ k, k < 28 → T2 76 k = S 75 k := fun k hk => by rw [hT2, if_pos ⟨rfl, hk⟩, o1 _ _ (by omega) (by omega) (by omega)]
    intro S6 e6
    rw [o2 75 17 (by omega) (by omega) (by omega) (by omega), f16, em1] at e6
    have o6 : ∀ c k, ¬ (c = 76 ∧ k = 17) → S6 c k = T2 c k := fun c k h => by rw [e6, up_ne _ _ h]
    have A6 : Ag (vset (cv S 0) 0 4 m1) (mz S6 76) := mz_vset (j := 17) hL.2.2 b1' b2' (by omega) (zz_iI (by rw [e6, up_at]) (by omega) (by omega)) (fun k h1 h2 => by rw [o6 _ _ (by omega), o76 k h1]) (fun c k h => by rw [o6 _ _ (by omega), o2 c k (by omega) (by omega) (by omega) (by omega)])
    refine s_X8_together (Lb_bits hL.1 (by omega) ⟨m1a, m1b⟩) (Mb_vset hL.2.1 (by omega) (by omega)) A6 ?_
    intro T7 r8 o7 r8a r8b hr8
    intro S9 e9
    rw [o7 75 17 (by omega) (by omega), o6 75 17 (by omega), o2 75 17 (by omega) (by omega) (by omega) (by omega), f16, em0] at e9
    have o9 : ∀ c k, ¬ (c = 76 ∧ k = 17) → S9 c k = T7 c k := fun c k h => by rw [e9, up_ne _ _ h]
    have A9 : Ag (vset (cv S 0) 0 4 m0) (mz S9 76) := mz_vset (j := 17) hL.2.2 b1' b2' (by omega) (zz_iI (by rw [e9, up_at]) (by omega) (by omega)) (fun k h1 h2 => by rw [o9 _ _ (by omega), o7 _ _ (by omega) (by omega), o6 _ _ (by omega), o76 k h1]) (fun c k h => by rw [o9 _ _ (by omega), o7 _ _ (by omega) (by omega), o6 _ _ (by omega), o2 c k (by omega) (by omega) (by omega) (by omega)])
    refine s_X8_together (Lb_bits hL.1 (by omega) ⟨m0a, m0b⟩) (Mb_vset hL.2.1 (by omega) (by omega)) A9 ?_
    intro T10 r11 o10 r11a r11b hr11
    have hI10 : Inv T10 := hfin T10 (fun c k a1 a2 a3 a4 a5 a6 => by rw [o10 c k a5 a6, o9 c k (by omega), o7 c k a5 a6, o6 c k (by omega), o2 c k a1 a2 a3 a4])
    have ev : ∀ m, (vset (cv S 0) 0 4 m 0 2).toNat = (zz S 0 2).toNat := fun m => by rw [vset_ne (by omega)]; rfl
    rw [ev] at hr8 hr11
    have e11 : u0 = r11 := TA_uniq hu0 hr11
    have nv : r8 = 100000000 ↔ u0 = 100000000 := by
      rw [e11]
      constructor
      · intro e
        apply Classical.byContradiction
        intro q
        exact TA_Gq (Mb_vset hL.2.1 (by omega) (by omega)) (Mb_vset hL.2.1 (by omega) (by omega)) (by rw [vset_ne (by omega)]; show _ ≤ zz S 0 2; omega) (by rw [vset_ne (by omega)]; exact b2') (by rw [vset_ne (by omega), vset_ne (by omega)]) bits_Gq (fun p _ => ⟨by rw [vset_ne (by omega), vset_ne (by omega)], by rw [vset_ne (by omega), vset_ne (by omega)], by rw [vset_ne (by omega), vset_ne (by omega)], by rw [vset_ne (by omega), vset_ne (by omega)]⟩) hr11 hr8 q e
      · intro e
        apply Classical.byContradiction
        intro q
        exact TA_Gq (Mb_vset hL.2.1 (by omega) (by omega)) (Mb_vset hL.2.1 (by omega) (by omega)) (by rw [vset_ne (by omega)]; show _ ≤ zz S 0 2; omega) (by rw [vset_ne (by omega)]; exact b2') (by rw [vset_ne (by omega), vset_ne (by omega)]) bits_Gq (fun p _ => ⟨by rw [vset_ne (by omega), vset_ne (by omega)], by rw [vset_ne (by omega), vset_ne (by omega)], by rw [vset_ne (by omega), vset_ne (by omega)], by rw [vset_ne (by omega), vset_ne (by omega)]⟩) hr8 hr11 q e
    rw [show (100000000 : Int32) = iI 100000000 from rfl, iI_le (by omega) (by omega) (by omega) (by omega)]
    unfold wp_X8_told_
    refine ⟨fun h8 => ⟨fun _ => CallOk.fin (S := S) hP hI10 (hua (by omega)), fun e => absurd rfl e⟩, fun h8 => ⟨fun e => absurd e (by decide), fun _ => CallOk.fin (S := S) hP hI10 ?_⟩⟩
    obtain ⟨u1, hu1, hw⟩ := hub (by omega)
    rw [hw, TA_uniq hu1 hr8, e11, iI_sub]
  unfold wp_X7_cost
  refine s_X6_hasPlace (o := 0) y1 y2 (fun h1 h2 => ⟨fun _ => ?_, fun e => absurd e (by decide)⟩) (fun h => ⟨fun e => absurd rfl e, fun _ => hG _ (M S _ (fun _ _ _ _ => rfl) (fun _ => rfl) (fun _ _ e => absurd e h))⟩)
  obtain ⟨m0, m0a, m0b, em0, _⟩ := bit_and b4 b4' h1 (by omega)
  obtain ⟨m1, m1a, m1b, em1, _⟩ := bit_or b4 b4' h1 (by omega)
  rw [← zz_S S 0 4] at em0 em1
  refine s_X6_become (o := 11) (o2 := 0) (fun f g hf hg => by omega) ?_
  intro T hT1 hT2
  have hA : Ag (cv S 0) (cv T 11) := cv_Ag hL.1 (fun f k h1 h2 h3 h4 => hT1 f k h1 h2 h3 h4)
  have ev : ∀ m, (vset (cv S 0) 0 4 m 0 2).toNat = (zz S 0 2).toNat := fun m => by rw [vset_ne (by omega)]; rfl
  unfold wp_X7_withBit
  refine ⟨fun _ => ?_, fun e => absurd rfl e⟩
  rw [hT2 0 4 (by omega), em0]
  intro S7 e7
  have o7 : ∀ c k, ¬ (c = 11 ∧ k = 4) → S7 c k = T c k := fun c k h => by rw [e7, up_ne _ _ h]
  have A7 : Ag (vset (cv S 0) 0 4 m0) (cv S7 11) := cv_vset hA (by omega) (zz_iI (by rw [e7, up_at]) (by omega) (by omega)) (fun f k hf hh => by rw [o7 _ _ (by omega)])
  refine s_X4_allTogether (Lb_bits hL.1 (by omega) ⟨m0a, m0b⟩) (Mb_vset hL.2.1 (by omega) (by omega)) A7 ?_
  intro T8 u0 o8 u0a u0b hu0
  rw [ev] at hu0
  have oT8 : ∀ c k, ¬ (11 ≤ c ∧ c ≤ 21) → ¬ (50 ≤ c ∧ c ≤ 54) → T8 c k = S c k := fun c k a1 a2 => by rw [o8 c k (by omega) (by omega) (by omega), o7 c k (by omega), hT2 c k (by omega)]
  have em : iI (if u0 = 100000000 then -1 else u0) = -1 ↔ u0 = 100000000 := by
    rw [show (-1 : Int32) = iI (-1) from by decide]
    split
    · next e => exact ⟨fun _ => e, fun _ => rfl⟩
    · next e => rw [iI_eq (by omega) (by omega) (by omega) (by omega)]; omega
  rw [em]
  refine ⟨fun hun => ⟨fun e => absurd e (by decide), fun _ => ?_⟩, fun hue => hG _ (M T8 _ oT8 (fun e => absurd ⟨h1, h2⟩ e) (fun n0 n1 _ n0b n1b en0 en1 => ?_))⟩
  · rw [oT8 0 4 (by omega) (by omega), em1]
    intro S13 e13
    have o13 : ∀ c k, ¬ (c = 11 ∧ k = 4) → S13 c k = T8 c k := fun c k h => by rw [e13, up_ne _ _ h]
    have A13 : Ag (vset (cv S 0) 0 4 m1) (cv S13 11) := cv_vset hA (by omega) (zz_iI (by rw [e13, up_at]) (by omega) (by omega)) (fun f k hf hh => by rw [o13 _ _ (by omega), o8 _ _ (by omega) (by omega) (by omega), o7 _ _ (by omega)])
    refine s_X4_allTogether (Lb_bits hL.1 (by omega) ⟨m1a, m1b⟩) (Mb_vset hL.2.1 (by omega) (by omega)) A13 ?_
    intro T14 u1 o14 u1a u1b hu1
    rw [ev] at hu1
    have oT14 : ∀ c k, ¬ (11 ≤ c ∧ c ≤ 21) → ¬ (50 ≤ c ∧ c ≤ 54) → T14 c k = S c k := fun c k a1 a2 => by rw [o14 c k (by omega) (by omega) (by omega), o13 c k (by omega), oT8 c k a1 a2]
    have hun1 : u1 ≠ 100000000 := TA_Gq (Mb_vset hL.2.1 (by omega) (by omega)) (Mb_vset hL.2.1 (by omega) (by omega)) (by rw [vset_ne (by omega)]; show _ ≤ zz S 0 2; omega) (by rw [vset_ne (by omega)]; exact b2') (by rw [vset_ne (by omega), vset_ne (by omega)]) bits_Gq (fun p _ => ⟨by rw [vset_ne (by omega), vset_ne (by omega)], by rw [vset_ne (by omega), vset_ne (by omega)], by rw [vset_ne (by omega), vset_ne (by omega)], by rw [vset_ne (by omega), vset_ne (by omega)]⟩) hu0 hu1 hun
    rw [if_neg hun, if_neg hun1, iI_sub]
    refine hG _ (M T14 _ oT14 (fun e => absurd ⟨h1, h2⟩ e) (fun n0 n1 _ n0b n1b en0 en1 => ?_))
    have q0 : n0 = m0 := (iI_eq (by omega) (by omega) (by omega) (by omega)).mp (en0.symm.trans em0)
    have q1 : n1 = m1 := (iI_eq (by omega) (by omega) (by omega) (by omega)).mp (en1.symm.trans em1)
    rw [q0, q1]
    exact ⟨u0, hu0, fun e => absurd e hun, fun _ => ⟨u1, hu1, rfl⟩⟩
  · have q0 : n0 = m0 := (iI_eq (by omega) (by omega) (by omega) (by omega)).mp (en0.symm.trans em0)
    rw [q0]
    exact ⟨u0, hu0, fun _ => rfl, fun e => absurd hue e⟩
