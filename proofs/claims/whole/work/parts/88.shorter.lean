/-! shorter -/
theorem mil_Gq {v : Vw} {i : Nat} {m : Int} : Gq v (vset v 3 i m) := ⟨vset_ne (by omega), vset_ne (by omega), fun r _ => ⟨vset_ne (by omega), vset_ne (by omega)⟩⟩
/-- the best road of the first i, and what it saves -/
def ShR (v : Vw) (N : Nat) (x0 : Int) : Nat → Int → Int → Prop
  | 0, b, s => b = -1 ∧ s = -1
  | i + 1, b, s => ∃ b1 s1, ShR v N x0 i b1 s1 ∧ ((v 3 i < 2 ∧ b = b1 ∧ s = s1) ∨ (2 ≤ v 3 i ∧ ∃ y, TA (vset v 3 i (v 3 i - 1)) N y ∧ ((x0 - y ≤ s1 ∧ b = b1 ∧ s = s1) ∨ (¬ x0 - y ≤ s1 ∧ b = i ∧ s = x0 - y))))
theorem ShR_uniq {v : Vw} {N : Nat} {x0 : Int} : ∀ i b s b' s', ShR v N x0 i b s → ShR v N x0 i b' s' → b = b' ∧ s = s' := by
  intro i
  induction i with
  | zero => rintro b s b' s' ⟨h1, h2⟩ ⟨h3, h4⟩; omega
  | succ i ih =>
    rintro b s b' s' ⟨b1, s1, h1, h2⟩ ⟨b2, s2, k1, k2⟩
    obtain ⟨e1, e2⟩ := ih _ _ _ _ h1 k1
    subst e1 e2
    rcases h2 with ⟨g1, g2, g3⟩ | ⟨g1, y, g2, g3⟩ <;> rcases k2 with ⟨f1, f2, f3⟩ | ⟨f1, y', f2, f3⟩
    · omega
    · omega
    · omega
    · have := TA_uniq g2 f2
      subst this
      omega
theorem TA_b {v : Vw} {N : Nat} {x : Int} (hM : Mb v) (hN : (N : Int) ≤ v 0 2) (h4 : v 0 2 ≤ 4) (h : TA v N x) (hx : x ≠ 100000000) : 0 ≤ x ∧ x ≤ 400000 := by
  rcases h with ⟨e, _⟩ | ⟨_, h⟩
  · exact absurd e hx
  · have := Tg_b hM N x hN h
    omega
theorem s_X7_shorter_loop {S : St} {x1 x0 : Int} {post : Int32 → St → Prop} (hI : Inv S) (y1 : -2147483648 ≤ x1) (y2 : x1 < 2147483648) (hx0 : x0 ≠ 100000000) (hT0 : TA (cv S 0) (zz S 0 2).toNat x0) (h : ∀ T b s, (∀ c k, ¬ (11 ≤ c ∧ c ≤ 21) → ¬ (50 ≤ c ∧ c ≤ 54) → T c k = S c k) → ShR (cv S 0) (zz S 0 2).toNat x0 (zz S 0 1).toNat b s → post (iI (if x1 = 0 then b else s)) T) : ∀ (d i : Nat) (T : St) (b s : Int), i + d = (zz S 0 1).toNat → (∀ c k, ¬ (11 ≤ c ∧ c ≤ 21) → ¬ (50 ≤ c ∧ c ≤ 54) → T c k = S c k) → Ag (cv S 0) (cv T 11) → ShR (cv S 0) (zz S 0 2).toNat x0 i b s → -1 ≤ b ∧ b < 9 → -1 ≤ s ∧ s ≤ 400000 → L_X7_shorter_46 post (d + 1) (iI x1) (iI x0) (iI b) (iI s) (iI i) T := by
  have hH0 := hI.head
  obtain ⟨b0, b0', b1, b1', b2, b2', _⟩ := id hH0.1
  simp only [cv, Nat.add_zero] at b0 b0' b1 b1' b2 b2'
  obtain ⟨hL, _⟩ := id hI
  have x0b := TA_b hL.2.1 (by show _ ≤ zz S 0 2; omega) b2' hT0 hx0
  intro d
  induction d with
  | zero =>
    intro i T b s hi oT hA hR hb hs
    show BD_X7_shorter_46 (L_X7_shorter_46 post 0) post _ _ _ _ _ _
    unfold BD_X7_shorter_46
    rw [oT 0 1 (by omega) (by omega), zz_S S 0 1, iI_le (by omega) (by omega) (by omega) (by omega)]
    refine ⟨fun _ => ?_, fun e => absurd (by omega) e⟩
    unfold B_X7_shorter_148
    have := h T b s oT (by rw [← hi]; exact hR)
    rw [show (0 : Int32) = iI 0 from rfl, iI_eq (by omega) (by omega) (by omega) (by omega)]
    refine ⟨fun e => ?_, fun e => ?_⟩
    · rw [if_neg e] at this; exact this
    · rw [if_pos e] at this; exact this
  | succ d ih =>
    intro i T b s hi oT hA hR hb hs
    show BD_X7_shorter_46 (L_X7_shorter_46 post (d + 1)) post _ _ _ _ _ _
    unfold BD_X7_shorter_46
    have hi2 : (i : Int) < zz S 0 1 := by omega
    obtain ⟨_, _, _, _, _, r3, r3'⟩ := hL.1.2.1 i hi2
    have r3 : 1 ≤ zz S 3 i := by have := r3; simp only [cv, Nat.zero_add] at this; exact this
    have r3' : zz S 3 i ≤ 20 := by have := r3'; simp only [cv, Nat.zero_add] at this; exact this
    have xi : ix (iI (i : Int)) = i := by rw [iI_ix (by omega) (by omega)]; simp
    have ii : vp_in (iI (i : Int)) 9 := (iI_in (by omega) (by omega)).mpr ⟨by omega, by omega⟩
    have en : iI (i : Int) + 1 = iI ((i + 1 : Nat) : Int) := by rw [show (1 : Int32) = iI 1 from rfl, iI_add]; rfl
    have e3 : cv S 0 3 i = zz S 3 i := by unfold cv; rw [Nat.zero_add]
    rw [oT 0 1 (by omega) (by omega), zz_S S 0 1, iI_le (by omega) (by omega) (by omega) (by omega), xi, oT 3 i (by omega) (by omega), zz_S S 3 i, en, show (2 : Int32) = iI 2 from rfl, iI_le (by omega) (by omega) (by omega) (by omega)]
    refine ⟨fun e => absurd e (by omega), fun _ => ⟨ii, fun h2 => ⟨ii, ii, fun S3 e3' => ?_⟩, fun h2 => ?_⟩⟩
    · rw [show (1 : Int32) = iI 1 from rfl, iI_sub] at e3'
      have o3 : ∀ c k, ¬ (c = 14 ∧ k = i) → S3 c k = T c k := fun c k h => by rw [e3', up_ne _ _ h]
      have A3 : Ag (vset (cv S 0) 3 i (zz S 3 i - 1)) (cv S3 11) := cv_vset hA (by omega) (zz_iI (by rw [e3', up_at]) (by omega) (by omega)) (fun f k hf hh => by rw [o3 _ _ (by omega)])
      have M3 : Mb (vset (cv S 0) 3 i (zz S 3 i - 1)) := Mb_vset hL.2.1 (by omega) (by omega)
      refine s_X4_allTogether (Lb_mil hL.1 (by omega)) M3 A3 ?_
      intro T5 y o5 ya yb hy
      rw [vset_ne (by omega), show cv S 0 0 2 = zz S 0 2 from rfl] at hy
      have hyn : y ≠ 100000000 := TA_Gq hL.2.1 M3 (by show _ ≤ zz S 0 2; omega) b2' (vset_ne (by omega)) mil_Gq (fun p _ => ⟨vset_ne (by omega), vset_ne (by omega), vset_ne (by omega), vset_ne (by omega)⟩) hT0 hy hx0
      have yb := TA_b M3 (by rw [vset_ne (by omega)]; show _ ≤ zz S 0 2; omega) (by rw [vset_ne (by omega)]; exact b2') hy hyn
      rw [if_neg hyn, iI_sub]
      intro v7 e7
      refine ⟨ii, ii, fun S8 e8 => ?_⟩
      rw [o5 3 i (by omega) (by omega) (by omega), o3 3 i (by omega), oT 3 i (by omega) (by omega)] at e8
      have o8 : ∀ c k, ¬ (c = 14 ∧ k = i) → S8 c k = T5 c k := fun c k h => by rw [e8, up_ne _ _ h]
      have oS8 : ∀ c k, ¬ (11 ≤ c ∧ c ≤ 21) → ¬ (50 ≤ c ∧ c ≤ 54) → S8 c k = S c k := fun c k a1 a2 => by rw [o8 c k (by omega), o5 c k (by omega) (by omega) (by omega), o3 c k (by omega), oT c k a1 a2]
      have A8 : Ag (cv S 0) (cv S8 11) := by
        refine hA.trans (Ag.of (fun f k hf h0 h1 h2 => ?_))
        by_cases hh : f = 3 ∧ k = i
        · obtain ⟨rfl, rfl⟩ := hh
          rw [(hA.2.1 _ hi2).2.2, e3]
          unfold cv zz
          rw [e8, up_at]
        · unfold cv zz
          rw [o8 _ _ (by omega), o5 _ _ (by omega) (by omega) (by omega), o3 _ _ (by omega)]
      rw [e7, iI_le (by omega) (by omega) (by omega) (by omega)]
      refine ⟨fun hle => ?_, fun hle => ?_⟩
      · exact ih (i + 1) S8 b s (by omega) oS8 A8 ⟨b, s, hR, Or.inr ⟨by omega, y, by rw [e3]; exact hy, Or.inl ⟨hle, rfl, rfl⟩⟩⟩ hb hs
      · exact ih (i + 1) S8 i (x0 - y) (by omega) oS8 A8 ⟨b, s, hR, Or.inr ⟨by omega, y, by rw [e3]; exact hy, Or.inr ⟨hle, rfl, rfl⟩⟩⟩ (by omega) (by omega)
    · exact ih (i + 1) T b s (by omega) oT hA ⟨b, s, hR, Or.inl ⟨by omega, rfl, rfl⟩⟩ hb hs
theorem s_X8_shorter_loop {S : St} {T0 : St} {x1 x0 : Int} {post : Int32 → St → Prop} (hI : Inv S) (y1 : -2147483648 ≤ x1) (y2 : x1 < 2147483648) (hx0 : x0 ≠ 100000000) (hT0 : TA (cv S 0) (zz S 0 2).toNat x0) (o0 : ∀ c k, ¬ (11 ≤ c ∧ c ≤ 21) → ¬ (50 ≤ c ∧ c ≤ 54) → ¬ (c = 71 ∧ k = 0) → c ≠ 76 → c ≠ 81 → c ≠ 82 → T0 c k = S c k) (h : ∀ T b s, (∀ c k, c ≠ 76 → c ≠ 81 → c ≠ 82 → T c k = T0 c k) → ShR (cv S 0) (zz S 0 2).toNat x0 (zz S 0 1).toNat b s → post (iI (if x1 = 0 then b else s)) T) : ∀ (d i : Nat) (T : St) (b s : Int), i + d = (zz S 0 1).toNat → (∀ c k, c ≠ 76 → c ≠ 81 → c ≠ 82 → T c k = T0 c k) → (∀ k, k < 28 → T 76 k = S 75 k) → ShR (cv S 0) (zz S 0 2).toNat x0 i b s → -1 ≤ b ∧ b < 9 → -1 ≤ s ∧ s ≤ 400000 → L_X8_shorter_34 post (d + 1) (iI x1) (iI x0) (iI b) (iI s) (iI i) T := by
  have hH0 := hI.head
  obtain ⟨b0, b0', b1, b1', b2, b2', _⟩ := id hH0.1
  simp only [cv, Nat.add_zero] at b0 b0' b1 b1' b2 b2'
  obtain ⟨hL, _⟩ := id hI
  have x0b := TA_b hL.2.1 (by show _ ≤ zz S 0 2; omega) b2' hT0 hx0
  intro d
  induction d with
  | zero =>
    intro i T b s hi oT h76 hR hb hs
    show BD_X8_shorter_34 (L_X8_shorter_34 post 0) post _ _ _ _ _ _
    unfold BD_X8_shorter_34
    have e11 : T 71 11 = iI (zz S 0 1) := by rw [oT _ _ (by omega) (by omega) (by omega), o0 _ _ (by omega) (by omega) (by omega) (by omega) (by omega) (by omega), zz_S S 71 11]; congr 1; exact hH0.2.2.2.1
    rw [e11, iI_le (by omega) (by omega) (by omega) (by omega)]
    refine ⟨fun _ => ?_, fun e => absurd (by omega) e⟩
    unfold B_X8_shorter_149
    have := h T b s oT (by rw [← hi]; exact hR)
    rw [show (0 : Int32) = iI 0 from rfl, iI_eq (by omega) (by omega) (by omega) (by omega)]
    refine ⟨fun e => ?_, fun e => ?_⟩
    · rw [if_neg e] at this; exact this
    · rw [if_pos e] at this; exact this
  | succ d ih =>
    intro i T b s hi oT h76 hR hb hs
    show BD_X8_shorter_34 (L_X8_shorter_34 post (d + 1)) post _ _ _ _ _ _
    unfold BD_X8_shorter_34
    have e11 : T 71 11 = iI (zz S 0 1) := by rw [oT _ _ (by omega) (by omega) (by omega), o0 _ _ (by omega) (by omega) (by omega) (by omega) (by omega) (by omega), zz_S S 71 11]; congr 1; exact hH0.2.2.2.1
    have hi2 : (i : Int) < zz S 0 1 := by omega
    obtain ⟨_, _, _, _, _, r3, r3'⟩ := hL.1.2.1 i hi2
    have r3 : 1 ≤ zz S 3 i := by have := r3; simp only [cv, Nat.zero_add] at this; exact this
    have r3' : zz S 3 i ≤ 20 := by have := r3'; simp only [cv, Nat.zero_add] at this; exact this
    have e3 : cv S 0 3 i = zz S 3 i := by unfold cv; rw [Nat.zero_add]
    have e75 : zz S 75 (18 + i) = zz S 3 i := ((hL.2.2.2.1 i hi2).2.2).trans e3
    have e75' : ∀ U : St, (∀ c k, c ≠ 76 → c ≠ 81 → c ≠ 82 → U c k = T0 c k) → U 75 (18 + i) = iI (zz S 3 i) := fun U hU => by rw [hU _ _ (by omega) (by omega) (by omega), o0 _ _ (by omega) (by omega) (by omega) (by omega) (by omega) (by omega), zz_S S 75 (18 + i), e75]
    have ej : (18 : Int32) + iI (i : Int) = iI ((18 + i : Nat) : Int) := by rw [show (18 : Int32) = iI 18 from rfl, iI_add]; rfl
    have xi : ix (iI ((18 + i : Nat) : Int)) = 18 + i := by rw [iI_ix (by omega) (by omega)]; omega
    have ii : vp_in (iI ((18 + i : Nat) : Int)) 28 := (iI_in (by omega) (by omega)).mpr ⟨by omega, by omega⟩
    have en : iI (i : Int) + 1 = iI ((i + 1 : Nat) : Int) := by rw [show (1 : Int32) = iI 1 from rfl, iI_add]; rfl
    rw [e11, iI_le (by omega) (by omega) (by omega) (by omega), ej, xi, e75' T oT, en, show (100000000 : Int32) = iI 100000000 from rfl, iI_le (by omega) (by omega) (by omega) (by omega), show (1 : Int32) = iI 1 from rfl, iI_le (by omega) (by omega) (by omega) (by omega), iI_sub]
    refine ⟨fun e => absurd e (by omega), fun _ => ⟨fun e => absurd e (by omega), fun _ => ⟨ii, fun h2 => ?_, fun h2 => ⟨ii, ii, fun S3 e3' => ?_⟩⟩⟩⟩
    · exact ih (i + 1) T b s (by omega) oT h76 ⟨b, s, hR, Or.inl ⟨by omega, rfl, rfl⟩⟩ hb hs
    · have o3 : ∀ c k, ¬ (c = 76 ∧ k = 18 + i) → S3 c k = T c k := fun c k h => by rw [e3', up_ne _ _ h]
      have A3 : Ag (vset (cv S 0) 3 i (zz S 3 i - 1)) (mz S3 76) := mz_vset (j := 18 + i) hL.2.2 b1' b2' (by omega) (zz_iI (by rw [e3', up_at]) (by omega) (by omega)) (fun k h1 h2 => by rw [o3 _ _ (by omega), h76 k h1]) (fun c k h => by rw [o3 _ _ (by omega), oT c k (by omega) (by omega) (by omega), o0 c k (by omega) (by omega) (by omega) (by omega) (by omega) (by omega)])
      have M3 : Mb (vset (cv S 0) 3 i (zz S 3 i - 1)) := Mb_vset hL.2.1 (by omega) (by omega)
      refine s_X8_together (Lb_mil hL.1 (by omega)) M3 A3 ?_
      intro T5 y o5 ya yb hy
      rw [vset_ne (by omega), show cv S 0 0 2 = zz S 0 2 from rfl] at hy
      have hyn : y ≠ 100000000 := TA_Gq hL.2.1 M3 (by show _ ≤ zz S 0 2; omega) b2' (vset_ne (by omega)) mil_Gq (fun p _ => ⟨vset_ne (by omega), vset_ne (by omega), vset_ne (by omega), vset_ne (by omega)⟩) hT0 hy hx0
      have yb := TA_b M3 (by rw [vset_ne (by omega)]; show _ ≤ zz S 0 2; omega) (by rw [vset_ne (by omega)]; exact b2') hy hyn
      rw [iI_sub]
      intro v7 e7
      refine ⟨ii, ii, fun S8 e8 => ?_⟩
      have oT5 : ∀ c k, c ≠ 76 → c ≠ 81 → c ≠ 82 → T5 c k = T0 c k := fun c k a1 a2 a3 => by rw [o5 c k a2 a3, o3 c k (by omega), oT c k a1 a2 a3]
      rw [e75' T5 oT5] at e8
      have o8 : ∀ c k, ¬ (c = 76 ∧ k = 18 + i) → S8 c k = T5 c k := fun c k h => by rw [e8, up_ne _ _ h]
      have oS8 : ∀ c k, c ≠ 76 → c ≠ 81 → c ≠ 82 → S8 c k = T0 c k := fun c k a1 a2 a3 => by rw [o8 c k (by omega), oT5 c k a1 a2 a3]
      have k76 : ∀ k, k < 28 → S8 76 k = S 75 k := fun k hk => by
        by_cases hh : k = 18 + i
        · rw [hh, e8, up_at, ← e75, ← zz_S]
        · rw [o8 _ _ (by omega), o5 _ _ (by omega) (by omega), o3 _ _ (by omega), h76 k hk]
      unfold B_X8_shorter_126
      rw [e7, iI_le (by omega) (by omega) (by omega) (by omega), en]
      refine ⟨fun hle => ⟨fun _ => ?_, fun e => absurd hle e⟩, fun hle => ⟨fun e => absurd e hle, fun _ => ?_⟩⟩
      · exact ih (i + 1) S8 b s (by omega) oS8 k76 ⟨b, s, hR, Or.inr ⟨by omega, y, by rw [e3]; exact hy, Or.inl ⟨hle, rfl, rfl⟩⟩⟩ hb hs
      · exact ih (i + 1) S8 i (x0 - y) (by omega) oS8 k76 ⟨b, s, hR, Or.inr ⟨by omega, y, by rw [e3]; exact hy, Or.inr ⟨hle, rfl, rfl⟩⟩⟩ (by omega) (by omega)
theorem call_shorter (x1 : Int32) : CallOk (wp_X7_shorter x1) (wp_X8_shorter x1) := by
  intro S hI G hG P hP
  obtain ⟨y, y1, y2, rfl⟩ := iI_ex x1
  have hH0 := hI.head
  obtain ⟨b0, b0', b1, b1', b2, b2', _⟩ := id hH0.1
  simp only [cv, Nat.add_zero] at b0 b0' b1 b1' b2 b2'
  obtain ⟨hL, _⟩ := id hI
  have hfin : ∀ (T : St), (∀ c k, ¬ (11 ≤ c ∧ c ≤ 21) → ¬ (50 ≤ c ∧ c ≤ 54) → ¬ (c = 71 ∧ k = 0) → c ≠ 76 → c ≠ 81 → c ≠ 82 → T c k = S c k) → Inv T := fun T h => hI.sm (fun c k hc => h c k (by unfold ps at hc; omega) (by unfold ps at hc; omega) (by unfold ps at hc; omega) (by unfold ps at hc; omega) (by unfold ps at hc; omega) (by unfold ps at hc; omega))
  have M : ∀ (T : St) (w : Int32), (∀ c k, ¬ (11 ≤ c ∧ c ≤ 21) → ¬ (50 ≤ c ∧ c ≤ 54) → T c k = S c k) → (¬ (0 ≤ y ∧ y ≤ 1) → w = -1000000002) → (0 ≤ y ∧ y ≤ 1 → ∃ x0, TA (cv S 0) (zz S 0 2).toNat x0 ∧ (x0 = 100000000 → w = -1) ∧ (x0 ≠ 100000000 → ∃ b s, ShR (cv S 0) (zz S 0 2).toNat x0 (zz S 0 1).toNat b s ∧ w = iI (if y = 0 then b else s))) → wp_X8_shorter (iI y) T (P w) := by
    intro T w hT1 k0 k1
    unfold wp_X8_shorter
    intro S1 e1
    have o1 : ∀ c k, ¬ (11 ≤ c ∧ c ≤ 21) → ¬ (50 ≤ c ∧ c ≤ 54) → ¬ (c = 71 ∧ k = 0) → S1 c k = S c k := fun c k h1 h2 h3 => by rw [e1, up_ne _ _ h3, hT1 c k h1 h2]
    have hI1 : Inv S1 := hfin S1 (fun c k h1 h2 h3 _ _ _ => o1 c k h1 h2 h3)
    refine s_X8_in (a := 0) (b := 1) y1 y2 (by omega) (by omega) (by omega) (by omega) (fun h1 h2 => ⟨fun _ => ?_, fun e => absurd e (by decide)⟩) (fun h => ⟨fun e => absurd rfl e, fun _ => CallOk.fin (S := S) hP hI1 (k0 (by omega))⟩)
    obtain ⟨x0, hx0, ha, hb⟩ := k1 ⟨h1, h2⟩
    refine s_X8_asNow ?_
    intro T2 hT2
    have o2 : ∀ c k, ¬ (11 ≤ c ∧ c ≤ 21) → ¬ (50 ≤ c ∧ c ≤ 54) → ¬ (c = 71 ∧ k = 0) → c ≠ 76 → T2 c k = S c k := fun c k h1 h2 h3 h4 => by rw [hT2, if_neg (by omega), o1 c k h1 h2 h3]
    have o76 : ∀ k, k < 28 → T2 76 k = S 75 k := fun k hk => by rw [hT2, if_pos ⟨rfl, hk⟩, o1 _ _ (by omega) (by omega) (by omega)]
    have A2 : Ag (cv S 0) (mz T2 76) := now_view hI o76 (fun c k h => o2 c k (by omega) (by omega) (by omega) (by omega))
    refine s_X8_together hL.1 hL.2.1 A2 ?_
    intro T3 x o3 xa xb hx
    rw [show cv S 0 0 2 = zz S 0 2 from rfl] at hx
    have exx : x0 = x := TA_uniq hx0 hx
    subst exx
    have o3' : ∀ c k, ¬ (11 ≤ c ∧ c ≤ 21) → ¬ (50 ≤ c ∧ c ≤ 54) → ¬ (c = 71 ∧ k = 0) → c ≠ 76 → c ≠ 81 → c ≠ 82 → T3 c k = S c k := fun c k a1 a2 a3 a4 a5 a6 => by rw [o3 c k a5 a6, o2 c k a1 a2 a3 a4]
    rw [show (-1 : Int32) = iI (-1) from by decide]
    by_cases hxn : x0 = 100000000
    · refine ⟨1, ?_⟩
      show BD_X8_shorter_34 (L_X8_shorter_34 (P w) 0) (P w) _ _ _ _ _ _
      unfold BD_X8_shorter_34
      have hI3 : Inv T3 := hfin T3 o3'
      have hw := ha hxn
      have hB : B_X8_shorter_149 (P w) (iI y) (iI (-1)) (iI (-1)) T3 := by
        unfold B_X8_shorter_149
        exact ⟨fun _ => CallOk.fin (S := S) hP hI3 (by rw [hw]; decide), fun _ => CallOk.fin (S := S) hP hI3 (by rw [hw]; decide)⟩
      rw [show (100000000 : Int32) = iI 100000000 from rfl, iI_le (by omega) (by omega) (by omega) (by omega)]
      exact ⟨fun _ => hB, fun _ => ⟨fun _ => hB, fun e => absurd (by omega) e⟩⟩
    · obtain ⟨b, s, hbs, hw⟩ := hb hxn
      refine ⟨(zz S 0 1).toNat + 1, ?_⟩
      rw [show (0 : Int32) = iI ((0 : Nat) : Int) from rfl]
      refine s_X8_shorter_loop hI y1 y2 hxn hx0 (T0 := T3) o3' ?_ (zz S 0 1).toNat 0 T3 (-1) (-1) (by omega) (fun _ _ _ _ _ => rfl) (fun k hk => by rw [o3 _ _ (by omega) (by omega), o76 k hk]) ⟨rfl, rfl⟩ (by omega) (by omega)
      intro T4 b' s' o4 hbs'
      obtain ⟨e1, e2⟩ := ShR_uniq _ _ _ _ _ hbs hbs'
      have hI4 : Inv T4 := hfin T4 (fun c k a1 a2 a3 a4 a5 a6 => by rw [o4 c k a4 a5 a6, o3' c k a1 a2 a3 a4 a5 a6])
      exact CallOk.fin (S := S) hP hI4 (by rw [hw, e1, e2])
  unfold wp_X7_shorter
  refine s_X7_outside (a := 0) (b := 1) y1 y2 (by omega) (by omega) (by omega) (by omega) (fun h1 h2 => ⟨fun _ => ?_, fun e => absurd rfl e⟩) (fun h => ⟨fun e => absurd e (by decide), fun _ => hG _ (M S _ (fun _ _ _ _ => rfl) (fun _ => rfl) (fun e => absurd e h))⟩)
  refine s_X6_become (o := 11) (o2 := 0) (fun f g hf hg => by omega) ?_
  intro T hT1 hT2
  have hA : Ag (cv S 0) (cv T 11) := cv_Ag hL.1 (fun f k h1 h2 h3 h4 => hT1 f k h1 h2 h3 h4)
  refine s_X4_allTogether hL.1 hL.2.1 hA ?_
  intro T5 x0 o5 xa xb hx0
  rw [show cv S 0 0 2 = zz S 0 2 from rfl] at hx0
  have oT5 : ∀ c k, ¬ (11 ≤ c ∧ c ≤ 21) → ¬ (50 ≤ c ∧ c ≤ 54) → T5 c k = S c k := fun c k a1 a2 => by rw [o5 c k (by omega) (by omega) (by omega), hT2 c k (by omega)]
  have em : iI (if x0 = 100000000 then -1 else x0) = -1 ↔ x0 = 100000000 := by
    rw [show (-1 : Int32) = iI (-1) from by decide]
    split
    · next e => exact ⟨fun _ => e, fun _ => rfl⟩
    · next e => rw [iI_eq (by omega) (by omega) (by omega) (by omega)]; omega
  rw [em]
  refine ⟨fun hxn => ?_, fun hxe => hG _ (M T5 _ oT5 (fun e => absurd ⟨h1, h2⟩ e) (fun _ => ⟨x0, hx0, fun _ => rfl, fun e => absurd hxe e⟩))⟩
  rw [if_neg hxn, show (-1 : Int32) = iI (-1) from by decide]
  refine ⟨(zz S 0 1).toNat + 1, ?_⟩
  rw [show (0 : Int32) = iI ((0 : Nat) : Int) from rfl]
  refine s_X7_shorter_loop hI y1 y2 hxn hx0 ?_ (zz S 0 1).toNat 0 T5 (-1) (-1) (by omega) oT5 (cv_fr51 hA o5) ⟨rfl, rfl⟩ (by omega) (by omega)
  intro T6 b s o6 hbs
  exact hG _ (M T6 _ o6 (fun e => absurd ⟨h1, h2⟩ e) (fun _ => ⟨x0, hx0, fun e => absurd e hxn, fun _ => ⟨b, s, hbs, rfl⟩⟩))
