/-! keep, goBack -/
theorem s_X8_keep_loop {i : Nat} {S : St} {post : Int32 → St → Prop} (hi : i < 2) (h : ∀ S' : St, (∀ c k, S' c k = if c = 78 ∧ k = i then 1 else if c = 77 ∧ 28 * i ≤ k ∧ k < 28 * i + 28 then S 75 (k - 28 * i) else S c k) → post 1 S') : B_X8_keep_19 post (iI i) 0 S := by
  have xi : ix (iI (i : Int)) = i := by rw [iI_ix (by omega) (by omega)]; simp
  have ii : vp_in (iI (i : Int)) 2 := (iI_in (by omega) (by omega)).mpr ⟨by omega, by omega⟩
  have key : ∀ (d j : Nat) (T : St), j + d = 28 → (∀ c k, T c k = if c = 77 ∧ 28 * i ≤ k ∧ k < 28 * i + j then S 75 (k - 28 * i) else S c k) → L_X8_keep_19 post (d + 1) (iI i) (iI j) T := by
    intro d
    induction d with
    | zero =>
      intro j T hj hT
      have hj : j = 28 := by omega
      subst hj
      show BD_X8_keep_19 (L_X8_keep_19 post 0) post _ _ _
      unfold BD_X8_keep_19
      refine ⟨fun _ => ?_, fun q => absurd (by decide) q⟩
      unfold B_X8_keep_48
      rw [xi]
      refine ⟨ii, fun S1 e1 => h S1 (fun c k => ?_)⟩
      rw [e1]
      unfold up
      by_cases h1 : c = 78 ∧ k = i
      · rw [if_pos h1, if_pos h1]
      · rw [if_neg h1, if_neg h1, hT c k]
    | succ d ih =>
      intro j T hj hT
      show BD_X8_keep_19 (L_X8_keep_19 post (d + 1)) post _ _ _
      unfold BD_X8_keep_19
      simp (disch := omega) only [iI_add, iI_sub, iI_mul, iI_le, iI_lt, iI_eq, iI_ix, iI_in, iI_neg, iI_lit]
      refine ⟨fun q => absurd q (by omega), fun _ => ⟨by omega, by omega, fun S2 e2 => ?_⟩⟩
      have e1 : iI ((j : Int) + 1) = iI ((j + 1 : Nat) : Int) := rfl
      refine ih (j + 1) S2 (by omega) (fun c k => ?_)
      rw [show ((28 : Int) * i + j).toNat = 28 * i + j by omega, show ((j : Int)).toNat = j by omega] at e2
      rw [e2]
      unfold up
      by_cases h1 : c = 77 ∧ k = 28 * i + j
      · rw [if_pos h1, if_pos (by omega), hT 75 j, if_neg (by omega), h1.2]
        congr 1
        omega
      · rw [if_neg h1, hT c k]
        by_cases h2 : c = 77 ∧ 28 * i ≤ k ∧ k < 28 * i + j
        · rw [if_pos h2, if_pos (by omega)]
        · rw [if_neg h2, if_neg (by omega)]
  exact ⟨29, key 28 0 S rfl (fun c k => by rw [if_neg (by omega)])⟩
theorem s_X8_goBack_loop {i : Nat} {S : St} {post : Int32 → St → Prop} (hi : i < 2) (h : ∀ S' : St, (∀ c k, S' c k = if c = 75 ∧ k < 28 then S 77 (28 * i + k) else S c k) → post 1 S') : B_X8_goBack_31 post (iI i) 0 S := by
  have key : ∀ (d j : Nat) (T : St), j + d = 28 → (∀ c k, T c k = if c = 75 ∧ k < j then S 77 (28 * i + k) else S c k) → L_X8_goBack_31 post (d + 1) (iI i) (iI j) T := by
    intro d
    induction d with
    | zero =>
      intro j T hj hT
      have hj : j = 28 := by omega
      subst hj
      show BD_X8_goBack_31 (L_X8_goBack_31 post 0) post _ _ _
      unfold BD_X8_goBack_31
      exact ⟨fun _ => h T hT, fun q => absurd (by decide) q⟩
    | succ d ih =>
      intro j T hj hT
      show BD_X8_goBack_31 (L_X8_goBack_31 post (d + 1)) post _ _ _
      unfold BD_X8_goBack_31
      simp (disch := omega) only [iI_add, iI_sub, iI_mul, iI_le, iI_lt, iI_eq, iI_ix, iI_in, iI_neg, iI_lit]
      refine ⟨fun q => absurd q (by omega), fun _ => ⟨by omega, by omega, fun S2 e2 => ?_⟩⟩
      refine ih (j + 1) S2 (by omega) (fun c k => ?_)
      rw [show ((28 : Int) * i + j).toNat = 28 * i + j by omega, show ((j : Int)).toNat = j by omega] at e2
      rw [e2]
      unfold up
      by_cases h1 : c = 75 ∧ k = j
      · rw [if_pos h1, if_pos (by omega), hT 77, if_neg (by omega), h1.2]
      · rw [if_neg h1, hT c k]
        by_cases h2 : c = 75 ∧ k < j
        · rw [if_pos h2, if_pos (by omega)]
        · rw [if_neg h2, if_neg (by omega)]
  exact ⟨29, key 28 0 S rfl (fun c k => by rw [if_neg (by omega)])⟩
theorem call_keep (x : Int32) : CallOk (wp_X7_keep x) (wp_X8_keep x) := by
  intro S hI G hG P hP
  obtain ⟨z, z1, z2, rfl⟩ := iI_ex x
  unfold wp_X7_keep
  refine s_X7_outside (a := 0) (b := 1) z1 z2 (by omega) (by omega) (by omega) (by omega) (fun h1 h2 => ⟨fun _ => ?_, fun e => absurd rfl e⟩) (fun h => ⟨fun e => absurd e (by decide), fun _ => hG _ ?_⟩)
  · obtain ⟨i, hi⟩ : ∃ i : Nat, z = (i : Int) := ⟨z.toNat, by omega⟩
    subst hi
    have hi2 : i < 2 := by omega
    have xi : ix (iI (i : Int)) = i := by rw [iI_ix (by omega) (by omega)]; simp
    have ii : vp_in (iI (i : Int)) 2 := (iI_in (by omega) (by omega)).mpr ⟨by omega, by omega⟩
    rw [xi]
    refine ⟨ii, s_X6_become (fun f g hf hg => by omega) ?_⟩
    intro S1 c1 o1
    refine ⟨ii, fun S2 e2 => hG _ ?_⟩
    unfold wp_X8_keep
    intro S3 e3
    refine s_X8_in (a := 0) (b := 1) z1 z2 (by omega) (by omega) (by omega) (by omega) (fun _ _ => ⟨fun _ => ?_, fun e => absurd e (by decide)⟩) (fun h => absurd ⟨h1, h2⟩ h)
    refine s_X8_keep_loop hi2 ?_
    intro T hT
    have o3 : ∀ c k, ¬ (22 + 11 * i ≤ c ∧ c ≤ 32 + 11 * i) → ¬ (c = 46 ∧ k = i) → ¬ (c = 71 ∧ k = 0) → S3 c k = S c k := by
      intro c k q1 q2 q3
      rw [e3, up_ne _ _ q3, e2, up_ne _ _ q2, o1 c k (by omega)]
    have oT : ∀ c k, ¬ (22 + 11 * i ≤ c ∧ c ≤ 32 + 11 * i) → ¬ (c = 46 ∧ k = i) → ¬ (c = 71 ∧ k = 0) → ¬ (c = 78 ∧ k = i) → ¬ (c = 77 ∧ 28 * i ≤ k ∧ k < 28 * i + 28) → T c k = S c k := by
      intro c k q1 q2 q3 q4 q5
      rw [hT c k, if_neg q4, if_neg q5, o3 c k q1 q2 q3]
    have oz : ∀ c k, ¬ (22 + 11 * i ≤ c ∧ c ≤ 32 + 11 * i) → ¬ (c = 46 ∧ k = i) → ¬ (c = 71 ∧ k = 0) → ¬ (c = 78 ∧ k = i) → ¬ (c = 77 ∧ 28 * i ≤ k ∧ k < 28 * i + 28) → zz T c k = zz S c k := fun c k q1 q2 q3 q4 q5 => by unfold zz; rw [oT c k q1 q2 q3 q4 q5]
    obtain ⟨hL, _, _, _, hIm⟩ := id hI
    have hI2 : Inv T := by
      refine ⟨Inv_L hI (fun c k h => oT c k (by omega) (by omega) (by omega) (by omega) (by omega)), Inv_T hI (fun c k h => oT c k (by omega) (by omega) (by omega) (by omega) (by omega)), Inv_K hI (fun c k h => oT c k (by omega) (by omega) (by omega) (by omega) (by omega)), Inv_B hI (fun c k h => oT c k (by omega) (by omega) (by omega) (by omega) (by omega)), ?_⟩
      intro j hj
      by_cases hji : j = i
      · subst hji
        have t78 : T 78 j = 1 := by rw [hT, if_pos ⟨rfl, rfl⟩]
        have t46 : T 46 j = 1 := by rw [hT, if_neg (by omega), if_neg (by omega), e3, up_ne _ _ (by omega), e2, up_at]
        refine ⟨by unfold zz; rw [t78, t46], Or.inr (by unfold zz; rw [t46]; rfl), fun _ => ?_⟩
        have a1 : Ag (cv S 0) (cv T (22 + 11 * j)) := by
          refine cv_Ag hL.1 (fun f k hf h0 h3 h4 => ?_)
          rw [hT, if_neg (by omega), if_neg (by omega), e3, up_ne _ _ (by omega), e2, up_ne _ _ (by omega), c1 f k hf h0 h3 h4]
        refine ⟨Ag_Lb a1 hL.1, Ag_Mb a1 hL.2.1, a1.symm.trans (hL.2.2.trans ?_)⟩
        have hA := hL.2.2
        rw [mz_mg] at hA ⊢
        refine mg_Ag (Ag_Lb hA hL.1) (oz _ _ (by omega) (by omega) (by omega) (by omega) (by omega)) (oz _ _ (by omega) (by omega) (by omega) (by omega) (by omega)) (oz _ _ (by omega) (by omega) (by omega) (by omega) (by omega)) (fun k _ => oz _ _ (by omega) (by omega) (by omega) (by omega) (by omega)) (fun k _ => oz _ _ (by omega) (by omega) (by omega) (by omega) (by omega)) (fun k hk => ?_)
        show zz T 77 (28 * j + k) = zz S 75 k
        unfold zz
        rw [hT, if_neg (by omega), if_pos (by omega), o3 _ _ (by omega) (by omega) (by omega), show 28 * j + k - 28 * j = k by omega]
      · obtain ⟨g1, g2, g3⟩ := hIm j hj
        rw [oz 78 j (by omega) (by omega) (by omega) (by omega) (by omega), oz 46 j (by omega) (by omega) (by omega) (by omega) (by omega)]
        refine ⟨g1, g2, fun q => ?_⟩
        obtain ⟨k1, k2, k3⟩ := g3 q
        have a1 : Ag (cv S (22 + 11 * j)) (cv T (22 + 11 * j)) := cv_Ag k1 (fun f k hf _ _ _ => oT _ _ (by omega) (by omega) (by omega) (by omega) (by omega))
        exact ⟨Ag_Lb a1 k1, Ag_Mb a1 k2, a1.symm.trans (k3.trans (mg_Ag (Ag_Lb k3 k1) (oz _ _ (by omega) (by omega) (by omega) (by omega) (by omega)) (oz _ _ (by omega) (by omega) (by omega) (by omega) (by omega)) (oz _ _ (by omega) (by omega) (by omega) (by omega) (by omega)) (fun k _ => oz _ _ (by omega) (by omega) (by omega) (by omega) (by omega)) (fun k _ => oz _ _ (by omega) (by omega) (by omega) (by omega) (by omega)) (fun k _ => oz _ _ (by omega) (by omega) (by omega) (by omega) (by omega))))⟩
    exact CallOk.fin (S := S) hP hI2 rfl
  · unfold wp_X8_keep
    intro T e1
    have hs := sm_thr S
    rw [← e1] at hs
    exact s_X8_in (a := 0) (b := 1) z1 z2 (by omega) (by omega) (by omega) (by omega) (fun q1 q2 => absurd ⟨q1, q2⟩ h) (fun _ => ⟨fun e => absurd rfl e, fun _ => CallOk.fin (S := S) hP (hI.sm hs) rfl⟩)
theorem Inv_back {S T : St} {i : Nat} (hI : Inv S) (hi2 : i < 2) (hk : zz S 46 i = 1) (h1 : ∀ f k : Nat, f ≤ 10 → (f = 0 → k < 6) → (f ≤ 3 → k < 9) → (4 ≤ f → k < 4) → T (0 + f) k = S (22 + 11 * i + f) k) (h2 : ∀ k, k < 28 → T 75 k = S 77 (28 * i + k)) (oT : ∀ c k, ¬ c ≤ 10 → ¬ (c = 71 ∧ k = 0) → ¬ (c = 75) → T c k = S c k) : Inv T := by
  obtain ⟨hL, hT0, hK0, hB0, hIm⟩ := id hI
  obtain ⟨g1, g2, g3⟩ := hIm i hi2
  obtain ⟨k1, k2, k3⟩ := g3 hk
  have oz : ∀ c k, ¬ c ≤ 10 → ¬ (c = 71 ∧ k = 0) → ¬ (c = 75) → zz T c k = zz S c k := fun c k q1 q2 q3 => by unfold zz; rw [oT c k q1 q2 q3]
  have a1 : Ag (cv S (22 + 11 * i)) (cv T 0) := cv_Ag k1 h1
  have hLT : InvL T := by
    refine ⟨Ag_Lb a1 k1, Ag_Mb a1 k2, a1.symm.trans (k3.trans ?_)⟩
    rw [mz_mg]
    refine mg_Ag (Ag_Lb k3 k1) (oz _ _ (by omega) (by omega) (by omega)) (oz _ _ (by omega) (by omega) (by omega)) (oz _ _ (by omega) (by omega) (by omega)) (fun k _ => oz _ _ (by omega) (by omega) (by omega)) (fun k _ => oz _ _ (by omega) (by omega) (by omega)) (fun k hk => ?_)
    show zz T 75 k = zz S 77 (28 * i + k)
    unfold zz
    rw [h2 k hk]
  have e0 : zz T 0 0 = zz S 0 0 := by
    have q1 : zz T 0 0 = cv S (22 + 11 * i) 0 0 := a1.1 0 (by omega)
    have q2 : zz S 71 10 = cv S (22 + 11 * i) 0 0 := k3.1 0 (by omega)
    have q3 : zz S 71 10 = zz S 0 0 := hL.2.2.1 0 (by omega)
    rw [q1, ← q2, q3]
  have e1 : zz T 0 1 = zz S 0 1 := by
    have q1 : zz T 0 1 = cv S (22 + 11 * i) 0 1 := a1.1 1 (by omega)
    have q2 : zz S 71 11 = cv S (22 + 11 * i) 0 1 := k3.1 1 (by omega)
    have q3 : zz S 71 11 = zz S 0 1 := hL.2.2.1 1 (by omega)
    rw [q1, ← q2, q3]
  have e2 : zz T 0 2 = zz S 0 2 := by
    have q1 : zz T 0 2 = cv S (22 + 11 * i) 0 2 := a1.1 2 (by omega)
    have q2 : zz S 71 12 = cv S (22 + 11 * i) 0 2 := k3.1 2 (by omega)
    have q3 : zz S 71 12 = zz S 0 2 := hL.2.2.1 2 (by omega)
    rw [q1, ← q2, q3]
  exact Inv_of hI hLT ⟨e0, e1, e2⟩ (fun c k hp q1 q2 => oT c k q1 (by unfold ps at hp; omega) q2)
theorem call_goBack (x : Int32) : CallOk (wp_X7_goBack x) (wp_X8_goBack x) := by
  intro S hI G hG P hP
  obtain ⟨z, z1, z2, rfl⟩ := iI_ex x
  unfold wp_X7_goBack
  refine s_X7_outside (a := 0) (b := 1) z1 z2 (by omega) (by omega) (by omega) (by omega) (fun h1 h2 => ⟨fun _ => ?_, fun e => absurd rfl e⟩) (fun h => ⟨fun e => absurd e (by decide), fun _ => hG _ ?_⟩)
  · obtain ⟨i, hi⟩ : ∃ i : Nat, z = (i : Int) := ⟨z.toNat, by omega⟩
    subst hi
    have hi2 : i < 2 := by omega
    have xi : ix (iI (i : Int)) = i := by rw [iI_ix (by omega) (by omega)]; simp
    have ii : vp_in (iI (i : Int)) 2 := (iI_in (by omega) (by omega)).mpr ⟨by omega, by omega⟩
    obtain ⟨hL, hT0, hK0, hB0, hIm⟩ := id hI
    obtain ⟨g1, g2, g3⟩ := hIm i hi2
    have c46 : S 46 i = 0 ↔ zz S 46 i = 0 := by rw [zz_S S 46 i, show (0 : Int32) = iI 0 from rfl, iI_eq (zz_lo _ _ _) (zz_hi _ _ _) (by omega) (by omega)]
    rw [xi, c46]
    refine ⟨ii, fun hk => ⟨ii, ?_⟩, fun hk => hG _ ?_⟩
    · refine s_X6_become (fun f g hf hg => by omega) ?_
      intro S1 c1 o1
      apply hG
      unfold wp_X8_goBack
      intro S3 e3
      refine s_X8_in (a := 0) (b := 1) z1 z2 (by omega) (by omega) (by omega) (by omega) (fun _ _ => ⟨fun _ => ?_, fun e => absurd e (by decide)⟩) (fun h => absurd ⟨h1, h2⟩ h)
      have o3 : ∀ c k, ¬ c ≤ 10 → ¬ (c = 71 ∧ k = 0) → S3 c k = S c k := by
        intro c k q1 q2
        rw [e3, up_ne _ _ q2, o1 c k (by omega)]
      have e78 : S3 78 i = S 46 i := by rw [o3 _ _ (by omega) (by omega), zz_inj g1]
      rw [xi, e78, c46]
      refine ⟨ii, fun _ => ?_, fun e => absurd e hk⟩
      refine s_X8_goBack_loop hi2 ?_
      intro T hT
      have hI2 : Inv T := Inv_back hI hi2 (by omega) (fun f k hf h0 h3 h4 => by rw [hT, if_neg (by omega), e3, up_ne _ _ (by omega), c1 f k hf h0 h3 h4]) (fun k hk => by rw [hT, if_pos ⟨rfl, hk⟩, o3 _ _ (by omega) (by omega)]) (fun c k q1 q2 q3 => by rw [hT c k, if_neg (by omega), o3 c k q1 q2])
      exact CallOk.fin (S := S) hP hI2 rfl
    · unfold wp_X8_goBack
      intro T e1
      have hs := sm_thr S
      rw [← e1] at hs
      refine s_X8_in (a := 0) (b := 1) z1 z2 (by omega) (by omega) (by omega) (by omega) (fun _ _ => ⟨fun _ => ?_, fun e => absurd e (by decide)⟩) (fun h => absurd ⟨h1, h2⟩ h)
      have e78 : T 78 i = S 46 i := by rw [hs 78 i (by unfold ps; omega), zz_inj g1]
      rw [xi, e78, c46]
      exact ⟨ii, fun e => absurd hk e, fun _ => CallOk.fin (S := S) hP (hI.sm hs) rfl⟩
  · unfold wp_X8_goBack
    intro T e1
    have hs := sm_thr S
    rw [← e1] at hs
    exact s_X8_in (a := 0) (b := 1) z1 z2 (by omega) (by omega) (by omega) (by omega) (fun q1 q2 => absurd ⟨q1, q2⟩ h) (fun _ => ⟨fun e => absurd rfl e, fun _ => CallOk.fin (S := S) hP (hI.sm hs) rfl⟩)
