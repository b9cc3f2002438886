/-! the reference's moves; copies -/
theorem s_X8_goes {a0 p r : Nat} {s : Int} {S : St} {post : St → Prop} (h73 : a0 ≠ 73) (h74 : a0 ≠ 74) (hH : Hb (mz S a0)) (hP : Pb (mz S a0) p) (hR : Rb (mz S a0) r) (hp : p < 4) (hr : r < 9) (hs : 0 ≤ s) (hs2 : s ≤ 1000) (ht : 0 ≤ zz S a0 (4 * p + 3)) (ht2 : zz S a0 (4 * p + 3) ≤ 1000000)
    (h : ∀ S', S' = up (up (up S a0 (4 * p + 3) (iI (zz S a0 (4 * p + 3) + tme (mz S a0) p r (zz S a0 (4 * p)) (zz S a0 (4 * p + 3)) s))) a0 (4 * p + 1) (iI (zz S a0 (4 * p + 1) - s))) a0 (4 * p) (iI (oth (mz S a0) r (zz S a0 (4 * p)))) → post S') : wp_X8_goes a0 (iI p) (iI r) (iI s) S post := by
  have hP2 := hP
  obtain ⟨_, _, _, _, _, _, g1, g2, g3, g4, _⟩ := hP2
  obtain ⟨f1, f2, _⟩ := id hH
  have e70 : mz S a0 7 p = zz S a0 (4 * p) := rfl
  have e80 : mz S a0 8 p = zz S a0 (4 * p + 1) := rfl
  rw [e70] at g1 g2
  rw [e80] at g3 g4
  unfold wp_X8_goes
  have i0 : vp_in ((4 : Int32) * iI p) 28 := by
    simp (disch := omega) only [iI_add, iI_sub, iI_mul, iI_le, iI_lt, iI_eq, iI_ix, iI_in, iI_neg, iI_lit]; omega
  have i1 : vp_in ((4 : Int32) * iI p + 1) 28 := by
    simp (disch := omega) only [iI_add, iI_sub, iI_mul, iI_le, iI_lt, iI_eq, iI_ix, iI_in, iI_neg, iI_lit]; omega
  have i3 : vp_in ((4 : Int32) * iI p + 3) 28 := by
    simp (disch := omega) only [iI_add, iI_sub, iI_mul, iI_le, iI_lt, iI_eq, iI_ix, iI_in, iI_neg, iI_lit]; omega
  have x0 : ix ((4 : Int32) * iI p) = 4 * p := by
    simp (disch := omega) only [iI_add, iI_sub, iI_mul, iI_le, iI_lt, iI_eq, iI_ix, iI_in, iI_neg, iI_lit]; omega
  have x1 : ix ((4 : Int32) * iI p + 1) = 4 * p + 1 := by
    simp (disch := omega) only [iI_add, iI_sub, iI_mul, iI_le, iI_lt, iI_eq, iI_ix, iI_in, iI_neg, iI_lit]; omega
  have x3 : ix ((4 : Int32) * iI p + 3) = 4 * p + 3 := by
    simp (disch := omega) only [iI_add, iI_sub, iI_mul, iI_le, iI_lt, iI_eq, iI_ix, iI_in, iI_neg, iI_lit]; omega
  rw [x0, x1, x3]
  refine ⟨i0, ?_⟩
  intro v1 hv1
  rw [zz_S S a0 (4 * p)] at hv1
  subst hv1
  rw [zz_S S a0 (4 * p + 3)]
  refine ⟨i3, i3, s_X8_time hH hP hR hp hr g1 (by omega) (by omega) (by omega) hs hs2 ⟨i3, ?_⟩⟩
  intro S4 e4
  refine ⟨i1, i1, ?_⟩
  intro S6 e6
  have e8 : S4 a0 (4 * p + 1) = iI (zz S a0 (4 * p + 1)) := by rw [e4, up_ne _ _ (by omega), ← zz_S]
  refine s_X8_otherEnd (a0 := a0) hr (zz_lo S _ _) (zz_hi S _ _) ⟨i0, ?_⟩
  intro S10 e10
  apply h
  have ec : oth (mz S6 a0) r (zz S a0 (4 * p)) = oth (mz S a0) r (zz S a0 (4 * p)) := by
    apply oth_up
    · show zz S6 73 (3 * r) = zz S 73 (3 * r)
      rw [e6, zz_up, if_neg (by omega), e4, zz_up, if_neg (by omega)]
    · show zz S6 73 (3 * r + 1) = zz S 73 (3 * r + 1)
      rw [e6, zz_up, if_neg (by omega), e4, zz_up, if_neg (by omega)]
  rw [e10, ec, e6, e8, e4, iI_add, iI_sub]
theorem s_X8_waits {a0 p : Nat} {S : St} {post : St → Prop} (hH : Hb (mz S a0)) (hP : Pb (mz S a0) p) (hp : p < 4) (h : ∀ S', S' = up (up S a0 (4 * p + 3) (iI (zz S a0 (4 * p + 3) + 1))) a0 (4 * p + 1) (iI (cal (mz S a0) (zz S a0 (4 * p)) (zz S a0 (4 * p + 1)) 1)) → post S') : wp_X8_waits a0 (iI p) S post := by
  have hP2 := hP
  obtain ⟨_, _, _, _, _, _, g1, g2, g3, g4, _⟩ := hP2
  obtain ⟨f1, f2, _, _, _, _, h7, h8, _⟩ := id hH
  have e70 : mz S a0 7 p = zz S a0 (4 * p) := rfl
  have e80 : mz S a0 8 p = zz S a0 (4 * p + 1) := rfl
  rw [e70] at g1 g2
  rw [e80] at g3 g4
  have e4 := bit_get h7 h8 g1 (by omega)
  have hb := bt_01 (mz S a0 0 3) (zz S a0 (4 * p))
  unfold wp_X8_waits
  have i0 : vp_in ((4 : Int32) * iI p) 28 := by
    simp (disch := omega) only [iI_add, iI_sub, iI_mul, iI_le, iI_lt, iI_eq, iI_ix, iI_in, iI_neg, iI_lit]; omega
  have i1 : vp_in ((4 : Int32) * iI p + 1) 28 := by
    simp (disch := omega) only [iI_add, iI_sub, iI_mul, iI_le, iI_lt, iI_eq, iI_ix, iI_in, iI_neg, iI_lit]; omega
  have i3 : vp_in ((4 : Int32) * iI p + 3) 28 := by
    simp (disch := omega) only [iI_add, iI_sub, iI_mul, iI_le, iI_lt, iI_eq, iI_ix, iI_in, iI_neg, iI_lit]; omega
  have x0 : ix ((4 : Int32) * iI p) = 4 * p := by
    simp (disch := omega) only [iI_add, iI_sub, iI_mul, iI_le, iI_lt, iI_eq, iI_ix, iI_in, iI_neg, iI_lit]; omega
  have x1 : ix ((4 : Int32) * iI p + 1) = 4 * p + 1 := by
    simp (disch := omega) only [iI_add, iI_sub, iI_mul, iI_le, iI_lt, iI_eq, iI_ix, iI_in, iI_neg, iI_lit]; omega
  have x3 : ix ((4 : Int32) * iI p + 3) = 4 * p + 3 := by
    simp (disch := omega) only [iI_add, iI_sub, iI_mul, iI_le, iI_lt, iI_eq, iI_ix, iI_in, iI_neg, iI_lit]; omega
  have e9 : (S a0 16 >>> (S a0 (4 * p) &&& 31)) &&& 1 = iI (bt (mz S a0 0 3) (zz S a0 (4 * p))) := by
    rw [zz_S S a0 16, zz_S S a0 (4 * p)]; exact e4
  rw [x0, e9]
  refine ⟨i0, ?_⟩
  have base : ∀ s0 : Int32, (s0 = 0 ∨ s0 = 1) → (s0 = 1 ↔ bt (mz S a0 0 3) (zz S a0 (4 * p)) = 1) → B_X8_waits_21 post a0 (iI p) s0 S := by
    intro s0 hs0 hs1
    unfold B_X8_waits_21
    rw [x1, x3]
    refine ⟨i3, i3, ?_⟩
    intro S1 e1
    have e8 : S1 a0 (4 * p + 1) = iI (zz S a0 (4 * p + 1)) := by rw [e1, up_ne _ _ (by omega), ← zz_S]
    rw [e8]
    have k0 : iI (zz S a0 (4 * p + 1)) + 0 = iI (zz S a0 (4 * p + 1)) := by
      rw [show (0 : Int32) = iI 0 from rfl, iI_add, Int.add_zero]
    have fin : ∀ (S4 : St) (x : Int32), S4 = up S1 a0 (4 * p + 1) x → x = iI (cal (mz S a0) (zz S a0 (4 * p)) (zz S a0 (4 * p + 1)) 1) → post S4 := by
      intro S4 x e5 ex
      apply h
      rw [e5, ex, e1, zz_S S a0 (4 * p + 3), show (1 : Int32) = iI 1 from rfl, iI_add]
    refine ⟨i1, ?_, ?_⟩
    · intro q
      refine ⟨i1, fun S4 e5 => fin S4 _ e5 ?_⟩
      rw [k0, cal_3 (fun q2 => by rw [hs1.mpr q2] at q; exact absurd q (by decide))]
    · intro q
      have q1 : bt (mz S a0 0 3) (zz S a0 (4 * p)) = 1 := hs1.mp (hs0.resolve_left q)
      simp (disch := omega) only [show (5 : Int32) = iI 5 from rfl, iI_le]
      refine ⟨i1, ?_, ?_⟩
      · intro q2
        refine ⟨i1, fun S4 e5 => fin S4 _ e5 ?_⟩
        rw [k0, cal_2 q1 (by omega)]
        congr 1
        omega
      · intro q2
        refine ⟨i1, fun S4 e5 => fin S4 _ e5 ?_⟩
        by_cases q3 : zz S a0 (4 * p + 1) + 1 < 5
        · rw [cal_1 q1 q3, show (1 : Int32) = iI 1 from rfl, iI_add]
        · rw [cal_2 q1 q3, show (1 : Int32) = iI 1 from rfl, iI_add]
          congr 1
          omega
  constructor
  · intro q
    refine base 0 (Or.inl rfl) ⟨fun q2 => absurd q2 (by decide), fun q2 => absurd ?_ q⟩
    rw [q2]
    decide
  · intro q
    refine base 1 (Or.inr rfl) ⟨fun _ => ?_, fun _ => rfl⟩
    rw [show (1 : Int32) = iI 1 from rfl, iI_eq (by omega) (by omega) (by omega) (by omega)] at q
    exact q
theorem s_X8_asNow {S : St} {post : St → Prop} (h : ∀ S', (∀ c k, S' c k = if c = 76 ∧ k < 28 then S 75 k else S c k) → post S') : wp_X8_asNow S post := by
  have key : ∀ (d i : Nat) (S1 : St), i + d = 28 → (∀ c k, S1 c k = if c = 76 ∧ k < i then S 75 k else S c k) → L_X8_asNow_2 post (d + 1) (iI i) S1 := by
    intro d
    induction d with
    | zero =>
      intro i S1 hi hS
      have hi : i = 28 := by omega
      subst hi
      show BD_X8_asNow_2 (L_X8_asNow_2 post 0) post _ _
      unfold BD_X8_asNow_2
      exact ⟨fun _ => h S1 hS, fun q => absurd (by decide) q⟩
    | succ d ih =>
      intro i S1 hi hS
      show BD_X8_asNow_2 (L_X8_asNow_2 post (d + 1)) post _ _
      unfold BD_X8_asNow_2
      simp (disch := omega) only [iI_add, iI_sub, iI_mul, iI_le, iI_lt, iI_eq, iI_ix, iI_in, iI_neg, iI_lit, Int.toNat_natCast]
      refine ⟨fun q => absurd q (by omega), fun _ => ⟨by omega, by omega, fun S2 e2 => ?_⟩⟩
      refine ih (i + 1) S2 (by omega) (fun c k => ?_)
      rw [e2]
      unfold up
      by_cases h1 : c = 76 ∧ k = i
      · rw [if_pos h1, if_pos (by omega), hS 75 i, if_neg (by omega), h1.2]
      · rw [if_neg h1, hS c k]
        by_cases h2 : c = 76 ∧ k < i
        · rw [if_pos h2, if_pos (by omega)]
        · rw [if_neg h2, if_neg (by omega)]
  exact ⟨29, key 28 0 S rfl (fun c k => by rw [if_neg (by omega)])⟩
theorem cpS_ne (S : St) {a d n c k : Nat} (h : c ≠ d) : cpS S a d n c k = S c k := by unfold cpS; rw [if_neg (fun q => h q.1)]
theorem cpS_at (S : St) {a d n k : Nat} (h : k < n) : cpS S a d n d k = S a k := by unfold cpS; rw [if_pos ⟨rfl, h⟩]
theorem s_X6_become {o o2 : Nat} {S : St} {post : St → Prop} (hd : ∀ f g, f ≤ 10 → g ≤ 10 → o + f ≠ o2 + g) (h : ∀ S', (∀ f k, f ≤ 10 → (f = 0 → k < 6) → (f ≤ 3 → k < 9) → (4 ≤ f → k < 4) → S' (o + f) k = S (o2 + f) k) → (∀ c k, (c < o ∨ o + 10 < c) → S' c k = S c k) → post S') : wp_X6_become o o2 S post := by
  unfold wp_X6_become
  intro S1 e1 S2 e2 S3 e3 S4 e4 S5 e5 S6 e6 S7 e7 S8 e8 S9 e9 S10 e10 S11 e11 S12 e12 S13 e13 S14 e14 S15 e15 S16 e16
  have hu : ∀ (T T' : St) (k : Nat) (v : Int32), T' = up T o k v → ∀ g k', g ≤ 10 → T' (o2 + g) k' = T (o2 + g) k' := by
    intro T T' k v e g k' hg
    have h9 : o ≠ o2 + g := hd 0 g (by omega) hg
    rw [e]
    exact up_ne _ _ (fun q => h9 q.1.symm)
  have hq : ∀ (T T' : St) (a f n : Nat), f ≤ 10 → T' = cpS T a (o + f) n → ∀ g k', g ≤ 10 → T' (o2 + g) k' = T (o2 + g) k' := by
    intro T T' a f n hf e g k' hg
    rw [e, cpS_ne _ (fun q => hd f g hf hg q.symm)]
  have s1 := hu _ _ _ _ e1
  have s2 := hu _ _ _ _ e2
  have s3 := hu _ _ _ _ e3
  have s4 := hu _ _ _ _ e4
  have s5 := hu _ _ _ _ e5
  have s6 := hu _ _ _ _ e6
  have s7 := hq _ _ _ 1 _ (by omega) e7
  have s8 := hq _ _ _ 2 _ (by omega) e8
  have s9 := hq _ _ _ 3 _ (by omega) e9
  have s10 := hq _ _ _ 4 _ (by omega) e10
  have s11 := hq _ _ _ 5 _ (by omega) e11
  have s12 := hq _ _ _ 6 _ (by omega) e12
  have s13 := hq _ _ _ 7 _ (by omega) e13
  have s14 := hq _ _ _ 8 _ (by omega) e14
  have s15 := hq _ _ _ 9 _ (by omega) e15
  apply h
  · intro f k hf h0 h1 h2
    rcases (show f = 0 ∨ f = 1 ∨ f = 2 ∨ f = 3 ∨ f = 4 ∨ f = 5 ∨ f = 6 ∨ f = 7 ∨ f = 8 ∨ f = 9 ∨ f = 10 by omega) with rfl | rfl | rfl | rfl | rfl | rfl | rfl | rfl | rfl | rfl | rfl
    · have hk := h0 rfl
      show S16 o k = S o2 k
      rw [e16, cpS_ne _ (by omega), e15, cpS_ne _ (by omega), e14, cpS_ne _ (by omega), e13, cpS_ne _ (by omega), e12, cpS_ne _ (by omega), e11, cpS_ne _ (by omega), e10, cpS_ne _ (by omega), e9, cpS_ne _ (by omega), e8, cpS_ne _ (by omega), e7, cpS_ne _ (by omega)]
      rcases (show k = 0 ∨ k = 1 ∨ k = 2 ∨ k = 3 ∨ k = 4 ∨ k = 5 by omega) with rfl | rfl | rfl | rfl | rfl | rfl
      · rw [e6, up_ne _ _ (by omega), e5, up_ne _ _ (by omega), e4, up_ne _ _ (by omega), e3, up_ne _ _ (by omega), e2, up_ne _ _ (by omega), e1, up_at]
      · rw [e6, up_ne _ _ (by omega), e5, up_ne _ _ (by omega), e4, up_ne _ _ (by omega), e3, up_ne _ _ (by omega), e2, up_at]
        show S1 (o2 + 0) 1 = S (o2 + 0) 1
        rw [s1 0 1 (by omega)]
      · rw [e6, up_ne _ _ (by omega), e5, up_ne _ _ (by omega), e4, up_ne _ _ (by omega), e3, up_at]
        show S2 (o2 + 0) 2 = S (o2 + 0) 2
        rw [s2 0 2 (by omega), s1 0 2 (by omega)]
      · rw [e6, up_ne _ _ (by omega), e5, up_ne _ _ (by omega), e4, up_at]
        show S3 (o2 + 0) 3 = S (o2 + 0) 3
        rw [s3 0 3 (by omega), s2 0 3 (by omega), s1 0 3 (by omega)]
      · rw [e6, up_ne _ _ (by omega), e5, up_at]
        show S4 (o2 + 0) 4 = S (o2 + 0) 4
        rw [s4 0 4 (by omega), s3 0 4 (by omega), s2 0 4 (by omega), s1 0 4 (by omega)]
      · rw [e6, up_at]
        show S5 (o2 + 0) 5 = S (o2 + 0) 5
        rw [s5 0 5 (by omega), s4 0 5 (by omega), s3 0 5 (by omega), s2 0 5 (by omega), s1 0 5 (by omega)]
    · rw [e16, cpS_ne _ (by omega), e15, cpS_ne _ (by omega), e14, cpS_ne _ (by omega), e13, cpS_ne _ (by omega), e12, cpS_ne _ (by omega), e11, cpS_ne _ (by omega), e10, cpS_ne _ (by omega), e9, cpS_ne _ (by omega), e8, cpS_ne _ (by omega), e7, cpS_at _ (by omega), s6 1 k (by omega), s5 1 k (by omega), s4 1 k (by omega), s3 1 k (by omega), s2 1 k (by omega), s1 1 k (by omega)]
    · rw [e16, cpS_ne _ (by omega), e15, cpS_ne _ (by omega), e14, cpS_ne _ (by omega), e13, cpS_ne _ (by omega), e12, cpS_ne _ (by omega), e11, cpS_ne _ (by omega), e10, cpS_ne _ (by omega), e9, cpS_ne _ (by omega), e8, cpS_at _ (by omega), s7 2 k (by omega), s6 2 k (by omega), s5 2 k (by omega), s4 2 k (by omega), s3 2 k (by omega), s2 2 k (by omega), s1 2 k (by omega)]
    · rw [e16, cpS_ne _ (by omega), e15, cpS_ne _ (by omega), e14, cpS_ne _ (by omega), e13, cpS_ne _ (by omega), e12, cpS_ne _ (by omega), e11, cpS_ne _ (by omega), e10, cpS_ne _ (by omega), e9, cpS_at _ (by omega), s8 3 k (by omega), s7 3 k (by omega), s6 3 k (by omega), s5 3 k (by omega), s4 3 k (by omega), s3 3 k (by omega), s2 3 k (by omega), s1 3 k (by omega)]
    · rw [e16, cpS_ne _ (by omega), e15, cpS_ne _ (by omega), e14, cpS_ne _ (by omega), e13, cpS_ne _ (by omega), e12, cpS_ne _ (by omega), e11, cpS_ne _ (by omega), e10, cpS_at _ (by omega), s9 4 k (by omega), s8 4 k (by omega), s7 4 k (by omega), s6 4 k (by omega), s5 4 k (by omega), s4 4 k (by omega), s3 4 k (by omega), s2 4 k (by omega), s1 4 k (by omega)]
    · rw [e16, cpS_ne _ (by omega), e15, cpS_ne _ (by omega), e14, cpS_ne _ (by omega), e13, cpS_ne _ (by omega), e12, cpS_ne _ (by omega), e11, cpS_at _ (by omega), s10 5 k (by omega), s9 5 k (by omega), s8 5 k (by omega), s7 5 k (by omega), s6 5 k (by omega), s5 5 k (by omega), s4 5 k (by omega), s3 5 k (by omega), s2 5 k (by omega), s1 5 k (by omega)]
    · rw [e16, cpS_ne _ (by omega), e15, cpS_ne _ (by omega), e14, cpS_ne _ (by omega), e13, cpS_ne _ (by omega), e12, cpS_at _ (by omega), s11 6 k (by omega), s10 6 k (by omega), s9 6 k (by omega), s8 6 k (by omega), s7 6 k (by omega), s6 6 k (by omega), s5 6 k (by omega), s4 6 k (by omega), s3 6 k (by omega), s2 6 k (by omega), s1 6 k (by omega)]
    · rw [e16, cpS_ne _ (by omega), e15, cpS_ne _ (by omega), e14, cpS_ne _ (by omega), e13, cpS_at _ (by omega), s12 7 k (by omega), s11 7 k (by omega), s10 7 k (by omega), s9 7 k (by omega), s8 7 k (by omega), s7 7 k (by omega), s6 7 k (by omega), s5 7 k (by omega), s4 7 k (by omega), s3 7 k (by omega), s2 7 k (by omega), s1 7 k (by omega)]
    · rw [e16, cpS_ne _ (by omega), e15, cpS_ne _ (by omega), e14, cpS_at _ (by omega), s13 8 k (by omega), s12 8 k (by omega), s11 8 k (by omega), s10 8 k (by omega), s9 8 k (by omega), s8 8 k (by omega), s7 8 k (by omega), s6 8 k (by omega), s5 8 k (by omega), s4 8 k (by omega), s3 8 k (by omega), s2 8 k (by omega), s1 8 k (by omega)]
    · rw [e16, cpS_ne _ (by omega), e15, cpS_at _ (by omega), s14 9 k (by omega), s13 9 k (by omega), s12 9 k (by omega), s11 9 k (by omega), s10 9 k (by omega), s9 9 k (by omega), s8 9 k (by omega), s7 9 k (by omega), s6 9 k (by omega), s5 9 k (by omega), s4 9 k (by omega), s3 9 k (by omega), s2 9 k (by omega), s1 9 k (by omega)]
    · rw [e16, cpS_at _ (by omega), s15 10 k (by omega), s14 10 k (by omega), s13 10 k (by omega), s12 10 k (by omega), s11 10 k (by omega), s10 10 k (by omega), s9 10 k (by omega), s8 10 k (by omega), s7 10 k (by omega), s6 10 k (by omega), s5 10 k (by omega), s4 10 k (by omega), s3 10 k (by omega), s2 10 k (by omega), s1 10 k (by omega)]
  · intro c k hc
    rw [e16, cpS_ne _ (by omega), e15, cpS_ne _ (by omega), e14, cpS_ne _ (by omega), e13, cpS_ne _ (by omega), e12, cpS_ne _ (by omega), e11, cpS_ne _ (by omega), e10, cpS_ne _ (by omega), e9, cpS_ne _ (by omega), e8, cpS_ne _ (by omega), e7, cpS_ne _ (by omega), e6, up_ne _ _ (by omega), e5, up_ne _ _ (by omega), e4, up_ne _ _ (by omega), e3, up_ne _ _ (by omega), e2, up_ne _ _ (by omega), e1, up_ne _ _ (by omega)]
