/-! the reference's steps -/
theorem s_X8_saves {S : St} {post : St → Prop} (h : ∀ S', (∀ c k, S' c k = if c = 85 ∧ k < 28 then S 76 k else S c k) → post S') : wp_X8_saves S post := by
  have key : ∀ (d i : Nat) (S1 : St), i + d = 28 → (∀ c k, S1 c k = if c = 85 ∧ k < i then S 76 k else S c k) → L_X8_saves_2 post (d + 1) (iI i) S1 := by
    intro d
    induction d with
    | zero =>
      intro i S1 hi hS
      have hi : i = 28 := by omega
      subst hi
      show BD_X8_saves_2 (L_X8_saves_2 post 0) post _ _
      unfold BD_X8_saves_2
      exact ⟨fun _ => h S1 hS, fun q => absurd (by decide) q⟩
    | succ d ih =>
      intro i S1 hi hS
      show BD_X8_saves_2 (L_X8_saves_2 post (d + 1)) post _ _
      unfold BD_X8_saves_2
      simp (disch := omega) only [iI_add, iI_sub, iI_mul, iI_le, iI_lt, iI_eq, iI_ix, iI_in, iI_neg, iI_lit, Int.toNat_natCast]
      refine ⟨fun q => absurd q (by omega), fun _ => ⟨by omega, by omega, fun S2 e2 => ?_⟩⟩
      refine ih (i + 1) S2 (by omega) (fun c k => ?_)
      rw [e2]
      unfold up
      by_cases h1 : c = 85 ∧ k = i
      · rw [if_pos h1, if_pos (by omega), hS 76 i, if_neg (by omega), h1.2]
      · rw [if_neg h1, hS c k]
        by_cases h2 : c = 85 ∧ k < i
        · rw [if_pos h2, if_pos (by omega)]
        · rw [if_neg h2, if_neg (by omega)]
  exact ⟨29, key 28 0 S rfl (fun c k => by rw [if_neg (by omega)])⟩
theorem s_X8_restores {S : St} {post : St → Prop} (h : ∀ S', (∀ c k, S' c k = if c = 76 ∧ k < 28 then S 85 k else S c k) → post S') : wp_X8_restores S post := by
  have key : ∀ (d i : Nat) (S1 : St), i + d = 28 → (∀ c k, S1 c k = if c = 76 ∧ k < i then S 85 k else S c k) → L_X8_restores_2 post (d + 1) (iI i) S1 := by
    intro d
    induction d with
    | zero =>
      intro i S1 hi hS
      have hi : i = 28 := by omega
      subst hi
      show BD_X8_restores_2 (L_X8_restores_2 post 0) post _ _
      unfold BD_X8_restores_2
      exact ⟨fun _ => h S1 hS, fun q => absurd (by decide) q⟩
    | succ d ih =>
      intro i S1 hi hS
      show BD_X8_restores_2 (L_X8_restores_2 post (d + 1)) post _ _
      unfold BD_X8_restores_2
      simp (disch := omega) only [iI_add, iI_sub, iI_mul, iI_le, iI_lt, iI_eq, iI_ix, iI_in, iI_neg, iI_lit, Int.toNat_natCast]
      refine ⟨fun q => absurd q (by omega), fun _ => ⟨by omega, by omega, fun S2 e2 => ?_⟩⟩
      refine ih (i + 1) S2 (by omega) (fun c k => ?_)
      rw [e2]
      unfold up
      by_cases h1 : c = 76 ∧ k = i
      · rw [if_pos h1, if_pos (by omega), hS 85 i, if_neg (by omega), h1.2]
      · rw [if_neg h1, hS c k]
        by_cases h2 : c = 76 ∧ k < i
        · rw [if_pos h2, if_pos (by omega)]
        · rw [if_neg h2, if_neg (by omega)]
  exact ⟨29, key 28 0 S rfl (fun c k => by rw [if_neg (by omega)])⟩
theorem Sv_76 {v : Vw} {T T' : St} (hL : Lb v) (hS : Sv v (mz T 76)) (h76 : ∀ k, k < 28 → (16 ≤ k ∨ k % 4 = 2) → T' 76 k = T 76 k) (hO : ∀ c k, c = 71 ∧ k ≠ 0 ∨ c = 73 ∨ c = 74 → T' c k = T c k) : Sv v (mz T' 76) := by
  obtain ⟨b0, b0', b1, b1', b2, b2', _⟩ := id hL.1
  have z : ∀ c k, c = 71 ∧ k ≠ 0 ∨ c = 73 ∨ c = 74 → zz T' c k = zz T c k := fun c k h => by unfold zz; rw [hO c k h]
  have z76 : ∀ k, k < 28 → (16 ≤ k ∨ k % 4 = 2) → zz T' 76 k = zz T 76 k := fun k h1 h2 => by unfold zz; rw [h76 k h1 h2]
  refine hS.trans ⟨fun k hk => ?_, fun r hr => ?_, fun a ha => ?_⟩
  · rcases (show k = 0 ∨ k = 1 ∨ k = 2 ∨ k = 3 ∨ k = 4 ∨ k = 5 by omega) with rfl | rfl | rfl | rfl | rfl | rfl
    · exact z _ _ (by omega)
    · exact z _ _ (by omega)
    · exact z _ _ (by omega)
    · exact z76 _ (by omega) (by omega)
    · exact z76 _ (by omega) (by omega)
    · exact z76 _ (by omega) (by omega)
  · rw [hS.1 1 (by omega)] at hr
    exact ⟨z _ _ (by omega), z _ _ (by omega), z76 _ (by omega) (by omega)⟩
  · rw [hS.1 2 (by omega)] at ha
    exact ⟨z _ _ (by omega), z _ _ (by omega), z _ _ (by omega), z76 _ (by omega) (by omega)⟩
def Cu (v : Vw) (p : Nat) (T : St) (a c m : Int) : Prop := Sv v (mz T 76) ∧ zz T 76 (4 * p) = a ∧ zz T 76 (4 * p + 1) = c ∧ zz T 76 (4 * p + 3) = m
def LBd (v : Vw) (p : Nat) (e g a c m : Int) : Prop := ∀ n c' t, Rc v p ly0 0 a c m n 0 e c' t → g ≤ t
theorem Cu_Pb {v : Vw} {p : Nat} {T : St} {a c m : Int} (hL : Lb v) (hp : (p : Int) < v 0 2) (h : Cu v p T a c m) (ha : 0 ≤ a ∧ a < v 0 0) (hc : 0 ≤ c ∧ c ≤ 5) : Pb (mz T 76) p := Sv_Pb h.1 hp (hL.2.2 p hp) (by show 0 ≤ zz T 76 (4 * p) ∧ zz T 76 (4 * p) < v 0 0; rw [h.2.1]; exact ha) (by show 0 ≤ zz T 76 (4 * p + 1) ∧ zz T 76 (4 * p + 1) ≤ 5; rw [h.2.2.1]; exact hc)
theorem s_isStep_38 {v : Vw} {p : Nat} {g a c m : Int} {T : St} {post : Int32 → St → Prop} (hL : Lb v) (hp : (p : Int) < v 0 2) (hC : Cu v p T a c m) (ha : 0 ≤ a ∧ a < v 0 0) (hc : 0 ≤ c ∧ c ≤ 5) (hm : 0 ≤ m ∧ m ≤ 900000) (hg : 0 ≤ g ∧ g ≤ 800000) (hLB : LBd v p (v 4 p) g a c m) (h1 : Bk v p (v 4 p) g a c m → ∀ T2, (∀ c k, c ≠ 81 → c ≠ 82 → T2 c k = T c k) → post 1 T2) (h0 : ¬ Bk v p (v 4 p) g a c m → ∀ T2, (∀ c k, c ≠ 76 → c ≠ 81 → c ≠ 82 → T2 c k = T c k) → (∀ k, k < 28 → T2 76 k = T 85 k) → post 0 T2) : B_X8_isStep_38 post (iI p) (iI g) T := by
  obtain ⟨b0, b0', b1, b1', b2, b2', _⟩ := id hL.1
  have g4 := hL.2.2 p hp
  have he : 0 ≤ v 4 p ∧ v 4 p < v 0 0 := ⟨g4.1, g4.2.1⟩
  have x3 : ix ((4 : Int32) * iI p + 3) = 4 * p + 3 := by
    simp (disch := omega) only [iI_add, iI_sub, iI_mul, iI_le, iI_lt, iI_eq, iI_ix, iI_in, iI_neg, iI_lit]; omega
  have i3 : vp_in ((4 : Int32) * iI p + 3) 28 := by
    simp (disch := omega) only [iI_add, iI_sub, iI_mul, iI_le, iI_lt, iI_eq, iI_ix, iI_in, iI_neg, iI_lit]; omega
  have no : ¬ Bk v p (v 4 p) g a c m → ∀ T1, (∀ c k, c ≠ 81 → c ≠ 82 → T1 c k = T c k) → B_X8_isStep_70 post T1 := by
    intro hb T1 o1
    unfold B_X8_isStep_70
    refine s_X8_restores ?_
    intro T2 hT2
    refine h0 hb T2 (fun c k a1 a2 a3 => by rw [hT2, if_neg (by omega), o1 c k a2 a3]) (fun k hk => by rw [hT2, if_pos ⟨rfl, hk⟩, o1 _ _ (by omega) (by omega)])
  obtain ⟨c1, c2, c3, c4⟩ := id hC
  unfold B_X8_isStep_38
  rw [x3, zz_S T 76 (4 * p + 3), c4, iI_lt (by omega) (by omega) (by omega) (by omega)]
  refine ⟨i3, fun hlt => no (fun hb => ?_) T (fun _ _ _ _ => rfl), fun hlt => ?_⟩
  · have := Bk_le hL hp ha hc hb
    omega
  · refine s_X8_errand (by omega) ?_
    have w4 : zz T 74 (5 * p + 1) = v 4 p := (c1.2.2 p hp).1
    rw [zz_S T 74 (5 * p + 1), w4]
    refine s_X8_soonestOf hL hp c1 (Cu_Pb hL hp hC ha hc) (by rw [c4]; exact hm) (by omega) ?_
    rw [c2, c3, c4]
    intro T2 y o2 ya yb hy
    have hiff := Soon_Bk (g := g) (by omega) hy
    have hge : g ≤ y := by
      rcases hy with ⟨_, _, ⟨n, c', q⟩, _⟩ | ⟨q, _⟩
      · exact hLB _ _ _ q
      · omega
    rw [iI_eq (by omega) (by omega) (by omega) (by omega)]
    refine ⟨fun hne => no (fun hb => ?_) T2 o2, fun heq => h1 (hiff.mpr (by omega)) T2 o2⟩
    have := hiff.mp hb
    omega
theorem LBd_wait {v : Vw} {p : Nat} {e g a c m : Int} (hL : Lb v) (hc : 0 ≤ c ∧ c ≤ 5) (h : LBd v p e g a c m) : LBd v p e g a (cal v a c 1) (m + 1) := by
  intro n c' t hR
  by_cases hq : bt (v 0 3) a = 1 ∧ c < 5
  · have ec : cal v a c 1 = c + 1 := by
      unfold cal
      rw [if_pos hq.1]
      split <;> omega
    rw [ec] at hR
    exact h _ _ _ (Rc_cons (Or.inl ⟨hq.1, hq.2, rfl, rfl, rfl, rfl⟩) _ _ _ _ _ hR)
  · have ec : cal v a c 1 = c := by
      unfold cal
      by_cases h1 : bt (v 0 3) a = 1
      · rw [if_pos h1, if_neg (by omega)]
        omega
      · rw [if_neg h1]
    rw [ec] at hR
    obtain ⟨t', q1, q2⟩ := Rc_early hL (show m ≤ m + 1 by omega) _ _ _ _ _ hR
    have := h _ _ _ q2
    omega
theorem LBd_go {v : Vw} {p r : Nat} {e g a c m s : Int} (hr : (r : Int) < v 0 1) (hb : oth v r a ≠ -1) (hs : 0 ≤ s ∧ s ≤ c) (h : LBd v p e g a c m) : LBd v p e g (oth v r a) (c - s) (m + tme v p r a m s) := by
  intro n c' t hR
  exact h _ _ _ (Rc_cons (Or.inr ⟨r, s, hr, rfl, hb, hs.1, hs.2, rfl, rfl, rfl⟩) _ _ _ _ _ hR)
theorem s_isStep_w {v : Vw} {p : Nat} {g a c m : Int} {T : St} {post : Int32 → St → Prop} (hL : Lb v) (hp : (p : Int) < v 0 2) (hC : Cu v p T a c m) (ha : 0 ≤ a ∧ a < v 0 0) (hc : 0 ≤ c ∧ c ≤ 5) (hm : 0 ≤ m ∧ m ≤ 800000) (hg : 0 ≤ g ∧ g ≤ 800000) (hLB : LBd v p (v 4 p) g a c m) (h1 : Bk v p (v 4 p) g a (cal v a c 1) (m + 1) → ∀ T2, (∀ c k, c ≠ 76 → c ≠ 81 → c ≠ 82 → c ≠ 85 → T2 c k = T c k) → Cu v p T2 a (cal v a c 1) (m + 1) → post 1 T2) (h0 : ¬ Bk v p (v 4 p) g a (cal v a c 1) (m + 1) → ∀ T2, (∀ c k, c ≠ 76 → c ≠ 81 → c ≠ 82 → c ≠ 85 → T2 c k = T c k) → Cu v p T2 a c m → post 0 T2) : wp_X8_isStep (iI p) (-2) (iI g) T post := by
  obtain ⟨b0, b0', b1, b1', b2, b2', _⟩ := id hL.1
  obtain ⟨c1, c2, c3, c4⟩ := id hC
  have cb := cal_b (v := v) (a := a) (c := c) (n := 1) (by omega) hc.1 hc.2
  unfold wp_X8_isStep
  refine s_X8_saves ?_
  intro S1 hS1
  have o1 : ∀ c k, c ≠ 85 → S1 c k = T c k := fun c k h => by rw [hS1, if_neg (by omega)]
  have o85 : ∀ k, k < 28 → S1 85 k = T 76 k := fun k hk => by rw [hS1, if_pos ⟨rfl, hk⟩]
  have z1 : ∀ c k, c ≠ 85 → zz S1 c k = zz T c k := fun c k h => by unfold zz; rw [o1 c k h]
  have hS' : Sv v (mz S1 76) := Sv_76 hL c1 (fun k _ _ => o1 _ _ (by omega)) (fun c k _ => o1 _ _ (by omega))
  have hC1 : Cu v p S1 a c m := ⟨hS', by rw [z1 _ _ (by omega)]; exact c2, by rw [z1 _ _ (by omega)]; exact c3, by rw [z1 _ _ (by omega)]; exact c4⟩
  refine ⟨fun e => absurd rfl e, fun _ => ?_⟩
  refine s_X8_waits (a0 := 76) (Sv_Hb hS' hL.1) (Cu_Pb hL hp hC1 ha hc) (by omega) ?_
  intro S4 e4
  rw [hC1.2.1, hC1.2.2.1, hC1.2.2.2, cal_Sv hS'] at e4
  have o4 : ∀ c k, ¬ (c = 76 ∧ (k = 4 * p + 1 ∨ k = 4 * p + 3)) → S4 c k = S1 c k := fun c k h => by rw [e4, up_ne _ _ (by omega), up_ne _ _ (by omega)]
  have hC4 : Cu v p S4 a (cal v a c 1) (m + 1) := by
    refine ⟨Sv_76 hL hS' (fun k h1 h2 => o4 _ _ (by omega)) (fun c k h => o4 _ _ (by omega)), ?_, ?_, ?_⟩
    · rw [← hC1.2.1]; unfold zz; rw [o4 _ _ (by omega)]
    · exact zz_iI (by rw [e4, up_at]) (by omega) (by omega)
    · exact zz_iI (by rw [e4, up_ne _ _ (by omega), up_at]) (by omega) (by omega)
  refine s_isStep_38 hL hp hC4 ha cb (by omega) hg (LBd_wait hL hc hLB) (fun hb T2 o2 => ?_) (fun hb T2 o2 o76 => ?_)
  · refine h1 hb T2 (fun c k a1 a2 a3 a4 => by rw [o2 c k a2 a3, o4 c k (by omega), o1 c k a4]) ?_
    have em := mz_fr o2
    exact ⟨by rw [em]; exact hC4.1, by rw [← hC4.2.1]; unfold zz; rw [o2 _ _ (by omega) (by omega)], by rw [← hC4.2.2.1]; unfold zz; rw [o2 _ _ (by omega) (by omega)], by rw [← hC4.2.2.2]; unfold zz; rw [o2 _ _ (by omega) (by omega)]⟩
  · have k76 : ∀ k, k < 28 → T2 76 k = T 76 k := fun k hk => by rw [o76 k hk, o4 _ _ (by omega), o85 k hk]
    refine h0 hb T2 (fun c k a1 a2 a3 a4 => by rw [o2 c k a1 a2 a3, o4 c k (by omega), o1 c k a4]) ⟨Sv_76 hL c1 (fun k h1 _ => k76 k h1) (fun c k h => by rw [o2 c k (by omega) (by omega) (by omega), o4 c k (by omega), o1 c k (by omega)]), ?_, ?_, ?_⟩
    · rw [← c2]; unfold zz; rw [k76 _ (by omega)]
    · rw [← c3]; unfold zz; rw [k76 _ (by omega)]
    · rw [← c4]; unfold zz; rw [k76 _ (by omega)]
theorem s_isStep_g {v : Vw} {p r : Nat} {g a c m s : Int} {T : St} {post : Int32 → St → Prop} (hL : Lb v) (hp : (p : Int) < v 0 2) (hr : (r : Int) < v 0 1) (hb : oth v r a ≠ -1) (hs : 0 ≤ s ∧ s ≤ c) (hC : Cu v p T a c m) (ha : 0 ≤ a ∧ a < v 0 0) (hc : 0 ≤ c ∧ c ≤ 5) (hm : 0 ≤ m ∧ m ≤ 800000) (hg : 0 ≤ g ∧ g ≤ 800000) (hLB : LBd v p (v 4 p) g a c m) (h1 : Bk v p (v 4 p) g (oth v r a) (c - s) (m + tme v p r a m s) → ∀ T2, (∀ c k, c ≠ 76 → c ≠ 81 → c ≠ 82 → c ≠ 85 → T2 c k = T c k) → Cu v p T2 (oth v r a) (c - s) (m + tme v p r a m s) → post 1 T2) (h0 : ¬ Bk v p (v 4 p) g (oth v r a) (c - s) (m + tme v p r a m s) → ∀ T2, (∀ c k, c ≠ 76 → c ≠ 81 → c ≠ 82 → c ≠ 85 → T2 c k = T c k) → Cu v p T2 a c m → post 0 T2) : wp_X8_isStep (iI p) (iI (10 * (r : Int) + s)) (iI g) T post := by
  obtain ⟨b0, b0', b1, b1', b2, b2', _⟩ := id hL.1
  obtain ⟨c1, c2, c3, c4⟩ := id hC
  have ob := oth_b a (hL.2.1 r hr) hL.1
  have tb := tme_b (v := v) (p := p) (r := r) a m (s := s) (hL.2.2 p hp) (hL.2.1 r hr) hs.1
  unfold wp_X8_isStep
  refine s_X8_saves ?_
  intro S1 hS1
  have o1 : ∀ c k, c ≠ 85 → S1 c k = T c k := fun c k h => by rw [hS1, if_neg (by omega)]
  have o85 : ∀ k, k < 28 → S1 85 k = T 76 k := fun k hk => by rw [hS1, if_pos ⟨rfl, hk⟩]
  have z1 : ∀ c k, c ≠ 85 → zz S1 c k = zz T c k := fun c k h => by unfold zz; rw [o1 c k h]
  have hS' : Sv v (mz S1 76) := Sv_76 hL c1 (fun k _ _ => o1 _ _ (by omega)) (fun c k _ => o1 _ _ (by omega))
  have hC1 : Cu v p S1 a c m := ⟨hS', by rw [z1 _ _ (by omega)]; exact c2, by rw [z1 _ _ (by omega)]; exact c3, by rw [z1 _ _ (by omega)]; exact c4⟩
  rw [show (-2 : Int32) = iI (-2) from by decide, iI_eq (by omega) (by omega) (by omega) (by omega)]
  refine ⟨fun _ => ?_, fun e => absurd e (by omega)⟩
  rw [show (10 : Int32) = iI 10 from rfl, iI_rem (by omega) (by omega) (by omega) (by omega), iI_div (by omega) (by omega) (by omega) (by omega), show (10 * (r : Int) + s) / 10 = (r : Int) from by omega, show (10 * (r : Int) + s) % 10 = s from by omega]
  refine s_X8_goes (a0 := 76) (by omega) (by omega) (Sv_Hb hS' hL.1) (Cu_Pb hL hp hC1 ha hc) (Sv_Rb hS' hr (hL.2.1 r hr)) (by omega) (by omega) hs.1 (by omega) (by rw [hC1.2.2.2]; exact hm.1) (by rw [hC1.2.2.2]; omega) ?_
  intro S4 e4
  rw [hC1.2.1, hC1.2.2.1, hC1.2.2.2, tme_Sv hS' hp hr, oth_Sv hS' hr] at e4
  have o4 : ∀ c k, ¬ (c = 76 ∧ (k = 4 * p ∨ k = 4 * p + 1 ∨ k = 4 * p + 3)) → S4 c k = S1 c k := fun c k h => by rw [e4, up_ne _ _ (by omega), up_ne _ _ (by omega), up_ne _ _ (by omega)]
  have hC4 : Cu v p S4 (oth v r a) (c - s) (m + tme v p r a m s) := by
    refine ⟨Sv_76 hL hS' (fun k h1 h2 => o4 _ _ (by omega)) (fun c k h => o4 _ _ (by omega)), ?_, ?_, ?_⟩
    · exact zz_iI (by rw [e4, up_at]) (by omega) (by omega)
    · exact zz_iI (by rw [e4, up_ne _ _ (by omega), up_at]) (by omega) (by omega)
    · exact zz_iI (by rw [e4, up_ne _ _ (by omega), up_ne _ _ (by omega), up_at]) (by omega) (by omega)
  refine s_isStep_38 hL hp hC4 (by omega) (by omega) (by omega) hg (LBd_go hr hb hs hLB) (fun hb T2 o2 => ?_) (fun hb T2 o2 o76 => ?_)
  · refine h1 hb T2 (fun c k a1 a2 a3 a4 => by rw [o2 c k a2 a3, o4 c k (by omega), o1 c k a4]) ?_
    have em := mz_fr o2
    exact ⟨by rw [em]; exact hC4.1, by rw [← hC4.2.1]; unfold zz; rw [o2 _ _ (by omega) (by omega)], by rw [← hC4.2.2.1]; unfold zz; rw [o2 _ _ (by omega) (by omega)], by rw [← hC4.2.2.2]; unfold zz; rw [o2 _ _ (by omega) (by omega)]⟩
  · have k76 : ∀ k, k < 28 → T2 76 k = T 76 k := fun k hk => by rw [o76 k hk, o4 _ _ (by omega), o85 k hk]
    refine h0 hb T2 (fun c k a1 a2 a3 a4 => by rw [o2 c k a1 a2 a3, o4 c k (by omega), o1 c k a4]) ⟨Sv_76 hL c1 (fun k h1 _ => k76 k h1) (fun c k h => by rw [o2 c k (by omega) (by omega) (by omega), o4 c k (by omega), o1 c k (by omega)]), ?_, ?_, ?_⟩
    · rw [← c2]; unfold zz; rw [k76 _ (by omega)]
    · rw [← c3]; unfold zz; rw [k76 _ (by omega)]
    · rw [← c4]; unfold zz; rw [k76 _ (by omega)]
theorem s_next_in {v : Vw} {p r : Nat} {g a c m : Int} {T0 : St} {k16 : Int32 → Int32 → Int32 → St → Prop} {post : Int32 → St → Prop} (hL : Lb v) (hp : (p : Int) < v 0 2) (hr : (r : Int) < v 0 1) (ha : 0 ≤ a ∧ a < v 0 0) (hc : 0 ≤ c ∧ c ≤ 5) (hm : 0 ≤ m ∧ m ≤ 800000) (hg : 0 ≤ g ∧ g ≤ 800000) (hLB : LBd v p (v 4 p) g a c m) (hk : ∀ T, (∀ c k, c ≠ 76 → c ≠ 81 → c ≠ 82 → c ≠ 85 → T c k = T0 c k) → Cu v p T a c m → (∀ s, ¬ YesR v p (v 4 p) g a c m r s) → k16 (iI p) (iI g) (iI r + 1) T) (hpo : ∀ T s, (∀ c k, c ≠ 76 → c ≠ 81 → c ≠ 82 → c ≠ 85 → T c k = T0 c k) → YesR v p (v 4 p) g a c m r s → (∀ s', s' < s → ¬ YesR v p (v 4 p) g a c m r s') → Cu v p T (oth v r a) (c - s) (m + tme v p r a m s) → post (iI (10 * (r : Int) + s)) T) : ∀ (d s : Nat) (T : St), (s : Int) + d = c + 1 → (∀ c k, c ≠ 76 → c ≠ 81 → c ≠ 82 → c ≠ 85 → T c k = T0 c k) → Cu v p T a c m → (∀ s' : Int, s' < s → ¬ YesR v p (v 4 p) g a c m r s') → L_X8_nextStep_39 k16 post (d + 1) (iI p) (iI g) (iI r) (iI c) (iI s) T := by
  obtain ⟨b0, b0', b1, b1', b2, b2', _⟩ := id hL.1
  have ob := oth_b a (hL.2.1 r hr) hL.1
  have x0 : ix ((4 : Int32) * iI p) = 4 * p := by
    simp (disch := omega) only [iI_add, iI_sub, iI_mul, iI_le, iI_lt, iI_eq, iI_ix, iI_in, iI_neg, iI_lit]; omega
  have i0 : vp_in ((4 : Int32) * iI p) 28 := by
    simp (disch := omega) only [iI_add, iI_sub, iI_mul, iI_le, iI_lt, iI_eq, iI_ix, iI_in, iI_neg, iI_lit]; omega
  intro d
  induction d with
  | zero =>
    intro s T hs oT hC hj
    show BD_X8_nextStep_39 k16 (L_X8_nextStep_39 k16 post 0) post _ _ _ _ _ _
    unfold BD_X8_nextStep_39
    rw [iI_lt (by omega) (by omega) (by omega) (by omega)]
    refine ⟨fun _ => hk T oT hC (fun s' q => hj s' ?_ q), fun e => absurd (by omega) e⟩
    have := q.2.2.1
    omega
  | succ d ih =>
    intro s T hs oT hC hj
    show BD_X8_nextStep_39 k16 (L_X8_nextStep_39 k16 post (d + 1)) post _ _ _ _ _ _
    unfold BD_X8_nextStep_39
    have es : iI (s : Int) + 1 = iI ((s + 1 : Nat) : Int) := by rw [show (1 : Int32) = iI 1 from rfl, iI_add]; rfl
    rw [iI_lt (by omega) (by omega) (by omega) (by omega), es, x0, zz_S T 76 (4 * p), hC.2.1]
    refine ⟨fun e => absurd e (by omega), fun _ => ⟨i0, ?_⟩⟩
    refine s_X8_otherEnd (a0 := 76) (by omega) (by omega) (by omega) ?_
    rw [oth_Sv hC.1 hr]
    have em1 : iI (oth v r a) = -1 ↔ oth v r a = -1 := by
      rw [show (-1 : Int32) = iI (-1) from by decide]
      exact iI_eq (by omega) (by omega) (by omega) (by omega)
    rw [em1]
    refine ⟨fun heq => hk T oT hC (fun s' q => q.1 heq), fun hne => ?_⟩
    rw [show (10 : Int32) = iI 10 from rfl, iI_mul, iI_add]
    refine s_isStep_g hL hp hr hne (by omega) hC ha hc hm hg hLB (fun hb T2 o2 hC2 => ⟨fun e => absurd e (by decide), fun _ => ?_⟩) (fun hb T2 o2 hC2 => ⟨fun _ => ?_, fun e => absurd rfl e⟩)
    · unfold B_X8_nextStep_79
      rw [show (10 : Int32) = iI 10 from rfl, iI_mul, iI_add]
      exact hpo T2 s (fun c k a1 a2 a3 a4 => by rw [o2 c k a1 a2 a3 a4, oT c k a1 a2 a3 a4]) ⟨hne, by omega, by omega, hb⟩ hj hC2
    · refine ih (s + 1) T2 (by omega) (fun c k a1 a2 a3 a4 => by rw [o2 c k a1 a2 a3 a4, oT c k a1 a2 a3 a4]) hC2 (fun s' hs' q => ?_)
      by_cases hss : s' = s
      · rw [hss] at q
        exact hb q.2.2.2
      · exact hj s' (by omega) q
theorem s_X8_nextStep {v : Vw} {p : Nat} {g a c m : Int} {T0 : St} {post : Int32 → St → Prop} (hL : Lb v) (hp : (p : Int) < v 0 2) (ha : 0 ≤ a ∧ a < v 0 0) (hc : 0 ≤ c ∧ c ≤ 5) (hm : 0 ≤ m ∧ m ≤ 800000) (hg : 0 ≤ g ∧ g ≤ 800000) (hLB : LBd v p (v 4 p) g a c m) (hC0 : Cu v p T0 a c m) (h : ∀ T z, (∀ c k, c ≠ 76 → c ≠ 81 → c ≠ 82 → c ≠ 85 → T c k = T0 c k) → FsR v p (v 4 p) g a c m z → (z = -1 ∨ (z = -2 ∧ Cu v p T a (cal v a c 1) (m + 1)) ∨ (0 ≤ z ∧ z / 10 < v 0 1 ∧ oth v (z / 10).toNat a ≠ -1 ∧ z % 10 ≤ c ∧ Cu v p T (oth v (z / 10).toNat a) (c - z % 10) (m + tme v p (z / 10).toNat a m (z % 10)))) → post (iI z) T) : wp_X8_nextStep (iI p) (iI g) T0 post := by
  obtain ⟨b0, b0', b1, b1', b2, b2', _⟩ := id hL.1
  have x1 : ix ((4 : Int32) * iI p + 1) = 4 * p + 1 := by
    simp (disch := omega) only [iI_add, iI_sub, iI_mul, iI_le, iI_lt, iI_eq, iI_ix, iI_in, iI_neg, iI_lit]; omega
  have i1 : vp_in ((4 : Int32) * iI p + 1) 28 := by
    simp (disch := omega) only [iI_add, iI_sub, iI_mul, iI_le, iI_lt, iI_eq, iI_ix, iI_in, iI_neg, iI_lit]; omega
  unfold wp_X8_nextStep
  refine s_isStep_w hL hp hC0 ha hc hm hg hLB (fun hb T2 o2 hC2 => ⟨fun e => absurd e (by decide), fun _ => ?_⟩) (fun hb T2 o2 hC2 => ⟨fun _ => ⟨(v 0 1).toNat + 1, ?_⟩, fun e => absurd rfl e⟩)
  · have := h T2 (-2) o2 (Or.inl ⟨rfl, hb⟩) (Or.inr (Or.inl ⟨rfl, hC2⟩))
    exact this
  · have key : ∀ (d r : Nat) (T : St), (r : Int) + d = v 0 1 → (∀ c k, c ≠ 76 → c ≠ 81 → c ≠ 82 → c ≠ 85 → T c k = T0 c k) → Cu v p T a c m → (∀ (r' : Nat) (s' : Int), r' < r → ¬ YesR v p (v 4 p) g a c m r' s') → L_X8_nextStep_16 post (d + 1) (iI p) (iI g) (iI r) T := by
      intro d
      induction d with
      | zero =>
        intro r T hr oT hC hj
        show BD_X8_nextStep_16 (L_X8_nextStep_16 post 0) post _ _ _ _
        unfold BD_X8_nextStep_16
        have e11 : T 71 11 = iI (v 0 1) := by rw [zz_S T 71 11]; congr 1; exact hC.1.1 1 (by omega)
        rw [e11, iI_le (by omega) (by omega) (by omega) (by omega)]
        refine ⟨fun _ => h T (-1) oT (Or.inr ⟨hb, Or.inl ⟨rfl, fun r' s' hr' => hj r' s' (by omega)⟩⟩) (Or.inl rfl), fun e => absurd (by omega) e⟩
      | succ d ih =>
        intro r T hr oT hC hj
        show BD_X8_nextStep_16 (L_X8_nextStep_16 post (d + 1)) post _ _ _ _
        unfold BD_X8_nextStep_16
        have e11 : T 71 11 = iI (v 0 1) := by rw [zz_S T 71 11]; congr 1; exact hC.1.1 1 (by omega)
        have er : iI (r : Int) + 1 = iI ((r + 1 : Nat) : Int) := by rw [show (1 : Int32) = iI 1 from rfl, iI_add]; rfl
        have hrv : (r : Int) < v 0 1 := by omega
        rw [e11, iI_le (by omega) (by omega) (by omega) (by omega), x1, zz_S T 76 (4 * p + 1), hC.2.2.1]
        refine ⟨fun e => absurd e (by omega), fun _ => ⟨i1, fun v2 e2 => ⟨(c + 1).toNat + 1, ?_⟩⟩⟩
        rw [e2, show (0 : Int32) = iI ((0 : Nat) : Int) from rfl]
        refine s_next_in (T0 := T0) hL hp hrv ha hc hm hg hLB (fun T' oT' hC' hno => ?_) (fun T' s oT' hy hno hC' => ?_) (c + 1).toNat 0 T (by omega) oT hC (fun s' hs' q => ?_)
        · rw [er]
          refine ih (r + 1) T' (by omega) oT' hC' (fun r' s' hr' => ?_)
          by_cases hrr : r' = r
          · rw [hrr]; exact hno s'
          · exact hj r' s' (by omega)
        · have hs5 : 0 ≤ s ∧ s ≤ c := ⟨hy.2.1, hy.2.2.1⟩
          refine h T' _ oT' (Or.inr ⟨hb, Or.inr ⟨r, s, hrv, rfl, hy, hj, hno⟩⟩) (Or.inr (Or.inr ⟨by omega, by omega, ?_, by omega, ?_⟩))
          · rw [show ((10 * (r : Int) + s) / 10).toNat = r from by omega]; exact hy.1
          · rw [show ((10 * (r : Int) + s) / 10).toNat = r from by omega, show (10 * (r : Int) + s) % 10 = s from by omega]; exact hC'
        · have := q.2.1
          omega
    rw [show (0 : Int32) = iI ((0 : Nat) : Int) from rfl]
    exact key (v 0 1).toNat 0 T2 (by omega) o2 hC2 (fun r' s' hr' => absurd hr' (by omega))
theorem s_X8_step_loop {v : Vw} {p : Nat} {g n : Int} {T0 : St} {post : Int32 → St → Prop} (hL : Lb v) (hp : (p : Int) < v 0 2) (hn : 0 ≤ n ∧ n ≤ 99) (hg : 0 ≤ g ∧ g ≤ 800000) : ∀ (d : Nat) (i : Int) (T : St) (z0 : Int32) (a c m : Int), i + d = n → 0 ≤ i → (∀ c k, c ≠ 76 → c ≠ 81 → c ≠ 82 → c ≠ 85 → T c k = T0 c k) → Cu v p T a c m → (0 ≤ a ∧ a < v 0 0) → (0 ≤ c ∧ c ≤ 5) → 0 ≤ m → Bk v p (v 4 p) g a c m → LBd v p (v 4 p) g a c m → (∀ T z, (∀ c k, c ≠ 76 → c ≠ 81 → c ≠ 82 → c ≠ 85 → T c k = T0 c k) → StR v p (v 4 p) g d a c m z → post (iI z) T) → L_X8_step_58 post (d + 2) (iI p) (iI n) (iI g) z0 (iI i) T := by
  obtain ⟨b0, b0', b1, b1', b2, b2', _⟩ := id hL.1
  have g4 := hL.2.2 p hp
  have he : 0 ≤ v 4 p ∧ v 4 p < v 0 0 := ⟨g4.1, g4.2.1⟩
  have x0 : ix ((4 : Int32) * iI p) = 4 * p := by
    simp (disch := omega) only [iI_add, iI_sub, iI_mul, iI_le, iI_lt, iI_eq, iI_ix, iI_in, iI_neg, iI_lit]; omega
  have i0 : vp_in ((4 : Int32) * iI p) 28 := by
    simp (disch := omega) only [iI_add, iI_sub, iI_mul, iI_le, iI_lt, iI_eq, iI_ix, iI_in, iI_neg, iI_lit]; omega
  -- one turn
  have turn : ∀ (d : Nat) (i : Int) (T : St) (z0 : Int32) (a c m : Int), i + d = n → 0 ≤ i → (∀ c k, c ≠ 76 → c ≠ 81 → c ≠ 82 → c ≠ 85 → T c k = T0 c k) → Cu v p T a c m → (0 ≤ a ∧ a < v 0 0) → (0 ≤ c ∧ c ≤ 5) → 0 ≤ m → Bk v p (v 4 p) g a c m → LBd v p (v 4 p) g a c m → (a = v 4 p → ∀ T2, (∀ c k, c ≠ 76 → c ≠ 81 → c ≠ 82 → c ≠ 85 → T2 c k = T0 c k) → post (-1) T2) → (∀ T2 z a' c' m', a ≠ v 4 p → (∀ c k, c ≠ 76 → c ≠ 81 → c ≠ 82 → c ≠ 85 → T2 c k = T0 c k) → FsR v p (v 4 p) g a c m z → (z = -2 ∧ a' = a ∧ c' = cal v a c 1 ∧ m' = m + 1) ∨ (0 ≤ z ∧ a' = oth v (z / 10).toNat a ∧ c' = c - z % 10 ∧ m' = m + tme v p (z / 10).toNat a m (z % 10)) → Cu v p T2 a' c' m' → (0 ≤ a' ∧ a' < v 0 0) → (0 ≤ c' ∧ c' ≤ 5) → 0 ≤ m' → Bk v p (v 4 p) g a' c' m' → LBd v p (v 4 p) g a' c' m' → L_X8_step_58 post (d + 1) (iI p) (iI n) (iI g) (iI z) (iI (i + 1)) T2) → L_X8_step_58 post (d + 2) (iI p) (iI n) (iI g) z0 (iI i) T := by
    intro d i T z0 a c m hi hi0 oT hC ha hc hm hB hLB hend hgo
    have hmg := Bk_le hL hp ha hc hB
    show BD_X8_step_58 (L_X8_step_58 post (d + 1)) post _ _ _ _ _ _
    unfold BD_X8_step_58
    have en : iI i + 1 = iI (i + 1) := by rw [show (1 : Int32) = iI 1 from rfl, iI_add]
    rw [iI_lt (by omega) (by omega) (by omega) (by omega), en, x0, zz_S T 76 (4 * p), hC.2.1]
    refine ⟨fun e => absurd e (by omega), fun _ => ⟨i0, s_X8_errand (by omega) ?_⟩⟩
    have w4 : zz T 74 (5 * p + 1) = v 4 p := (hC.1.2.2 p hp).1
    rw [zz_S T 74 (5 * p + 1), w4, iI_eq (by omega) (by omega) (by omega) (by omega)]
    refine ⟨fun hae => ?_, fun hae => hend hae T oT⟩
    refine s_X8_nextStep (T0 := T) hL hp ha hc (by omega) hg hLB hC ?_
    intro T2 z o2 hF hz
    have o2' : ∀ c k, c ≠ 76 → c ≠ 81 → c ≠ 82 → c ≠ 85 → T2 c k = T0 c k := fun c k a1 a2 a3 a4 => by rw [o2 c k a1 a2 a3 a4, oT c k a1 a2 a3 a4]
    rcases hz with q | ⟨q, hC2⟩ | ⟨z0', zr, zo, zs, hC2⟩
    · exact absurd (FsR_go hae hB (q ▸ hF)) id
    · have cb := cal_b (v := v) (a := a) (c := c) (n := 1) (by omega) hc.1 hc.2
      have hyes : Bk v p (v 4 p) g a (cal v a c 1) (m + 1) := by
        rcases hF with ⟨_, w⟩ | ⟨_, ⟨w, _⟩ | ⟨r', s', w1, w2, w3, _⟩⟩
        · exact w
        · omega
        · have := w3.2.1
          omega
      exact hgo T2 z _ _ _ hae o2' hF (Or.inl ⟨q, rfl, rfl, rfl⟩) hC2 ha cb (by omega) hyes (LBd_wait hL hc hLB)
    · obtain ⟨r, hr⟩ : ∃ r : Nat, z / 10 = (r : Int) := ⟨(z / 10).toNat, by omega⟩
      have hr2 : (z / 10).toNat = r := by omega
      have rv : (r : Int) < v 0 1 := by omega
      have ob := oth_b a (hL.2.1 r rv) hL.1
      have tb := tme_b (v := v) (p := p) (r := r) a m (s := z % 10) (hL.2.2 p hp) (hL.2.1 r rv) (by omega)
      have hyes : Bk v p (v 4 p) g (oth v r a) (c - z % 10) (m + tme v p r a m (z % 10)) := by
        rcases hF with ⟨w, _⟩ | ⟨_, ⟨w, _⟩ | ⟨r', s', w1, w2, w3, _⟩⟩
        · omega
        · omega
        · have hs5 : 0 ≤ s' ∧ s' ≤ 5 := ⟨w3.2.1, by have := w3.2.2.1; omega⟩
          have er : r' = r := by omega
          have es : s' = z % 10 := by omega
          rw [er, es] at w3
          exact w3.2.2.2
      rw [hr2] at zo hC2
      refine hgo T2 z _ _ _ hae o2' hF (Or.inr ⟨z0', rfl, rfl, rfl⟩) ?_ ?_ (by omega) ?_ ?_ ?_
      · rw [hr2]; exact hC2
      · rw [hr2]; omega
      · rw [hr2]; omega
      · rw [hr2]; exact hyes
      · rw [hr2]; exact LBd_go rv zo (by omega) hLB
  intro d
  induction d with
  | zero =>
    intro i T z0 a c m hi hi0 oT hC ha hc hm hB hLB h
    refine turn 0 i T z0 a c m hi hi0 oT hC ha hc hm hB hLB (fun hae T2 o2 => h T2 (-1) o2 (Or.inl ⟨hae, rfl⟩)) ?_
    intro T2 z a' c' m' hae o2 hF _ _ _ _ _ _ _
    show BD_X8_step_58 (L_X8_step_58 post 0) post _ _ _ _ _ _
    unfold BD_X8_step_58
    rw [iI_lt (by omega) (by omega) (by omega) (by omega)]
    exact ⟨fun _ => h T2 z o2 (Or.inr ⟨hae, hF⟩), fun e => absurd (by omega) e⟩
  | succ d ih =>
    intro i T z0 a c m hi hi0 oT hC ha hc hm hB hLB h
    refine turn (d + 1) i T z0 a c m hi hi0 oT hC ha hc hm hB hLB (fun hae T2 o2 => h T2 (-1) o2 (Or.inl ⟨hae, rfl⟩)) ?_
    intro T2 z a' c' m' hae o2 hF hz hC2 ha2 hc2 hm2 hB2 hLB2
    refine ih (i + 1) T2 (iI z) a' c' m' (by omega) (by omega) o2 hC2 ha2 hc2 hm2 hB2 hLB2 ?_
    intro T3 z3 o3 hz3
    refine h T3 z3 o3 (Or.inr ⟨hae, z, hF, ?_⟩)
    rcases hz with ⟨q1, q2, q3, q4⟩ | ⟨q1, q2, q3, q4⟩
    · exact Or.inl ⟨q1, by rw [q2, q3, q4] at hz3; exact hz3⟩
    · exact Or.inr ⟨q1, by rw [q2, q3, q4] at hz3; exact hz3⟩
theorem call_step (x1 x2 : Int32) : CallOk (wp_X7_step x1 x2) (wp_X8_step x1 x2) := by
  intro S hI G hG P hP
  obtain ⟨p, p1, p2, rfl⟩ := iI_ex x1
  obtain ⟨n, n1, n2, rfl⟩ := iI_ex x2
  have hH0 := hI.head
  obtain ⟨b0, b0', b1, b1', b2, b2', _⟩ := id hH0.1
  simp only [cv, Nat.add_zero] at b0 b0' b1 b1' b2 b2'
  obtain ⟨hL, _⟩ := id hI
  have hfin : ∀ (T : St), (∀ c k, ¬ (11 ≤ c ∧ c ≤ 21) → ¬ (50 ≤ c ∧ c ≤ 54) → ¬ (c = 71 ∧ k = 0) → c ≠ 76 → c ≠ 81 → c ≠ 82 → c ≠ 85 → T c k = S c k) → Inv T := fun T h => hI.sm (fun c k hc => h c k (by unfold ps at hc; omega) (by unfold ps at hc; omega) (by unfold ps at hc; omega) (by unfold ps at hc; omega) (by unfold ps at hc; omega) (by unfold ps at hc; omega) (by unfold ps at hc; omega))
  have M : ∀ (T : St) (w : Int32), (∀ c k, ¬ (11 ≤ c ∧ c ≤ 21) → ¬ (50 ≤ c ∧ c ≤ 54) → T c k = S c k) → (¬ (0 ≤ p ∧ p < zz S 0 2) → w = -1000000001) → (0 ≤ p ∧ p < zz S 0 2 → ¬ (0 ≤ n ∧ n ≤ 99) → w = -1000000002) → (0 ≤ p ∧ p < zz S 0 2 → 0 ≤ n ∧ n ≤ 99 → ∃ y, Soon (cv S 0) p.toNat (zz S 7 p.toNat) (zz S 8 p.toNat) (zz S 10 p.toNat) (zz S 4 p.toNat) y ∧ (y = 100000000 → w = -1) ∧ (y ≠ 100000000 → ∃ z, StR (cv S 0) p.toNat (zz S 4 p.toNat) y n.toNat (zz S 7 p.toNat) (zz S 8 p.toNat) (zz S 10 p.toNat) z ∧ w = iI z)) → wp_X8_step (iI p) (iI n) T (P w) := by
    intro T w hT1 q0 q2 q1
    unfold wp_X8_step
    intro S1 e1
    have o1 : ∀ c k, ¬ (11 ≤ c ∧ c ≤ 21) → ¬ (50 ≤ c ∧ c ≤ 54) → ¬ (c = 71 ∧ k = 0) → S1 c k = S c k := fun c k h1 h2 h3 => by rw [e1, up_ne _ _ h3, hT1 c k h1 h2]
    have z1' : ∀ c k, ¬ (11 ≤ c ∧ c ≤ 21) → ¬ (50 ≤ c ∧ c ≤ 54) → ¬ (c = 71 ∧ k = 0) → zz S1 c k = zz S c k := fun c k h1 h2 h3 => by unfold zz; rw [o1 c k h1 h2 h3]
    have hI1 : Inv S1 := hfin S1 (fun c k h1 h2 h3 _ _ _ _ => o1 c k h1 h2 h3)
    have c12 : zz S1 71 12 = zz S 0 2 := (z1' _ _ (by omega) (by omega) (by omega)).trans hH0.2.2.2.2.1
    refine s_X8_isPerson p1 p2 (by omega) (fun h1 h2 => ⟨fun _ => ?_, fun e => absurd e (by decide)⟩) (fun h => ⟨fun e => absurd rfl e, fun _ => CallOk.fin (S := S) hP hI1 (q0 (by omega))⟩)
    refine s_X8_in (a := 0) (b := 99) n1 n2 (by omega) (by omega) (by omega) (by omega) (fun h3 h4 => ⟨fun _ => ?_, fun e => absurd e (by decide)⟩) (fun h => ⟨fun e => absurd rfl e, fun _ => CallOk.fin (S := S) hP hI1 (q2 (by omega) (by omega))⟩)
    obtain ⟨p4, pb, pm, pt, f1, f2, f3, f4, f5, f6, f7⟩ := hI.pers (p := p.toNat) (by omega)
    obtain ⟨r4, r4', _, _, r6, r6', r7, r7', r8, r8', _⟩ := id pb
    have e4 : cv S 0 4 p.toNat = zz S 4 p.toNat := by unfold cv; rw [Nat.zero_add]
    simp only [cv, Nat.zero_add] at r4 r4' r7 r7' r8 r8'
    obtain ⟨y, hy, hya, hyb⟩ := q1 (by omega) ⟨h3, h4⟩
    refine s_X8_asNow ?_
    intro T2 hT2
    have o2 : ∀ c k, ¬ (11 ≤ c ∧ c ≤ 21) → ¬ (50 ≤ c ∧ c ≤ 54) → ¬ (c = 71 ∧ k = 0) → c ≠ 76 → T2 c k = S c k := fun c k h1 h2 h3 h4 => by rw [hT2, if_neg (by omega), o1 c k h1 h2 h3]
    have o76 : ∀ k, k < 28 → T2 76 k = S 75 k := fun k hk => by rw [hT2, if_pos ⟨rfl, hk⟩, o1 _ _ (by omega) (by omega) (by omega)]
    have A2 : Ag (cv S 0) (mz T2 76) := now_view hI o76 (fun c k h => o2 c k (by omega) (by omega) (by omega) (by omega))
    have hpp : iI p = iI (p.toNat : Int) := by congr 1; omega
    have hp2 : ((p.toNat : Nat) : Int) < cv S 0 0 2 := by show _ < zz S 0 2; omega
    have w4 : zz T2 74 (5 * p.toNat + 1) = zz S 4 p.toNat := ((A2.2.2 p.toNat hp2).1).trans e4
    have w0 : zz T2 76 (4 * p.toNat) = zz S 7 p.toNat := by unfold zz; rw [o76 _ (by omega), f4]
    have w1 : zz T2 76 (4 * p.toNat + 1) = zz S 8 p.toNat := by unfold zz; rw [o76 _ (by omega), f5]
    have w3 : zz T2 76 (4 * p.toNat + 3) = zz S 10 p.toNat := by unfold zz; rw [o76 _ (by omega), f7]
    rw [hpp]
    refine s_X8_errand (by omega) ?_
    rw [zz_S T2 74 (5 * p.toNat + 1), w4]
    refine s_X8_soonNow hI (by omega) A2 (by omega) ?_
    intro T3 x o3 xa xb hx
    have exx : y = x := Soon_uniq hy hx
    subst exx
    have o3' : ∀ c k, ¬ (11 ≤ c ∧ c ≤ 21) → ¬ (50 ≤ c ∧ c ≤ 54) → ¬ (c = 71 ∧ k = 0) → c ≠ 76 → c ≠ 81 → c ≠ 82 → T3 c k = S c k := fun c k a1 a2 a3 a4 a5 a6 => by rw [o3 c k a5 a6, o2 c k a1 a2 a3 a4]
    rw [show (100000000 : Int32) = iI 100000000 from rfl, iI_eq (by omega) (by omega) (by omega) (by omega)]
    refine ⟨fun hyn => ?_, fun hye => CallOk.fin (S := S) hP (hfin T3 (fun c k a1 a2 a3 a4 a5 a6 _ => o3' c k a1 a2 a3 a4 a5 a6)) (hya hye)⟩
    obtain ⟨z, hz, hw⟩ := hyb hyn
    have em := mz_fr o3
    have hC3 : Cu (cv S 0) p.toNat T3 (zz S 7 p.toNat) (zz S 8 p.toNat) (zz S 10 p.toNat) := ⟨by rw [em]; exact A2.sv, by rw [← w0]; unfold zz; rw [o3 _ _ (by omega) (by omega)], by rw [← w1]; unfold zz; rw [o3 _ _ (by omega) (by omega)], by rw [← w3]; unfold zz; rw [o3 _ _ (by omega) (by omega)]⟩
    have hyy : y ≤ zz S 10 p.toNat + 8640 ∧ (∃ n c, Rc (cv S 0) p.toNat ly0 0 (zz S 7 p.toNat) (zz S 8 p.toNat) (zz S 10 p.toNat) n 0 (zz S 4 p.toNat) c y) ∧ ∀ n c t, Rc (cv S 0) p.toNat ly0 0 (zz S 7 p.toNat) (zz S 8 p.toNat) (zz S 10 p.toNat) n 0 (zz S 4 p.toNat) c t → y ≤ t := by
      rcases hy with ⟨_, q1, q2, q3⟩ | ⟨q, _⟩
      · exact ⟨q1.2, q2, q3⟩
      · exact absurd q hyn
    obtain ⟨yy1, ⟨n', c', yy2⟩, yy3⟩ := hyy
    obtain ⟨nn, hnn⟩ : ∃ nn : Nat, n = (nn : Int) := ⟨n.toNat, by omega⟩
    subst hnn
    rw [Int.toNat_natCast] at hz
    refine ⟨nn + 2, ?_⟩
    rw [show (0 : Int32) = iI 0 from rfl]
    refine s_X8_step_loop (T0 := T3) hL.1 hp2 ⟨h3, h4⟩ (by omega) nn 0 T3 (-1) (zz S 7 p.toNat) (zz S 8 p.toNat) (zz S 10 p.toNat) (by omega) (by omega) (fun _ _ _ _ _ _ => rfl) hC3 ⟨r7, r7'⟩ ⟨r8, r8'⟩ (by omega) ?_ ?_ ?_
    · rw [e4]; exact ⟨n', c', y, yy2, by omega⟩
    · rw [e4]; exact yy3
    · intro T4 z4 o4 hz4
      rw [e4] at hz4
      have hI4 : Inv T4 := hfin T4 (fun c k a1 a2 a3 a4 a5 a6 a7 => by rw [o4 c k a4 a5 a6 a7, o3' c k a1 a2 a3 a4 a5 a6])
      exact CallOk.fin (S := S) hP hI4 (by rw [hw, StR_uniq _ _ _ _ _ _ hz hz4])
  unfold wp_X7_step
  refine s_X6_hasPerson (o := 0) p1 p2 (fun h1 h2 => ⟨fun _ => ?_, fun e => absurd e (by decide)⟩) (fun h => ⟨fun e => absurd rfl e, fun _ => hG _ (M S _ (fun _ _ _ _ => rfl) (fun _ => rfl) (fun e => absurd e h) (fun e => absurd e h))⟩)
  refine s_X7_outside (a := 0) (b := 99) n1 n2 (by omega) (by omega) (by omega) (by omega) (fun h3 h4 => ⟨fun _ => ?_, fun e => absurd rfl e⟩) (fun h => ⟨fun e => absurd e (by decide), fun _ => hG _ (M S _ (fun _ _ _ _ => rfl) (fun e => absurd ⟨h1, h2⟩ e) (fun _ _ => rfl) (fun _ e => absurd e h))⟩)
  obtain ⟨p4, pb, pm, pt, _⟩ := hI.pers (p := p.toNat) (by omega)
  obtain ⟨r4, r4', _, _, r6, r6', r7, r7', r8, r8', _⟩ := id pb
  have hp2 : ((p.toNat : Nat) : Int) < cv S 0 0 2 := by show _ < zz S 0 2; omega
  have e4 : cv S 0 4 p.toNat = zz S 4 p.toNat := by unfold cv; rw [Nat.zero_add]
  simp only [cv, Nat.zero_add] at r4 r4' r7 r7' r8 r8'
  have hpp : iI p = iI (p.toNat : Int) := by congr 1; omega
  refine s_X6_become (o := 11) (o2 := 0) (fun f g hf hg => by omega) ?_
  intro T hT1 hT2
  have hA : Ag (cv S 0) (cv T 11) := cv_Ag hL.1 (fun f k h1 h2 h3 h4 => hT1 f k h1 h2 h3 h4)
  have u7 : zz T 18 p.toNat = zz S 7 p.toNat := by unfold zz; rw [show T 18 p.toNat = S 7 p.toNat from hT1 7 p.toNat (by omega) (by omega) (by omega) (by omega)]
  have u8 : zz T 19 p.toNat = zz S 8 p.toNat := by unfold zz; rw [show T 19 p.toNat = S 8 p.toNat from hT1 8 p.toNat (by omega) (by omega) (by omega) (by omega)]
  have u10 : zz T 21 p.toNat = zz S 10 p.toNat := by unfold zz; rw [show T 21 p.toNat = S 10 p.toNat from hT1 10 p.toNat (by omega) (by omega) (by omega) (by omega)]
  have hPT : Pb (cv T 11) p.toNat := (Ag_Lb hA hL.1).2.2 _ (by rw [hA.1 2 (by omega)]; exact hp2)
  unfold wp_X4_stepAt
  rw [hpp]
  refine s_X4_soonestAtErrand (v := cv S 0) (a0 := zz S 7 p.toNat) (c0 := zz S 8 p.toNat) (t0 := zz S 10 p.toNat) hL.1 hp2 hA.sv hPT u7 u8 u10 ⟨r7, r7'⟩ ⟨r8, r8'⟩ (by omega) ?_
  intro T2 y o2 ya yb hy
  rw [e4] at hy
  have oT2 : ∀ c k, ¬ (11 ≤ c ∧ c ≤ 21) → ¬ (50 ≤ c ∧ c ≤ 54) → T2 c k = S c k := fun c k a1 a2 => by rw [o2 c k (by omega) (by omega) (by omega), hT2 c k (by omega)]
  have em1 : iI (if y = 100000000 then -1 else y) = -1 ↔ y = 100000000 := by
    rw [show (-1 : Int32) = iI (-1) from by decide]
    split
    · next e => exact ⟨fun _ => e, fun _ => rfl⟩
    · next e => rw [iI_eq (by omega) (by omega) (by omega) (by omega)]; omega
  rw [em1]
  refine ⟨fun hyn => ?_, fun hye => by rw [← hpp]; exact hG _ (M T2 _ oT2 (fun e => absurd ⟨h1, h2⟩ e) (fun _ e => absurd ⟨h3, h4⟩ e) (fun _ _ => ⟨y, hy, fun _ => rfl, fun e => absurd hye e⟩))⟩
  rw [if_neg hyn]
  have hyy : y ≤ zz S 10 p.toNat + 8640 ∧ ∃ n c, Rc (cv S 0) p.toNat ly0 0 (zz S 7 p.toNat) (zz S 8 p.toNat) (zz S 10 p.toNat) n 0 (zz S 4 p.toNat) c y := by
    rcases hy with ⟨_, q1, q2, q3⟩ | ⟨q, _⟩
    · exact ⟨q1.2, q2⟩
    · exact absurd q hyn
  obtain ⟨yy1, n', c', yy2⟩ := hyy
  have A2 : Ag (cv S 0) (cv T2 11) := cv_fr51 hA o2
  have hP2 : Pb (cv T2 11) p.toNat := (Ag_Lb A2 hL.1).2.2 _ (by rw [A2.1 2 (by omega)]; exact hp2)
  refine s_X4_lookBack (v := cv S 0) ⟨hL.1, hp2, A2.sv, hP2⟩ (by omega) ?_
  intro T4 o4 hLk
  obtain ⟨nn, hnn⟩ : ∃ nn : Nat, n = (nn : Int) := ⟨n.toNat, by omega⟩
  subst hnn
  have hd4 : Bq (cv S 0) p.toNat T4 := Bq_fr o4 ⟨hL.1, hp2, A2.sv, hP2⟩
  refine ⟨nn + 1, ?_⟩
  rw [show (0 : Int32) = iI 0 from rfl]
  refine s_X4_step_loop ⟨h3, h4⟩ (by omega) nn 0 T4 (zz S 7 p.toNat) (zz S 8 p.toNat) (zz S 10 p.toNat) (by omega) (by omega) hd4 hLk ?_ ?_ ?_ ⟨r7, r7'⟩ ⟨r8, r8'⟩ (by omega) ?_ ?_
  · rw [← u7]; unfold zz; rw [o4 _ _ (by omega) (by omega), o2 _ _ (by omega) (by omega) (by omega)]
  · rw [← u8]; unfold zz; rw [o4 _ _ (by omega) (by omega), o2 _ _ (by omega) (by omega) (by omega)]
  · rw [← u10]; unfold zz; rw [o4 _ _ (by omega) (by omega), o2 _ _ (by omega) (by omega) (by omega)]
  · rw [e4]; exact ⟨n', c', y, yy2, by omega⟩
  · intro T5 z o5 hz
    rw [e4] at hz
    rw [← hpp]
    refine hG _ (M T5 _ (fun c k a1 a2 => by rw [o5 c k (by omega), o4 c k (by omega) (by omega), oT2 c k a1 a2]) (fun e => absurd ⟨h1, h2⟩ e) (fun _ e => absurd ⟨h3, h4⟩ e) (fun _ _ => ⟨y, hy, fun e => absurd e hyn, fun _ => ⟨z, ?_, rfl⟩⟩))
    rw [Int.toNat_natCast]
    exact hz
