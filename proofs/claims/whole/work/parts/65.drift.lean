/-! drift: the call -/
def Wns : Nat → Vw → Vw → Prop
  | 0, v, w => w = v
  | d + 1, v, w => ∃ u, Wn v u ∧ Wns d u w
def gmF (v : Vw) : Nat → Nat → Int → Int
  | 0, _, x => x
  | d + 1, i, x => gmF v d (i + 1) (if x < v 10 i then v 10 i else x)
theorem gm_up {v w : Vw} : ∀ d i x, (∀ j, i ≤ j → j < i + d → w 10 j = v 10 j) → gmF w d i x = gmF v d i x := by
  intro d
  induction d with
  | zero => intro i x _; rfl
  | succ d ih => intro i x h; unfold gmF; rw [h i (by omega) (by omega), ih (i + 1) _ (fun j h1 h2 => h j (by omega) (by omega))]
theorem Wns_ok : ∀ (d : Nat) {v w : Vw}, Lb v → Mb v → 1 ≤ v 0 2 → Wns d v w → Lb w ∧ Mb w ∧ w 0 0 = v 0 0 ∧ w 0 1 = v 0 1 ∧ w 0 2 = v 0 2 := by
  intro d
  induction d with
  | zero => intro v w hL hM _ h; have h : w = v := h; subst h; exact ⟨hL, hM, rfl, rfl, rfl⟩
  | succ d ih =>
    intro v w hL hM h2 h
    obtain ⟨u, hu, hw⟩ := h
    obtain ⟨g1, g2, g3, g4, g5⟩ := Wn_ok hL hM h2 hu
    obtain ⟨k1, k2, k3, k4, k5⟩ := ih g1 g2 (by rw [g5]; exact h2) hw
    exact ⟨k1, k2, k3.trans g3, k4.trans g4, k5.trans g5⟩
theorem s_X7_drift_loop {n : Nat} {post : Int32 → St → Prop} (hn : n ≤ 99) : ∀ (d i : Nat) (S : St), i + d = n → Lb (cv S 0) → Mb (cv S 0) → 1 ≤ zz S 0 2 → (∀ S', Wns d (cv S 0) (cv S' 0) → (∀ c k, 10 < c → S' c k = S c k) → B_X7_drift_46 post S') → L_X7_drift_28 post (d + 1) (iI n) (iI i) S := by
  intro d
  induction d with
  | zero =>
    intro i S hi hL hM h2 h
    show BD_X7_drift_28 (L_X7_drift_28 post 0) post _ _ _
    unfold BD_X7_drift_28
    rw [iI_le (by omega) (by omega) (by omega) (by omega)]
    exact ⟨fun _ => h S rfl (fun _ _ _ => rfl), fun e => absurd (by omega) e⟩
  | succ d ih =>
    intro i S hi hL hM h2 h
    show BD_X7_drift_28 (L_X7_drift_28 post (d + 1)) post _ _ _
    unfold BD_X7_drift_28
    have ei : iI (i : Int) + 1 = iI ((i + 1 : Nat) : Int) := by rw [show (1 : Int32) = iI 1 from rfl, iI_add]; rfl
    rw [iI_le (by omega) (by omega) (by omega) (by omega), ei]
    refine ⟨fun e => absurd e (by omega), fun _ => ?_⟩
    refine s_X6_wander hL hM h2 ?_
    intro S1 hW o1
    obtain ⟨g1, g2, g3, g4, g5⟩ := Wn_ok hL hM h2 hW
    refine ih (i + 1) S1 (by omega) g1 g2 (by have : zz S1 0 2 = zz S 0 2 := g5; omega) ?_
    intro S2 hW2 o2
    exact h S2 ⟨_, hW, hW2⟩ (fun c k hc => by rw [o2 c k hc, o1 c k hc])
theorem s_X8_drift_loop {n : Nat} {w : Vw} {post : Int32 → St → Prop} (hn : n ≤ 99) : ∀ (d i : Nat) (v : Vw) (S : St), i + d = n → Lb v → Mb v → 1 ≤ v 0 2 → Ag v (mz S 75) → Wns d v w → (∀ S', Ag w (mz S' 75) → (∀ c k, c ≠ 75 → S' c k = S c k) → B_X8_drift_151 post S') → L_X8_drift_30 post (d + 1) (iI n) (iI i) S := by
  intro d
  induction d with
  | zero =>
    intro i v S hi hL hM h2 hA hW h
    have hW : w = v := hW
    subst hW
    show BD_X8_drift_30 (L_X8_drift_30 post 0) post _ _ _
    rw [W8_BD, iI_le (by omega) (by omega) (by omega) (by omega)]
    exact ⟨fun _ => h S hA (fun _ _ _ => rfl), fun e => absurd (by omega) e⟩
  | succ d ih =>
    intro i v S hi hL hM h2 hA hW h
    obtain ⟨u, hu, hw⟩ := hW
    show BD_X8_drift_30 (L_X8_drift_30 post (d + 1)) post _ _ _
    have ei : iI (i : Int) + 1 = iI ((i + 1 : Nat) : Int) := by rw [show (1 : Int32) = iI 1 from rfl, iI_add]; rfl
    rw [W8_BD, iI_le (by omega) (by omega) (by omega) (by omega), ei]
    refine ⟨fun e => absurd e (by omega), fun _ => ?_⟩
    refine s_W8 hL hM h2 hA hu ?_
    intro S1 A1 o1
    obtain ⟨g1, g2, g3, g4, g5⟩ := Wn_ok hL hM h2 hu
    refine ih (i + 1) u S1 (by omega) g1 g2 (by rw [g5]; exact h2) A1 hw ?_
    intro S2 A2 o2
    exact h S2 A2 (fun c k hc => by rw [o2 c k hc, o1 c k hc])
theorem s_X6_greatestMinute {o : Nat} {S : St} {post : Int32 → St → Prop} (hH : Hb (cv S o)) (hM : Mb (cv S o)) (h : post (iI (gmF (cv S o) (cv S o 0 2).toNat 0 0)) S) : wp_X6_greatestMinute o S post := by
  obtain ⟨_, _, _, _, b2, b2', _⟩ := id hH
  obtain ⟨n, hn⟩ : ∃ n : Nat, cv S o 0 2 = (n : Int) := ⟨(cv S o 0 2).toNat, by omega⟩
  have e2 : S o 2 = iI (n : Int) := by rw [← hn]; exact zz_S S o 2
  have hn2 : (cv S o 0 2).toNat = n := by omega
  rw [hn2] at h
  have key : ∀ (d i : Nat) (x : Int), i + d = n → 0 ≤ x → x ≤ 100000 → post (iI (gmF (cv S o) d i x)) S → L_X6_greatestMinute_4 post o (d + 1) (iI x) (iI i) S := by
    intro d
    induction d with
    | zero =>
      intro i x hi h1 h2 hp
      show BD_X6_greatestMinute_4 (L_X6_greatestMinute_4 post o 0) post _ _ _ _
      unfold BD_X6_greatestMinute_4
      rw [e2, iI_le (by omega) (by omega) (by omega) (by omega)]
      exact ⟨fun _ => hp, fun e => absurd (by omega) e⟩
    | succ d ih =>
      intro i x hi h1 h2 hp
      show BD_X6_greatestMinute_4 (L_X6_greatestMinute_4 post o (d + 1)) post _ _ _ _
      unfold BD_X6_greatestMinute_4
      have ei : iI (i : Int) + 1 = iI ((i + 1 : Nat) : Int) := by rw [show (1 : Int32) = iI 1 from rfl, iI_add]; rfl
      have xi : ix (iI (i : Int)) = i := by rw [iI_ix (by omega) (by omega)]; simp
      have ii : vp_in (iI (i : Int)) 4 := (iI_in (by omega) (by omega)).mpr ⟨by omega, by omega⟩
      have mi := hM i (by omega)
      have e10 : S (o + 10) i = iI (cv S o 10 i) := zz_S S (o + 10) i
      rw [e2, iI_le (by omega) (by omega) (by omega) (by omega), ei, xi, e10]
      refine ⟨fun e => absurd e (by omega), fun _ => ⟨ii, fun v2 ev => ?_⟩⟩
      unfold gmF at hp
      rw [ev]
      by_cases hx : x < cv S o 10 i
      · rw [if_pos hx] at hp
        rw [if_pos ((iI_lt (by omega) (by omega) (by omega) (by omega)).mpr hx)]
        exact ih (i + 1) _ (by omega) (by omega) (by omega) hp
      · rw [if_neg hx] at hp
        rw [if_neg (fun q => hx ((iI_lt (by omega) (by omega) (by omega) (by omega)).mp q))]
        exact ih (i + 1) _ (by omega) (by omega) (by omega) hp
  exact ⟨n + 1, key n 0 0 (by omega) (by omega) (by omega) h⟩
theorem s_X8_greatest {w : Vw} {S : St} {post : Int32 → St → Prop} (hH : Hb w) (hM : Mb w) (hA : Ag w (mz S 75)) (h : post (iI (gmF w (w 0 2).toNat 0 0)) S) : B_X8_drift_151 post S := by
  obtain ⟨_, _, _, _, b2, b2', _⟩ := id hH
  obtain ⟨n, hn⟩ : ∃ n : Nat, w 0 2 = (n : Int) := ⟨(w 0 2).toNat, by omega⟩
  have e2 : S 71 12 = iI (n : Int) := by
    have : zz S 71 12 = w 0 2 := hA.1 2 (by omega)
    rw [← hn, ← this]; exact zz_S S 71 12
  have hn2 : (w 0 2).toNat = n := by omega
  rw [hn2] at h
  have key : ∀ (d i : Nat) (x : Int), i + d = n → 0 ≤ x → x ≤ 100000 → post (iI (gmF w d i x)) S → L_X8_drift_155 post (d + 1) (iI x) (iI i) S := by
    intro d
    induction d with
    | zero =>
      intro i x hi h1 h2 hp
      show BD_X8_drift_155 (L_X8_drift_155 post 0) post _ _ _
      unfold BD_X8_drift_155
      rw [e2, iI_le (by omega) (by omega) (by omega) (by omega)]
      exact ⟨fun _ => hp, fun e => absurd (by omega) e⟩
    | succ d ih =>
      intro i x hi h1 h2 hp
      show BD_X8_drift_155 (L_X8_drift_155 post (d + 1)) post _ _ _
      unfold BD_X8_drift_155
      have ei : iI (i : Int) + 1 = iI ((i + 1 : Nat) : Int) := by rw [show (1 : Int32) = iI 1 from rfl, iI_add]; rfl
      have x3 : ix ((4 : Int32) * iI i + 3) = 4 * i + 3 := by
        simp (disch := omega) only [iI_add, iI_sub, iI_mul, iI_le, iI_lt, iI_eq, iI_ix, iI_in, iI_neg, iI_lit]; omega
      have i3 : vp_in ((4 : Int32) * iI i + 3) 28 := by
        simp (disch := omega) only [iI_add, iI_sub, iI_mul, iI_le, iI_lt, iI_eq, iI_ix, iI_in, iI_neg, iI_lit]; omega
      have mi := hM i (by omega)
      have e10 : S 75 (4 * i + 3) = iI (w 10 i) := by
        have : zz S 75 (4 * i + 3) = w 10 i := (hA.2.2 i (by omega)).2.2.2.2.2.2
        rw [← this]; exact zz_S S 75 _
      rw [e2, iI_le (by omega) (by omega) (by omega) (by omega), ei, x3, e10, iI_le (by omega) (by omega) (by omega) (by omega)]
      unfold gmF at hp
      refine ⟨fun e => absurd e (by omega), fun _ => ⟨i3, fun hx => ?_, fun hx => ⟨i3, fun v3 ev => ?_⟩⟩⟩
      · rw [if_neg (by omega)] at hp
        exact ih (i + 1) _ (by omega) (by omega) (by omega) hp
      · rw [if_pos (by omega)] at hp
        rw [ev]
        exact ih (i + 1) _ (by omega) (by omega) (by omega) hp
  exact ⟨n + 1, key n 0 0 (by omega) (by omega) (by omega) h⟩
theorem call_drift (x1 : Int32) : CallOk (wp_X7_drift x1) (wp_X8_drift x1) := by
  intro S hI G hG P hP
  obtain ⟨z, z1, z2, rfl⟩ := iI_ex x1
  have hH0 := hI.head
  obtain ⟨b0, b0', b1, b1', b2, b2', _⟩ := id hH0.1
  simp only [cv, Nat.add_zero] at b0 b0' b1 b1' b2 b2'
  obtain ⟨⟨hL, hM, hA⟩, _⟩ := id hI
  have e2 : S 0 2 = iI (zz S 0 2) := zz_S S 0 2
  have c12 : S 71 12 = S 0 2 := zz_inj hH0.2.2.2.2.1
  have M : ∀ (T : St) (q : Int32), (∀ c k, 10 < c → T c k = S c k) → (¬ (1 ≤ z ∧ z ≤ 99) → T = S ∧ q = -1000000002) → (1 ≤ z ∧ z ≤ 99 → zz S 0 2 = 0 → T = S ∧ q = -1000000003) → (1 ≤ z ∧ z ≤ 99 → zz S 0 2 ≠ 0 → Wns z.toNat (cv S 0) (cv T 0) ∧ q = iI (gmF (cv T 0) (cv T 0 0 2).toNat 0 0)) → wp_X8_drift (iI z) T (P q) := by
    intro T q hT q0 q1 q2
    unfold wp_X8_drift
    intro S1 e1
    have o1 : ∀ c k, 10 < c → ¬ (c = 71 ∧ k = 0) → S1 c k = S c k := fun c k h1 h2 => by rw [e1, up_ne _ _ h2, hT c k h1]
    have hs : T = S → Sm S S1 := fun h => by rw [e1, h]; exact sm_thr S
    have fin : ∀ c2 : Int32, T = S ∧ q = c2 → P q c2 S1 := fun c2 h => CallOk.fin (S := S) hP (hI.sm (hs h.1)) h.2
    refine s_X8_in (a := 1) (b := 99) z1 z2 (by omega) (by omega) (by omega) (by omega) (fun h9 h10 => ⟨fun _ => ?_, fun e => absurd e (by decide)⟩) (fun h => ⟨fun e => absurd rfl e, fun _ => fin _ (q0 (by omega))⟩)
    rw [o1 _ _ (by omega) (by omega), c12, e2, show (0 : Int32) = iI 0 from rfl, iI_eq (by omega) (by omega) (by omega) (by omega)]
    refine ⟨fun hne => ?_, fun he => fin _ (q1 (by omega) he)⟩
    obtain ⟨hW, hq⟩ := q2 (by omega) hne
    have hA1 : Ag (cv S 0) (mz S1 75) := by
      have hL75 : Lb (mz S 75) := Ag_Lb hA hL
      refine hA.trans ?_
      have z1' : ∀ c k, 10 < c → ¬ (c = 71 ∧ k = 0) → zz S1 c k = zz S c k := fun c k h1 h2 => by unfold zz; rw [o1 c k h1 h2]
      rw [mz_mg] at hL75 ⊢
      rw [mz_mg]
      exact mg_Ag hL75 (z1' _ _ (by omega) (by omega)) (z1' _ _ (by omega) (by omega)) (z1' _ _ (by omega) (by omega)) (fun j _ => z1' _ _ (by omega) (by omega)) (fun j _ => z1' _ _ (by omega) (by omega)) (fun j _ => z1' _ _ (by omega) (by omega))
    have h1 : 1 ≤ cv S 0 0 2 := by show 1 ≤ zz S 0 2; omega
    obtain ⟨w1, w2, w3, w4, w5⟩ := Wns_ok _ hL hM h1 hW
    have hz : iI z = iI (z.toNat : Int) := by congr 1; omega
    rw [hz]
    refine ⟨z.toNat + 1, s_X8_drift_loop (n := z.toNat) (w := cv T 0) (by omega) z.toNat 0 (cv S 0) S1 (by omega) hL hM h1 hA1 hW ?_⟩
    intro S2 A2 o2
    refine s_X8_greatest w1.1 w2 A2 (CallOk.fin (S := S) hP ?_ hq)
    have t0 : ∀ c k, c ≤ 10 → S2 c k = T c k := fun c k hc => by rw [o2 c k (by omega), e1, up_ne _ _ (by omega)]
    have ev : cv S2 0 = cv T 0 ∨ True := Or.inr trivial
    have A0 : Ag (cv T 0) (cv S2 0) := cv_Ag w1 (fun f k h1 _ _ _ => t0 _ _ (by omega))
    refine Inv_of hI ⟨Ag_Lb A0 w1, Ag_Mb A0 w2, A0.symm.trans A2⟩ ⟨?_, ?_, ?_⟩ (fun c k hp h1 h2 => ?_)
    · exact (A0.1 0 (by omega)).trans w3
    · exact (A0.1 1 (by omega)).trans w4
    · exact (A0.1 2 (by omega)).trans w5
    · rw [o2 c k h2, o1 c k (by omega) (by unfold ps at hp; omega)]
  unfold wp_X7_drift
  refine s_X7_outside (a := 1) (b := 99) z1 z2 (by omega) (by omega) (by omega) (by omega) (fun h9 h10 => ⟨fun _ => ?_, fun e => absurd rfl e⟩) (fun h => ⟨fun e => absurd e (by decide), fun _ => hG _ (M S _ (fun _ _ _ => rfl) (fun _ => ⟨rfl, rfl⟩) (fun e => absurd e h) (fun e => absurd e h))⟩)
  rw [e2, show (0 : Int32) = iI 0 from rfl, iI_eq (by omega) (by omega) (by omega) (by omega)]
  refine ⟨fun hne => ?_, fun he => hG _ (M S _ (fun _ _ _ => rfl) (fun e => absurd ⟨h9, h10⟩ e) (fun _ _ => ⟨rfl, rfl⟩) (fun _ e => absurd he e))⟩
  have hz : iI z = iI (z.toNat : Int) := by congr 1; omega
  have h1 : 1 ≤ cv S 0 0 2 := by show 1 ≤ zz S 0 2; omega
  refine ⟨z.toNat + 1, ?_⟩
  have := s_X7_drift_loop (n := z.toNat) (post := fun r S1 => G (wp_X8_drift (iI z) S1 (P r))) (by omega) z.toNat 0 S (by omega) hL hM h1
  rw [← hz] at this
  refine this ?_
  intro T hW oT
  obtain ⟨w1, w2, w3, w4, w5⟩ := Wns_ok _ hL hM h1 hW
  refine s_X6_greatestMinute (o := 0) w1.1 w2 ?_
  exact hG _ (M T _ oT (fun e => absurd ⟨h9, h10⟩ e) (fun _ e => absurd e hne) (fun _ _ => ⟨hW, rfl⟩))
