/-! the steps of the soonest way -/
def YesR (v : Vw) (p : Nat) (e g a c m : Int) (r : Nat) (s : Int) : Prop := oth v r a ≠ -1 ∧ 0 ≤ s ∧ s ≤ c ∧ Bk v p e g (oth v r a) (c - s) (m + tme v p r a m s)
/-- the first step, or -1 -/
def FsR (v : Vw) (p : Nat) (e g a c m z : Int) : Prop := (z = -2 ∧ Bk v p e g a (cal v a c 1) (m + 1)) ∨ (¬ Bk v p e g a (cal v a c 1) (m + 1) ∧ ((z = -1 ∧ ∀ (r : Nat) (s : Int), (r : Int) < v 0 1 → ¬ YesR v p e g a c m r s) ∨ ∃ (r : Nat) (s : Int), (r : Int) < v 0 1 ∧ z = 10 * (r : Int) + s ∧ YesR v p e g a c m r s ∧ (∀ (r' : Nat) (s' : Int), r' < r → ¬ YesR v p e g a c m r' s') ∧ ∀ s', s' < s → ¬ YesR v p e g a c m r s'))
theorem FsR_uniq {v : Vw} {p : Nat} {e g a c m z z' : Int} (h : FsR v p e g a c m z) (h' : FsR v p e g a c m z') : z = z' := by
  rcases h with ⟨e1, h1⟩ | ⟨h1, h2⟩ <;> rcases h' with ⟨e1', h1'⟩ | ⟨h1', h2'⟩
  · omega
  · exact absurd h1 h1'
  · exact absurd h1' h1
  · rcases h2 with ⟨e2, h3⟩ | ⟨r, s, q1, q2, q3, q4, q5⟩ <;> rcases h2' with ⟨e2', h3'⟩ | ⟨r', s', q1', q2', q3', q4', q5'⟩
    · omega
    · exact absurd q3' (h3 r' s' q1')
    · exact absurd q3 (h3' r s q1)
    · have hr : r = r' := by
        apply Classical.byContradiction
        intro hne
        rcases (show r < r' ∨ r' < r by omega) with q | q
        · exact q4' r s q q3
        · exact q4 r' s' q q3'
      subst hr
      have hs : s = s' := by
        apply Classical.byContradiction
        intro hne
        rcases (show s < s' ∨ s' < s by omega) with q | q
        · exact q5' s q q3
        · exact q5 s' q q3'
      omega
theorem Bk_le {v : Vw} {p : Nat} {e g a c m : Int} (hL : Lb v) (hp : (p : Int) < v 0 2) (ha : 0 ≤ a ∧ a < v 0 0) (hc : 0 ≤ c ∧ c ≤ 5) (h : Bk v p e g a c m) : m ≤ g := by
  obtain ⟨n, c', t, h1, h2⟩ := h
  have := (Rc_in hL hp ha hc _ _ _ _ _ h1).2.2
  omega
/-- where one isn't yet there and can be there in time there is a step -/
theorem FsR_go {v : Vw} {p : Nat} {e g a c m : Int} (hae : a ≠ e) (h : Bk v p e g a c m) (hF : FsR v p e g a c m (-1)) : False := by
  obtain ⟨n, c', t, h1, h2⟩ := h
  rcases hF with ⟨q, _⟩ | ⟨q1, ⟨_, q2⟩ | ⟨r, s, k1, k2, k3, _⟩⟩
  · omega
  · cases n with
    | zero => exact hae h1.2.1.symm
    | succ n =>
      obtain ⟨l1, a1, c1, t1, k1, k2⟩ := Rc_uncons _ _ _ _ _ h1
      rcases k1 with ⟨w1, w2, w3, w4, w5, w6⟩ | ⟨r, s, w1, w2, w3, w4, w5, w6, w7, w8⟩
      · apply q1
        have ec : cal v a c 1 = c + 1 := by
          unfold cal
          rw [if_pos w1]
          split <;> omega
        subst w3 w4 w5 w6
        rw [ec]
        exact ⟨n, c', t, k2, h2⟩
      · apply q2 r s w1
        have w6 : l1 = 0 := w6
        subst w6 w7 w8
        refine ⟨by rw [w2]; exact w3, w4, w5, ?_⟩
        rw [w2]
        exact ⟨n, c', t, k2, h2⟩
  · have := k3.2.1
    omega
/-- step i from here on -/
def StR (v : Vw) (p : Nat) (e g : Int) : Nat → Int → Int → Int → Int → Prop
  | 0, a, c, m, z => (a = e ∧ z = -1) ∨ (a ≠ e ∧ FsR v p e g a c m z)
  | i + 1, a, c, m, z => (a = e ∧ z = -1) ∨ (a ≠ e ∧ ∃ z1, FsR v p e g a c m z1 ∧ ((z1 = -2 ∧ StR v p e g i a (cal v a c 1) (m + 1) z) ∨ (0 ≤ z1 ∧ StR v p e g i (oth v (z1 / 10).toNat a) (c - z1 % 10) (m + tme v p (z1 / 10).toNat a m (z1 % 10)) z)))
theorem StR_uniq {v : Vw} {p : Nat} {e g : Int} : ∀ i a c m z z', StR v p e g i a c m z → StR v p e g i a c m z' → z = z' := by
  intro i
  induction i with
  | zero =>
    rintro a c m z z' (⟨h1, h2⟩ | ⟨h1, h2⟩) (⟨k1, k2⟩ | ⟨k1, k2⟩)
    · omega
    · exact absurd h1 k1
    · exact absurd k1 h1
    · exact FsR_uniq h2 k2
  | succ i ih =>
    rintro a c m z z' (⟨h1, h2⟩ | ⟨h1, z1, h2, h3⟩) (⟨k1, k2⟩ | ⟨k1, z2, k2, k3⟩)
    · omega
    · exact absurd h1 k1
    · exact absurd k1 h1
    · have := FsR_uniq h2 k2
      subst this
      rcases h3 with ⟨e1, h3⟩ | ⟨e1, h3⟩ <;> rcases k3 with ⟨e2, k3⟩ | ⟨e2, k3⟩
      · exact ih _ _ _ _ _ h3 k3
      · omega
      · omega
      · exact ih _ _ _ _ _ h3 k3
theorem s_X4_latestAt {a c : Int} {S : St} {post : Int32 → St → Prop} (ha : 0 ≤ a ∧ a < 6) (hc : 0 ≤ c ∧ c ≤ 5) (h : post (iI (zz S 52 (6 * a.toNat + c.toNat))) S) : wp_X4_latestAt (iI a) (iI c) S post := by
  unfold wp_X4_latestAt
  obtain ⟨j, hj⟩ : ∃ j : Nat, 6 * a.toNat + c.toNat = j := ⟨_, rfl⟩
  have ej : iI a * 6 + iI c = iI (j : Int) := by
    rw [show (6 : Int32) = iI 6 from rfl, iI_mul, iI_add]
    congr 1
    omega
  have xj : ix (iI (j : Int)) = j := by rw [iI_ix (by omega) (by omega)]; simp
  have ij : vp_in (iI (j : Int)) 36 := (iI_in (by omega) (by omega)).mpr ⟨by omega, by omega⟩
  rw [ej, xj, zz_S S 52 j]
  rw [hj] at h
  exact ⟨ij, h⟩
theorem Lk_b {v : Vw} {p : Nat} {e g : Int} {D : Nat → Int} (h : Lk v p e g D) (hg : -1000000 ≤ g ∧ g ≤ 1000000) {a c : Int} (ha : 0 ≤ a ∧ a < v 0 0) (hc : 0 ≤ c ∧ c ≤ 5) : -1000000000 ≤ D (6 * a.toNat + c.toNat) ∧ D (6 * a.toNat + c.toNat) ≤ 1000000 := by
  rcases (h a c ha hc).1 with q | ⟨q1, q2, _⟩ <;> omega
theorem s_first_in {v : Vw} {p r : Nat} {g a c m b : Int} {S : St} {k74 : Int32 → Int32 → Int32 → Int32 → Int32 → St → Prop} {post : Int32 → St → Prop} (hd : Bq v p S) (hLk : Lk v p (v 4 p) g (zz S 52)) (hg : -1000000 ≤ g ∧ g ≤ 1000000) (ha : 0 ≤ a ∧ a < v 0 0) (hc : 0 ≤ c ∧ c ≤ 5) (hm : 0 ≤ m ∧ m ≤ 900000) (hr : (r : Int) < v 0 1) (hb : oth v r a = b) (hb1 : b ≠ -1) (hk : (∀ s, 0 ≤ s → s ≤ c → ¬ Bk v p (v 4 p) g b (c - s) (m + tme v p r a m s)) → k74 (iI p) (iI a) (iI c) (iI m) (iI r + 1) S) (hpo : ∀ s, 0 ≤ s → s ≤ c → Bk v p (v 4 p) g b (c - s) (m + tme v p r a m s) → (∀ s', 0 ≤ s' → s' < s → ¬ Bk v p (v 4 p) g b (c - s') (m + tme v p r a m s')) → post (iI (10 * (r : Int) + s)) S) : ∀ d s : Nat, (s : Int) + d = c + 1 → (∀ s' : Int, 0 ≤ s' → s' < s → ¬ Bk v p (v 4 p) g b (c - s') (m + tme v p r a m s')) → L_X4_firstStep_110 k74 post (d + 1) (iI p) (iI a) (iI c) (iI m) (iI r) (iI b) (iI s) S := by
  obtain ⟨hL, hp, hS, hP⟩ := id hd
  obtain ⟨b0, b0', b1, b1', b2, b2', _⟩ := id hL.1
  have ob := oth_b a (hL.2.1 r hr) hL.1
  rw [hb] at ob
  intro d
  induction d with
  | zero =>
    intro s hs hj
    show BD_X4_firstStep_110 k74 (L_X4_firstStep_110 k74 post 0) post _ _ _ _ _ _ _ _
    unfold BD_X4_firstStep_110
    rw [iI_lt (by omega) (by omega) (by omega) (by omega)]
    exact ⟨fun _ => hk (fun s' h1 h2 => hj s' h1 (by omega)), fun e => absurd (by omega) e⟩
  | succ d ih =>
    intro s hs hj
    show BD_X4_firstStep_110 k74 (L_X4_firstStep_110 k74 post (d + 1)) post _ _ _ _ _ _ _ _
    unfold BD_X4_firstStep_110
    have es : iI (s : Int) + 1 = iI ((s + 1 : Nat) : Int) := by rw [show (1 : Int32) = iI 1 from rfl, iI_add]; rfl
    have tb := tme_b (v := v) (p := p) (r := r) a m (s := (s : Int)) (hL.2.2 p hp) (hL.2.1 r hr) (by omega)
    have hH' := Sv_Hb hS hL.1
    have rT : Rb (cv S 11) r := Sv_Rb hS hr (hL.2.1 r hr)
    rw [iI_lt (by omega) (by omega) (by omega) (by omega), es]
    refine ⟨fun e => absurd e (by omega), fun _ => ?_⟩
    refine s_X6_lasts (o := 11) hH' hP rT (by omega) (by omega) ha.1 (by omega) (by omega) (by omega) (by omega) (by omega) ?_
    rw [tme_Sv hS hp hr, iI_sub]
    refine s_X4_latestAt (by omega) (by omega) ?_
    have hbk := Lk_iff hL hLk (a := b) (c := c - s) (x := m + tme v p r a m s) (by omega) (by omega) (by omega)
    have db := Lk_b hLk hg (a := b) (c := c - s) (by omega) (by omega)
    rw [iI_add, iI_lt (by omega) (by omega) (by omega) (by omega)]
    refine ⟨fun hlt => ih (s + 1) (by omega) (fun s' h1 h2 => ?_), fun hlt => ?_⟩
    · by_cases hss : s' = s
      · rw [hss, hbk]; omega
      · exact hj s' h1 (by omega)
    · unfold B_X4_firstStep_147
      rw [show (10 : Int32) = iI 10 from rfl, iI_mul, iI_add]
      exact hpo s (by omega) (by omega) (hbk.mpr (by omega)) hj
theorem s_X4_firstStep {v : Vw} {p : Nat} {g a c m : Int} {S : St} {post : Int32 → St → Prop} (hd : Bq v p S) (hLk : Lk v p (v 4 p) g (zz S 52)) (hg : -1000000 ≤ g ∧ g ≤ 1000000) (e18 : zz S 18 p = a) (e19 : zz S 19 p = c) (e21 : zz S 21 p = m) (ha : 0 ≤ a ∧ a < v 0 0) (hc : 0 ≤ c ∧ c ≤ 5) (hm : 0 ≤ m ∧ m ≤ 900000) (h0 : a = v 4 p → post (-1) S) (h1 : ∀ z, a ≠ v 4 p → FsR v p (v 4 p) g a c m z → (z = -1 ∨ z = -2 ∨ (0 ≤ z ∧ z / 10 < v 0 1 ∧ oth v (z / 10).toNat a ≠ -1 ∧ z % 10 ≤ c)) → post (iI z) S) : wp_X4_firstStep (iI p) S post := by
  obtain ⟨hL, hp, hS, hP⟩ := id hd
  obtain ⟨b0, b0', b1, b1', b2, b2', b3, b3', _⟩ := id hL.1
  have g4 := hL.2.2 p hp
  have he : 0 ≤ v 4 p ∧ v 4 p < v 0 0 := ⟨g4.1, g4.2.1⟩
  have e15 : zz S 15 p = v 4 p := (hS.2.2 p hp).1
  have e11 : zz S 11 1 = v 0 1 := hS.1 1 (by omega)
  have xp : ix (iI (p : Int)) = p := by rw [iI_ix (by omega) (by omega)]; simp
  have ip : vp_in (iI (p : Int)) 4 := (iI_in (by omega) (by omega)).mpr ⟨by omega, by omega⟩
  have hH' := Sv_Hb hS hL.1
  have roads : a ≠ v 4 p → ¬ Bk v p (v 4 p) g a (cal v a c 1) (m + 1) → ∀ (d r : Nat), (r : Int) + d = v 0 1 → (∀ (r' : Nat) (s' : Int), r' < r → ¬ YesR v p (v 4 p) g a c m r' s') → L_X4_firstStep_74 post (d + 1) (iI p) (iI a) (iI c) (iI m) (iI r) S := by
    intro hae hnw d
    induction d with
    | zero =>
      intro r hr hj
      show BD_X4_firstStep_74 (L_X4_firstStep_74 post 0) post _ _ _ _ _ _
      unfold BD_X4_firstStep_74
      rw [zz_S S 11 1, e11, iI_le (by omega) (by omega) (by omega) (by omega)]
      exact ⟨fun _ => h1 (-1) hae (Or.inr ⟨hnw, Or.inl ⟨rfl, fun r' s' hr' => hj r' s' (by omega)⟩⟩) (Or.inl rfl), fun e => absurd (by omega) e⟩
    | succ d ih =>
      intro r hr hj
      show BD_X4_firstStep_74 (L_X4_firstStep_74 post (d + 1)) post _ _ _ _ _ _
      unfold BD_X4_firstStep_74
      have hrv : (r : Int) < v 0 1 := by omega
      have ob := oth_b a (hL.2.1 r hrv) hL.1
      have er : iI (r : Int) + 1 = iI ((r + 1 : Nat) : Int) := by rw [show (1 : Int32) = iI 1 from rfl, iI_add]; rfl
      rw [zz_S S 11 1, e11, iI_le (by omega) (by omega) (by omega) (by omega)]
      refine ⟨fun q => absurd q (by omega), fun _ => ?_⟩
      refine s_X6_otherEnd (o := 11) (by omega) (by omega) (by omega) ?_
      rw [oth_Sv hS hrv]
      have em1 : iI (oth v r a) = -1 ↔ oth v r a = -1 := by
        rw [show (-1 : Int32) = iI (-1) from by decide]
        exact iI_eq (by omega) (by omega) (by omega) (by omega)
      rw [em1, er]
      refine ⟨fun hne => ⟨(c + 1).toNat + 1, ?_⟩, fun heq => ih (r + 1) (by omega) (fun r' s' hr' => ?_)⟩
      · rw [show (0 : Int32) = iI ((0 : Nat) : Int) from rfl]
        refine s_first_in hd hLk hg ha hc hm hrv rfl hne (fun hno => ?_) (fun s s1 s2 hy hno => ?_) (c + 1).toNat 0 (by omega) (fun s' h1 h2 => absurd h2 (by omega))
        · rw [er]
          refine ih (r + 1) (by omega) (fun r' s' hr' => ?_)
          by_cases hrr : r' = r
          · rw [hrr]
            intro q
            exact hno s' q.2.1 q.2.2.1 q.2.2.2
          · exact hj r' s' (by omega)
        · refine h1 _ hae (Or.inr ⟨hnw, Or.inr ⟨r, s, hrv, rfl, ⟨hne, s1, s2, hy⟩, hj, fun s' hs' q => hno s' q.2.1 hs' q.2.2.2⟩⟩) (Or.inr (Or.inr ⟨by omega, by omega, ?_, by omega⟩))
          rw [show ((10 * (r : Int) + s) / 10).toNat = r from by omega]
          exact hne
      · by_cases hrr : r' = r
        · rw [hrr]
          intro q
          exact q.1 heq
        · exact hj r' s' (by omega)
  unfold wp_X4_firstStep
  rw [xp, zz_S S 18 p, zz_S S 19 p, zz_S S 21 p, zz_S S 15 p, e18, e19, e21, e15]
  refine ⟨ip, fun v1 ev1 => ⟨ip, fun v2 ev2 => ⟨ip, fun v3 ev3 => ⟨ip, ?_⟩⟩⟩⟩
  rw [ev1, ev2, ev3, iI_eq (by omega) (by omega) (by omega) (by omega)]
  refine ⟨fun hae => ?_, fun hae => h0 hae⟩
  have cb := cal_b (v := v) (a := a) (c := c) (n := 1) (by omega) hc.1 hc.2
  rw [show (1 : Int32) = iI 1 from rfl]
  refine s_X6_calmAfter hH' ha.1 (by omega) hc.1 hc.2 (by omega) (by omega) ?_
  rw [cal_Sv hS]
  refine s_X4_latestAt (by omega) cb ?_
  have hbk := Lk_iff hL hLk (a := a) (c := cal v a c 1) (x := m + 1) ha cb (by omega)
  have db := Lk_b hLk hg (a := a) (c := cal v a c 1) ha cb
  rw [iI_add, iI_lt (by omega) (by omega) (by omega) (by omega)]
  refine ⟨fun hlt => ⟨(v 0 1).toNat + 1, ?_⟩, fun hlt => ?_⟩
  · rw [show (0 : Int32) = iI ((0 : Nat) : Int) from rfl]
    exact roads hae (by rw [hbk]; omega) (v 0 1).toNat 0 (by omega) (fun r' s' hr' => absurd hr' (by omega))
  · have := h1 (-2) hae (Or.inl ⟨rfl, hbk.mpr (by omega)⟩) (Or.inr (Or.inl rfl))
    exact this
/-- the class: from here on to step i -/
theorem s_X4_step_loop {v : Vw} {p : Nat} {g : Int} {n : Int} {post : Int32 → St → Prop} (hn : 0 ≤ n ∧ n ≤ 99) (hg : -1000000 ≤ g ∧ g ≤ 900000) : ∀ (d : Nat) (i : Int) (S : St) (a c m : Int), i + d = n → 0 ≤ i → Bq v p S → Lk v p (v 4 p) g (zz S 52) → zz S 18 p = a → zz S 19 p = c → zz S 21 p = m → (0 ≤ a ∧ a < v 0 0) → (0 ≤ c ∧ c ≤ 5) → 0 ≤ m → Bk v p (v 4 p) g a c m → (∀ T z, (∀ c k, ¬ (c = 18 ∨ c = 19 ∨ c = 21) → T c k = S c k) → StR v p (v 4 p) g d a c m z → post (iI z) T) → L_X4_stepAt_22 post (d + 1) (iI p) (iI n) (iI i) S := by
  intro d
  induction d with
  | zero =>
    intro i S a c m hi hi0 hd hLk e18 e19 e21 ha hc hm hB h
    have hmg := Bk_le hd.1 hd.2.1 ha hc hB
    show BD_X4_stepAt_22 (L_X4_stepAt_22 post 0) post _ _ _ _
    unfold BD_X4_stepAt_22
    rw [iI_le (by omega) (by omega) (by omega) (by omega)]
    refine ⟨fun _ => ?_, fun e => absurd (by omega) e⟩
    unfold B_X4_stepAt_86
    exact s_X4_firstStep hd hLk (by omega) e18 e19 e21 ha hc (by omega) (fun hae => h S (-1) (fun _ _ _ => rfl) (Or.inl ⟨hae, rfl⟩)) (fun z hae hF _ => h S z (fun _ _ _ => rfl) (Or.inr ⟨hae, hF⟩))
  | succ d ih =>
    intro i S a c m hi hi0 hd hLk e18 e19 e21 ha hc hm hB h
    have hmg := Bk_le hd.1 hd.2.1 ha hc hB
    obtain ⟨hL, hp, hS, hP⟩ := id hd
    obtain ⟨b0, b0', b1, b1', b2, b2', b3, b3', _⟩ := id hL.1
    have hH' := Sv_Hb hS hL.1
    show BD_X4_stepAt_22 (L_X4_stepAt_22 post (d + 1)) post _ _ _ _
    unfold BD_X4_stepAt_22
    have en : iI i + 1 = iI (i + 1) := by rw [show (1 : Int32) = iI 1 from rfl, iI_add]
    have one : (1 : Int32) = iI 1 := rfl
    rw [iI_le (by omega) (by omega) (by omega) (by omega), en]
    refine ⟨fun e => absurd e (by omega), fun _ => ?_⟩
    refine s_X4_firstStep hd hLk (by omega) e18 e19 e21 ha hc (by omega) (fun hae => ⟨fun e => absurd rfl e, fun _ => h S (-1) (fun _ _ _ => rfl) (Or.inl ⟨hae, rfl⟩)⟩) (fun z hae hF hz => ?_)
    have hz1 : z ≠ -1 := fun q => FsR_go hae hB (q ▸ hF)
    rw [show (-1 : Int32) = iI (-1) from by decide, show (-2 : Int32) = iI (-2) from by decide, iI_eq (by omega) (by omega) (by omega) (by omega), iI_eq (by omega) (by omega) (by omega) (by omega)]
    refine ⟨fun _ => ⟨fun hz2 => ?_, fun hz2 => ?_⟩, fun q => absurd q hz1⟩
    · have hz3 : 0 ≤ z ∧ z / 10 < v 0 1 ∧ oth v (z / 10).toNat a ≠ -1 ∧ z % 10 ≤ c := by
        rcases hz with q | q | q
        · exact absurd q hz1
        · exact absurd q hz2
        · exact q
      obtain ⟨z0, zr, zo, zs⟩ := hz3
      obtain ⟨r, hr⟩ : ∃ r : Nat, z / 10 = (r : Int) := ⟨(z / 10).toNat, by omega⟩
      have hr2 : (z / 10).toNat = r := by omega
      have rv : (r : Int) < v 0 1 := by omega
      rw [hr2] at zo
      have rb : Rb (cv S 11) r := Sv_Rb hS rv (hL.2.1 r rv)
      have ob := oth_b a (hL.2.1 r rv) hL.1
      have tb := tme_b (v := v) (p := p) (r := r) a m (s := z % 10) (hL.2.2 p hp) (hL.2.1 r rv) (by omega)
      rw [show (10 : Int32) = iI 10 from rfl, iI_rem (by omega) (by omega) (by omega) (by omega), iI_div (by omega) (by omega) (by omega) (by omega), hr]
      have g7 : zz S (11 + 7) p = a := e18
      have g8 : zz S (11 + 8) p = c := e19
      have g10 : zz S (11 + 10) p = m := e21
      refine s_X6_move (o := 11) hH' hP rb (by omega) (by omega) (by omega) (by omega) (by rw [g10]; exact hm) (by rw [g10]; omega) ?_
      intro S' e'
      rw [g7, g8, g10, oth_Sv hS rv, tme_Sv hS hp rv] at e'
      have oT : ∀ c k, ¬ (k = p ∧ (c = 18 ∨ c = 19 ∨ c = 21)) → S' c k = S c k := fun c k hh => by rw [e', up_ne _ _ (by omega), up_ne _ _ (by omega), up_ne _ _ (by omega)]
      have hS' : Sv v (cv S' 11) := by
        refine hS.trans ⟨fun k _ => ?_, fun r' _ => ⟨?_, ?_, ?_⟩, fun p' _ => ⟨?_, ?_, ?_, ?_⟩⟩ <;> (unfold cv zz; rw [oT _ _ (by omega)])
      have z18 : zz S' 18 p = oth v r a := zz_iI (by rw [e', up_at]) (by omega) (by omega)
      have z19 : zz S' 19 p = c - z % 10 := zz_iI (by rw [e', up_ne _ _ (by omega), up_at]) (by omega) (by omega)
      have z21 : zz S' 21 p = m + tme v p r a m (z % 10) := zz_iI (by rw [e', up_ne _ _ (by omega), up_ne _ _ (by omega), up_at]) (by omega) (by omega)
      have hP' : Pb (cv S' 11) p := Sv_Pb hS' hp (hL.2.2 p hp) (by show 0 ≤ zz S' 18 p ∧ zz S' 18 p < v 0 0; rw [z18]; omega) (by show 0 ≤ zz S' 19 p ∧ zz S' 19 p ≤ 5; rw [z19]; omega)
      have hLk' : Lk v p (v 4 p) g (zz S' 52) := by
        have : zz S' 52 = zz S 52 := by funext k; unfold zz; rw [oT _ _ (by omega)]
        rw [this]; exact hLk
      have hyes : Bk v p (v 4 p) g (oth v r a) (c - z % 10) (m + tme v p r a m (z % 10)) := by
        rcases hF with ⟨q, _⟩ | ⟨_, ⟨q, _⟩ | ⟨r', s', q1, q2, q3, _⟩⟩
        · exact absurd q hz2
        · exact absurd q hz1
        · have hs5 : 0 ≤ s' ∧ s' ≤ 5 := ⟨q3.2.1, by have := q3.2.2.1; omega⟩
          have er : r' = r := by omega
          have es : s' = z % 10 := by omega
          rw [er, es] at q3
          exact q3.2.2.2
      refine ih (i + 1) S' _ _ _ (by omega) (by omega) ⟨hL, hp, hS', hP'⟩ hLk' z18 z19 z21 (by omega) (by omega) (by omega) hyes ?_
      intro T z2 oT2 hz2
      refine h T z2 (fun c k hh => by rw [oT2 c k hh, oT c k (by omega)]) (Or.inr ⟨hae, z, hF, Or.inr ⟨z0, ?_⟩⟩)
      rw [hr2]
      exact hz2
    · rw [one]
      have g7 : zz S (11 + 7) p = a := e18
      have g8 : zz S (11 + 8) p = c := e19
      have g10 : zz S (11 + 10) p = m := e21
      refine s_X6_rest (o := 11) hH' hP (by omega) (by omega) (by omega) ?_
      intro S' e'
      rw [g7, g8, g10, cal_Sv hS] at e'
      have cb := cal_b (v := v) (a := a) (c := c) (n := 1) (by omega) hc.1 hc.2
      have oT : ∀ c k, ¬ (k = p ∧ (c = 19 ∨ c = 21)) → S' c k = S c k := fun c k hh => by rw [e', up_ne _ _ (by omega), up_ne _ _ (by omega)]
      have hS' : Sv v (cv S' 11) := by
        refine hS.trans ⟨fun k _ => ?_, fun r' _ => ⟨?_, ?_, ?_⟩, fun p' _ => ⟨?_, ?_, ?_, ?_⟩⟩ <;> (unfold cv zz; rw [oT _ _ (by omega)])
      have z18 : zz S' 18 p = a := by rw [← e18]; unfold zz; rw [oT _ _ (by omega)]
      have z19 : zz S' 19 p = cal v a c 1 := zz_iI (by rw [e', up_at]) (by omega) (by omega)
      have z21 : zz S' 21 p = m + 1 := zz_iI (by rw [e', up_ne _ _ (by omega), up_at]) (by omega) (by omega)
      have hP' : Pb (cv S' 11) p := Sv_Pb hS' hp (hL.2.2 p hp) (by show 0 ≤ zz S' 18 p ∧ zz S' 18 p < v 0 0; rw [z18]; omega) (by show 0 ≤ zz S' 19 p ∧ zz S' 19 p ≤ 5; rw [z19]; exact cb)
      have hLk' : Lk v p (v 4 p) g (zz S' 52) := by
        have : zz S' 52 = zz S 52 := by funext k; unfold zz; rw [oT _ _ (by omega)]
        rw [this]; exact hLk
      have hyes : Bk v p (v 4 p) g a (cal v a c 1) (m + 1) := by
        rcases hF with ⟨_, q⟩ | ⟨_, ⟨q, _⟩ | ⟨r', s', q1, q2, q3, _⟩⟩
        · exact q
        · exact absurd q hz1
        · have := q3.2.1
          omega
      refine ih (i + 1) S' _ _ _ (by omega) (by omega) ⟨hL, hp, hS', hP'⟩ hLk' z18 z19 z21 ha cb (by omega) hyes ?_
      intro T z2' oT2 hz2'
      exact h T z2' (fun c k hh => by rw [oT2 c k hh, oT c k (by omega)]) (Or.inr ⟨hae, z, hF, Or.inl ⟨hz2, hz2'⟩⟩)
