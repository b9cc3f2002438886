/-! the reference's spreading: all roads of one node, and the next node -/
theorem s_X8_spreads_mid {v : Vw} {p i : Nat} {u : Int} {S : St} {k55 : Int32 → Int32 → St → Prop} {post : St → Prop} (hd : Rd v p i u S) : ∀ (d r : Nat) (T : St), (r : Int) + d = v 0 1 → Rx v p i u S T → (∀ T', Rx v p i u S T' → (∀ k, zz T' 81 k ≤ zz T 81 k) → (∀ r' : Nat, r ≤ r' → (r' : Int) < v 0 1 → oth v r' ((i / 6 : Nat) : Int) ≠ -1 → ∀ s' : Nat, s' ≤ i % 6 → zz T' 81 (6 * (oth v r' ((i / 6 : Nat) : Int)).toNat + i % 6 - s') ≤ u + tme v p r' ((i / 6 : Nat) : Int) u s') → B_X8_spreads_217 k55 post (iI p) T') → L_X8_spreads_125 k55 post (d + 1) (iI p) (iI i) (iI ((i / 6 : Nat) : Int)) (iI ((i % 6 : Nat) : Int)) (iI r) T := by
  obtain ⟨hL, hp, hi, hi2, hS, hP, e, h1, h2⟩ := id hd
  obtain ⟨b0, b0', b1, b1', b2, b2', _⟩ := id hL.1
  have e11 : zz S 71 11 = v 0 1 := hS.1 1 (by omega)
  intro d
  induction d with
  | zero =>
    intro r T hr hR h
    show BD_X8_spreads_125 k55 (L_X8_spreads_125 k55 post 0) post _ _ _ _ _ _
    unfold BD_X8_spreads_125
    rw [hR.1 71 11 (by omega), zz_S S 71 11, e11, iI_le (by omega) (by omega) (by omega) (by omega)]
    exact ⟨fun _ => h T hR (fun _ => Int.le_refl _) (fun r' q1 q2 => absurd q2 (by omega)), fun e => absurd (by omega) e⟩
  | succ d ih =>
    intro r T hr hR h
    show BD_X8_spreads_125 k55 (L_X8_spreads_125 k55 post (d + 1)) post _ _ _ _ _ _
    unfold BD_X8_spreads_125
    have hrv : (r : Int) < v 0 1 := by omega
    have ob := oth_b ((i / 6 : Nat) : Int) (hL.2.1 r hrv) hL.1
    have er : iI (r : Int) + 1 = iI ((r + 1 : Nat) : Int) := by rw [show (1 : Int32) = iI 1 from rfl, iI_add]; rfl
    rw [hR.1 71 11 (by omega), zz_S S 71 11, e11, iI_le (by omega) (by omega) (by omega) (by omega)]
    refine ⟨fun q => absurd q (by omega), fun _ => ?_⟩
    refine s_X8_otherEnd (a0 := 76) (by omega) (by omega) (by omega) ?_
    rw [mz_81 hR.1, oth_Sv hS hrv]
    refine ⟨i % 6 + 1 + 1, ?_⟩
    refine s_X8_spreads_in hd hrv rfl (i % 6 + 1) 0 T (by omega) hR ?_
    intro T1 hR1 le1 l1
    rw [er]
    refine ih (r + 1) T1 (by omega) hR1 ?_
    intro T2 hR2 le2 l2
    refine h T2 hR2 (fun k => Int.le_trans (le2 k) (le1 k)) (fun r' q1 q2 q3 s' q4 => ?_)
    by_cases hrr : r' = r
    · subst hrr
      exact Int.le_trans (le2 _) (l1 q3 s' (by omega) q4)
    · exact l2 r' (by omega) q2 q3 s' q4
theorem s_X8_node {v : Vw} {p i : Nat} {u : Int} {S : St} {k55 : Int32 → Int32 → St → Prop} {post : St → Prop} (hd : Rd v p i u S) (h : ∀ T', Rx v p i u (up S 82 i 1) T' → (∀ a' c' t', Eg v p ly0 0 ((i / 6 : Nat) : Int) ((i % 6 : Nat) : Int) u 0 a' c' t' → zz T' 81 (6 * a'.toNat + c'.toNat) ≤ t') → B_X8_spreads_217 k55 post (iI p) T') : BD_X8_spreads_55 k55 post (iI p) (iI i) S := by
  obtain ⟨hL, hp, hi, hi2, hS, hP, e, h1, h2⟩ := id hd
  obtain ⟨b0, b0', b1, b1', b2, b2', b3, b3', _⟩ := id hL.1
  unfold BD_X8_spreads_55
  have xi : ix (iI (i : Int)) = i := by rw [iI_ix (by omega) (by omega)]; simp
  have ii : vp_in (iI (i : Int)) 36 := (iI_in (by omega) (by omega)).mpr ⟨by omega, by omega⟩
  rw [xi]
  refine ⟨fun q => absurd q (by rw [show (-1 : Int32) = iI (-1) from by decide, iI_eq (by omega) (by omega) (by omega) (by omega)]; omega), fun _ => ⟨ii, ?_⟩⟩
  intro S2 e2 v4 e4 v5 e5
  rw [show (6 : Int32) = iI 6 from rfl, iI_div (by omega) (by omega) (by omega) (by omega), show (i : Int) / 6 = ((i / 6 : Nat) : Int) from by omega] at e4
  rw [show (6 : Int32) = iI 6 from rfl, iI_div (by omega) (by omega) (by omega) (by omega), iI_mul, iI_sub, show (i : Int) - (i : Int) / 6 * 6 = ((i % 6 : Nat) : Int) from by omega] at e5
  subst e4
  subst e5
  have o2 : ∀ c k, ¬ (c = 82 ∧ k = i) → S2 c k = S c k := fun c k hh => by rw [e2, up_ne _ _ hh]
  have z2 : ∀ c k, ¬ (c = 82 ∧ k = i) → zz S2 c k = zz S c k := fun c k hh => by unfold zz; rw [o2 c k hh]
  have em : mz S2 76 = mz S 76 := by
    funext f k
    unfold mz
    split
    · split <;> exact z2 _ _ (by omega)
    all_goals exact z2 _ _ (by omega)
  have hd2 : Rd v p i u S2 := ⟨hL, hp, hi, hi2, by rw [em]; exact hS, by rw [em]; exact hP, by rw [z2 _ _ (by omega)]; exact e, h1, h2⟩
  have e3 : zz S2 76 16 = v 0 3 := (z2 _ _ (by omega)).trans (hS.1 3 (by omega))
  have eb : (S2 76 16 >>> (iI ((i / 6 : Nat) : Int) &&& 31)) &&& 1 = iI (bt (v 0 3) ((i / 6 : Nat) : Int)) := by
    rw [zz_S S2 76 16, e3]
    exact bit_get b3 b3' (by omega) (by omega)
  have hb := bt_01 (v 0 3) ((i / 6 : Nat) : Int)
  have e1 : (S2 76 16 >>> (iI ((i / 6 : Nat) : Int) &&& 31)) &&& 1 = 1 ↔ bt (v 0 3) ((i / 6 : Nat) : Int) = 1 := by
    rw [eb, show (1 : Int32) = iI 1 from rfl, iI_eq (by omega) (by omega) (by omega) (by omega)]
  rw [e1, show (5 : Int32) = iI 5 from rfl, iI_le (by omega) (by omega) (by omega) (by omega)]
  have roads : ∀ T, Rx v p i u S2 T → (∀ c' t', Eg v p ly0 0 ((i / 6 : Nat) : Int) ((i % 6 : Nat) : Int) u 0 ((i / 6 : Nat) : Int) c' t' → bt (v 0 3) ((i / 6 : Nat) : Int) = 1 → ((i % 6 : Nat) : Int) < 5 → zz T 81 (i + 1) ≤ u + 1) → B_X8_spreads_125 k55 post (iI p) (iI i) (iI ((i / 6 : Nat) : Int)) (iI ((i % 6 : Nat) : Int)) 0 T := by
    intro T hR hw
    refine ⟨(v 0 1).toNat + 1, s_X8_spreads_mid hd2 (v 0 1).toNat 0 T (by omega) hR ?_⟩
    intro T' hR' le' l'
    rw [e2] at hR'
    refine h T' hR' ?_
    intro a' c' t' hE
    have hE' := hE
    rcases hE with ⟨k1, k2, _, k3, k4, k5⟩ | ⟨r, s, k1, k2, k3, k4, k5, _, k6, k7⟩
    · have hx : 6 * a'.toNat + c'.toNat = i + 1 := by omega
      rw [hx, k5]
      rw [k3] at hE'
      exact Int.le_trans (le' _) (hw _ _ hE' k1 k2)
    · obtain ⟨sn, rfl⟩ : ∃ sn : Nat, s = (sn : Int) := ⟨s.toNat, by omega⟩
      have hx := l' r (by omega) k1 (by rw [k2]; exact k3) sn (by omega)
      rw [k2] at hx
      have hy : 6 * a'.toNat + c'.toNat = 6 * a'.toNat + i % 6 - sn := by omega
      rw [hy, k7]
      exact hx
  refine ⟨fun hn => roads S2 (Rx.rf _ _ _ _ _) (fun _ _ _ q => absurd q hn), fun hy => ⟨fun h5 => roads S2 (Rx.rf _ _ _ _ _) (fun _ _ _ _ q => absurd q (by omega)), fun h5 => ⟨ii, ?_⟩⟩⟩
  have eu : S2 81 i = iI u := by rw [o2 _ _ (by omega), ← e]; exact zz_S S 81 i
  rw [eu, show (1 : Int32) = iI 1 from rfl, iI_add, iI_add, show (i : Int) + 1 = ((i + 1 : Nat) : Int) from rfl]
  refine s_X8_comes (v := v) (p := p) (i := i) (u := u) (S := S2) (by omega) (by omega) (by omega) (Rx.rf _ _ _ _ _) ?_ ?_
  · unfold Ej
    exact Or.inl ⟨hy, by omega, rfl, by omega, by omega, rfl⟩
  · intro T' hR' _ l'
    exact roads T' hR' (fun _ _ _ _ _ => l')
theorem s_X8_nextNode {S : St} {post : Int32 → St → Prop} (hf : ∀ j, j < 36 → zz S 82 j = 0 ∨ zz S 82 j = 1) (h1 : (∀ j, j < 36 → zz S 82 j = 0 → 100000000 ≤ zz S 81 j) → post (iI (-1)) S) (h2 : ∀ i : Nat, i < 36 → zz S 82 i = 0 → zz S 81 i < 100000000 → (∀ j, j < 36 → zz S 82 j = 0 → zz S 81 i ≤ zz S 81 j) → post (iI i) S) : wp_X8_nextNode S post := by
  have key : ∀ (d n : Nat) (b : Int), n + d = 36 → (b = -1 ∧ ∀ j, j < n → zz S 82 j = 0 → 100000000 ≤ zz S 81 j) ∨ (0 ≤ b ∧ b < n ∧ zz S 82 b.toNat = 0 ∧ zz S 81 b.toNat < 100000000 ∧ ∀ j, j < n → zz S 82 j = 0 → zz S 81 b.toNat ≤ zz S 81 j) → L_X8_nextNode_4 post (d + 1) (iI b) (iI n) S := by
    intro d
    induction d with
    | zero =>
      intro n b hn hb
      show BD_X8_nextNode_4 (L_X8_nextNode_4 post 0) post _ _ _
      unfold BD_X8_nextNode_4
      rw [show (36 : Int32) = iI 36 from rfl, iI_le (by omega) (by omega) (by omega) (by omega)]
      refine ⟨fun _ => ?_, fun e => absurd (by omega) e⟩
      rcases hb with ⟨rfl, hb⟩ | ⟨g1, g2, g3, g4, g5⟩
      · exact h1 (fun j hj => hb j (by omega))
      · have : iI b = iI (b.toNat : Int) := by congr 1; omega
        rw [this]
        exact h2 b.toNat (by omega) g3 g4 (fun j hj => g5 j (by omega))
    | succ d ih =>
      intro n b hn hb
      show BD_X8_nextNode_4 (L_X8_nextNode_4 post (d + 1)) post _ _ _
      unfold BD_X8_nextNode_4
      have xn : ix (iI (n : Int)) = n := by rw [iI_ix (by omega) (by omega)]; simp
      have ni : vp_in (iI (n : Int)) 36 := (iI_in (by omega) (by omega)).mpr ⟨by omega, by omega⟩
      have en : iI (n : Int) + 1 = iI ((n + 1 : Nat) : Int) := by rw [show (1 : Int32) = iI 1 from rfl, iI_add]; rfl
      have l1 := zz_lo S 81 n
      have l2 := zz_hi S 81 n
      have e0 : S 82 n = 0 ↔ zz S 82 n = 0 := by
        rw [zz_S S 82 n, show (0 : Int32) = iI 0 from rfl]
        have := hf n (by omega)
        exact iI_eq (by omega) (by omega) (by omega) (by omega)
      have e8 : (100000000 : Int32) ≤ S 81 n ↔ 100000000 ≤ zz S 81 n := by
        rw [zz_S S 81 n, show (100000000 : Int32) = iI 100000000 from rfl]
        exact iI_le (by omega) (by omega) (by omega) (by omega)
      have eb : iI b = -1 ↔ b = -1 := by
        rw [show (-1 : Int32) = iI (-1) from by decide]
        exact iI_eq (by omega) (by omega) (by omega) (by omega)
      rw [show (36 : Int32) = iI 36 from rfl, iI_le (by omega) (by omega) (by omega) (by omega), xn, en, e0, e8, eb]
      have keep : (zz S 82 n = 0 → (b = -1 → 100000000 ≤ zz S 81 n) ∧ (b ≠ -1 → zz S 81 b.toNat ≤ zz S 81 n)) → L_X8_nextNode_4 post (d + 1) (iI b) (iI ((n + 1 : Nat) : Int)) S := by
        intro hk
        refine ih (n + 1) b (by omega) ?_
        rcases hb with ⟨hb1, hb⟩ | ⟨g1, g2, g3, g4, g5⟩
        · refine Or.inl ⟨hb1, fun j hj hz => ?_⟩
          by_cases hjn : j = n
          · subst hjn; exact (hk hz).1 hb1
          · exact hb j (by omega) hz
        · refine Or.inr ⟨g1, by omega, g3, g4, fun j hj hz => ?_⟩
          by_cases hjn : j = n
          · subst hjn; exact (hk hz).2 (by omega)
          · exact g5 j (by omega) hz
      have take : zz S 82 n = 0 → zz S 81 n < 100000000 → (b ≠ -1 → zz S 81 n < zz S 81 b.toNat) → L_X8_nextNode_4 post (d + 1) (iI (n : Int)) (iI ((n + 1 : Nat) : Int)) S := by
        intro q1 q2 q3
        refine ih (n + 1) n (by omega) (Or.inr ⟨by omega, by omega, by rw [Int.toNat_natCast]; exact q1, by rw [Int.toNat_natCast]; exact q2, fun j hj hz => ?_⟩)
        rw [Int.toNat_natCast]
        by_cases hjn : j = n
        · rw [hjn]; exact Int.le_refl _
        · rcases hb with ⟨hb1, hb⟩ | ⟨g1, g2, g3, g4, g5⟩
          · have := hb j (by omega) hz
            omega
          · have := g5 j (by omega) hz
            have := q3 (by omega)
            omega
      refine ⟨fun q => absurd q (by omega), fun _ => ⟨ni, fun hz => keep (fun q => absurd q hz), fun hz => ⟨ni, fun h8 => keep (fun _ => ⟨fun _ => h8, fun hb' => ?_⟩), fun h8 => ⟨fun hb1 => take hz (by omega) (fun q => absurd hb1 q), fun hb1 => ⟨ni, ?_⟩⟩⟩⟩⟩
      · rcases hb with ⟨hb1, hb⟩ | ⟨g1, g2, g3, g4, g5⟩
        · exact absurd hb1 hb'
        · omega
      · rcases hb with ⟨hb2, hb⟩ | ⟨g1, g2, g3, g4, g5⟩
        · exact absurd hb2 hb1
        · have xb : ix (iI b) = b.toNat := by rw [iI_ix (by omega) (by omega)]
          have bi : vp_in (iI b) 36 := (iI_in (by omega) (by omega)).mpr ⟨by omega, by omega⟩
          have m1 := zz_lo S 81 b.toNat
          have m2 := zz_hi S 81 b.toNat
          have ec : S 81 b.toNat ≤ S 81 n ↔ zz S 81 b.toNat ≤ zz S 81 n := by
            rw [zz_S S 81 b.toNat, zz_S S 81 n]
            exact iI_le (by omega) (by omega) (by omega) (by omega)
          rw [xb, ec]
          exact ⟨bi, fun q => keep (fun _ => ⟨fun q' => absurd q' hb1, fun _ => q⟩), fun q => take hz (by omega) (fun _ => by omega)⟩
  exact ⟨36 + 1, key 36 0 (-1) (by omega) (Or.inl ⟨rfl, fun j hj => absurd hj (by omega)⟩)⟩
