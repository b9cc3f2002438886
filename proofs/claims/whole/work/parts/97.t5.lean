/-! the text: the reference's pieces -/
def Tx (L : Nat → Int) (n : Nat) (T : St) : Prop := T 71 2 = iI (n : Int) ∧ n ≤ 250 ∧ ∀ j, j < n → T 72 j = iI (L j) ∧ 0 ≤ L j ∧ L j ≤ 255
def ty (z : Int) : Int := if z = 59 then 3 else if z = 112 ∨ z = 114 ∨ z = 109 ∨ z = 99 then 1 else 4
def Tk (L : Nat → Int) (n s : Nat) (T : St) : Prop := T 71 5 = iI (s : Int) ∧ s ≤ n ∧ ((s = n ∧ T 71 4 = iI 0) ∨ (s < n ∧ fig (L s) ∧ ∃ e, DgS L n s e ∧ T 71 4 = iI 2 ∧ T 71 3 = iI (e : Int) ∧ T 71 6 = iI (VlF L s (e - s)) ∧ T 71 7 = iI ((e - s : Nat) : Int)) ∨ (s < n ∧ ¬ fig (L s) ∧ T 71 4 = iI (ty (L s)) ∧ T 71 3 = iI ((s + 1 : Nat) : Int) ∧ T 71 6 = iI (L s)))
theorem Tk_fr {L : Nat → Int} {n s : Nat} {S T : St} (h : Tk L n s S) (hT : ∀ k, 3 ≤ k → k ≤ 7 → T 71 k = S 71 k) : Tk L n s T := by
  obtain ⟨h1, h2, h3⟩ := h
  refine ⟨by rw [hT _ (by omega) (by omega)]; exact h1, h2, ?_⟩
  rcases h3 with ⟨q1, q2⟩ | ⟨q1, q2, e, q3, q4, q5, q6, q7⟩ | ⟨q1, q2, q3, q4, q5⟩
  · exact Or.inl ⟨q1, by rw [hT _ (by omega) (by omega)]; exact q2⟩
  · exact Or.inr (Or.inl ⟨q1, q2, e, q3, by rw [hT _ (by omega) (by omega)]; exact q4, by rw [hT _ (by omega) (by omega)]; exact q5, by rw [hT _ (by omega) (by omega)]; exact q6, by rw [hT _ (by omega) (by omega)]; exact q7⟩)
  · exact Or.inr (Or.inr ⟨q1, q2, by rw [hT _ (by omega) (by omega)]; exact q3, by rw [hT _ (by omega) (by omega)]; exact q4, by rw [hT _ (by omega) (by omega)]; exact q5⟩)
def aF (S T : St) : Prop := ∀ c k, ¬ (c = 71 ∧ 3 ≤ k ∧ k ≤ 7) → T c k = S c k
theorem Tx_fr {L : Nat → Int} {n : Nat} {S T : St} (h : Tx L n S) (hT : ∀ c k, ¬ (c = 71 ∧ 3 ≤ k) → ¬ (73 ≤ c) → T c k = S c k) : Tx L n T := by
  obtain ⟨h1, h2, h3⟩ := h
  exact ⟨by rw [hT _ _ (by omega) (by omega)]; exact h1, h2, fun j hj => by rw [hT _ _ (by omega) (by omega)]; exact h3 j hj⟩
theorem s_X8_letterAt {L : Nat → Int} {n j : Nat} {S : St} {post : Int32 → St → Prop} (hT : Tx L n S) (hj : j ≤ n) (h1 : j < n → post (iI (L j)) S) (h0 : ¬ j < n → post (-1) S) : wp_X8_letterAt (iI (j : Int)) S post := by
  obtain ⟨k1, k2, k3⟩ := hT
  unfold wp_X8_letterAt
  have xj : ix (iI (j : Int)) = j := by rw [iI_ix (by omega) (by omega)]; simp
  rw [k1, iI_le (by omega) (by omega) (by omega) (by omega), xj]
  refine ⟨fun q => h0 (by omega), fun q => ⟨(iI_in (by omega) (by omega)).mpr ⟨by omega, by omega⟩, ?_⟩⟩
  rw [(k3 j (by omega)).1]
  exact h1 (by omega)
theorem s_adv_71 {L : Nat → Int} {n s : Nat} {S : St} {post : St → Prop} (hT : Tx L n S) (h5 : S 71 5 = iI (s : Int)) (hs : s < n) (hfs : fig (L s)) (h : ∀ T, Tk L n s T → aF S T → post T) : ∀ (d y : Nat) (T : St), y + d = n → s ≤ y → aF S T → T 71 5 = iI (s : Int) → T 71 3 = iI (y : Int) → T 71 6 = iI (VlF L s (y - s)) → (∀ j, s ≤ j → j < y → fig (L j)) → L_X8_advances_71 post (d + 1) T := by
  have n250 := hT.2.1
  have stop : ∀ (y : Nat) (T : St), s ≤ y → y ≤ n → aF S T → T 71 5 = iI (s : Int) → T 71 3 = iI (y : Int) → T 71 6 = iI (VlF L s (y - s)) → (∀ j, s ≤ j → j < y → fig (L j)) → (y < n → ¬ fig (L y)) → B_X8_advances_145 post T := by
    intro y T hsy hyn hF q5 q3 q6 hj hny
    unfold B_X8_advances_145
    intro S1 e1 S2 e2
    rw [q3, q5, iI_sub, show (y : Int) - (s : Int) = ((y - s : Nat) : Int) from by omega] at e1
    have o2 : ∀ c k, ¬ (c = 71 ∧ (k = 7 ∨ k = 4)) → S2 c k = T c k := fun c k hh => by rw [e2, up_ne _ _ (by omega), e1, up_ne _ _ (by omega)]
    refine h S2 ⟨by rw [o2 _ _ (by omega)]; exact q5, by omega, Or.inr (Or.inl ⟨hs, hfs, y, ⟨hsy, hyn, hj, hny⟩, by rw [e2, up_at]; rfl, by rw [o2 _ _ (by omega)]; exact q3, by rw [o2 _ _ (by omega)]; exact q6, by rw [e2, up_ne _ _ (by omega), e1, up_at]⟩)⟩ (fun c k hh => by rw [o2 c k (by omega), hF c k hh])
  intro d
  induction d with
  | zero =>
    intro y T hy hsy hF q5 q3 q6 hj
    show BD_X8_advances_71 (L_X8_advances_71 post 0) post _
    unfold BD_X8_advances_71
    rw [q3]
    have hTT : Tx L n T := Tx_fr hT (fun c k a1 a2 => hF c k (by omega))
    refine s_X8_letterAt hTT (by omega) (fun q => absurd q (by omega)) (fun _ => ?_)
    rw [show (-1 : Int32) = iI (-1) from by decide, show (48 : Int32) = iI 48 from rfl, show (57 : Int32) = iI 57 from rfl]
    refine s_X8_in (by omega) (by omega) (by omega) (by omega) (by omega) (by omega) (fun q => absurd q (by omega)) (fun _ => ⟨fun _ => stop y T hsy (by omega) hF q5 q3 q6 hj (fun q => absurd q (by omega)), fun q => absurd rfl q⟩)
  | succ d ih =>
    intro y T hy hsy hF q5 q3 q6 hj
    show BD_X8_advances_71 (L_X8_advances_71 post (d + 1)) post _
    unfold BD_X8_advances_71
    have hTT : Tx L n T := Tx_fr hT (fun c k a1 a2 => hF c k (by omega))
    obtain ⟨w1, w2, w3⟩ := hTT.2.2 y (by omega)
    have vb := VlF_b (L := L) (s := s) (y - s) (fun j g1 g2 => hj j g1 (by omega))
    have en : iI (y : Int) + 1 = iI ((y + 1 : Nat) : Int) := by rw [show (1 : Int32) = iI 1 from rfl, iI_add]; rfl
    rw [q3]
    refine s_X8_letterAt hTT (by omega) (fun _ => ?_) (fun q => absurd (by omega) q)
    rw [show (48 : Int32) = iI 48 from rfl, show (57 : Int32) = iI 57 from rfl]
    refine s_X8_in (by omega) (by omega) (by omega) (by omega) (by omega) (by omega) (fun g1 g2 => ⟨fun q => absurd q (by decide), fun _ => ?_⟩) (fun hno => ⟨fun _ => stop y T hsy (by omega) hF q5 q3 q6 hj (fun _ => hno), fun q => absurd rfl q⟩)
    have hj' : ∀ j, s ≤ j → j < y + 1 → fig (L j) := fun j g1' g2' => by
      by_cases e : j = y
      · rw [e]; exact ⟨g1, g2⟩
      · exact hj j g1' (by omega)
    have es : y + 1 - s = (y - s) + 1 := by omega
    have goOn : ∀ (T7 T8 : St) (u : Int), T7 = up T 71 6 (iI u) → T8 = up T7 71 3 ((T7 71 3) + 1) → u = VlF L s (y + 1 - s) → L_X8_advances_71 post (d + 1) T8 := by
      intro T7 T8 u e7 e8 hu
      rw [e7, up_ne _ _ (by omega), q3, en] at e8
      exact ih (y + 1) T8 (by omega) (by omega) (fun c k hh => by rw [e8, up_ne _ _ (by omega), up_ne _ _ (by omega), hF c k hh]) (by rw [e8, up_ne _ _ (by omega), up_ne _ _ (by omega)]; exact q5) (by rw [e8, up_at]) (by rw [e8, up_ne _ _ (by omega), up_at, hu]) hj'
    rw [q3, q5, q6, iI_sub, show (3 : Int32) = iI 3 from rfl, iI_le (by omega) (by omega) (by omega) (by omega)]
    refine ⟨fun h3 S7 e7 S8 e8 => goOn S7 S8 _ e7 e8 ?_, fun h3 => s_X8_letterAt hTT (by omega) (fun _ S11 e11 S12 e12 => ?_) (fun q => absurd (by omega) q)⟩
    · rw [es]
      show _ = (if y - s < 3 then VlF L s (y - s) * 10 + L (s + (y - s)) - 48 else VlF L s (y - s))
      rw [if_neg (by omega)]
    · rw [show (10 : Int32) = iI 10 from rfl, iI_mul, iI_add, iI_sub] at e11
      refine goOn S11 S12 _ e11 e12 ?_
      rw [es]
      show _ = (if y - s < 3 then VlF L s (y - s) * 10 + L (s + (y - s)) - 48 else VlF L s (y - s))
      rw [if_pos (by omega), show s + (y - s) = y from by omega]
      omega
theorem s_adv_26 {L : Nat → Int} {n s : Nat} {S : St} {post : St → Prop} (hT : Tx L n S) (h3 : S 71 3 = iI (s : Int)) (hs : s ≤ n) (h : ∀ T, Tk L n s T → aF S T → post T) : B_X8_advances_26 post S := by
  have n250 := hT.2.1
  unfold B_X8_advances_26
  intro S1 e1
  rw [h3] at e1
  have o1 : ∀ c k, ¬ (c = 71 ∧ k = 5) → S1 c k = S c k := fun c k hh => by rw [e1, up_ne _ _ hh]
  have f3 : S1 71 3 = iI (s : Int) := by rw [o1 _ _ (by omega)]; exact h3
  have f5 : S1 71 5 = iI (s : Int) := by rw [e1, up_at]
  have hT1 : Tx L n S1 := Tx_fr hT (fun c k a1 a2 => o1 c k (by omega))
  have en : iI (s : Int) + 1 = iI ((s + 1 : Nat) : Int) := by rw [show (1 : Int32) = iI 1 from rfl, iI_add]; rfl
  rw [f3]
  refine s_X8_letterAt hT1 hs (fun hlt => ?_) (fun hge => ?_)
  · obtain ⟨w1, w2, w3⟩ := hT1.2.2 s hlt
    rw [show (0 : Int32) = iI 0 from rfl, iI_le (by omega) (by omega) (by omega) (by omega), show (48 : Int32) = iI 48 from rfl, show (57 : Int32) = iI 57 from rfl]
    refine ⟨fun _ => ?_, fun q => absurd w2 q⟩
    refine s_X8_in (by omega) (by omega) (by omega) (by omega) (by omega) (by omega) (fun g1 g2 => ⟨fun q => absurd q (by decide), fun _ S21 e21 => ?_⟩) (fun hno => ⟨fun _ S8 e8 S9 e9 => ?_, fun q => absurd rfl q⟩)
    · have o21 : ∀ c k, ¬ (c = 71 ∧ k = 6) → S21 c k = S1 c k := fun c k hh => by rw [e21, up_ne _ _ hh]
      refine ⟨(n - s) + 1, ?_⟩
      refine s_adv_71 (S := S21) (Tx_fr hT1 (fun c k a1 a2 => o21 c k (by omega))) (by rw [o21 _ _ (by omega)]; exact f5) hlt ⟨g1, g2⟩ (fun T hk hF => h T hk (fun c k hh => by rw [hF c k hh, o21 c k (by omega), o1 c k (by omega)])) (n - s) s S21 (by omega) (Nat.le_refl _) (fun _ _ _ => rfl) (by rw [o21 _ _ (by omega)]; exact f5) (by rw [o21 _ _ (by omega)]; exact f3) ?_ (fun j g1 g2 => absurd g2 (by omega))
      rw [e21, up_at, show s - s = 0 from by omega]
      rfl
    · rw [f3, en] at e8
      have o9 : ∀ c k, ¬ (c = 71 ∧ (k = 3 ∨ k = 6)) → S9 c k = S1 c k := fun c k hh => by rw [e9, up_ne _ _ (by omega), e8, up_ne _ _ (by omega)]
      have fin : ∀ (T : St) (t : Int), T = up S9 71 4 (iI t) → t = ty (L s) → post T := by
        intro T t e ht
        have oT : ∀ c k, ¬ (c = 71 ∧ k = 4) → T c k = S9 c k := fun c k hh => by rw [e, up_ne _ _ hh]
        refine h T ⟨by rw [oT _ _ (by omega), o9 _ _ (by omega)]; exact f5, hs, Or.inr (Or.inr ⟨hlt, hno, by rw [e, up_at, ht], by rw [oT _ _ (by omega), e9, up_ne _ _ (by omega), e8, up_at], by rw [oT _ _ (by omega), e9, up_at]⟩)⟩ (fun c k hh => by rw [oT c k (by omega), o9 c k (by omega), o1 c k (by omega)])
      have ety : ∀ z : Int, ty z = if z = 59 then 3 else if z = 112 ∨ z = 114 ∨ z = 109 ∨ z = 99 then 1 else 4 := fun z => rfl
      rw [show (59 : Int32) = iI 59 from rfl, show (112 : Int32) = iI 112 from rfl, show (114 : Int32) = iI 114 from rfl, show (109 : Int32) = iI 109 from rfl, show (99 : Int32) = iI 99 from rfl, iI_eq (by omega) (by omega) (by omega) (by omega), iI_eq (by omega) (by omega) (by omega) (by omega), iI_eq (by omega) (by omega) (by omega) (by omega), iI_eq (by omega) (by omega) (by omega) (by omega), iI_eq (by omega) (by omega) (by omega) (by omega)]
      refine ⟨fun h59 => ⟨fun q S12 e12 => fin S12 1 e12 ?_, fun q1 => ⟨fun q S14 e14 => fin S14 1 e14 ?_, fun q2 => ⟨fun q S16 e16 => fin S16 1 e16 ?_, fun q3 => ⟨fun q S18 e18 => fin S18 4 e18 ?_, fun q S19 e19 => fin S19 1 e19 ?_⟩⟩⟩⟩, fun h59 S20 e20 => fin S20 3 e20 ?_⟩
      · rw [ety, if_neg h59, if_pos (Or.inl q)]
      · rw [ety, if_neg h59, if_pos (Or.inr (Or.inl q))]
      · rw [ety, if_neg h59, if_pos (Or.inr (Or.inr (Or.inl q)))]
      · rw [ety, if_neg h59, if_neg (by omega)]
      · rw [ety, if_neg h59, if_pos (Or.inr (Or.inr (Or.inr q)))]
      · rw [ety, if_pos h59]
  · refine ⟨fun q => absurd q (by decide), fun _ S22 e22 => ?_⟩
    have o22 : ∀ c k, ¬ (c = 71 ∧ k = 4) → S22 c k = S1 c k := fun c k hh => by rw [e22, up_ne _ _ hh]
    exact h S22 ⟨by rw [o22 _ _ (by omega)]; exact f5, hs, Or.inl ⟨by omega, by rw [e22, up_at]; rfl⟩⟩ (fun c k hh => by rw [o22 c k (by omega), o1 c k (by omega)])
theorem s_X8_advances {L : Nat → Int} {n y : Nat} {S : St} {post : St → Prop} (hT : Tx L n S) (h3 : S 71 3 = iI (y : Int)) (hy : y ≤ n) (h : ∀ T s, PbS L n y s → Tk L n s T → aF S T → post T) : wp_X8_advances S post := by
  have n250 := hT.2.1
  have key : ∀ (d x : Nat) (T : St), x + d = n → y ≤ x → T 71 3 = iI (x : Int) → (∀ c k, ¬ (c = 71 ∧ k = 3) → T c k = S c k) → (∀ j, y ≤ j → j < x → L j = 32) → L_X8_advances_0 post (d + 1) T := by
    intro d
    induction d with
    | zero =>
      intro x T hx hyx q3 oT hj
      show BD_X8_advances_0 (L_X8_advances_0 post 0) post _
      unfold BD_X8_advances_0
      have hTT : Tx L n T := Tx_fr hT (fun c k a1 a2 => oT c k (by omega))
      rw [q3]
      refine s_X8_letterAt hTT (by omega) (fun q => absurd q (by omega)) (fun _ => ⟨fun _ => ?_, fun q => absurd q (by decide)⟩)
      exact s_adv_26 hTT q3 (by omega) (fun T' hk hF => h T' x ⟨hyx, by omega, hj, fun q => absurd q (by omega)⟩ hk (fun c k hh => by rw [hF c k hh, oT c k (by omega)]))
    | succ d ih =>
      intro x T hx hyx q3 oT hj
      show BD_X8_advances_0 (L_X8_advances_0 post (d + 1)) post _
      unfold BD_X8_advances_0
      have hTT : Tx L n T := Tx_fr hT (fun c k a1 a2 => oT c k (by omega))
      obtain ⟨w1, w2, w3⟩ := hTT.2.2 x (by omega)
      have en : iI (x : Int) + 1 = iI ((x + 1 : Nat) : Int) := by rw [show (1 : Int32) = iI 1 from rfl, iI_add]; rfl
      rw [q3]
      refine s_X8_letterAt hTT (by omega) (fun _ => ?_) (fun q => absurd (by omega) q)
      rw [show (32 : Int32) = iI 32 from rfl, iI_eq (by omega) (by omega) (by omega) (by omega)]
      refine ⟨fun hne => s_adv_26 hTT q3 (by omega) (fun T' hk hF => h T' x ⟨hyx, by omega, hj, fun _ => hne⟩ hk (fun c k hh => by rw [hF c k hh, oT c k (by omega)])), fun heq S4 e4 => ?_⟩
      rw [q3, en] at e4
      refine ih (x + 1) S4 (by omega) (by omega) (by rw [e4, up_at]) (fun c k hh => by rw [e4, up_ne _ _ hh, oT c k hh]) (fun j g1 g2 => ?_)
      by_cases e : j = x
      · rw [e]; exact heq
      · exact hj j g1 (by omega)
  exact ⟨(n - y) + 1, key (n - y) y S (by omega) (Nat.le_refl _) h3 (fun _ _ _ => rfl) (fun j g1 g2 => absurd g2 (by omega))⟩
theorem s_X8_isWell {S : St} {post : Int32 → St → Prop} (h1 : S 71 8 = 0 → post 1 S) (h0 : ¬ S 71 8 = 0 → post 0 S) : wp_X8_isWell S post := ⟨h0, h1⟩
theorem s_X8_fails {c : Int32} {s : Nat} {S : St} {post : St → Prop} (h8 : S 71 8 = 0) (h5 : S 71 5 = iI (s : Int)) (h : ∀ T, T 71 8 = c → T 71 9 = iI (s : Int) → (∀ c k, ¬ (c = 71 ∧ (k = 8 ∨ k = 9)) → T c k = S c k) → post T) : wp_X8_fails c S post := by
  unfold wp_X8_fails
  refine s_X8_isWell (fun _ => ⟨fun q => absurd q (by decide), fun _ S4 e4 S5 e5 => ?_⟩) (fun q => absurd h8 q)
  rw [e4, up_ne _ _ (by omega), h5] at e5
  exact h S5 (by rw [e5, up_ne _ _ (by omega), up_at]) (by rw [e5, up_at]) (fun c k hh => by rw [e5, up_ne _ _ (by omega), up_ne _ _ (by omega)])
theorem s_X8_fails_bad {c : Int32} {S : St} {post : St → Prop} (h8 : ¬ S 71 8 = 0) (h : post S) : wp_X8_fails c S post := by
  unfold wp_X8_fails
  exact s_X8_isWell (fun q => absurd q h8) (fun _ => ⟨fun _ => h, fun q => absurd rfl q⟩)
theorem s_number_77_bad {r : Int32} {S : St} {post : Int32 → St → Prop} (h8 : ¬ S 71 8 = 0) (h : post r S) : B_X8_number_77 post r S := by
  unfold B_X8_number_77
  exact s_X8_isWell (fun q => absurd q h8) (fun _ => ⟨fun _ => h, fun q => absurd rfl q⟩)
theorem s_number_wb {x : Int32} {S : St} {post : Int32 → St → Prop} (h8 : ¬ S 71 8 = 0) (h : ∀ r, post r S) : wp_X8_isWell S (fun r3 S2 => ((r3 = 0 → B_X8_number_77 post x S2) ∧ (¬ r3 = 0 → B_X8_number_77 post (S2 71 6) S2))) := s_X8_isWell (fun q => absurd q h8) (fun _ => ⟨fun _ => s_number_77_bad h8 (h _), fun q => absurd rfl q⟩)
theorem s_X8_number_bad {x1 x2 x3 x4 : Int32} {S : St} {post : Int32 → St → Prop} (h8 : ¬ S 71 8 = 0) (h : ∀ r, post r S) : wp_X8_number x1 x2 x3 x4 S post := by
  have b36 : B_X8_number_36 post x1 S := by
    unfold B_X8_number_36
    exact s_X8_fails_bad h8 (s_number_wb h8 h)
  have b57 : B_X8_number_57 post x1 S := by
    unfold B_X8_number_57
    exact s_X8_fails_bad h8 (s_number_wb h8 h)
  unfold wp_X8_number
  refine ⟨fun _ => ⟨fun _ => b36, fun _ => ?_⟩, fun _ => s_X8_fails_bad h8 (s_number_wb h8 h)⟩
  have any : ∀ r : Int32, ((¬ r = 0 → (((S 71 6) = x3 → B_X8_number_57 post x1 S) ∧ (¬ (S 71 6) = x3 → ((x4 = 0 → wp_X8_isWell S (fun r9 S8 => ((r9 = 0 → B_X8_number_77 post x1 S8) ∧ (¬ r9 = 0 → B_X8_number_77 post (S8 71 6) S8)))) ∧ (¬ x4 = 0 → B_X8_number_57 post x1 S))))) ∧ (r = 0 → B_X8_number_36 post x1 S)) := fun r => ⟨fun _ => ⟨fun _ => b57, fun _ => ⟨fun _ => s_number_wb h8 h, fun _ => b57⟩⟩, fun _ => b36⟩
  unfold wp_X8_in
  exact ⟨fun _ => any _, fun _ => ⟨fun _ => any _, fun _ => any _⟩⟩
/-- the reference takes a number: it goes on, or stands with a fault -/
theorem s_X8_number {L : Nat → Int} {n x s : Nat} {lo hi nt : Int} {bd : Int32} {S : St} {post : Int32 → St → Prop} (hlo : -1000 ≤ lo ∧ lo ≤ 1000) (hhi : -1000 ≤ hi ∧ hi ≤ 1000) (hnt : -1000 ≤ nt ∧ nt ≤ 1000) (hT : Tx L n S) (h8 : S 71 8 = 0) (hPb : PbS L n x s) (hTk : Tk L n s S) (hbad : ∀ T c, NBad L n lo hi x c s → (c = 1 ∨ c = 2) → T 71 8 = iI c → T 71 9 = iI (s : Int) → (∀ c k, ¬ (c = 71 ∧ (k = 8 ∨ k = 9)) → T c k = S c k) → ∀ r, post r T) (hdup : ∀ T V e, NOk L n lo hi x V e s → (V = nt ∨ ¬ bd = 0) → T 71 8 = iI 4 → T 71 9 = iI (s : Int) → (∀ c k, ¬ (c = 71 ∧ (k = 8 ∨ k = 9)) → T c k = S c k) → ∀ r, post r T) (hok : ∀ T V e s', NOk L n lo hi x V e s → V ≠ nt → bd = 0 → PbS L n e s' → Tk L n s' T → aF S T → post (iI V) T) : wp_X8_number (iI lo) (iI hi) (iI nt) bd S post := by
  obtain ⟨t5, ts, tc⟩ := id hTk
  have n250 := hT.2.1
  have stop : ∀ (c : Int) (c' : Int32), c' = iI c → (∀ T, T 71 8 = iI c → T 71 9 = iI (s : Int) → (∀ c k, ¬ (c = 71 ∧ (k = 8 ∨ k = 9)) → T c k = S c k) → ∀ r, post r T) → (c = 1 ∨ c = 2 ∨ c = 4) → wp_X8_fails c' S (fun S11 => wp_X8_isWell S11 (fun r13 S12 => ((r13 = 0 → B_X8_number_77 post (iI lo) S12) ∧ (¬ r13 = 0 → B_X8_number_77 post (S12 71 6) S12)))) := by
    intro c c' hc' hp hc
    refine s_X8_fails h8 t5 (fun T q8 q9 oT => ?_)
    rw [hc'] at q8
    exact s_number_wb (ne03 (c := c) (by omega) (by omega) q8) (hp T q8 q9 oT)
  unfold wp_X8_number
  rcases tc with ⟨q1, q4⟩ | ⟨q1, qf, e, hD, q4, q3, q6, q7⟩ | ⟨q1, qf, q4, q3, q6⟩
  · rw [q4]
    refine ⟨fun q => absurd q (by decide), fun _ => stop 1 1 rfl (fun T a b c => hbad T 1 ⟨s, hPb, ⟨Nat.le_refl _, ts, fun j g1 g2 => absurd g2 (by omega), fun q => absurd q (by omega)⟩, Or.inl ⟨rfl, rfl⟩⟩ (Or.inl rfl) a b c) (Or.inl rfl)⟩
  · have hes : e ≠ s := fun q => by
      have := hD.2.2.2
      rw [q] at this
      exact this q1 qf
    have hd1 := hD.1
    have hd2 := hD.2.1
    have vb := VlF_b (L := L) (s := s) (e - s) (fun j g1 g2 => hD.2.2.1 j g1 (by omega))
    rw [q4, q6, q7]
    refine ⟨fun _ => ?_, fun q => absurd rfl q⟩
    have two : (3 < e - s ∨ ¬ (lo ≤ VlF L s (e - s) ∧ VlF L s (e - s) ≤ hi)) → B_X8_number_36 post (iI lo) S := by
      intro hq
      unfold B_X8_number_36
      exact stop 2 2 rfl (fun T a b c => hbad T 2 ⟨e, hPb, hD, Or.inr ⟨hes, hq, rfl⟩⟩ (Or.inr rfl) a b c) (Or.inr (Or.inl rfl))
    rw [show (3 : Int32) = iI 3 from rfl, iI_lt (by omega) (by omega) (by omega) (by omega)]
    refine ⟨fun h3 => two (Or.inl (by omega)), fun h3 => ?_⟩
    refine s_X8_in (by omega) (by omega) (by omega) (by omega) (by omega) (by omega) (fun g1 g2 => ⟨fun _ => ?_, fun q => absurd q (by decide)⟩) (fun hno => ⟨fun q => absurd rfl q, fun _ => two (Or.inr hno)⟩)
    have hN : NOk L n lo hi x (VlF L s (e - s)) e s := ⟨hPb, hD, hes, by omega, ⟨g1, g2⟩, rfl⟩
    have four : (VlF L s (e - s) = nt ∨ ¬ bd = 0) → B_X8_number_57 post (iI lo) S := by
      intro hq
      unfold B_X8_number_57
      exact stop 4 4 rfl (fun T a b c => hdup T _ e hN hq a b c) (Or.inr (Or.inr rfl))
    rw [q6, iI_eq (by omega) (by omega) (by omega) (by omega)]
    refine ⟨fun q => four (Or.inl q), fun qn => ⟨fun qb => ?_, fun qb => four (Or.inr qb)⟩⟩
    refine s_X8_isWell (fun _ => ⟨fun q => absurd q (by decide), fun _ => ?_⟩) (fun q => absurd h8 q)
    rw [q6]
    unfold B_X8_number_77
    refine s_X8_isWell (fun _ => ⟨fun q => absurd q (by decide), fun _ => ?_⟩) (fun q => absurd h8 q)
    exact s_X8_advances hT q3 hd2 (fun T s' hPb' hTk' hF => hok T _ e s' hN qn qb hPb' hTk' hF)
  · have hty : ty (L s) = 3 ∨ ty (L s) = 1 ∨ ty (L s) = 4 := by
      unfold ty
      split
      · exact Or.inl rfl
      · split
        · exact Or.inr (Or.inl rfl)
        · exact Or.inr (Or.inr rfl)
    rw [q4, show (2 : Int32) = iI 2 from rfl, iI_eq (by omega) (by omega) (by omega) (by omega)]
    refine ⟨fun q => absurd q (by omega), fun _ => stop 1 1 rfl (fun T a b c => hbad T 1 ⟨s, hPb, ⟨Nat.le_refl _, ts, fun j g1 g2 => absurd g2 (by omega), fun _ => qf⟩, Or.inl ⟨rfl, rfl⟩⟩ (Or.inl rfl) a b c) (Or.inl rfl)⟩
