/-! looking back: the loop -/
theorem s_X4_lastUnsettled {S : St} {post : Int32 → St → Prop} (hs : ∀ j, j < 36 → zz S 53 j = 0 ∨ zz S 53 j = 1) (hl : ∀ j, j < 36 → -1000000000 ≤ zz S 52 j) (h0 : (∀ j, j < 36 → zz S 53 j = 0 → zz S 52 j ≤ -1000000000) → post (-1) S) (h1 : ∀ i : Nat, i < 36 → zz S 53 i = 0 → -1000000000 < zz S 52 i → (∀ j, j < 36 → zz S 53 j = 0 → zz S 52 j ≤ zz S 52 i) → post (iI i) S) : wp_X4_lastUnsettled S post := by
  have key : ∀ (d n : Nat) (b m : Int), n + d = 36 → (b = -1 ∧ m = -1000000000 ∧ (∀ j, j < n → zz S 53 j = 0 → zz S 52 j ≤ -1000000000)) ∨ (∃ i : Nat, b = (i : Int) ∧ i < n ∧ zz S 53 i = 0 ∧ m = zz S 52 i ∧ -1000000000 < m ∧ ∀ j, j < n → zz S 53 j = 0 → zz S 52 j ≤ m) → L_X4_lastUnsettled_7 post (d + 1) (iI b) (iI m) (iI n) S := by
    intro d
    induction d with
    | zero =>
      intro n b m hn hx
      show BD_X4_lastUnsettled_7 (L_X4_lastUnsettled_7 post 0) post _ _ _ _
      unfold BD_X4_lastUnsettled_7
      rw [show (36 : Int32) = iI 36 from rfl, iI_le (by omega) (by omega) (by omega) (by omega)]
      refine ⟨fun _ => ?_, fun e => absurd (by omega) e⟩
      rcases hx with ⟨rfl, _, q⟩ | ⟨i, rfl, q1, q2, rfl, q3, q4⟩
      · exact h0 (fun j hj => q j (by omega))
      · exact h1 i (by omega) q2 q3 (fun j hj => q4 j (by omega))
    | succ d ih =>
      intro n b m hn hx
      show BD_X4_lastUnsettled_7 (L_X4_lastUnsettled_7 post (d + 1)) post _ _ _ _
      unfold BD_X4_lastUnsettled_7
      have xn : ix (iI (n : Int)) = n := by rw [iI_ix (by omega) (by omega)]; simp
      have ni : vp_in (iI (n : Int)) 36 := (iI_in (by omega) (by omega)).mpr ⟨by omega, by omega⟩
      have en : iI (n : Int) + 1 = iI ((n + 1 : Nat) : Int) := by rw [show (1 : Int32) = iI 1 from rfl, iI_add]; rfl
      have l1 := zz_hi S 52 n
      have l2 := hl n (by omega)
      have s1 := hs n (by omega)
      have hm : -1000000000 ≤ m ∧ m < 2147483648 := by
        rcases hx with ⟨_, e, _⟩ | ⟨i, _, _, _, e, q, _⟩
        · omega
        · have := zz_hi S 52 i
          omega
      rw [show (36 : Int32) = iI 36 from rfl, iI_le (by omega) (by omega) (by omega) (by omega), xn, en, zz_S S 53 n, zz_S S 52 n, show (0 : Int32) = iI 0 from rfl, iI_eq (by omega) (by omega) (by omega) (by omega), iI_le (by omega) (by omega) (by omega) (by omega)]
      refine ⟨fun q => absurd q (by omega), fun _ => ⟨ni, fun hne => ?_, fun he => ⟨ni, fun hle => ?_, fun hle => ⟨ni, fun v4 e4 => ?_⟩⟩⟩⟩
      · refine ih (n + 1) b m (by omega) ?_
        rcases hx with ⟨q1, q2, q⟩ | ⟨i, q1, q2, q3, q4, q5, q⟩
        · refine Or.inl ⟨q1, q2, fun j hj hz => ?_⟩
          by_cases hjn : j = n
          · rw [hjn] at hz; omega
          · exact q j (by omega) hz
        · refine Or.inr ⟨i, q1, by omega, q3, q4, q5, fun j hj hz => ?_⟩
          by_cases hjn : j = n
          · rw [hjn] at hz; omega
          · exact q j (by omega) hz
      · refine ih (n + 1) b m (by omega) ?_
        rcases hx with ⟨q1, q2, q⟩ | ⟨i, q1, q2, q3, q4, q5, q⟩
        · refine Or.inl ⟨q1, q2, fun j hj hz => ?_⟩
          by_cases hjn : j = n
          · rw [hjn]; omega
          · exact q j (by omega) hz
        · refine Or.inr ⟨i, q1, by omega, q3, q4, q5, fun j hj hz => ?_⟩
          by_cases hjn : j = n
          · rw [hjn]; exact hle
          · exact q j (by omega) hz
      · rw [e4]
        refine ih (n + 1) n (zz S 52 n) (by omega) (Or.inr ⟨n, rfl, by omega, he, rfl, by omega, fun j hj hz => ?_⟩)
        by_cases hjn : j = n
        · rw [hjn]; exact Int.le_refl _
        · rcases hx with ⟨q1, q2, q⟩ | ⟨i, q1, q2, q3, q4, q5, q⟩
          · have := q j (by omega) hz
            omega
          · have := q j (by omega) hz
            omega
  have := key 36 0 (-1) (-1000000000) (by omega) (Or.inl ⟨rfl, rfl, fun j hj => absurd hj (by omega)⟩)
  exact ⟨36 + 1, this⟩
def Db (v : Vw) (p : Nat) (e g : Int) (T : St) : Prop := (∀ j, j < 36 → zz T 53 j = 0 ∨ zz T 53 j = 1) ∧ (∀ j, j < 36 → zz T 52 j = -1000000000 ∨ (((j / 6 : Nat) : Int) < v 0 0 ∧ zz T 52 j ≤ g ∧ g - 240 * (cn (zz T 53) 36 : Int) ≤ zz T 52 j ∧ Bk v p e g ((j / 6 : Nat) : Int) ((j % 6 : Nat) : Int) (zz T 52 j))) ∧ (∀ j, j < 36 → zz T 53 j = 1 → -1000000000 < zz T 52 j ∧ ∀ a c x t, (0 ≤ a ∧ a < v 0 0) → (0 ≤ c ∧ c ≤ 5) → Eg v p ly0 0 a c x 0 ((j / 6 : Nat) : Int) ((j % 6 : Nat) : Int) t → t ≤ zz T 52 j → x ≤ zz T 52 (6 * a.toNat + c.toNat)) ∧ (∀ j k, j < 36 → k < 36 → zz T 53 j = 1 → zz T 53 k = 0 → zz T 52 k ≤ zz T 52 j) ∧ ∀ c : Nat, c < 6 → g ≤ zz T 52 (6 * e.toNat + c)
theorem Db_step {v : Vw} {p i : Nat} {e g : Int} {T T' : St} (hL : Lb v) (hg : -1000000 ≤ g ∧ g ≤ 1000000) (he : 0 ≤ e ∧ e < v 0 0) (h : Db v p e g T) (hi : i < 36) (hz : zz T 53 i = 0) (hl : -1000000000 < zz T 52 i) (hm : ∀ j, j < 36 → zz T 53 j = 0 → zz T 52 j ≤ zz T 52 i) (hR : Bx v p i (zz T 52 i) (up T 53 i 1) T') (hE : ∀ a c x t, (0 ≤ a ∧ a < v 0 0) → (0 ≤ c ∧ c ≤ 5) → Eg v p ly0 0 a c x 0 ((i / 6 : Nat) : Int) ((i % 6 : Nat) : Int) t → t ≤ zz T 52 i → x ≤ zz T' 52 (6 * a.toNat + c.toNat)) : Db v p e g T' ∧ cn (zz T' 53) 36 = cn (zz T 53) 36 + 1 := by
  obtain ⟨d1, d2, d3, d4, d5⟩ := h
  obtain ⟨b0, b0', _⟩ := id hL.1
  have f1 : zz T' 53 i = 1 := by unfold zz; rw [hR.1 53 i (by omega), up_at]; decide
  have f2 : ∀ j, j ≠ i → zz T' 53 j = zz T 53 j := fun j hj => by unfold zz; rw [hR.1 53 j (by omega), up_ne _ _ (by omega)]
  have hcn := cn_up (f := zz T 53) (g := zz T' 53) 36 i hi hz f1 f2
  have hcl := cn_le (zz T 53) 36
  have lab : ∀ j, j < 36 → zz T 52 j ≤ zz T' 52 j ∧ (zz T' 52 j = zz T 52 j ∨ (Ebk v p i (zz T 52 i) j (zz T' 52 j) ∧ zz T 52 i - 240 ≤ zz T' 52 j ∧ zz T' 52 j < zz T 52 i ∧ ((j / 6 : Nat) : Int) < v 0 0)) := fun j hj => by
    have := hR.2 j hj
    have e : zz (up T 53 i 1) 52 j = zz T 52 j := by unfold zz; rw [up_ne _ _ (by omega)]
    rw [e] at this
    exact this
  have ilow : ((i / 6 : Nat) : Int) < v 0 0 ∧ zz T 52 i ≤ g ∧ g - 240 * (cn (zz T 53) 36 : Int) ≤ zz T 52 i ∧ Bk v p e g ((i / 6 : Nat) : Int) ((i % 6 : Nat) : Int) (zz T 52 i) := by
    rcases d2 i hi with q | q
    · omega
    · exact q
  obtain ⟨i1, i2, i3, i4⟩ := ilow
  -- what is settled stays
  have keep : ∀ j, j < 36 → (zz T 53 j = 1 ∨ j = i) → zz T' 52 j = zz T 52 j := fun j hj hs => by
    rcases (lab j hj).2 with q | ⟨_, _, q, _⟩
    · exact q
    · have := (lab j hj).1
      rcases hs with hs | hs
      · have := d4 j i hj hi hs hz
        omega
      · rw [hs] at this q
        omega
  refine ⟨⟨fun j hj => ?_, fun j hj => ?_, fun j hj hs => ?_, fun j k hj hk hs1 hs2 => ?_, fun c hc => ?_⟩, hcn⟩
  · by_cases hji : j = i
    · rw [hji]; exact Or.inr f1
    · rw [f2 j hji]; exact d1 j hj
  · rcases (lab j hj).2 with q | ⟨⟨t, q1, q2⟩, q3, q4, q5⟩
    · rw [q]
      rcases d2 j hj with w | ⟨w1, w2, w3, w4⟩
      · exact Or.inl w
      · exact Or.inr ⟨w1, w2, by omega, w4⟩
    · exact Or.inr ⟨q5, by omega, by omega, Bk_step hL q2 q1 i4⟩
  · by_cases hji : j = i
    · subst hji
      have k := keep j hj (Or.inr rfl)
      rw [k]
      exact ⟨hl, hE⟩
    · rw [f2 j hji] at hs
      have k := keep j hj (Or.inl hs)
      rw [k]
      refine ⟨(d3 j hj hs).1, fun a c x t ha hc hEg ht => ?_⟩
      have := (d3 j hj hs).2 a c x t ha hc hEg ht
      have := (lab (6 * a.toNat + c.toNat) (by omega)).1
      omega
  · have hki : k ≠ i := fun q => by rw [q, f1] at hs2; omega
    rw [f2 k hki] at hs2
    have hk2 := hm k hk hs2
    have hji : zz T' 52 j = zz T 52 j := keep j hj (by
      by_cases q : j = i
      · exact Or.inr q
      · rw [f2 j q] at hs1; exact Or.inl hs1)
    have hij : zz T 52 i ≤ zz T 52 j := by
      by_cases q : j = i
      · rw [q]; exact Int.le_refl _
      · rw [f2 j q] at hs1; exact d4 j i hj hi hs1 hz
    rw [hji]
    rcases (lab k hk).2 with q | ⟨_, _, q, _⟩
    · omega
    · omega
  · have := d5 c hc
    have := (lab (6 * e.toNat + c) (by omega)).1
    omega
/-- what looking back has found -/
def Lk (v : Vw) (p : Nat) (e g : Int) (D : Nat → Int) : Prop := ∀ a c, (0 ≤ a ∧ a < v 0 0) → (0 ≤ c ∧ c ≤ 5) → (D (6 * a.toNat + c.toNat) = -1000000000 ∨ (D (6 * a.toNat + c.toNat) ≤ g ∧ g - 8640 ≤ D (6 * a.toNat + c.toNat) ∧ Bk v p e g a c (D (6 * a.toNat + c.toNat)))) ∧ ∀ x, -1000000000 < x → Bk v p e g a c x → x ≤ D (6 * a.toNat + c.toNat)
theorem Lk_iff {v : Vw} {p : Nat} {e g : Int} {D : Nat → Int} (hL : Lb v) (h : Lk v p e g D) {a c x : Int} (ha : 0 ≤ a ∧ a < v 0 0) (hc : 0 ≤ c ∧ c ≤ 5) (hx : -1000000000 < x) : Bk v p e g a c x ↔ x ≤ D (6 * a.toNat + c.toNat) := by
  obtain ⟨h1, h2⟩ := h a c ha hc
  refine ⟨h2 x hx, fun hle => ?_⟩
  rcases h1 with q | ⟨_, _, q⟩
  · omega
  · exact Bk_early hL q hle
theorem Db_end {v : Vw} {p : Nat} {e g : Int} {T : St} (hL : Lb v) (hp : (p : Int) < v 0 2) (hg : -1000000 ≤ g ∧ g ≤ 1000000) (he : 0 ≤ e ∧ e < v 0 0) (h : Db v p e g T) (hx : ∀ j, j < 36 → zz T 53 j = 0 → zz T 52 j ≤ -1000000000) : Lk v p e g (zz T 52) := by
  obtain ⟨d1, d2, d3, d4, d5⟩ := h
  obtain ⟨b0, b0', _⟩ := id hL.1
  have hcl := cn_le (zz T 53) 36
  intro a c ha hc
  refine ⟨?_, ?_⟩
  · rcases d2 (6 * a.toNat + c.toNat) (by omega) with q | ⟨_, q1, q2, q3⟩
    · exact Or.inl q
    · rw [show (((6 * a.toNat + c.toNat) / 6 : Nat) : Int) = a from by omega, show (((6 * a.toNat + c.toNat) % 6 : Nat) : Int) = c from by omega] at q3
      exact Or.inr ⟨q1, by omega, q3⟩
  · rintro x hx1 ⟨n, c', t, h1, h2⟩
    have key : ∀ n a c x, (0 ≤ a ∧ a < v 0 0) → (0 ≤ c ∧ c ≤ 5) → -1000000000 < x → Rc v p ly0 0 a c x n 0 e c' t → x ≤ zz T 52 (6 * a.toNat + c.toNat) := by
      intro n
      induction n with
      | zero =>
        rintro a c x ha hc hx ⟨_, e1, e2, e3⟩
        have := d5 c.toNat (by omega)
        rw [← e1]
        omega
      | succ n ih =>
        intro a c x ha hc hx1 hR
        obtain ⟨l1, a1, c1, t1, k1, k2⟩ := Rc_uncons _ _ _ _ _ hR
        have hl1 : l1 = 0 := by
          rcases k1 with ⟨_, _, q, _⟩ | ⟨_, _, _, _, _, _, _, q, _⟩
          · exact q
          · exact q
        subst hl1
        have hin := Eg_in hL ha hc k1
        have hpos := Eg_pos hL hp k1
        have hle := ih a1 c1 t1 hin.1 hin.2 (by omega) k2
        have hj : 6 * a1.toNat + c1.toNat < 36 := by omega
        have hs : zz T 53 (6 * a1.toNat + c1.toNat) = 1 := by
          rcases d1 _ hj with q | q
          · have := hx _ hj q
            omega
          · exact q
        have := (d3 _ hj hs).2 a c x t1 ha hc
        rw [show (((6 * a1.toNat + c1.toNat) / 6 : Nat) : Int) = a1 from by omega, show (((6 * a1.toNat + c1.toNat) % 6 : Nat) : Int) = c1 from by omega] at this
        exact this k1 hle
    exact key n a c x ha hc hx1 h1
theorem cn_all {f : Nat → Int} (n : Nat) (h : cn f n = n) (j : Nat) (hj : j < n) : f j ≠ 0 := by
  intro e
  have := cn_lt n j hj e
  omega
theorem Bq_fr {v : Vw} {p : Nat} {S T : St} (h : ∀ c k, c ≠ 52 → c ≠ 53 → T c k = S c k) (hd : Bq v p S) : Bq v p T := by
  obtain ⟨hL, hp, hS, hP⟩ := hd
  have e : ∀ f k, f ≤ 10 → cv T 11 f k = cv S 11 f k := fun f k hf => by unfold cv zz; rw [h _ _ (by omega) (by omega)]
  exact ⟨hL, hp, hS.trans ⟨fun k _ => e _ _ (by omega), fun r _ => ⟨e _ _ (by omega), e _ _ (by omega), e _ _ (by omega)⟩, fun q _ => ⟨e _ _ (by omega), e _ _ (by omega), e _ _ (by omega), e _ _ (by omega)⟩⟩, Pb_congr (e _ _ (by omega)) ⟨e _ _ (by omega), e _ _ (by omega), e _ _ (by omega), e _ _ (by omega), e _ _ (by omega), e _ _ (by omega)⟩ hP⟩
theorem s_X4_lookBack {v : Vw} {p : Nat} {g : Int} {S : St} {post : St → Prop} (hd : Bq v p S) (hg : -1000000 ≤ g ∧ g ≤ 1000000) (h : ∀ T, (∀ c k, c ≠ 52 → c ≠ 53 → T c k = S c k) → Lk v p (v 4 p) g (zz T 52) → post T) : wp_X4_lookBack (iI p) (iI g) S post := by
  obtain ⟨hL, hp, hS, hP⟩ := id hd
  obtain ⟨b0, b0', b1, b1', b2, b2', _⟩ := id hL.1
  have g4 := hL.2.2 p hp
  have he : 0 ≤ v 4 p ∧ v 4 p < v 0 0 := ⟨g4.1, g4.2.1⟩
  have e15 : zz S 15 p = v 4 p := (hS.2.2 p hp).1
  have xp : ix (iI (p : Int)) = p := by rw [iI_ix (by omega) (by omega)]; simp
  have ip : vp_in (iI (p : Int)) 4 := (iI_in (by omega) (by omega)).mpr ⟨by omega, by omega⟩
  have loop : ∀ (d n : Nat) (T : St), n + d = 36 → cn (zz T 53) 36 = n → (∀ c k, c ≠ 52 → c ≠ 53 → T c k = S c k) → Db v p (v 4 p) g T → L_X4_lookBack_51 post (d + 1) (iI p) (iI n) T := by
    intro d
    induction d with
    | zero =>
      intro n T hn hc oT hD
      show BD_X4_lookBack_51 (L_X4_lookBack_51 post 0) post _ _ _
      unfold BD_X4_lookBack_51
      rw [show (36 : Int32) = iI 36 from rfl, iI_le (by omega) (by omega) (by omega) (by omega)]
      refine ⟨fun _ => h T oT (Db_end hL hp hg he hD (fun j hj hz => absurd hz (cn_all 36 (by omega) j hj))), fun e => absurd (by omega) e⟩
    | succ d ih =>
      intro n T hn hc oT hD
      show BD_X4_lookBack_51 (L_X4_lookBack_51 post (d + 1)) post _ _ _
      unfold BD_X4_lookBack_51
      have en : iI (n : Int) + 1 = iI ((n + 1 : Nat) : Int) := by rw [show (1 : Int32) = iI 1 from rfl, iI_add]; rfl
      rw [show (36 : Int32) = iI 36 from rfl, iI_le (by omega) (by omega) (by omega) (by omega), en]
      refine ⟨fun e => absurd e (by omega), fun _ => ?_⟩
      have hcl := cn_le (zz T 53) 36
      have low : ∀ j, j < 36 → -1000000000 ≤ zz T 52 j := fun j hj => by
        rcases hD.2.1 j hj with q | ⟨_, q1, q2, _⟩ <;> omega
      refine s_X4_lastUnsettled hD.1 low (fun hx => ⟨fun e => absurd rfl e, fun _ => h T oT (Db_end hL hp hg he hD hx)⟩) (fun i hi hz hl hm => ?_)
      have xi : ix (iI (i : Int)) = i := by rw [iI_ix (by omega) (by omega)]; simp
      have ii : vp_in (iI (i : Int)) 36 := (iI_in (by omega) (by omega)).mpr ⟨by omega, by omega⟩
      rw [show (-1 : Int32) = iI (-1) from by decide, iI_eq (by omega) (by omega) (by omega) (by omega), xi]
      refine ⟨fun _ => ⟨ii, fun S5 e5 => ?_⟩, fun e => absurd e (by omega)⟩
      have o5 : ∀ c k, ¬ (c = 53 ∧ k = i) → S5 c k = T c k := fun c k hh => by rw [e5, up_ne _ _ hh]
      have hd5 : Bq v p S5 := Bq_fr (fun c k a1 a2 => by rw [o5 c k (by omega), oT c k a1 a2]) hd
      have z5 : zz S5 52 i = zz T 52 i := by unfold zz; rw [o5 _ _ (by omega)]
      have hib : ((i / 6 : Nat) : Int) < v 0 0 ∧ -900000000 ≤ zz T 52 i ∧ zz T 52 i ≤ 900000000 := by
        rcases hD.2.1 i hi with q | ⟨q0, q1, q2, _⟩ <;> omega
      refine s_X4_spreadBack hd5 hi hib.1 hib.2 z5 ?_
      intro T' hR hE
      rw [e5] at hR
      obtain ⟨hD', hcn⟩ := Db_step hL hg he hD hi hz hl hm hR hE
      exact ih (n + 1) T' (by omega) (by omega) (fun c k a1 a2 => by rw [hR.1 c k a1, up_ne _ _ (by omega), oT c k a1 a2]) hD'
  have fill : ∀ (d n : Nat) (T : St), n + d = 36 → (∀ c k, c ≠ 52 → c ≠ 53 → T c k = S c k) → (∀ j, j < n → zz T 53 j = 0 ∧ zz T 52 j = if ((j / 6 : Nat) : Int) = v 4 p then g else -1000000000) → L_X4_lookBack_2 post (d + 1) (iI p) (iI g) (iI n) T := by
    intro d
    induction d with
    | zero =>
      intro n T hn oT hj
      show BD_X4_lookBack_2 (L_X4_lookBack_2 post 0) post _ _ _ _
      unfold BD_X4_lookBack_2
      rw [show (36 : Int32) = iI 36 from rfl, iI_le (by omega) (by omega) (by omega) (by omega)]
      refine ⟨fun _ => ⟨36 + 1, ?_⟩, fun e => absurd (by omega) e⟩
      rw [show (0 : Int32) = iI ((0 : Nat) : Int) from rfl]
      have hc0 : cn (zz T 53) 36 = 0 := cn_0 36 (fun j hj2 => (hj j (by omega)).1)
      refine loop 36 0 T (by omega) hc0 oT ⟨fun j h1 => Or.inl (hj j (by omega)).1, fun j h1 => ?_, fun j h1 h2 => ?_, fun j k h1 _ h2 => ?_, fun c hc => ?_⟩
      · rw [(hj j (by omega)).2, hc0]
        split
        · next q =>
          refine Or.inr ⟨by omega, by omega, by omega, 0, ((j % 6 : Nat) : Int), g, ⟨rfl, q.symm, rfl, rfl⟩, by omega⟩
        · exact Or.inl rfl
      · have := (hj j (by omega)).1
        omega
      · have := (hj j (by omega)).1
        omega
      · rw [(hj _ (by omega)).2, if_pos (by omega)]
        omega
    | succ d ih =>
      intro n T hn oT hj
      show BD_X4_lookBack_2 (L_X4_lookBack_2 post (d + 1)) post _ _ _ _
      unfold BD_X4_lookBack_2
      have xn : ix (iI (n : Int)) = n := by rw [iI_ix (by omega) (by omega)]; simp
      have ni : vp_in (iI (n : Int)) 36 := (iI_in (by omega) (by omega)).mpr ⟨by omega, by omega⟩
      have en : iI (n : Int) + 1 = iI ((n + 1 : Nat) : Int) := by rw [show (1 : Int32) = iI 1 from rfl, iI_add]; rfl
      have e6 : iI (n : Int) / 6 = iI ((n / 6 : Nat) : Int) := by rw [show (6 : Int32) = iI 6 from rfl, iI_div (by omega) (by omega) (by omega) (by omega)]; rfl
      rw [show (36 : Int32) = iI 36 from rfl, iI_le (by omega) (by omega) (by omega) (by omega), xp, xn, en, e6, oT 15 p (by omega) (by omega), zz_S S 15 p, e15, iI_eq (by omega) (by omega) (by omega) (by omega)]
      have go : ∀ (T3 T5 : St) (z : Int), T3 = up T 52 n (iI z) → T5 = up T3 53 n 0 → -2147483648 ≤ z → z < 2147483648 → (z = if ((n / 6 : Nat) : Int) = v 4 p then g else -1000000000) → L_X4_lookBack_2 post (d + 1) (iI p) (iI g) (iI ((n + 1 : Nat) : Int)) T5 := by
        intro T3 T5 z e3 e5 z1 z2 hz
        refine ih (n + 1) T5 (by omega) (fun c k a1 a2 => by rw [e5, up_ne _ _ (by omega), e3, up_ne _ _ (by omega), oT c k a1 a2]) (fun j h1 => ?_)
        by_cases hjn : j = n
        · subst hjn
          refine ⟨by unfold zz; rw [e5, up_at]; decide, ?_⟩
          rw [← hz]
          exact zz_iI (by rw [e5, up_ne _ _ (by omega), e3, up_at]) z1 z2
        · have := hj j (by omega)
          refine ⟨?_, ?_⟩
          · rw [← this.1]; unfold zz; rw [e5, up_ne _ _ (by omega), e3, up_ne _ _ (by omega)]
          · rw [← this.2]; unfold zz; rw [e5, up_ne _ _ (by omega), e3, up_ne _ _ (by omega)]
      refine ⟨fun q => absurd q (by omega), fun _ => ⟨ip, fun hne => ⟨ni, fun S3 e3 => ⟨ni, fun S5 e5 => ?_⟩⟩, fun heq => ⟨ni, fun S3 e3 => ⟨ni, fun S5 e5 => ?_⟩⟩⟩⟩
      · exact go S3 S5 (-1000000000) (e3.trans (by rw [show (-1000000000 : Int32) = iI (-1000000000) from by decide])) e5 (by omega) (by omega) (by rw [if_neg hne])
      · exact go S3 S5 g e3 e5 (by omega) (by omega) (by rw [if_pos heq])
  have := fill 36 0 S (by omega) (fun _ _ _ _ => rfl) (fun j hj => absurd hj (by omega))
  exact ⟨36 + 1, this⟩
