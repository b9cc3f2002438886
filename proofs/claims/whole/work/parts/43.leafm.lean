/-! small methods of the reference -/
theorem s_X8_in {z a b : Int} {S : St} {post : Int32 → St → Prop} (z1 : -2147483648 ≤ z) (z2 : z < 2147483648) (a1 : -2147483648 ≤ a) (a2 : a < 2147483648) (b1 : -2147483648 ≤ b) (b2 : b < 2147483648) (h1 : a ≤ z → z ≤ b → post 1 S) (h0 : ¬ (a ≤ z ∧ z ≤ b) → post 0 S) : wp_X8_in (iI z) (iI a) (iI b) S post := by
  unfold wp_X8_in
  simp (disch := omega) only [iI_le, iI_lt]
  exact ⟨fun q => h0 (by omega), fun q => ⟨fun q2 => h0 (by omega), fun q2 => h1 (by omega) (by omega)⟩⟩
theorem s_X8_isPlace {z : Int} {S : St} {post : Int32 → St → Prop} (z1 : -2147483648 ≤ z) (z2 : z < 2147483648) (b1 : 0 ≤ zz S 71 10) (h1 : 0 ≤ z → z < zz S 71 10 → post 1 S) (h0 : ¬ (0 ≤ z ∧ z < zz S 71 10) → post 0 S) : wp_X8_isPlace (iI z) S post := by
  have b2 := zz_hi S 71 10
  unfold wp_X8_isPlace
  rw [zz_S S 71 10]
  simp only [iI_add, iI_sub, iI_mul, iI_le, iI_lt, iI_eq, iI_ix, iI_in, iI_neg, iI_lit]
  exact s_X8_in z1 z2 (by omega) (by omega) (by omega) (by omega) (fun q1 q2 => ⟨Or.inr rfl, h1 q1 (by omega)⟩) (fun q => ⟨Or.inl rfl, h0 (by omega)⟩)
theorem s_X8_isRoad {z : Int} {S : St} {post : Int32 → St → Prop} (z1 : -2147483648 ≤ z) (z2 : z < 2147483648) (b1 : 0 ≤ zz S 71 11) (h1 : 0 ≤ z → z < zz S 71 11 → post 1 S) (h0 : ¬ (0 ≤ z ∧ z < zz S 71 11) → post 0 S) : wp_X8_isRoad (iI z) S post := by
  have b2 := zz_hi S 71 11
  unfold wp_X8_isRoad
  rw [zz_S S 71 11]
  simp only [iI_add, iI_sub, iI_mul, iI_le, iI_lt, iI_eq, iI_ix, iI_in, iI_neg, iI_lit]
  exact s_X8_in z1 z2 (by omega) (by omega) (by omega) (by omega) (fun q1 q2 => ⟨Or.inr rfl, h1 q1 (by omega)⟩) (fun q => ⟨Or.inl rfl, h0 (by omega)⟩)
theorem s_X8_isPerson {z : Int} {S : St} {post : Int32 → St → Prop} (z1 : -2147483648 ≤ z) (z2 : z < 2147483648) (b1 : 0 ≤ zz S 71 12) (h1 : 0 ≤ z → z < zz S 71 12 → post 1 S) (h0 : ¬ (0 ≤ z ∧ z < zz S 71 12) → post 0 S) : wp_X8_isPerson (iI z) S post := by
  have b2 := zz_hi S 71 12
  unfold wp_X8_isPerson
  rw [zz_S S 71 12]
  simp only [iI_add, iI_sub, iI_mul, iI_le, iI_lt, iI_eq, iI_ix, iI_in, iI_neg, iI_lit]
  exact s_X8_in z1 z2 (by omega) (by omega) (by omega) (by omega) (fun q1 q2 => ⟨Or.inr rfl, h1 q1 (by omega)⟩) (fun q => ⟨Or.inl rfl, h0 (by omega)⟩)
theorem s_X8_errand {p : Nat} {S : St} {post : Int32 → St → Prop} (hp : p < 4) (h : post (S 74 (5 * p + 1)) S) : wp_X8_errand (iI p) S post := by
  unfold wp_X8_errand
  simp (disch := omega) only [iI_add, iI_sub, iI_mul, iI_le, iI_lt, iI_eq, iI_ix, iI_in, iI_neg, iI_lit]
  rw [show ((5 : Int) * p + 1).toNat = 5 * p + 1 by omega]
  exact ⟨by omega, h⟩
theorem s_X8_due {p : Nat} {S : St} {post : Int32 → St → Prop} (hp : p < 4) (h : post (S 74 (5 * p + 4)) S) : wp_X8_due (iI p) S post := by
  unfold wp_X8_due
  simp (disch := omega) only [iI_add, iI_sub, iI_mul, iI_le, iI_lt, iI_eq, iI_ix, iI_in, iI_neg, iI_lit]
  rw [show ((5 : Int) * p + 4).toNat = 5 * p + 4 by omega]
  exact ⟨by omega, h⟩
theorem s_X8_otherEnd {r a0 : Nat} {a : Int} {S : St} {post : Int32 → St → Prop} (hr : r < 9) (a1 : -2147483648 ≤ a) (a2 : a < 2147483648) (h : post (iI (oth (mz S a0) r a)) S) : wp_X8_otherEnd (iI r) (iI a) S post := by
  have q1 := zz_lo S 73 (3 * r); have q2 := zz_hi S 73 (3 * r); have q3 := zz_lo S 73 (3 * r + 1); have q4 := zz_hi S 73 (3 * r + 1)
  unfold wp_X8_otherEnd
  simp (disch := omega) only [iI_add, iI_sub, iI_mul, iI_le, iI_lt, iI_eq, iI_ix, iI_in, iI_neg, iI_lit]
  rw [show ((3 : Int) * r).toNat = 3 * r by omega, show ((3 : Int) * r + 1).toNat = 3 * r + 1 by omega]
  simp only [zz_S S]
  simp (disch := omega) only [iI_add, iI_sub, iI_mul, iI_le, iI_lt, iI_eq, iI_ix, iI_in, iI_neg, iI_lit]
  refine ⟨by omega, fun h1 => ⟨by omega, fun h2 => ?_, fun h2 => ⟨by omega, ?_⟩⟩, fun h1 => ⟨by omega, ?_⟩⟩
  · rw [oth_3 (v := mz S a0) h1 h2] at h; exact h
  · rw [oth_2 (v := mz S a0) h1 h2] at h; exact h
  · rw [oth_1 (v := mz S a0) h1] at h; exact h
theorem hur_c {v : Vw} {p : Nat} {a t x y : Int} (hx : x = if v 6 p - t < 10 then 1 else 0) (hy : y = if v 6 p - t < 0 then 2 else 0) : v 5 p + v 9 p + bt (v 0 4) a + x + y = hur v p a t := by subst hx; subst hy; rfl
theorem s_X8_hurry {a0 p : Nat} {a t s : Int} {S : St} {post : Int32 → St → Prop} (hH : Hb (mz S a0)) (hP : Pb (mz S a0) p) (hp : p < 4) (ha : 0 ≤ a) (ha2 : a < 6) (ht : -1000000000 ≤ t) (ht2 : t ≤ 1000000000) (hs : 0 ≤ s) (hs2 : s ≤ 1000) (h : post (iI (if hur (mz S a0) p a t < s then 0 else hur (mz S a0) p a t - s)) S) : wp_X8_hurry a0 (iI p) (iI a) (iI t) (iI s) S post := by
  have hb := hur_b a t hP
  obtain ⟨_, _, h1, h2, h3, h4, _, _, _, _, h5, h6⟩ := hP
  obtain ⟨_, _, _, _, _, _, _, _, h7, h8, _, _⟩ := hH
  have e4 := bit_get h7 h8 ha ha2
  have h9 := bt_01 (mz S a0 0 4) a
  have g1 : mz S a0 5 p = zz S 74 (5 * p + 2) := rfl
  have g2 : mz S a0 9 p = zz S a0 (4 * p + 2) := rfl
  have g3 : mz S a0 6 p = zz S 74 (5 * p + 4) := rfl
  have g4 : mz S a0 0 4 = zz S a0 17 := rfl
  rw [g1] at h1 h2
  rw [g2] at h5 h6
  rw [g3] at h3 h4
  rw [g4] at e4
  have fin : ∀ z : Int, z = hur (mz S a0) p a t → B_X8_hurry_69 post a0 (iI s) (iI 0) (iI z) S := by
    intro z hz
    unfold B_X8_hurry_69
    rintro v1 rfl
    simp (disch := omega) only [iI_add, iI_sub, iI_mul, iI_le, iI_lt, iI_eq, iI_ix, iI_in, iI_neg, iI_lit]
    rw [← hz] at h
    constructor
    · intro q
      rw [if_neg (by omega)] at h
      rw [show z + 0 - s = z - s by omega]; exact h
    · intro q
      rw [if_pos (by omega)] at h
      exact h
  have fin2 : ∀ z y : Int, z + y = hur (mz S a0) p a t → B_X8_hurry_69 post a0 (iI s) (iI y) (iI z) S := by
    intro z y hz
    have := fin (z + y) hz
    unfold B_X8_hurry_69 at *
    simpa only [iI_add, Int.add_zero] using this
  have mid : ∀ z x : Int, z = zz S 74 (5 * p + 2) + zz S a0 (4 * p + 2) + bt (mz S a0 0 4) a → (x = if zz S 74 (5 * p + 4) - t < 10 then 1 else 0) → B_X8_hurry_49 post a0 (iI p) (iI t) (iI s) (iI x) (iI z) S := by
    intro z x hz hx
    unfold B_X8_hurry_49
    rintro v1 rfl
    refine s_X8_due hp ?_
    rw [zz_S S 74]
    simp (disch := omega) only [iI_le, iI_add]
    constructor
    · intro q
      refine fin2 _ 0 ?_
      rw [hz]
      exact hur_c (v := mz S a0) hx (by rw [g3, if_neg (by omega)])
    · intro q
      refine fin2 _ 2 ?_
      rw [hz]
      exact hur_c (v := mz S a0) hx (by rw [g3, if_pos (by omega)])
  unfold wp_X8_hurry
  simp (disch := omega) only [iI_add, iI_sub, iI_mul, iI_le, iI_lt, iI_eq, iI_ix, iI_in, iI_neg, iI_lit]
  rw [show ((5 : Int) * p + 2).toNat = 5 * p + 2 by omega, show ((4 : Int) * p + 2).toNat = 4 * p + 2 by omega]
  refine ⟨by omega, by omega, ?_⟩
  rintro v1 rfl
  rw [zz_S S 74, zz_S S a0 (4 * p + 2), zz_S S a0 17]
  have e5 : (iI (zz S a0 17) >>> (iI a &&& 31)) &&& iI 1 = iI (bt (mz S a0 0 4) a) := e4
  refine s_X8_due hp ?_
  rw [zz_S S 74 (5 * p + 4)]
  have e6 : (iI (zz S a0 17) >>> (iI a &&& iI 31)) &&& iI 1 = iI (bt (mz S a0 0 4) a) := e4
  rw [e6]
  simp (disch := omega) only [iI_add, iI_sub, iI_mul, iI_le, iI_lt, iI_eq, iI_ix, iI_in, iI_neg, iI_lit]
  constructor
  · intro q
    exact mid _ 0 rfl (by rw [if_neg (by omega)])
  · intro q
    exact mid _ 1 rfl (by rw [if_pos (by omega)])
theorem s_X8_time {a0 p r : Nat} {a t s : Int} {S : St} {post : Int32 → St → Prop} (hH : Hb (mz S a0)) (hP : Pb (mz S a0) p) (hR : Rb (mz S a0) r) (hp : p < 4) (hr : r < 9) (ha : 0 ≤ a) (ha2 : a < 6) (ht : -1000000000 ≤ t) (ht2 : t ≤ 1000000000) (hs : 0 ≤ s) (hs2 : s ≤ 1000) (h : post (iI (tme (mz S a0) p r a t s)) S) : wp_X8_time a0 (iI p) (iI r) (iI a) (iI t) (iI s) S post := by
  unfold wp_X8_time
  have hb := hur_b a t hP
  obtain ⟨_, _, _, _, _, h3, h4⟩ := hR
  have g : mz S a0 3 r = zz S a0 (18 + r) := rfl
  simp (disch := omega) only [iI_add, iI_sub, iI_mul, iI_le, iI_lt, iI_eq, iI_ix, iI_in, iI_neg, iI_lit]
  rw [show ((18 : Int) + r).toNat = 18 + r by omega]
  refine ⟨by omega, s_X8_hurry hH hP hp ha ha2 ht ht2 hs hs2 ?_⟩
  unfold tme at h
  generalize hx : (if hur (mz S a0) p a t < s then 0 else hur (mz S a0) p a t - s) = x at *
  have hx1 : 0 ≤ x ∧ x ≤ 22 := by rw [← hx]; split <;> omega
  unfold tmh at h
  rw [g] at h h3 h4
  rw [zz_S S a0]
  have h5 : zz S a0 (18 + r) * (2 + x) ≤ 20 * 24 := Int.mul_le_mul h4 (by omega) (by omega) (by omega)
  have h6 : 1 * 2 ≤ zz S a0 (18 + r) * (2 + x) := Int.mul_le_mul h3 (by omega) (by omega) (by omega)
  simp only [iI_add, iI_sub, iI_mul, iI_le, iI_lt, iI_eq, iI_ix, iI_in, iI_neg, iI_lit]
  generalize hy : zz S a0 (18 + r) * (2 + x) = y at *
  rw [iI_div (by omega) (by omega) (by omega) (by omega)]
  exact h
