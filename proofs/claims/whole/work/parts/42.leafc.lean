/-! small methods of the class -/
theorem oth_1 {v : Vw} {r : Nat} {a : Int} (h : v 1 r = a) : oth v r a = v 2 r := if_pos h
theorem oth_2 {v : Vw} {r : Nat} {a : Int} (h : ¬ v 1 r = a) (h2 : v 2 r = a) : oth v r a = v 1 r := (if_neg h).trans (if_pos h2)
theorem oth_3 {v : Vw} {r : Nat} {a : Int} (h : ¬ v 1 r = a) (h2 : ¬ v 2 r = a) : oth v r a = -1 := (if_neg h).trans (if_neg h2)
theorem zz_up (S : St) (c k c' k' : Nat) (v : Int32) : zz (up S c k v) c' k' = if c' = c ∧ k' = k then v.toInt else zz S c' k' := by
  unfold zz up
  split <;> rfl
theorem up_at (S : St) (c k : Nat) (v : Int32) : up S c k v c k = v := by simp [up]
theorem up_ne (S : St) {c k c' k' : Nat} (v : Int32) (h : ¬ (c' = c ∧ k' = k)) : up S c k v c' k' = S c' k' := by simp [up, h]
theorem s_X6_hasRoad {o : Nat} {z : Int} {S : St} {post : Int32 → St → Prop} (z1 : -2147483648 ≤ z) (z2 : z < 2147483648) (h1 : 0 ≤ z → z < zz S o 1 → post 1 S) (h0 : ¬ (0 ≤ z ∧ z < zz S o 1) → post 0 S) : wp_X6_hasRoad o (iI z) S post := by
  have a := zz_lo S o 1; have b := zz_hi S o 1
  unfold wp_X6_hasRoad
  simp only [zz_S S]
  simp (disch := omega) only [iI_add, iI_sub, iI_mul, iI_le, iI_lt, iI_eq, iI_ix, iI_in, iI_neg, iI_lit] at *
  exact ⟨fun q => h0 (by omega), fun q => ⟨fun q2 => h0 (by omega), fun q2 => h1 (by omega) (by omega)⟩⟩
theorem s_X6_hasPerson {o : Nat} {z : Int} {S : St} {post : Int32 → St → Prop} (z1 : -2147483648 ≤ z) (z2 : z < 2147483648) (h1 : 0 ≤ z → z < zz S o 2 → post 1 S) (h0 : ¬ (0 ≤ z ∧ z < zz S o 2) → post 0 S) : wp_X6_hasPerson o (iI z) S post := by
  have a := zz_lo S o 2; have b := zz_hi S o 2
  unfold wp_X6_hasPerson
  simp only [zz_S S]
  simp (disch := omega) only [iI_add, iI_sub, iI_mul, iI_le, iI_lt, iI_eq, iI_ix, iI_in, iI_neg, iI_lit] at *
  exact ⟨fun q => h0 (by omega), fun q => ⟨fun q2 => h0 (by omega), fun q2 => h1 (by omega) (by omega)⟩⟩
theorem s_X6_hasPlace {o : Nat} {z : Int} {S : St} {post : Int32 → St → Prop} (z1 : -2147483648 ≤ z) (z2 : z < 2147483648) (h1 : 0 ≤ z → z < zz S o 0 → post 1 S) (h0 : ¬ (0 ≤ z ∧ z < zz S o 0) → post 0 S) : wp_X6_hasPlace o (iI z) S post := by
  have a := zz_lo S o 0; have b := zz_hi S o 0
  unfold wp_X6_hasPlace
  simp only [zz_S S]
  simp (disch := omega) only [iI_add, iI_sub, iI_mul, iI_le, iI_lt, iI_eq, iI_ix, iI_in, iI_neg, iI_lit] at *
  exact ⟨fun q => h0 (by omega), fun q => ⟨fun q2 => h0 (by omega), fun q2 => h1 (by omega) (by omega)⟩⟩
theorem s_X7_outside {z a b : Int} {S : St} {post : Int32 → St → Prop} (z1 : -2147483648 ≤ z) (z2 : z < 2147483648) (a1 : -2147483648 ≤ a) (a2 : a < 2147483648) (b1 : -2147483648 ≤ b) (b2 : b < 2147483648) (h0 : a ≤ z → z ≤ b → post 0 S) (h1 : ¬ (a ≤ z ∧ z ≤ b) → post 1 S) : wp_X7_outside (iI z) (iI a) (iI b) S post := by
  unfold wp_X7_outside
  simp (disch := omega) only [iI_le, iI_lt]
  exact ⟨fun q => h1 (by omega), fun q => ⟨fun q2 => h0 (by omega) (by omega), fun q2 => h1 (by omega)⟩⟩
theorem s_X6_otherEnd {o r : Nat} {a : Int} {S : St} {post : Int32 → St → Prop} (hr : r < 9) (a1 : -2147483648 ≤ a) (a2 : a < 2147483648) (h : post (iI (oth (cv S o) r a)) S) : wp_X6_otherEnd o (iI r) (iI a) S post := by
  have q1 := zz_lo S (o + 1) r; have q2 := zz_hi S (o + 1) r; have q3 := zz_lo S (o + 2) r; have q4 := zz_hi S (o + 2) r
  unfold wp_X6_otherEnd
  simp only [zz_S S]
  simp (disch := omega) only [iI_add, iI_sub, iI_mul, iI_le, iI_lt, iI_eq, iI_ix, iI_in, iI_neg, iI_lit, Int.toNat_natCast]
  refine ⟨by omega, fun h1 => ⟨by omega, fun h2 => ?_, fun h2 => ⟨by omega, ?_⟩⟩, fun h1 => ⟨by omega, ?_⟩⟩
  · rw [oth_3 h1 h2] at h; exact h
  · rw [oth_2 h1 h2] at h; exact h
  · rw [oth_1 h1] at h; exact h
theorem s_X6_lastsHurried {o r : Nat} {h0 : Int} {S : St} {post : Int32 → St → Prop} (hr : r < 9) (hR : Rb (cv S o) r) (h1 : 0 ≤ h0) (h2 : h0 ≤ 22) (h : post (iI (tmh (cv S o) r h0)) S) : wp_X6_lastsHurried o (iI r) (iI h0) S post := by
  obtain ⟨_, _, _, _, _, h3, h4⟩ := hR
  simp only [cv] at h3 h4
  unfold wp_X6_lastsHurried
  have h5 : zz S (o + 3) r * (2 + h0) ≤ 20 * 24 := Int.mul_le_mul h4 (by omega) (by omega) (by omega)
  have h6 : 1 * 2 ≤ zz S (o + 3) r * (2 + h0) := Int.mul_le_mul h3 (by omega) (by omega) (by omega)
  simp only [zz_S S, tmh, cv] at *
  simp (disch := omega) only [iI_add, iI_sub, iI_mul, iI_le, iI_lt, iI_eq, iI_ix, iI_in, iI_neg, iI_lit, Int.toNat_natCast] at *
  generalize hx : zz S (o + 3) r * (2 + h0) = x at *
  rw [iI_div (by omega) (by omega) (by omega) (by omega)]
  exact ⟨by omega, h⟩
theorem s_X6_lasts {o p r : Nat} {a t s : Int} {S : St} {post : Int32 → St → Prop} (hH : Hb (cv S o)) (hP : Pb (cv S o) p) (hR : Rb (cv S o) r) (hp : p < 4) (hr : r < 9) (ha : 0 ≤ a) (ha2 : a < 6) (ht : -1000000000 ≤ t) (ht2 : t ≤ 1000000000) (hs : 0 ≤ s) (hs2 : s ≤ 1000) (h : post (iI (tme (cv S o) p r a t s)) S) : wp_X6_lasts o (iI p) (iI r) (iI a) (iI t) (iI s) S post := by
  unfold wp_X6_lasts
  refine s_X6_hurry hH hP (by omega) ha ha2 ht ht2 ?_
  have hb := hur_b a t hP
  have e : (if 0 < iI (hur (cv S o) p a t) - iI s then iI (hur (cv S o) p a t) - iI s else 0) = iI (if hur (cv S o) p a t < s then 0 else hur (cv S o) p a t - s) := by
    simp (disch := omega) only [iI_add, iI_sub, iI_mul, iI_le, iI_lt, iI_eq, iI_ix, iI_in, iI_neg, iI_lit]
    split <;> split <;> first | rfl | (congr 1; omega) | omega
  rw [e]
  refine s_X6_lastsHurried hr hR ?_ ?_ h
  · split <;> omega
  · split <;> omega
theorem s_X6_hasInn {o : Nat} {a : Int} {S : St} {post : Int32 → St → Prop} (hH : Hb (cv S o)) (ha : 0 ≤ a) (ha2 : a < 6) (h1 : bt (cv S o 0 3) a = 1 → post 1 S) (h0 : bt (cv S o 0 3) a = 0 → post 0 S) : wp_X6_hasInn o (iI a) S post := by
  obtain ⟨_, _, _, _, _, _, h7, h8, _, _, _, _⟩ := hH
  simp only [cv, Nat.add_zero] at *
  have e4 := bit_get h7 h8 ha ha2
  have hb := bt_01 (zz S o 3) a
  unfold wp_X6_hasInn
  simp only [zz_S S, e4]
  simp (disch := omega) only [iI_add, iI_sub, iI_mul, iI_le, iI_lt, iI_eq, iI_ix, iI_in, iI_neg, iI_lit] at *
  exact ⟨fun q => h0 (by omega), fun q => h1 q⟩
def cal (v : Vw) (a c n : Int) : Int := if bt (v 0 3) a = 1 then (if c + n < 5 then c + n else 5) else c
theorem cal_1 {v : Vw} {a c n : Int} (h : bt (v 0 3) a = 1) (h2 : c + n < 5) : cal v a c n = c + n := (if_pos h).trans (if_pos h2)
theorem cal_2 {v : Vw} {a c n : Int} (h : bt (v 0 3) a = 1) (h2 : ¬ c + n < 5) : cal v a c n = 5 := (if_pos h).trans (if_neg h2)
theorem cal_3 {v : Vw} {a c n : Int} (h : ¬ bt (v 0 3) a = 1) : cal v a c n = c := if_neg h
theorem s_X6_calmAfter {o : Nat} {a c n : Int} {S : St} {post : Int32 → St → Prop} (hH : Hb (cv S o)) (ha : 0 ≤ a) (ha2 : a < 6) (hc : 0 ≤ c) (hc2 : c ≤ 5) (hn : 0 ≤ n) (hn2 : n ≤ 1000) (h : post (iI (cal (cv S o) a c n)) S) : wp_X6_calmAfter o (iI a) (iI c) (iI n) S post := by
  unfold wp_X6_calmAfter
  refine s_X6_hasInn hH ha ha2 (fun q => ⟨fun q2 => absurd q2 (by decide), fun _ => ?_⟩) (fun q => ⟨fun _ => ?_, fun q2 => absurd rfl q2⟩)
  · simp (disch := omega) only [iI_add, iI_sub, iI_mul, iI_le, iI_lt, iI_eq, iI_ix, iI_in, iI_neg, iI_lit]
    by_cases q3 : c + n < 5
    · rw [cal_1 q q3] at h; rw [if_pos q3]; exact h
    · rw [cal_2 q q3] at h; rw [if_neg q3]; exact h
  · rw [cal_3 (by omega)] at h; exact h
theorem s_X6_canMove {o p r : Nat} {s : Int} {S : St} {post : Int32 → St → Prop} (hP : Pb (cv S o) p) (hH : Hb (cv S o)) (hp : p < 4) (hr : r < 9) (hs : 0 ≤ s) (hs2 : s ≤ 1000) (hR : Rb (cv S o) r) (h1 : oth (cv S o) r (zz S (o + 7) p) ≠ -1 → s ≤ zz S (o + 8) p → post 1 S) (h0 : ¬ (oth (cv S o) r (zz S (o + 7) p) ≠ -1 ∧ s ≤ zz S (o + 8) p) → post 0 S) : wp_X6_canMove o (iI p) (iI r) (iI s) S post := by
  have a := zz_lo S (o + 8) p; have b := zz_hi S (o + 8) p
  have hb : -1 ≤ oth (cv S o) r (zz S (o + 7) p) ∧ oth (cv S o) r (zz S (o + 7) p) < 6 := by
    obtain ⟨g1, g2, g3, g4, _⟩ := hR
    obtain ⟨f1, f2, _⟩ := hH
    unfold oth
    split
    · omega
    · split <;> omega
  unfold wp_X6_canMove
  rw [zz_S S (o + 7)]
  simp (disch := omega) only [iI_add, iI_sub, iI_mul, iI_le, iI_lt, iI_eq, iI_ix, iI_in, iI_neg, iI_lit, Int.toNat_natCast] at *
  refine ⟨by omega, s_X6_otherEnd hr (zz_lo S _ _) (zz_hi S _ _) ?_⟩
  rw [zz_S S (o + 8)]
  simp (disch := omega) only [iI_add, iI_sub, iI_mul, iI_le, iI_lt, iI_eq, iI_ix, iI_in, iI_neg, iI_lit, Int.toNat_natCast] at *
  exact ⟨fun q => h0 (by omega), fun q => ⟨by omega, fun q2 => h0 (by omega), fun q2 => h1 q (by omega)⟩⟩
theorem oth_up {v v' : Vw} {r : Nat} {a : Int} (h1 : v' 1 r = v 1 r) (h2 : v' 2 r = v 2 r) : oth v' r a = oth v r a := by simp only [oth, h1, h2]
theorem oth_b {v : Vw} {r : Nat} (a : Int) (hR : Rb v r) (hH : Hb v) : -1 ≤ oth v r a ∧ oth v r a < v 0 0 := by
  obtain ⟨g1, g2, g3, g4, _⟩ := hR
  obtain ⟨f1, f2, _⟩ := hH
  unfold oth
  split
  · omega
  · split <;> omega
theorem s_X6_move {o p r : Nat} {s : Int} {S : St} {post : St → Prop} (hH : Hb (cv S o)) (hP : Pb (cv S o) p) (hR : Rb (cv S o) r) (hp : p < 4) (hr : r < 9) (hs : 0 ≤ s) (hs2 : s ≤ 1000) (ht : 0 ≤ zz S (o + 10) p) (ht2 : zz S (o + 10) p ≤ 1000000)
    (h : ∀ S', S' = up (up (up S (o + 10) p (iI (zz S (o + 10) p + tme (cv S o) p r (zz S (o + 7) p) (zz S (o + 10) p) s))) (o + 8) p (iI (zz S (o + 8) p - s))) (o + 7) p (iI (oth (cv S o) r (zz S (o + 7) p))) → post S') : wp_X6_move o (iI p) (iI r) (iI s) S post := by
  have hP2 := hP
  obtain ⟨_, _, _, _, _, _, g1, g2, g3, g4, _⟩ := hP2
  obtain ⟨f1, f2, _⟩ := id hH
  simp only [cv, Nat.add_zero] at g1 g2 g3 g4 f1 f2
  unfold wp_X6_move
  have hin : vp_in (iI (p : Int)) 4 := (iI_in (by omega) (by omega)).mpr ⟨by omega, by omega⟩
  have hix : ix (iI (p : Int)) = p := by rw [iI_ix (by omega) (by omega)]; simp
  rw [hix, zz_S S (o + 7), zz_S S (o + 10)]
  refine ⟨hin, hin, hin, s_X6_lasts hH hP hR hp hr g1 (by omega) (by omega) (by omega) hs hs2 ⟨hin, ?_⟩⟩
  intro S3 e3
  refine ⟨hin, hin, ?_⟩
  intro S5 e5
  have e7 : S5 (o + 7) p = iI (zz S (o + 7) p) := by
    rw [e5, up_ne _ _ (by omega), e3, up_ne _ _ (by omega), ← zz_S]
  have e8 : S3 (o + 8) p = iI (zz S (o + 8) p) := by rw [e3, up_ne _ _ (by omega), ← zz_S]
  refine ⟨hin, ?_⟩
  rw [e7]
  refine s_X6_otherEnd hr (zz_lo S _ _) (zz_hi S _ _) ⟨hin, ?_⟩
  intro S9 e9
  apply h
  rw [e9, e5, e8, e3, iI_add, iI_sub]
  congr 1
  congr 1
  apply oth_up <;> simp only [cv, zz_up] <;> rw [if_neg (by omega), if_neg (by omega)]
theorem s_X6_rest {o p : Nat} {n : Int} {S : St} {post : St → Prop} (hH : Hb (cv S o)) (hP : Pb (cv S o) p) (hp : p < 4) (hn : 0 ≤ n) (hn2 : n ≤ 1000) (h : ∀ S', S' = up (up S (o + 10) p (iI (zz S (o + 10) p + n))) (o + 8) p (iI (cal (cv S o) (zz S (o + 7) p) (zz S (o + 8) p) n)) → post S') : wp_X6_rest o (iI p) (iI n) S post := by
  have hP2 := hP
  obtain ⟨_, _, _, _, _, _, g1, g2, g3, g4, _⟩ := hP2
  obtain ⟨f1, f2, _⟩ := id hH
  simp only [cv, Nat.add_zero] at g1 g2 g3 g4 f1 f2
  unfold wp_X6_rest
  have hin : vp_in (iI (p : Int)) 4 := (iI_in (by omega) (by omega)).mpr ⟨by omega, by omega⟩
  have hix : ix (iI (p : Int)) = p := by rw [iI_ix (by omega) (by omega)]; simp
  rw [hix]
  refine ⟨hin, hin, ?_⟩
  intro S1 e1
  have e7 : S1 (o + 7) p = iI (zz S (o + 7) p) := by rw [e1, up_ne _ _ (by omega), ← zz_S]
  have e8 : S1 (o + 8) p = iI (zz S (o + 8) p) := by rw [e1, up_ne _ _ (by omega), ← zz_S]
  have hc : cv S1 o 0 = cv S o 0 := by
    funext k
    simp only [cv, e1, zz_up]
    rw [if_neg (by omega)]
  have hH1 : Hb (cv S1 o) := by unfold Hb at hH ⊢; rw [hc]; exact hH
  rw [e7, e8]
  refine ⟨hin, hin, s_X6_calmAfter hH1 g1 (by omega) g3 g4 hn hn2 ⟨hin, ?_⟩⟩
  intro S5 e5
  apply h
  have ec : cal (cv S1 o) (zz S (o + 7) p) (zz S (o + 8) p) n = cal (cv S o) (zz S (o + 7) p) (zz S (o + 8) p) n := by unfold cal; rw [hc]
  rw [e5, ec, e1, zz_S S (o + 10) p, iI_add]
