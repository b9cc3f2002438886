/-! HasteRoads.outside(III)Z -/
theorem dX7_outside_0 : decode cX7_outside 0 = .ok (.iload_n 0, 1) := by decide +kernel
theorem dX7_outside_1 : decode cX7_outside 1 = .ok (.iload_n 1, 1) := by decide +kernel
theorem dX7_outside_2 : decode cX7_outside 2 = .ok (.if_icmp .lt 8, 3) := by decide +kernel
theorem dX7_outside_5 : decode cX7_outside 5 = .ok (.iload_n 0, 1) := by decide +kernel
theorem dX7_outside_6 : decode cX7_outside 6 = .ok (.iload_n 2, 1) := by decide +kernel
theorem dX7_outside_7 : decode cX7_outside 7 = .ok (.if_icmp .le 7, 3) := by decide +kernel
theorem dX7_outside_10 : decode cX7_outside 10 = .ok (.iconst 1, 1) := by decide +kernel
theorem dX7_outside_11 : decode cX7_outside 11 = .ok (.goto 4, 3) := by decide +kernel
theorem dX7_outside_14 : decode cX7_outside 14 = .ok (.iconst 0, 1) := by decide +kernel
theorem dX7_outside_15 : decode cX7_outside 15 = .ok (.ireturn, 1) := by decide +kernel

def wp_X7_outside (x0 : Int32) (x1 : Int32) (x2 : Int32) (S : St) (post : Int32 → St → Prop) : Prop :=
  ((x0 < x1 → post 1 S) ∧ (¬ x0 < x1 → ((x0 ≤ x2 → post 0 S) ∧ (¬ x0 ≤ x2 → post 1 S))))
theorem w_wp_X7_outside {X : Cx} (ok : Ok X cX7_outside 3 RX7 0 0) {post : Int32 → St → Prop} (hret : RetZ X cX7_outside 3 post) {x0 x1 x2 : Int32} {S : St} (h : wp_X7_outside x0 x1 x2 S post) : Wp X 3 0 [(0, .int x0), (1, .int x1), (2, .int x2)] [] S := by
  unfold wp_X7_outside at h
  refine r_iload_n ok dX7_outside_0 0 rfl ?_
  refine r_iload_n ok dX7_outside_1 1 rfl ?_
  refine r_icmp_lt (tgt := 10) ok dX7_outside_2 rfl (fun hc1 => ?_) (fun hc1 => ?_)
  · replace h := h.1 hc1
    refine r_iconst (v := 1) ok dX7_outside_10 rfl ?_
    refine r_goto (tgt := 15) ok dX7_outside_11 rfl ?_
    exact hret _ _ _ _ dX7_outside_15 (Or.inr rfl) h
  · replace h := h.2 hc1
    refine r_iload_n ok dX7_outside_5 0 rfl ?_
    refine r_iload_n ok dX7_outside_6 2 rfl ?_
    refine r_icmp_le (tgt := 14) ok dX7_outside_7 rfl (fun hc2 => ?_) (fun hc2 => ?_)
    · replace h := h.1 hc2
      refine r_iconst (v := 0) ok dX7_outside_14 rfl ?_
      exact hret _ _ _ _ dX7_outside_15 (Or.inl rfl) h
    · replace h := h.2 hc2
      refine r_iconst (v := 1) ok dX7_outside_10 rfl ?_
      refine r_goto (tgt := 15) ok dX7_outside_11 rfl ?_
      exact hret _ _ _ _ dX7_outside_15 (Or.inr rfl) h
theorem c_X7_outside (l : Launch) (G : Gx) {x0 x1 x2 : Int32} {S : St} {post : Int32 → St → Prop} (h : wp_X7_outside x0 x1 x2 S post) : MtI l yX7_outside cX7_outside 3 (some .boolean) 0 0 G [.int x0, .int x1, .int x2] S post :=
  ctZ (by decide) rfl (Nat.le_of_ble_eq_true rfl) (fun X _ hG ok hret => by subst hG; exact w_wp_X7_outside ok hret h)

/-! HasteRoads.withBit(IIZ)I -/
theorem dX7_withBit_0 : decode cX7_withBit 0 = .ok (.iload_n 2, 1) := by decide +kernel
theorem dX7_withBit_1 : decode cX7_withBit 1 = .ok (.ifCond .eq 11, 3) := by decide +kernel
theorem dX7_withBit_4 : decode cX7_withBit 4 = .ok (.iload_n 0, 1) := by decide +kernel
theorem dX7_withBit_5 : decode cX7_withBit 5 = .ok (.iconst 1, 1) := by decide +kernel
theorem dX7_withBit_6 : decode cX7_withBit 6 = .ok (.iload_n 1, 1) := by decide +kernel
theorem dX7_withBit_7 : decode cX7_withBit 7 = .ok (.ishl, 1) := by decide +kernel
theorem dX7_withBit_8 : decode cX7_withBit 8 = .ok (.ior, 1) := by decide +kernel
theorem dX7_withBit_9 : decode cX7_withBit 9 = .ok (.goto 10, 3) := by decide +kernel
theorem dX7_withBit_12 : decode cX7_withBit 12 = .ok (.iload_n 0, 1) := by decide +kernel
theorem dX7_withBit_13 : decode cX7_withBit 13 = .ok (.iconst 1, 1) := by decide +kernel
theorem dX7_withBit_14 : decode cX7_withBit 14 = .ok (.iload_n 1, 1) := by decide +kernel
theorem dX7_withBit_15 : decode cX7_withBit 15 = .ok (.ishl, 1) := by decide +kernel
theorem dX7_withBit_16 : decode cX7_withBit 16 = .ok (.iconst (-1), 1) := by decide +kernel
theorem dX7_withBit_17 : decode cX7_withBit 17 = .ok (.ixor, 1) := by decide +kernel
theorem dX7_withBit_18 : decode cX7_withBit 18 = .ok (.iand, 1) := by decide +kernel
theorem dX7_withBit_19 : decode cX7_withBit 19 = .ok (.ireturn, 1) := by decide +kernel

def wp_X7_withBit (x0 : Int32) (x1 : Int32) (x2 : Int32) (S : St) (post : Int32 → St → Prop) : Prop :=
  ((x2 = 0 → post (x0 &&& (((1 : Int32) <<< (x1 &&& 31)) ^^^ (-1))) S) ∧ (¬ x2 = 0 → post (x0 ||| ((1 : Int32) <<< (x1 &&& 31))) S))
theorem w_wp_X7_withBit {X : Cx} (ok : Ok X cX7_withBit 3 RX7 0 0) {post : Int32 → St → Prop} (hret : RetI X cX7_withBit 3 post) {x0 x1 x2 : Int32} {S : St} (h : wp_X7_withBit x0 x1 x2 S post) : Wp X 3 0 [(0, .int x0), (1, .int x1), (2, .int x2)] [] S := by
  unfold wp_X7_withBit at h
  refine r_iload_n ok dX7_withBit_0 2 rfl ?_
  refine r_if_eq (tgt := 12) ok dX7_withBit_1 rfl (fun hc1 => ?_) (fun hc1 => ?_)
  · replace h := h.1 hc1
    refine r_iload_n ok dX7_withBit_12 0 rfl ?_
    refine r_iconst (v := 1) ok dX7_withBit_13 rfl ?_
    refine r_iload_n ok dX7_withBit_14 1 rfl ?_
    refine r_ishl ok dX7_withBit_15 ?_
    refine r_iconst (v := (-1)) ok dX7_withBit_16 rfl ?_
    refine r_ixor ok dX7_withBit_17 ?_
    refine r_iand ok dX7_withBit_18 ?_
    exact hret _ _ _ _ dX7_withBit_19 h
  · replace h := h.2 hc1
    refine r_iload_n ok dX7_withBit_4 0 rfl ?_
    refine r_iconst (v := 1) ok dX7_withBit_5 rfl ?_
    refine r_iload_n ok dX7_withBit_6 1 rfl ?_
    refine r_ishl ok dX7_withBit_7 ?_
    refine r_ior ok dX7_withBit_8 ?_
    refine r_goto (tgt := 19) ok dX7_withBit_9 rfl ?_
    exact hret _ _ _ _ dX7_withBit_19 h
theorem c_X7_withBit (l : Launch) (G : Gx) {x0 x1 x2 : Int32} {S : St} {post : Int32 → St → Prop} (h : wp_X7_withBit x0 x1 x2 S post) : MtI l yX7_withBit cX7_withBit 3 (some .int) 0 0 G [.int x0, .int x1, .int x2] S post :=
  ctI (by decide) rfl (Nat.le_of_ble_eq_true rfl) (fun X _ hG ok hret => by subst hG; exact w_wp_X7_withBit ok hret h)

/-! java/lang/Integer.bitCount(I)I -/
theorem dJ6_bitCount_0f7a4_0 : decode cJ6_bitCount_0f7a4 0 = .ok (.iload_n 0, 1) := by decide +kernel
theorem dJ6_bitCount_0f7a4_1 : decode cJ6_bitCount_0f7a4 1 = .ok (.iload_n 0, 1) := by decide +kernel
theorem dJ6_bitCount_0f7a4_2 : decode cJ6_bitCount_0f7a4 2 = .ok (.iconst 1, 1) := by decide +kernel
theorem dJ6_bitCount_0f7a4_3 : decode cJ6_bitCount_0f7a4 3 = .ok (.iushr, 1) := by decide +kernel
theorem dJ6_bitCount_0f7a4_4 : decode cJ6_bitCount_0f7a4 4 = .ok (.ldc_w 265, 3) := by decide +kernel
theorem dJ6_bitCount_0f7a4_7 : decode cJ6_bitCount_0f7a4 7 = .ok (.iand, 1) := by decide +kernel
theorem dJ6_bitCount_0f7a4_8 : decode cJ6_bitCount_0f7a4 8 = .ok (.isub, 1) := by decide +kernel
theorem dJ6_bitCount_0f7a4_9 : decode cJ6_bitCount_0f7a4 9 = .ok (.istore_n 0, 1) := by decide +kernel
theorem dJ6_bitCount_0f7a4_10 : decode cJ6_bitCount_0f7a4 10 = .ok (.iload_n 0, 1) := by decide +kernel
theorem dJ6_bitCount_0f7a4_11 : decode cJ6_bitCount_0f7a4 11 = .ok (.ldc_w 266, 3) := by decide +kernel
theorem dJ6_bitCount_0f7a4_14 : decode cJ6_bitCount_0f7a4 14 = .ok (.iand, 1) := by decide +kernel
theorem dJ6_bitCount_0f7a4_15 : decode cJ6_bitCount_0f7a4 15 = .ok (.iload_n 0, 1) := by decide +kernel
theorem dJ6_bitCount_0f7a4_16 : decode cJ6_bitCount_0f7a4 16 = .ok (.iconst 2, 1) := by decide +kernel
theorem dJ6_bitCount_0f7a4_17 : decode cJ6_bitCount_0f7a4 17 = .ok (.iushr, 1) := by decide +kernel
theorem dJ6_bitCount_0f7a4_18 : decode cJ6_bitCount_0f7a4 18 = .ok (.ldc_w 266, 3) := by decide +kernel
theorem dJ6_bitCount_0f7a4_21 : decode cJ6_bitCount_0f7a4 21 = .ok (.iand, 1) := by decide +kernel
theorem dJ6_bitCount_0f7a4_22 : decode cJ6_bitCount_0f7a4 22 = .ok (.iadd, 1) := by decide +kernel
theorem dJ6_bitCount_0f7a4_23 : decode cJ6_bitCount_0f7a4 23 = .ok (.istore_n 0, 1) := by decide +kernel
theorem dJ6_bitCount_0f7a4_24 : decode cJ6_bitCount_0f7a4 24 = .ok (.iload_n 0, 1) := by decide +kernel
theorem dJ6_bitCount_0f7a4_25 : decode cJ6_bitCount_0f7a4 25 = .ok (.iload_n 0, 1) := by decide +kernel
theorem dJ6_bitCount_0f7a4_26 : decode cJ6_bitCount_0f7a4 26 = .ok (.iconst 4, 1) := by decide +kernel
theorem dJ6_bitCount_0f7a4_27 : decode cJ6_bitCount_0f7a4 27 = .ok (.iushr, 1) := by decide +kernel
theorem dJ6_bitCount_0f7a4_28 : decode cJ6_bitCount_0f7a4 28 = .ok (.iadd, 1) := by decide +kernel
theorem dJ6_bitCount_0f7a4_29 : decode cJ6_bitCount_0f7a4 29 = .ok (.ldc_w 267, 3) := by decide +kernel
theorem dJ6_bitCount_0f7a4_32 : decode cJ6_bitCount_0f7a4 32 = .ok (.iand, 1) := by decide +kernel
theorem dJ6_bitCount_0f7a4_33 : decode cJ6_bitCount_0f7a4 33 = .ok (.istore_n 0, 1) := by decide +kernel
theorem dJ6_bitCount_0f7a4_34 : decode cJ6_bitCount_0f7a4 34 = .ok (.iload_n 0, 1) := by decide +kernel
theorem dJ6_bitCount_0f7a4_35 : decode cJ6_bitCount_0f7a4 35 = .ok (.iload_n 0, 1) := by decide +kernel
theorem dJ6_bitCount_0f7a4_36 : decode cJ6_bitCount_0f7a4 36 = .ok (.bipush 8, 2) := by decide +kernel
theorem dJ6_bitCount_0f7a4_38 : decode cJ6_bitCount_0f7a4 38 = .ok (.iushr, 1) := by decide +kernel
theorem dJ6_bitCount_0f7a4_39 : decode cJ6_bitCount_0f7a4 39 = .ok (.iadd, 1) := by decide +kernel
theorem dJ6_bitCount_0f7a4_40 : decode cJ6_bitCount_0f7a4 40 = .ok (.istore_n 0, 1) := by decide +kernel
theorem dJ6_bitCount_0f7a4_41 : decode cJ6_bitCount_0f7a4 41 = .ok (.iload_n 0, 1) := by decide +kernel
theorem dJ6_bitCount_0f7a4_42 : decode cJ6_bitCount_0f7a4 42 = .ok (.iload_n 0, 1) := by decide +kernel
theorem dJ6_bitCount_0f7a4_43 : decode cJ6_bitCount_0f7a4 43 = .ok (.bipush 16, 2) := by decide +kernel
theorem dJ6_bitCount_0f7a4_45 : decode cJ6_bitCount_0f7a4 45 = .ok (.iushr, 1) := by decide +kernel
theorem dJ6_bitCount_0f7a4_46 : decode cJ6_bitCount_0f7a4 46 = .ok (.iadd, 1) := by decide +kernel
theorem dJ6_bitCount_0f7a4_47 : decode cJ6_bitCount_0f7a4 47 = .ok (.istore_n 0, 1) := by decide +kernel
theorem dJ6_bitCount_0f7a4_48 : decode cJ6_bitCount_0f7a4 48 = .ok (.iload_n 0, 1) := by decide +kernel
theorem dJ6_bitCount_0f7a4_49 : decode cJ6_bitCount_0f7a4 49 = .ok (.bipush 63, 2) := by decide +kernel
theorem dJ6_bitCount_0f7a4_51 : decode cJ6_bitCount_0f7a4 51 = .ok (.iand, 1) := by decide +kernel
theorem dJ6_bitCount_0f7a4_52 : decode cJ6_bitCount_0f7a4 52 = .ok (.ireturn, 1) := by decide +kernel

def wp_J6_bitCount_0f7a4 (x0 : Int32) (S : St) (post : Int32 → St → Prop) : Prop :=
  ∀ v1 : Int32, v1 = (x0 - ((iushr x0 1) &&& 1431655765)) → ∀ v2 : Int32, v2 = ((v1 &&& 858993459) + ((iushr v1 2) &&& 858993459)) → ∀ v3 : Int32, v3 = ((v2 + (iushr v2 4)) &&& 252645135) → ∀ v4 : Int32, v4 = (v3 + (iushr v3 8)) → ∀ v5 : Int32, v5 = (v4 + (iushr v4 16)) → post (v5 &&& 63) S
theorem w_wp_J6_bitCount_0f7a4 {X : Cx} (ok : Ok X cJ6_bitCount_0f7a4 1 RJ6 0 0) {post : Int32 → St → Prop} (hret : RetI X cJ6_bitCount_0f7a4 1 post) {x0 : Int32} {S : St} (h : wp_J6_bitCount_0f7a4 x0 S post) : Wp X 1 0 [(0, .int x0)] [] S := by
  unfold wp_J6_bitCount_0f7a4 at h
  refine r_iload_n ok dJ6_bitCount_0f7a4_0 0 rfl ?_
  refine r_iload_n ok dJ6_bitCount_0f7a4_1 0 rfl ?_
  refine r_iconst (v := 1) ok dJ6_bitCount_0f7a4_2 rfl ?_
  refine r_iushr ok dJ6_bitCount_0f7a4_3 ?_
  refine r_ldcw (v := 1431655765) ok dJ6_bitCount_0f7a4_4 tw_k_J6_265 ?_
  refine r_iand ok dJ6_bitCount_0f7a4_7 ?_
  refine r_isub ok dJ6_bitCount_0f7a4_8 ?_
  refine r_top (fun v1 ev1 => ?_)
  replace h := h v1 ev1
  refine r_istore_n ok dJ6_bitCount_0f7a4_9 (by decide) [(0, .int v1)] [0] rfl ?_
  refine r_iload_n ok dJ6_bitCount_0f7a4_10 0 rfl ?_
  refine r_ldcw (v := 858993459) ok dJ6_bitCount_0f7a4_11 tw_k_J6_266 ?_
  refine r_iand ok dJ6_bitCount_0f7a4_14 ?_
  refine r_iload_n ok dJ6_bitCount_0f7a4_15 0 rfl ?_
  refine r_iconst (v := 2) ok dJ6_bitCount_0f7a4_16 rfl ?_
  refine r_iushr ok dJ6_bitCount_0f7a4_17 ?_
  refine r_ldcw (v := 858993459) ok dJ6_bitCount_0f7a4_18 tw_k_J6_266 ?_
  refine r_iand ok dJ6_bitCount_0f7a4_21 ?_
  refine r_iadd ok dJ6_bitCount_0f7a4_22 ?_
  refine r_top (fun v2 ev2 => ?_)
  replace h := h v2 ev2
  refine r_istore_n ok dJ6_bitCount_0f7a4_23 (by decide) [(0, .int v2)] [0] rfl ?_
  refine r_iload_n ok dJ6_bitCount_0f7a4_24 0 rfl ?_
  refine r_iload_n ok dJ6_bitCount_0f7a4_25 0 rfl ?_
  refine r_iconst (v := 4) ok dJ6_bitCount_0f7a4_26 rfl ?_
  refine r_iushr ok dJ6_bitCount_0f7a4_27 ?_
  refine r_iadd ok dJ6_bitCount_0f7a4_28 ?_
  refine r_ldcw (v := 252645135) ok dJ6_bitCount_0f7a4_29 tw_k_J6_267 ?_
  refine r_iand ok dJ6_bitCount_0f7a4_32 ?_
  refine r_top (fun v3 ev3 => ?_)
  replace h := h v3 ev3
  refine r_istore_n ok dJ6_bitCount_0f7a4_33 (by decide) [(0, .int v3)] [0] rfl ?_
  refine r_iload_n ok dJ6_bitCount_0f7a4_34 0 rfl ?_
  refine r_iload_n ok dJ6_bitCount_0f7a4_35 0 rfl ?_
  refine r_bipush (v := 8) ok dJ6_bitCount_0f7a4_36 rfl ?_
  refine r_iushr ok dJ6_bitCount_0f7a4_38 ?_
  refine r_iadd ok dJ6_bitCount_0f7a4_39 ?_
  refine r_top (fun v4 ev4 => ?_)
  replace h := h v4 ev4
  refine r_istore_n ok dJ6_bitCount_0f7a4_40 (by decide) [(0, .int v4)] [0] rfl ?_
  refine r_iload_n ok dJ6_bitCount_0f7a4_41 0 rfl ?_
  refine r_iload_n ok dJ6_bitCount_0f7a4_42 0 rfl ?_
  refine r_bipush (v := 16) ok dJ6_bitCount_0f7a4_43 rfl ?_
  refine r_iushr ok dJ6_bitCount_0f7a4_45 ?_
  refine r_iadd ok dJ6_bitCount_0f7a4_46 ?_
  refine r_top (fun v5 ev5 => ?_)
  replace h := h v5 ev5
  refine r_istore_n ok dJ6_bitCount_0f7a4_47 (by decide) [(0, .int v5)] [0] rfl ?_
  refine r_iload_n ok dJ6_bitCount_0f7a4_48 0 rfl ?_
  refine r_bipush (v := 63) ok dJ6_bitCount_0f7a4_49 rfl ?_
  refine r_iand ok dJ6_bitCount_0f7a4_51 ?_
  exact hret _ _ _ _ dJ6_bitCount_0f7a4_52 h
theorem c_J6_bitCount_0f7a4 (l : Launch) (G : Gx) {x0 : Int32} {S : St} {post : Int32 → St → Prop} (h : wp_J6_bitCount_0f7a4 x0 S post) : MtI l yJ6_bitCount_0f7a4 cJ6_bitCount_0f7a4 1 (some .int) 0 0 G [.int x0] S post :=
  ctI (by decide) rfl (Nat.le_of_ble_eq_true rfl) (fun X _ hG ok hret => by subst hG; exact w_wp_J6_bitCount_0f7a4 ok hret h)
