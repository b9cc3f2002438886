/-! HasteRoads.spent(I)I -/
theorem dX7_spent_0 : decode cX7_spent 0 = .ok (.iload_n 1, 1) := by decide +kernel
theorem dX7_spent_1 : decode cX7_spent 1 = .ok (.iconst 0, 1) := by decide +kernel
theorem dX7_spent_2 : decode cX7_spent 2 = .ok (.aload_n 0, 1) := by decide +kernel
theorem dX7_spent_3 : decode cX7_spent 3 = .ok (.getfield 62, 3) := by decide +kernel
theorem dX7_spent_6 : decode cX7_spent 6 = .ok (.getfield 100, 3) := by decide +kernel
theorem dX7_spent_9 : decode cX7_spent 9 = .ok (.iconst 1, 1) := by decide +kernel
theorem dX7_spent_10 : decode cX7_spent 10 = .ok (.isub, 1) := by decide +kernel
theorem dX7_spent_11 : decode cX7_spent 11 = .ok (.invokestatic 77, 3) := by decide +kernel
theorem dX7_spent_14 : decode cX7_spent 14 = .ok (.ifCond .eq 7, 3) := by decide +kernel
theorem dX7_spent_17 : decode cX7_spent 17 = .ok (.iconst (-1), 1) := by decide +kernel
theorem dX7_spent_18 : decode cX7_spent 18 = .ok (.goto 15, 3) := by decide +kernel
theorem dX7_spent_21 : decode cX7_spent 21 = .ok (.aload_n 0, 1) := by decide +kernel
theorem dX7_spent_22 : decode cX7_spent 22 = .ok (.getfield 62, 3) := by decide +kernel
theorem dX7_spent_25 : decode cX7_spent 25 = .ok (.aload_n 0, 1) := by decide +kernel
theorem dX7_spent_26 : decode cX7_spent 26 = .ok (.getfield 12, 3) := by decide +kernel
theorem dX7_spent_29 : decode cX7_spent 29 = .ok (.iload_n 1, 1) := by decide +kernel
theorem dX7_spent_30 : decode cX7_spent 30 = .ok (.invokevirtual 263, 3) := by decide +kernel
theorem dX7_spent_33 : decode cX7_spent 33 = .ok (.ireturn, 1) := by decide +kernel
theorem cl_X7_263 {X : Cx} {cc : ByteArray} {nL pc fr lo : Nat} {L : List (Nat × Value)} {st : List Value} {S : St} (ok : Ok X cc nL RX7 fr lo) {x2 : Int32} (d : decode cc pc = .ok (.invokevirtual 263, 3)) (hroom : 3 ≤ fr ∧ 74 ≤ lo) (hst : (st.map fun v => v.category).sum ≤ 8) {post : Int32 → St → Prop} (h : wp_X2_spentIn x2 S post) (kk : ∀ (r : Int32) (S1 : St), post r S1 → Wp X nL (pc + 3) L (.int r :: st) S1) : Wp X nL pc L (.int x2 :: .ref (xad X 0) :: .ref (xad X 63) :: st) S :=
  r_callVi (n := 5) (f := 2) (lo1 := 50) (N := 2) (As := [.ref (xad X 0), .int x2]) ok tw_in_X2 tw_im_X2_spentIn tw_se_X2_spentIn tw_co_X2_spentIn tw_ml_X7_263 (by decide +kernel) rfl ob_63 rfl hroom hst d rfl (c_X2_spentIn (xl X) (xG X) h) kk
def wp_X7_spent (x1 : Int32) (S : St) (post : Int32 → St → Prop) : Prop :=
  wp_X7_outside x1 0 ((S 63 0) - 1) S (fun r2 S1 => ((r2 = 0 → wp_X2_spentIn x1 S1 (fun r5 S4 => post r5 S4)) ∧ (¬ r2 = 0 → post (-1) S1)))
theorem w_wp_X7_spent {X : Cx} (ok : Ok X cX7_spent 2 RX7 3 74) {post : Int32 → St → Prop} (hret : RetI X cX7_spent 2 post) {x1 : Int32} {S : St} (h : wp_X7_spent x1 S post) : Wp X 2 0 [(0, .ref (xad X 44)), (1, .int x1)] [] S := by
  unfold wp_X7_spent at h
  refine r_iload_n ok dX7_spent_0 1 rfl ?_
  refine r_iconst (v := 0) ok dX7_spent_1 rfl ?_
  refine r_aload_n ok dX7_spent_2 0 rfl ?_
  refine gf_X7_62 ok dX7_spent_3 ?_
  refine gf_X7_100 ok dX7_spent_6 ?_
  refine r_iconst (v := 1) ok dX7_spent_9 rfl ?_
  refine r_isub ok dX7_spent_10 ?_
  refine cl_X7_77 ok dX7_spent_11 (by decide) (Nat.le_of_ble_eq_true rfl) h (fun r2 S1 h => ?_)
  refine r_if_eq (tgt := 21) ok dX7_spent_14 rfl (fun hc3 => ?_) (fun hc3 => ?_)
  · replace h := h.1 hc3
    refine r_aload_n ok dX7_spent_21 0 rfl ?_
    refine gf_X7_62 ok dX7_spent_22 ?_
    refine r_aload_n ok dX7_spent_25 0 rfl ?_
    refine gf_X7_12 ok dX7_spent_26 ?_
    refine r_iload_n ok dX7_spent_29 1 rfl ?_
    refine cl_X7_263 ok dX7_spent_30 (by decide) (Nat.le_of_ble_eq_true rfl) h (fun r5 S4 h => ?_)
    exact hret _ _ _ _ dX7_spent_33 h
  · replace h := h.2 hc3
    refine r_iconst (v := (-1)) ok dX7_spent_17 rfl ?_
    refine r_goto (tgt := 33) ok dX7_spent_18 rfl ?_
    exact hret _ _ _ _ dX7_spent_33 h
theorem c_X7_spent (l : Launch) (G : Gx) {x1 : Int32} {S : St} {post : Int32 → St → Prop} (h : wp_X7_spent x1 S post) : MtI l yX7_spent cX7_spent 2 (some .int) 3 74 G [.ref (G.2.2 44), .int x1] S post :=
  ctI (by decide) rfl (Nat.le_of_ble_eq_true rfl) (fun X _ hG ok hret => by subst hG; exact w_wp_X7_spent ok hret h)

/-! HasteRoads.lie()I -/
theorem dX7_lie_0 : decode cX7_lie 0 = .ok (.iconst 0, 1) := by decide +kernel
theorem dX7_lie_1 : decode cX7_lie 1 = .ok (.istore_n 1, 1) := by decide +kernel
theorem dX7_lie_2 : decode cX7_lie 2 = .ok (.iload_n 1, 1) := by decide +kernel
theorem dX7_lie_3 : decode cX7_lie 3 = .ok (.aload_n 0, 1) := by decide +kernel
theorem dX7_lie_4 : decode cX7_lie 4 = .ok (.getfield 62, 3) := by decide +kernel
theorem dX7_lie_7 : decode cX7_lie 7 = .ok (.getfield 100, 3) := by decide +kernel
theorem dX7_lie_10 : decode cX7_lie 10 = .ok (.if_icmp .ge 26, 3) := by decide +kernel
theorem dX7_lie_13 : decode cX7_lie 13 = .ok (.aload_n 0, 1) := by decide +kernel
theorem dX7_lie_14 : decode cX7_lie 14 = .ok (.getfield 62, 3) := by decide +kernel
theorem dX7_lie_17 : decode cX7_lie 17 = .ok (.aload_n 0, 1) := by decide +kernel
theorem dX7_lie_18 : decode cX7_lie 18 = .ok (.getfield 12, 3) := by decide +kernel
theorem dX7_lie_21 : decode cX7_lie 21 = .ok (.iload_n 1, 1) := by decide +kernel
theorem dX7_lie_22 : decode cX7_lie 22 = .ok (.invokevirtual 263, 3) := by decide +kernel
theorem dX7_lie_25 : decode cX7_lie 25 = .ok (.ifCond .ne 5, 3) := by decide +kernel
theorem dX7_lie_28 : decode cX7_lie 28 = .ok (.iload_n 1, 1) := by decide +kernel
theorem dX7_lie_29 : decode cX7_lie 29 = .ok (.ireturn, 1) := by decide +kernel
theorem dX7_lie_30 : decode cX7_lie 30 = .ok (.iinc 1 1, 3) := by decide +kernel
theorem dX7_lie_33 : decode cX7_lie 33 = .ok (.goto (-31), 3) := by decide +kernel
theorem dX7_lie_36 : decode cX7_lie 36 = .ok (.iconst (-1), 1) := by decide +kernel
theorem dX7_lie_37 : decode cX7_lie 37 = .ok (.ireturn, 1) := by decide +kernel

def BD_X7_lie_2 (k2 : Int32 → St → Prop) (post : Int32 → St → Prop) (x1 : Int32) (S : St) : Prop :=
  (((S 63 0) ≤ x1 → post (-1) S) ∧ (¬ (S 63 0) ≤ x1 → wp_X2_spentIn x1 S (fun r3 S2 => ((¬ r3 = 0 → k2 (x1 + 1) S2) ∧ (r3 = 0 → post x1 S2)))))
def L_X7_lie_2 (post : Int32 → St → Prop) (n : Nat) : Int32 → St → Prop := Nat.rec (motive := fun _ => Int32 → St → Prop) (fun _ _ => False) (fun _ ih => BD_X7_lie_2 ih post) n
def B_X7_lie_2 (post : Int32 → St → Prop) (x1 : Int32) (S : St) : Prop := ∃ n, L_X7_lie_2 post n x1 S
def wp_X7_lie (S : St) (post : Int32 → St → Prop) : Prop :=
  B_X7_lie_2 post 0 S
theorem w_B_X7_lie_2 {X : Cx} (ok : Ok X cX7_lie 2 RX7 3 74) {post : Int32 → St → Prop} (hret : RetI X cX7_lie 2 post) {x1 : Int32} {S : St} (h : B_X7_lie_2 post x1 S) : Wp X 2 2 [(0, .ref (xad X 44)), (1, .int x1)] [] S := by
  obtain ⟨n, h⟩ := h
  induction n generalizing x1 S with
  | zero => exact False.elim h
  | succ n ih =>
    have hk2 : ∀ x1 S, L_X7_lie_2 post n x1 S → Wp X 2 2 [(0, .ref (xad X 44)), (1, .int x1)] [] S := by intros; apply ih; assumption
    replace h : BD_X7_lie_2 (L_X7_lie_2 post n) post x1 S := h
    unfold BD_X7_lie_2 at h
    generalize L_X7_lie_2 post n = k2 at h hk2
    refine r_iload_n ok dX7_lie_2 1 rfl ?_
    refine r_aload_n ok dX7_lie_3 0 rfl ?_
    refine gf_X7_62 ok dX7_lie_4 ?_
    refine gf_X7_100 ok dX7_lie_7 ?_
    refine r_icmp_ge (tgt := 36) ok dX7_lie_10 rfl (fun hc1 => ?_) (fun hc1 => ?_)
    · replace h := h.1 hc1
      refine r_iconst (v := (-1)) ok dX7_lie_36 rfl ?_
      exact hret _ _ _ _ dX7_lie_37 h
    · replace h := h.2 hc1
      refine r_aload_n ok dX7_lie_13 0 rfl ?_
      refine gf_X7_62 ok dX7_lie_14 ?_
      refine r_aload_n ok dX7_lie_17 0 rfl ?_
      refine gf_X7_12 ok dX7_lie_18 ?_
      refine r_iload_n ok dX7_lie_21 1 rfl ?_
      refine cl_X7_263 ok dX7_lie_22 (by decide) (Nat.le_of_ble_eq_true rfl) h (fun r3 S2 h => ?_)
      refine r_if_ne (tgt := 30) ok dX7_lie_25 rfl (fun hc4 => ?_) (fun hc4 => ?_)
      · replace h := h.1 hc4
        refine r_iinc (v := x1 + 1) ok dX7_lie_30 1 rfl rfl (by decide) [(0, .ref (xad X 44)), (1, .int (x1 + 1))] [1, 0] rfl ?_
        refine r_goto (tgt := 2) ok dX7_lie_33 rfl ?_
        exact hk2 _ _ h
      · replace h := h.2 hc4
        refine r_iload_n ok dX7_lie_28 1 rfl ?_
        exact hret _ _ _ _ dX7_lie_29 h
theorem w_wp_X7_lie {X : Cx} (ok : Ok X cX7_lie 2 RX7 3 74) {post : Int32 → St → Prop} (hret : RetI X cX7_lie 2 post) {S : St} (h : wp_X7_lie S post) : Wp X 2 0 [(0, .ref (xad X 44))] [] S := by
  unfold wp_X7_lie at h
  refine r_iconst (v := 0) ok dX7_lie_0 rfl ?_
  refine r_istore_n ok dX7_lie_1 (by decide) [(0, .ref (xad X 44)), (1, .int 0)] [1, 0] rfl ?_
  exact w_B_X7_lie_2 ok hret h
theorem c_X7_lie (l : Launch) (G : Gx) {S : St} {post : Int32 → St → Prop} (h : wp_X7_lie S post) : MtI l yX7_lie cX7_lie 2 (some .int) 3 74 G [.ref (G.2.2 44)] S post :=
  ctI (by decide) rfl (Nat.le_of_ble_eq_true rfl) (fun X _ hG ok hret => by subst hG; exact w_wp_X7_lie ok hret h)

/-! HasteRoads.write(I)I -/
theorem dX7_write_0 : decode cX7_write 0 = .ok (.iload_n 1, 1) := by decide +kernel
theorem dX7_write_1 : decode cX7_write 1 = .ok (.ifCond .lt 20, 3) := by decide +kernel
theorem dX7_write_4 : decode cX7_write 4 = .ok (.aload_n 0, 1) := by decide +kernel
theorem dX7_write_5 : decode cX7_write 5 = .ok (.getfield 12, 3) := by decide +kernel
theorem dX7_write_8 : decode cX7_write 8 = .ok (.iload_n 1, 1) := by decide +kernel
theorem dX7_write_9 : decode cX7_write 9 = .ok (.bipush 10, 2) := by decide +kernel
theorem dX7_write_11 : decode cX7_write 11 = .ok (.idiv, 1) := by decide +kernel
theorem dX7_write_12 : decode cX7_write 12 = .ok (.invokevirtual 125, 3) := by decide +kernel
theorem dX7_write_15 : decode cX7_write 15 = .ok (.ifCond .ne 6, 3) := by decide +kernel
theorem dX7_write_18 : decode cX7_write 18 = .ok (.ldc 129, 2) := by decide +kernel
theorem dX7_write_20 : decode cX7_write 20 = .ok (.ireturn, 1) := by decide +kernel
theorem dX7_write_21 : decode cX7_write 21 = .ok (.iload_n 1, 1) := by decide +kernel
theorem dX7_write_22 : decode cX7_write 22 = .ok (.ifCond .ge 9, 3) := by decide +kernel
theorem dX7_write_25 : decode cX7_write 25 = .ok (.iload_n 1, 1) := by decide +kernel
theorem dX7_write_26 : decode cX7_write 26 = .ok (.bipush (-2), 2) := by decide +kernel
theorem dX7_write_28 : decode cX7_write 28 = .ok (.if_icmp .ne 11, 3) := by decide +kernel
theorem dX7_write_31 : decode cX7_write 31 = .ok (.iload_n 1, 1) := by decide +kernel
theorem dX7_write_32 : decode cX7_write 32 = .ok (.bipush 10, 2) := by decide +kernel
theorem dX7_write_34 : decode cX7_write 34 = .ok (.irem, 1) := by decide +kernel
theorem dX7_write_35 : decode cX7_write 35 = .ok (.iconst 5, 1) := by decide +kernel
theorem dX7_write_36 : decode cX7_write 36 = .ok (.if_icmp .le 6, 3) := by decide +kernel
theorem dX7_write_39 : decode cX7_write 39 = .ok (.ldc 81, 2) := by decide +kernel
theorem dX7_write_41 : decode cX7_write 41 = .ok (.ireturn, 1) := by decide +kernel
theorem dX7_write_42 : decode cX7_write 42 = .ok (.aload_n 0, 1) := by decide +kernel
theorem dX7_write_43 : decode cX7_write 43 = .ok (.getfield 69, 3) := by decide +kernel
theorem dX7_write_46 : decode cX7_write 46 = .ok (.iload_n 1, 1) := by decide +kernel
theorem dX7_write_47 : decode cX7_write 47 = .ok (.invokevirtual 267, 3) := by decide +kernel
theorem dX7_write_50 : decode cX7_write 50 = .ok (.ireturn, 1) := by decide +kernel
theorem cl_X7_267 {X : Cx} {cc : ByteArray} {nL pc fr lo : Nat} {L : List (Nat × Value)} {st : List Value} {S : St} (ok : Ok X cc nL RX7 fr lo) {x1 : Int32} (d : decode cc pc = .ok (.invokevirtual 267, 3)) (hroom : 1 ≤ fr ∧ 21 ≤ lo) (hst : (st.map fun v => v.category).sum ≤ 8) {post : Int32 → St → Prop} (h : wp_X0_add x1 S post) (kk : ∀ (r : Int32) (S1 : St), post r S1 → Wp X nL (pc + 3) L (.int r :: st) S1) : Wp X nL pc L (.int x1 :: .ref (xad X 69) :: st) S :=
  r_callVi (n := 2) (f := 0) (lo1 := 0) (N := 1) (As := [.int x1]) ok tw_in_X0 tw_im_X0_add tw_se_X0_add tw_co_X0_add tw_ml_X7_267 (by decide +kernel) rfl ob_69 rfl hroom hst d rfl (c_X0_add (xl X) (xG X) h) kk
def B_X7_write_31 (post : Int32 → St → Prop) (x1 : Int32) (S : St) : Prop :=
  (((x1 - x1 / 10 * 10) ≤ 5 → wp_X0_add x1 S (fun r3 S2 => post r3 S2)) ∧ (¬ (x1 - x1 / 10 * 10) ≤ 5 → post (-1000000002) S))
def wp_X7_write (x1 : Int32) (S : St) (post : Int32 → St → Prop) : Prop :=
  ((x1 < 0 → ((0 ≤ x1 → B_X7_write_31 post x1 S) ∧ (¬ 0 ≤ x1 → ((¬ x1 = (-2) → post (-1000000002) S) ∧ (x1 = (-2) → B_X7_write_31 post x1 S))))) ∧ (¬ x1 < 0 → wp_X6_hasRoad 0 (x1 / 10) S (fun r5 S4 => ((¬ r5 = 0 → ((0 ≤ x1 → B_X7_write_31 post x1 S4) ∧ (¬ 0 ≤ x1 → ((¬ x1 = (-2) → post (-1000000002) S4) ∧ (x1 = (-2) → B_X7_write_31 post x1 S4))))) ∧ (r5 = 0 → post (-1000000001) S4)))))
theorem w_B_X7_write_31 {X : Cx} (ok : Ok X cX7_write 2 RX7 1 21) {post : Int32 → St → Prop} (hret : RetI X cX7_write 2 post) {x1 : Int32} {S : St} (h : B_X7_write_31 post x1 S) : Wp X 2 31 [(0, .ref (xad X 44)), (1, .int x1)] [] S := by
  unfold B_X7_write_31 at h
  refine r_iload_n ok dX7_write_31 1 rfl ?_
  refine r_bipush (v := 10) ok dX7_write_32 rfl ?_
  refine r_irem ok dX7_write_34 (by decide) ?_
  refine r_iconst (v := 5) ok dX7_write_35 rfl ?_
  refine r_icmp_le (tgt := 42) ok dX7_write_36 rfl (fun hc1 => ?_) (fun hc1 => ?_)
  · replace h := h.1 hc1
    refine r_aload_n ok dX7_write_42 0 rfl ?_
    refine gf_X7_69 ok dX7_write_43 ?_
    refine r_iload_n ok dX7_write_46 1 rfl ?_
    refine cl_X7_267 ok dX7_write_47 (by decide) (Nat.le_of_ble_eq_true rfl) h (fun r3 S2 h => ?_)
    exact hret _ _ _ _ dX7_write_50 h
  · replace h := h.2 hc1
    refine r_ldc (v := (-1000000002)) ok dX7_write_39 tw_k_X7_81 ?_
    exact hret _ _ _ _ dX7_write_41 h
theorem w_wp_X7_write {X : Cx} (ok : Ok X cX7_write 2 RX7 1 21) {post : Int32 → St → Prop} (hret : RetI X cX7_write 2 post) {x1 : Int32} {S : St} (h : wp_X7_write x1 S post) : Wp X 2 0 [(0, .ref (xad X 44)), (1, .int x1)] [] S := by
  unfold wp_X7_write at h
  refine r_iload_n ok dX7_write_0 1 rfl ?_
  refine r_if_lt (tgt := 21) ok dX7_write_1 rfl (fun hc1 => ?_) (fun hc1 => ?_)
  · replace h := h.1 hc1
    refine r_iload_n ok dX7_write_21 1 rfl ?_
    refine r_if_ge (tgt := 31) ok dX7_write_22 rfl (fun hc2 => ?_) (fun hc2 => ?_)
    · replace h := h.1 hc2
      exact w_B_X7_write_31 ok hret h
    · replace h := h.2 hc2
      refine r_iload_n ok dX7_write_25 1 rfl ?_
      refine r_bipush (v := (-2)) ok dX7_write_26 rfl ?_
      refine r_icmp_ne (tgt := 39) ok dX7_write_28 rfl (fun hc3 => ?_) (fun hc3 => ?_)
      · replace h := h.1 hc3
        refine r_ldc (v := (-1000000002)) ok dX7_write_39 tw_k_X7_81 ?_
        exact hret _ _ _ _ dX7_write_41 h
      · replace h := h.2 hc3
        exact w_B_X7_write_31 ok hret h
  · replace h := h.2 hc1
    refine r_aload_n ok dX7_write_4 0 rfl ?_
    refine gf_X7_12 ok dX7_write_5 ?_
    refine r_iload_n ok dX7_write_8 1 rfl ?_
    refine r_bipush (v := 10) ok dX7_write_9 rfl ?_
    refine r_idiv ok dX7_write_11 (by decide) ?_
    refine cl_X7_125 ok isW_0 dX7_write_12 (by decide) (Nat.le_of_ble_eq_true rfl) h (fun r5 S4 h => ?_)
    refine r_if_ne (tgt := 21) ok dX7_write_15 rfl (fun hc6 => ?_) (fun hc6 => ?_)
    · replace h := h.1 hc6
      refine r_iload_n ok dX7_write_21 1 rfl ?_
      refine r_if_ge (tgt := 31) ok dX7_write_22 rfl (fun hc7 => ?_) (fun hc7 => ?_)
      · replace h := h.1 hc7
        exact w_B_X7_write_31 ok hret h
      · replace h := h.2 hc7
        refine r_iload_n ok dX7_write_25 1 rfl ?_
        refine r_bipush (v := (-2)) ok dX7_write_26 rfl ?_
        refine r_icmp_ne (tgt := 39) ok dX7_write_28 rfl (fun hc8 => ?_) (fun hc8 => ?_)
        · replace h := h.1 hc8
          refine r_ldc (v := (-1000000002)) ok dX7_write_39 tw_k_X7_81 ?_
          exact hret _ _ _ _ dX7_write_41 h
        · replace h := h.2 hc8
          exact w_B_X7_write_31 ok hret h
    · replace h := h.2 hc6
      refine r_ldc (v := (-1000000001)) ok dX7_write_18 tw_k_X7_129 ?_
      exact hret _ _ _ _ dX7_write_20 h
theorem c_X7_write (l : Launch) (G : Gx) {x1 : Int32} {S : St} {post : Int32 → St → Prop} (h : wp_X7_write x1 S post) : MtI l yX7_write cX7_write 2 (some .int) 1 21 G [.ref (G.2.2 44), .int x1] S post :=
  ctI (by decide) rfl (Nat.le_of_ble_eq_true rfl) (fun X _ hG ok hret => by subst hG; exact w_wp_X7_write ok hret h)

/-! HasteRoads.tear()I -/
theorem dX7_tear_0 : decode cX7_tear 0 = .ok (.aload_n 0, 1) := by decide +kernel
theorem dX7_tear_1 : decode cX7_tear 1 = .ok (.getfield 62, 3) := by decide +kernel
theorem dX7_tear_4 : decode cX7_tear 4 = .ok (.getfield 100, 3) := by decide +kernel
theorem dX7_tear_7 : decode cX7_tear 7 = .ok (.aload_n 0, 1) := by decide +kernel
theorem dX7_tear_8 : decode cX7_tear 8 = .ok (.getfield 69, 3) := by decide +kernel
theorem dX7_tear_11 : decode cX7_tear 11 = .ok (.getfield 103, 3) := by decide +kernel
theorem dX7_tear_14 : decode cX7_tear 14 = .ok (.iadd, 1) := by decide +kernel
theorem dX7_tear_15 : decode cX7_tear 15 = .ok (.istore_n 1, 1) := by decide +kernel
theorem dX7_tear_16 : decode cX7_tear 16 = .ok (.aload_n 0, 1) := by decide +kernel
theorem dX7_tear_17 : decode cX7_tear 17 = .ok (.getfield 62, 3) := by decide +kernel
theorem dX7_tear_20 : decode cX7_tear 20 = .ok (.iconst 0, 1) := by decide +kernel
theorem dX7_tear_21 : decode cX7_tear 21 = .ok (.putfield 100, 3) := by decide +kernel
theorem dX7_tear_24 : decode cX7_tear 24 = .ok (.aload_n 0, 1) := by decide +kernel
theorem dX7_tear_25 : decode cX7_tear 25 = .ok (.getfield 69, 3) := by decide +kernel
theorem dX7_tear_28 : decode cX7_tear 28 = .ok (.iconst 0, 1) := by decide +kernel
theorem dX7_tear_29 : decode cX7_tear 29 = .ok (.putfield 103, 3) := by decide +kernel
theorem dX7_tear_32 : decode cX7_tear 32 = .ok (.iload_n 1, 1) := by decide +kernel
theorem dX7_tear_33 : decode cX7_tear 33 = .ok (.ireturn, 1) := by decide +kernel

def wp_X7_tear (S : St) (post : Int32 → St → Prop) : Prop :=
  ∀ v1 : Int32, v1 = ((S 63 0) + (S 69 0)) → ∀ S2 : St, S2 = up S 63 0 0 → ∀ S3 : St, S3 = up S2 69 0 0 → post v1 S3
theorem w_wp_X7_tear {X : Cx} (ok : Ok X cX7_tear 2 RX7 0 0) {post : Int32 → St → Prop} (hret : RetI X cX7_tear 2 post) {S : St} (h : wp_X7_tear S post) : Wp X 2 0 [(0, .ref (xad X 44))] [] S := by
  unfold wp_X7_tear at h
  refine r_aload_n ok dX7_tear_0 0 rfl ?_
  refine gf_X7_62 ok dX7_tear_1 ?_
  refine gf_X7_100 ok dX7_tear_4 ?_
  refine r_aload_n ok dX7_tear_7 0 rfl ?_
  refine gf_X7_69 ok dX7_tear_8 ?_
  refine gf_X7_103 ok dX7_tear_11 ?_
  refine r_iadd ok dX7_tear_14 ?_
  refine r_top (fun v1 ev1 => ?_)
  replace h := h v1 ev1
  refine r_istore_n ok dX7_tear_15 (by decide) [(0, .ref (xad X 44)), (1, .int v1)] [1, 0] rfl ?_
  refine r_aload_n ok dX7_tear_16 0 rfl ?_
  refine gf_X7_62 ok dX7_tear_17 ?_
  refine r_iconst (v := 0) ok dX7_tear_20 rfl ?_
  refine pf_X7_100 ok dX7_tear_21 (fun S2 eS2 => ?_)
  replace h := h S2 eS2
  refine r_aload_n ok dX7_tear_24 0 rfl ?_
  refine gf_X7_69 ok dX7_tear_25 ?_
  refine r_iconst (v := 0) ok dX7_tear_28 rfl ?_
  refine pf_X7_103 ok dX7_tear_29 (fun S3 eS3 => ?_)
  replace h := h S3 eS3
  refine r_iload_n ok dX7_tear_32 1 rfl ?_
  exact hret _ _ _ _ dX7_tear_33 h
theorem c_X7_tear (l : Launch) (G : Gx) {S : St} {post : Int32 → St → Prop} (h : wp_X7_tear S post) : MtI l yX7_tear cX7_tear 2 (some .int) 0 0 G [.ref (G.2.2 44)] S post :=
  ctI (by decide) rfl (Nat.le_of_ble_eq_true rfl) (fun X _ hG ok hret => by subst hG; exact w_wp_X7_tear ok hret h)

/-! HasteRoads.judge(II)I -/
theorem dX7_judge_0 : decode cX7_judge 0 = .ok (.aload_n 0, 1) := by decide +kernel
theorem dX7_judge_1 : decode cX7_judge 1 = .ok (.getfield 12, 3) := by decide +kernel
theorem dX7_judge_4 : decode cX7_judge 4 = .ok (.iload_n 1, 1) := by decide +kernel
theorem dX7_judge_5 : decode cX7_judge 5 = .ok (.invokevirtual 139, 3) := by decide +kernel
theorem dX7_judge_8 : decode cX7_judge 8 = .ok (.ifCond .ne 6, 3) := by decide +kernel
theorem dX7_judge_11 : decode cX7_judge 11 = .ok (.ldc 129, 2) := by decide +kernel
theorem dX7_judge_13 : decode cX7_judge 13 = .ok (.ireturn, 1) := by decide +kernel
theorem dX7_judge_14 : decode cX7_judge 14 = .ok (.iload_n 2, 1) := by decide +kernel
theorem dX7_judge_15 : decode cX7_judge 15 = .ok (.iconst 0, 1) := by decide +kernel
theorem dX7_judge_16 : decode cX7_judge 16 = .ok (.iconst 1, 1) := by decide +kernel
theorem dX7_judge_17 : decode cX7_judge 17 = .ok (.invokestatic 77, 3) := by decide +kernel
theorem dX7_judge_20 : decode cX7_judge 20 = .ok (.ifCond .eq 6, 3) := by decide +kernel
theorem dX7_judge_23 : decode cX7_judge 23 = .ok (.ldc 81, 2) := by decide +kernel
theorem dX7_judge_25 : decode cX7_judge 25 = .ok (.ireturn, 1) := by decide +kernel
theorem dX7_judge_26 : decode cX7_judge 26 = .ok (.aload_n 0, 1) := by decide +kernel
theorem dX7_judge_27 : decode cX7_judge 27 = .ok (.getfield 16, 3) := by decide +kernel
theorem dX7_judge_30 : decode cX7_judge 30 = .ok (.aload_n 0, 1) := by decide +kernel
theorem dX7_judge_31 : decode cX7_judge 31 = .ok (.getfield 12, 3) := by decide +kernel
theorem dX7_judge_34 : decode cX7_judge 34 = .ok (.invokevirtual 97, 3) := by decide +kernel
theorem dX7_judge_37 : decode cX7_judge 37 = .ok (.aload_n 0, 1) := by decide +kernel
theorem dX7_judge_38 : decode cX7_judge 38 = .ok (.getfield 69, 3) := by decide +kernel
theorem dX7_judge_41 : decode cX7_judge 41 = .ok (.aload_n 0, 1) := by decide +kernel
theorem dX7_judge_42 : decode cX7_judge 42 = .ok (.getfield 16, 3) := by decide +kernel
theorem dX7_judge_45 : decode cX7_judge 45 = .ok (.iload_n 1, 1) := by decide +kernel
theorem dX7_judge_46 : decode cX7_judge 46 = .ok (.invokevirtual 268, 3) := by decide +kernel
theorem dX7_judge_49 : decode cX7_judge 49 = .ok (.istore_n 3, 1) := by decide +kernel
theorem dX7_judge_50 : decode cX7_judge 50 = .ok (.iload_n 2, 1) := by decide +kernel
theorem dX7_judge_51 : decode cX7_judge 51 = .ok (.ifCond .ne 7, 3) := by decide +kernel
theorem dX7_judge_54 : decode cX7_judge 54 = .ok (.iload_n 3, 1) := by decide +kernel
theorem dX7_judge_55 : decode cX7_judge 55 = .ok (.goto 12, 3) := by decide +kernel
theorem dX7_judge_58 : decode cX7_judge 58 = .ok (.aload_n 0, 1) := by decide +kernel
theorem dX7_judge_59 : decode cX7_judge 59 = .ok (.getfield 16, 3) := by decide +kernel
theorem dX7_judge_62 : decode cX7_judge 62 = .ok (.getfield 160, 3) := by decide +kernel
theorem dX7_judge_65 : decode cX7_judge 65 = .ok (.iload_n 1, 1) := by decide +kernel
theorem dX7_judge_66 : decode cX7_judge 66 = .ok (.iaload, 1) := by decide +kernel
theorem dX7_judge_67 : decode cX7_judge 67 = .ok (.ireturn, 1) := by decide +kernel
theorem cl_X7_268 {X : Cx} {cc : ByteArray} {nL pc fr lo : Nat} {L : List (Nat × Value)} {st : List Value} {S : St} (ok : Ok X cc nL RX7 fr lo) {x2 : Int32} (d : decode cc pc = .ok (.invokevirtual 268, 3)) (hroom : 4 ≤ fr ∧ 97 ≤ lo) (hst : (st.map fun v => v.category).sum ≤ 8) {post : Int32 → St → Prop} (h : wp_X0_follow x2 S post) (kk : ∀ (r : Int32) (S1 : St), post r S1 → Wp X nL (pc + 3) L (.int r :: st) S1) : Wp X nL pc L (.int x2 :: .ref (xad X 11) :: .ref (xad X 69) :: st) S :=
  r_callVi (n := 5) (f := 3) (lo1 := 73) (N := 2) (As := [.ref (xad X 11), .int x2]) ok tw_in_X0 tw_im_X0_follow tw_se_X0_follow tw_co_X0_follow tw_ml_X7_268 (by decide +kernel) rfl ob_69 rfl hroom hst d rfl (c_X0_follow (xl X) (xG X) h) kk
def wp_X7_judge (x1 : Int32) (x2 : Int32) (S : St) (post : Int32 → St → Prop) : Prop :=
  wp_X6_hasPerson 0 x1 S (fun r2 S1 => ((¬ r2 = 0 → wp_X7_outside x2 0 1 S1 (fun r5 S4 => ((r5 = 0 → wp_X6_become 11 0 S4 (fun S7 => wp_X0_follow x1 S7 (fun r9 S8 => ((¬ x2 = 0 → vp_in x1 4 ∧ (post (S8 21 (ix x1)) S8)) ∧ (x2 = 0 → post r9 S8))))) ∧ (¬ r5 = 0 → post (-1000000002) S4)))) ∧ (r2 = 0 → post (-1000000001) S1)))
theorem w_wp_X7_judge {X : Cx} (ok : Ok X cX7_judge 4 RX7 4 97) {post : Int32 → St → Prop} (hret : RetI X cX7_judge 4 post) {x1 x2 : Int32} {S : St} (h : wp_X7_judge x1 x2 S post) : Wp X 4 0 [(0, .ref (xad X 44)), (1, .int x1), (2, .int x2)] [] S := by
  unfold wp_X7_judge at h
  refine r_aload_n ok dX7_judge_0 0 rfl ?_
  refine gf_X7_12 ok dX7_judge_1 ?_
  refine r_iload_n ok dX7_judge_4 1 rfl ?_
  refine cl_X7_139 ok isW_0 dX7_judge_5 (by decide) (Nat.le_of_ble_eq_true rfl) h (fun r2 S1 h => ?_)
  refine r_if_ne (tgt := 14) ok dX7_judge_8 rfl (fun hc3 => ?_) (fun hc3 => ?_)
  · replace h := h.1 hc3
    refine r_iload_n ok dX7_judge_14 2 rfl ?_
    refine r_iconst (v := 0) ok dX7_judge_15 rfl ?_
    refine r_iconst (v := 1) ok dX7_judge_16 rfl ?_
    refine cl_X7_77 ok dX7_judge_17 (by decide) (Nat.le_of_ble_eq_true rfl) h (fun r5 S4 h => ?_)
    refine r_if_eq (tgt := 26) ok dX7_judge_20 rfl (fun hc6 => ?_) (fun hc6 => ?_)
    · replace h := h.1 hc6
      refine r_aload_n ok dX7_judge_26 0 rfl ?_
      refine gf_X7_16 ok dX7_judge_27 ?_
      refine r_aload_n ok dX7_judge_30 0 rfl ?_
      refine gf_X7_12 ok dX7_judge_31 ?_
      refine cl_X7_97 ok isW_11 isW_0 dX7_judge_34 (by decide) (Nat.le_of_ble_eq_true rfl) h (fun S7 h => ?_)
      refine r_aload_n ok dX7_judge_37 0 rfl ?_
      refine gf_X7_69 ok dX7_judge_38 ?_
      refine r_aload_n ok dX7_judge_41 0 rfl ?_
      refine gf_X7_16 ok dX7_judge_42 ?_
      refine r_iload_n ok dX7_judge_45 1 rfl ?_
      refine cl_X7_268 ok dX7_judge_46 (by decide) (Nat.le_of_ble_eq_true rfl) h (fun r9 S8 h => ?_)
      refine r_istore_n ok dX7_judge_49 (by decide) [(0, .ref (xad X 44)), (1, .int x1), (2, .int x2), (3, .int r9)] [1, 2, 3, 0] rfl ?_
      refine r_iload_n ok dX7_judge_50 2 rfl ?_
      refine r_if_ne (tgt := 58) ok dX7_judge_51 rfl (fun hc10 => ?_) (fun hc10 => ?_)
      · replace h := h.1 hc10
        refine r_aload_n ok dX7_judge_58 0 rfl ?_
        refine gf_X7_16 ok dX7_judge_59 ?_
        refine gf_X7_160 ok isW_11 dX7_judge_62 ?_
        refine r_iload_n ok dX7_judge_65 1 rfl ?_
        refine r_iald ok ai_21 h.1 rfl dX7_judge_66 ?_
        replace h := h.2
        exact hret _ _ _ _ dX7_judge_67 h
      · replace h := h.2 hc10
        refine r_iload_n ok dX7_judge_54 3 rfl ?_
        refine r_goto (tgt := 67) ok dX7_judge_55 rfl ?_
        exact hret _ _ _ _ dX7_judge_67 h
    · replace h := h.2 hc6
      refine r_ldc (v := (-1000000002)) ok dX7_judge_23 tw_k_X7_81 ?_
      exact hret _ _ _ _ dX7_judge_25 h
  · replace h := h.2 hc3
    refine r_ldc (v := (-1000000001)) ok dX7_judge_11 tw_k_X7_129 ?_
    exact hret _ _ _ _ dX7_judge_13 h
theorem c_X7_judge (l : Launch) (G : Gx) {x1 x2 : Int32} {S : St} {post : Int32 → St → Prop} (h : wp_X7_judge x1 x2 S post) : MtI l yX7_judge cX7_judge 4 (some .int) 4 97 G [.ref (G.2.2 44), .int x1, .int x2] S post :=
  ctI (by decide) rfl (Nat.le_of_ble_eq_true rfl) (fun X _ hG ok hret => by subst hG; exact w_wp_X7_judge ok hret h)

/-! HasteRoads.seed(I)I -/
theorem dX7_seed_0 : decode cX7_seed 0 = .ok (.iload_n 1, 1) := by decide +kernel
theorem dX7_seed_1 : decode cX7_seed 1 = .ok (.ifCond .ge 6, 3) := by decide +kernel
theorem dX7_seed_4 : decode cX7_seed 4 = .ok (.ldc 81, 2) := by decide +kernel
theorem dX7_seed_6 : decode cX7_seed 6 = .ok (.ireturn, 1) := by decide +kernel
theorem dX7_seed_7 : decode cX7_seed 7 = .ok (.aload_n 0, 1) := by decide +kernel
theorem dX7_seed_8 : decode cX7_seed 8 = .ok (.getfield 12, 3) := by decide +kernel
theorem dX7_seed_11 : decode cX7_seed 11 = .ok (.getfield 89, 3) := by decide +kernel
theorem dX7_seed_14 : decode cX7_seed 14 = .ok (.istore_n 2, 1) := by decide +kernel
theorem dX7_seed_15 : decode cX7_seed 15 = .ok (.aload_n 0, 1) := by decide +kernel
theorem dX7_seed_16 : decode cX7_seed 16 = .ok (.getfield 12, 3) := by decide +kernel
theorem dX7_seed_19 : decode cX7_seed 19 = .ok (.iload_n 1, 1) := by decide +kernel
theorem dX7_seed_20 : decode cX7_seed 20 = .ok (.putfield 89, 3) := by decide +kernel
theorem dX7_seed_23 : decode cX7_seed 23 = .ok (.iload_n 2, 1) := by decide +kernel
theorem dX7_seed_24 : decode cX7_seed 24 = .ok (.ireturn, 1) := by decide +kernel

def wp_X7_seed (x1 : Int32) (S : St) (post : Int32 → St → Prop) : Prop :=
  ((0 ≤ x1 → ∀ v2 : Int32, v2 = (S 0 5) → ∀ S3 : St, S3 = up S 0 5 x1 → post v2 S3) ∧ (¬ 0 ≤ x1 → post (-1000000002) S))
theorem w_wp_X7_seed {X : Cx} (ok : Ok X cX7_seed 3 RX7 0 0) {post : Int32 → St → Prop} (hret : RetI X cX7_seed 3 post) {x1 : Int32} {S : St} (h : wp_X7_seed x1 S post) : Wp X 3 0 [(0, .ref (xad X 44)), (1, .int x1)] [] S := by
  unfold wp_X7_seed at h
  refine r_iload_n ok dX7_seed_0 1 rfl ?_
  refine r_if_ge (tgt := 7) ok dX7_seed_1 rfl (fun hc1 => ?_) (fun hc1 => ?_)
  · replace h := h.1 hc1
    refine r_aload_n ok dX7_seed_7 0 rfl ?_
    refine gf_X7_12 ok dX7_seed_8 ?_
    refine gf_X7_89 ok isW_0 dX7_seed_11 ?_
    refine r_top (fun v2 ev2 => ?_)
    replace h := h v2 ev2
    refine r_istore_n ok dX7_seed_14 (by decide) [(0, .ref (xad X 44)), (1, .int x1), (2, .int v2)] [1, 2, 0] rfl ?_
    refine r_aload_n ok dX7_seed_15 0 rfl ?_
    refine gf_X7_12 ok dX7_seed_16 ?_
    refine r_iload_n ok dX7_seed_19 1 rfl ?_
    refine pf_X7_89 ok isW_0 dX7_seed_20 (fun S3 eS3 => ?_)
    replace h := h S3 eS3
    refine r_iload_n ok dX7_seed_23 2 rfl ?_
    exact hret _ _ _ _ dX7_seed_24 h
  · replace h := h.2 hc1
    refine r_ldc (v := (-1000000002)) ok dX7_seed_4 tw_k_X7_81 ?_
    exact hret _ _ _ _ dX7_seed_6 h
theorem c_X7_seed (l : Launch) (G : Gx) {x1 : Int32} {S : St} {post : Int32 → St → Prop} (h : wp_X7_seed x1 S post) : MtI l yX7_seed cX7_seed 3 (some .int) 0 0 G [.ref (G.2.2 44), .int x1] S post :=
  ctI (by decide) rfl (Nat.le_of_ble_eq_true rfl) (fun X _ hG ok hret => by subst hG; exact w_wp_X7_seed ok hret h)

/-! HasteRoads.keep(I)I -/
theorem dX7_keep_0 : decode cX7_keep 0 = .ok (.iload_n 1, 1) := by decide +kernel
theorem dX7_keep_1 : decode cX7_keep 1 = .ok (.iconst 0, 1) := by decide +kernel
theorem dX7_keep_2 : decode cX7_keep 2 = .ok (.iconst 1, 1) := by decide +kernel
theorem dX7_keep_3 : decode cX7_keep 3 = .ok (.invokestatic 77, 3) := by decide +kernel
theorem dX7_keep_6 : decode cX7_keep 6 = .ok (.ifCond .eq 6, 3) := by decide +kernel
theorem dX7_keep_9 : decode cX7_keep 9 = .ok (.ldc 129, 2) := by decide +kernel
theorem dX7_keep_11 : decode cX7_keep 11 = .ok (.ireturn, 1) := by decide +kernel
theorem dX7_keep_12 : decode cX7_keep 12 = .ok (.aload_n 0, 1) := by decide +kernel
theorem dX7_keep_13 : decode cX7_keep 13 = .ok (.getfield 19, 3) := by decide +kernel
theorem dX7_keep_16 : decode cX7_keep 16 = .ok (.iload_n 1, 1) := by decide +kernel
theorem dX7_keep_17 : decode cX7_keep 17 = .ok (.aaload, 1) := by decide +kernel
theorem dX7_keep_18 : decode cX7_keep 18 = .ok (.aload_n 0, 1) := by decide +kernel
theorem dX7_keep_19 : decode cX7_keep 19 = .ok (.getfield 12, 3) := by decide +kernel
theorem dX7_keep_22 : decode cX7_keep 22 = .ok (.invokevirtual 97, 3) := by decide +kernel
theorem dX7_keep_25 : decode cX7_keep 25 = .ok (.aload_n 0, 1) := by decide +kernel
theorem dX7_keep_26 : decode cX7_keep 26 = .ok (.getfield 23, 3) := by decide +kernel
theorem dX7_keep_29 : decode cX7_keep 29 = .ok (.iload_n 1, 1) := by decide +kernel
theorem dX7_keep_30 : decode cX7_keep 30 = .ok (.iconst 1, 1) := by decide +kernel
theorem dX7_keep_31 : decode cX7_keep 31 = .ok (.bastore, 1) := by decide +kernel
theorem dX7_keep_32 : decode cX7_keep 32 = .ok (.iconst 1, 1) := by decide +kernel
theorem dX7_keep_33 : decode cX7_keep 33 = .ok (.ireturn, 1) := by decide +kernel
theorem gf_X7_19 {X : Cx} {cc : ByteArray} {nL pc fr lo : Nat} {L : List (Nat × Value)} {st : List Value} {S : St} (ok : Ok X cc nL RX7 fr lo) (d : decode cc pc = .ok (.getfield 19, 3)) (k : Wp X nL (pc + 3) L (.ref (xad X 45) :: st) S) : Wp X nL pc L (.ref (xad X 44) :: st) S :=
  r_get (C := RX7) (T := TX7) ok ob_44 rfl i_X7 2 (by decide) tw_fl_X7_19 d (by rw [show fvl (xad X) S 44 2 = .ref (xad X 45) from (fvl_ref (d := 45) (by decide))]; exact k)
def wp_X7_keep (x1 : Int32) (S : St) (post : Int32 → St → Prop) : Prop :=
  wp_X7_outside x1 0 1 S (fun r2 S1 => ((r2 = 0 → vp_in x1 2 ∧ (wp_X6_become (22 + 11 * ix x1) 0 S1 (fun S5 => vp_in x1 2 ∧ (∀ S6 : St, S6 = up S5 46 (ix x1) 1 → post 1 S6)))) ∧ (¬ r2 = 0 → post (-1000000001) S1)))
theorem w_wp_X7_keep {X : Cx} (ok : Ok X cX7_keep 2 RX7 2 47) {post : Int32 → St → Prop} (hret : RetI X cX7_keep 2 post) {x1 : Int32} {S : St} (h : wp_X7_keep x1 S post) : Wp X 2 0 [(0, .ref (xad X 44)), (1, .int x1)] [] S := by
  unfold wp_X7_keep at h
  refine r_iload_n ok dX7_keep_0 1 rfl ?_
  refine r_iconst (v := 0) ok dX7_keep_1 rfl ?_
  refine r_iconst (v := 1) ok dX7_keep_2 rfl ?_
  refine cl_X7_77 ok dX7_keep_3 (by decide) (Nat.le_of_ble_eq_true rfl) h (fun r2 S1 h => ?_)
  refine r_if_eq (tgt := 12) ok dX7_keep_6 rfl (fun hc3 => ?_) (fun hc3 => ?_)
  · replace h := h.1 hc3
    refine r_aload_n ok dX7_keep_12 0 rfl ?_
    refine gf_X7_19 ok dX7_keep_13 ?_
    refine r_iload_n ok dX7_keep_16 1 rfl ?_
    have hi4 := h.1
    refine r_aald ok aw_45 hi4 dX7_keep_17 ?_
    replace h := h.2
    refine r_aload_n ok dX7_keep_18 0 rfl ?_
    refine gf_X7_12 ok dX7_keep_19 ?_
    refine cl_X7_97 ok (isW.r0 _ (vp_in_lt hi4)) isW_0 dX7_keep_22 (by decide) (Nat.le_of_ble_eq_true rfl) h (fun S5 h => ?_)
    refine r_aload_n ok dX7_keep_25 0 rfl ?_
    refine gf_X7_23 ok dX7_keep_26 ?_
    refine r_iload_n ok dX7_keep_29 1 rfl ?_
    refine r_iconst (v := 1) ok dX7_keep_30 rfl ?_
    have hi7 := h.1
    replace h := h.2
    refine r_zast ok az_46 hi7 rfl (Or.inr rfl) dX7_keep_31 (fun S6 eS6 => ?_)
    replace h := h S6 eS6
    refine r_iconst (v := 1) ok dX7_keep_32 rfl ?_
    exact hret _ _ _ _ dX7_keep_33 h
  · replace h := h.2 hc3
    refine r_ldc (v := (-1000000001)) ok dX7_keep_9 tw_k_X7_129 ?_
    exact hret _ _ _ _ dX7_keep_11 h
theorem c_X7_keep (l : Launch) (G : Gx) {x1 : Int32} {S : St} {post : Int32 → St → Prop} (h : wp_X7_keep x1 S post) : MtI l yX7_keep cX7_keep 2 (some .int) 2 47 G [.ref (G.2.2 44), .int x1] S post :=
  ctI (by decide) rfl (Nat.le_of_ble_eq_true rfl) (fun X _ hG ok hret => by subst hG; exact w_wp_X7_keep ok hret h)

/-! HasteRoads.goBack(I)I -/
theorem dX7_goBack_0 : decode cX7_goBack 0 = .ok (.iload_n 1, 1) := by decide +kernel
theorem dX7_goBack_1 : decode cX7_goBack 1 = .ok (.iconst 0, 1) := by decide +kernel
theorem dX7_goBack_2 : decode cX7_goBack 2 = .ok (.iconst 1, 1) := by decide +kernel
theorem dX7_goBack_3 : decode cX7_goBack 3 = .ok (.invokestatic 77, 3) := by decide +kernel
theorem dX7_goBack_6 : decode cX7_goBack 6 = .ok (.ifCond .eq 6, 3) := by decide +kernel
theorem dX7_goBack_9 : decode cX7_goBack 9 = .ok (.ldc 129, 2) := by decide +kernel
theorem dX7_goBack_11 : decode cX7_goBack 11 = .ok (.ireturn, 1) := by decide +kernel
theorem dX7_goBack_12 : decode cX7_goBack 12 = .ok (.aload_n 0, 1) := by decide +kernel
theorem dX7_goBack_13 : decode cX7_goBack 13 = .ok (.getfield 23, 3) := by decide +kernel
theorem dX7_goBack_16 : decode cX7_goBack 16 = .ok (.iload_n 1, 1) := by decide +kernel
theorem dX7_goBack_17 : decode cX7_goBack 17 = .ok (.baload, 1) := by decide +kernel
theorem dX7_goBack_18 : decode cX7_goBack 18 = .ok (.ifCond .ne 6, 3) := by decide +kernel
theorem dX7_goBack_21 : decode cX7_goBack 21 = .ok (.ldc 175, 2) := by decide +kernel
theorem dX7_goBack_23 : decode cX7_goBack 23 = .ok (.ireturn, 1) := by decide +kernel
theorem dX7_goBack_24 : decode cX7_goBack 24 = .ok (.aload_n 0, 1) := by decide +kernel
theorem dX7_goBack_25 : decode cX7_goBack 25 = .ok (.getfield 12, 3) := by decide +kernel
theorem dX7_goBack_28 : decode cX7_goBack 28 = .ok (.aload_n 0, 1) := by decide +kernel
theorem dX7_goBack_29 : decode cX7_goBack 29 = .ok (.getfield 19, 3) := by decide +kernel
theorem dX7_goBack_32 : decode cX7_goBack 32 = .ok (.iload_n 1, 1) := by decide +kernel
theorem dX7_goBack_33 : decode cX7_goBack 33 = .ok (.aaload, 1) := by decide +kernel
theorem dX7_goBack_34 : decode cX7_goBack 34 = .ok (.invokevirtual 97, 3) := by decide +kernel
theorem dX7_goBack_37 : decode cX7_goBack 37 = .ok (.iconst 1, 1) := by decide +kernel
theorem dX7_goBack_38 : decode cX7_goBack 38 = .ok (.ireturn, 1) := by decide +kernel

def wp_X7_goBack (x1 : Int32) (S : St) (post : Int32 → St → Prop) : Prop :=
  wp_X7_outside x1 0 1 S (fun r2 S1 => ((r2 = 0 → vp_in x1 2 ∧ (((¬ (S1 46 (ix x1)) = 0 → vp_in x1 2 ∧ (wp_X6_become 0 (22 + 11 * ix x1) S1 (fun S6 => post 1 S6))) ∧ ((S1 46 (ix x1)) = 0 → post (-1000000003) S1)))) ∧ (¬ r2 = 0 → post (-1000000001) S1)))
theorem w_wp_X7_goBack {X : Cx} (ok : Ok X cX7_goBack 2 RX7 2 47) {post : Int32 → St → Prop} (hret : RetI X cX7_goBack 2 post) {x1 : Int32} {S : St} (h : wp_X7_goBack x1 S post) : Wp X 2 0 [(0, .ref (xad X 44)), (1, .int x1)] [] S := by
  unfold wp_X7_goBack at h
  refine r_iload_n ok dX7_goBack_0 1 rfl ?_
  refine r_iconst (v := 0) ok dX7_goBack_1 rfl ?_
  refine r_iconst (v := 1) ok dX7_goBack_2 rfl ?_
  refine cl_X7_77 ok dX7_goBack_3 (by decide) (Nat.le_of_ble_eq_true rfl) h (fun r2 S1 h => ?_)
  refine r_if_eq (tgt := 12) ok dX7_goBack_6 rfl (fun hc3 => ?_) (fun hc3 => ?_)
  · replace h := h.1 hc3
    refine r_aload_n ok dX7_goBack_12 0 rfl ?_
    refine gf_X7_23 ok dX7_goBack_13 ?_
    refine r_iload_n ok dX7_goBack_16 1 rfl ?_
    refine r_zald ok az_46 h.1 rfl dX7_goBack_17 ?_
    replace h := h.2
    refine r_if_ne (tgt := 24) ok dX7_goBack_18 rfl (fun hc4 => ?_) (fun hc4 => ?_)
    · replace h := h.1 hc4
      refine r_aload_n ok dX7_goBack_24 0 rfl ?_
      refine gf_X7_12 ok dX7_goBack_25 ?_
      refine r_aload_n ok dX7_goBack_28 0 rfl ?_
      refine gf_X7_19 ok dX7_goBack_29 ?_
      refine r_iload_n ok dX7_goBack_32 1 rfl ?_
      have hi5 := h.1
      refine r_aald ok aw_45 hi5 dX7_goBack_33 ?_
      replace h := h.2
      refine cl_X7_97 ok isW_0 (isW.r0 _ (vp_in_lt hi5)) dX7_goBack_34 (by decide) (Nat.le_of_ble_eq_true rfl) h (fun S6 h => ?_)
      refine r_iconst (v := 1) ok dX7_goBack_37 rfl ?_
      exact hret _ _ _ _ dX7_goBack_38 h
    · replace h := h.2 hc4
      refine r_ldc (v := (-1000000003)) ok dX7_goBack_21 tw_k_X7_175 ?_
      exact hret _ _ _ _ dX7_goBack_23 h
  · replace h := h.2 hc3
    refine r_ldc (v := (-1000000001)) ok dX7_goBack_9 tw_k_X7_129 ?_
    exact hret _ _ _ _ dX7_goBack_11 h
theorem c_X7_goBack (l : Launch) (G : Gx) {x1 : Int32} {S : St} {post : Int32 → St → Prop} (h : wp_X7_goBack x1 S post) : MtI l yX7_goBack cX7_goBack 2 (some .int) 2 47 G [.ref (G.2.2 44), .int x1] S post :=
  ctI (by decide) rfl (Nat.le_of_ble_eq_true rfl) (fun X _ hG ok hret => by subst hG; exact w_wp_X7_goBack ok hret h)
