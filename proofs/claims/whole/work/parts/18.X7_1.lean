/-! HasteRoads.soonest(II)I -/
theorem dX7_soonest_0 : decode cX7_soonest 0 = .ok (.aload_n 0, 1) := by decide +kernel
theorem dX7_soonest_1 : decode cX7_soonest 1 = .ok (.getfield 12, 3) := by decide +kernel
theorem dX7_soonest_4 : decode cX7_soonest 4 = .ok (.iload_n 1, 1) := by decide +kernel
theorem dX7_soonest_5 : decode cX7_soonest 5 = .ok (.invokevirtual 139, 3) := by decide +kernel
theorem dX7_soonest_8 : decode cX7_soonest 8 = .ok (.ifCond .eq 14, 3) := by decide +kernel
theorem dX7_soonest_11 : decode cX7_soonest 11 = .ok (.aload_n 0, 1) := by decide +kernel
theorem dX7_soonest_12 : decode cX7_soonest 12 = .ok (.getfield 12, 3) := by decide +kernel
theorem dX7_soonest_15 : decode cX7_soonest 15 = .ok (.iload_n 2, 1) := by decide +kernel
theorem dX7_soonest_16 : decode cX7_soonest 16 = .ok (.invokevirtual 167, 3) := by decide +kernel
theorem dX7_soonest_19 : decode cX7_soonest 19 = .ok (.ifCond .ne 6, 3) := by decide +kernel
theorem dX7_soonest_22 : decode cX7_soonest 22 = .ok (.ldc 129, 2) := by decide +kernel
theorem dX7_soonest_24 : decode cX7_soonest 24 = .ok (.ireturn, 1) := by decide +kernel
theorem dX7_soonest_25 : decode cX7_soonest 25 = .ok (.aload_n 0, 1) := by decide +kernel
theorem dX7_soonest_26 : decode cX7_soonest 26 = .ok (.getfield 16, 3) := by decide +kernel
theorem dX7_soonest_29 : decode cX7_soonest 29 = .ok (.aload_n 0, 1) := by decide +kernel
theorem dX7_soonest_30 : decode cX7_soonest 30 = .ok (.getfield 12, 3) := by decide +kernel
theorem dX7_soonest_33 : decode cX7_soonest 33 = .ok (.invokevirtual 97, 3) := by decide +kernel
theorem dX7_soonest_36 : decode cX7_soonest 36 = .ok (.aload_n 0, 1) := by decide +kernel
theorem dX7_soonest_37 : decode cX7_soonest 37 = .ok (.getfield 39, 3) := by decide +kernel
theorem dX7_soonest_40 : decode cX7_soonest 40 = .ok (.iload_n 1, 1) := by decide +kernel
theorem dX7_soonest_41 : decode cX7_soonest 41 = .ok (.iconst 0, 1) := by decide +kernel
theorem dX7_soonest_42 : decode cX7_soonest 42 = .ok (.iload_n 2, 1) := by decide +kernel
theorem dX7_soonest_43 : decode cX7_soonest 43 = .ok (.invokevirtual 204, 3) := by decide +kernel
theorem dX7_soonest_46 : decode cX7_soonest 46 = .ok (.aload_n 0, 1) := by decide +kernel
theorem dX7_soonest_47 : decode cX7_soonest 47 = .ok (.getfield 39, 3) := by decide +kernel
theorem dX7_soonest_50 : decode cX7_soonest 50 = .ok (.iload_n 2, 1) := by decide +kernel
theorem dX7_soonest_51 : decode cX7_soonest 51 = .ok (.invokevirtual 207, 3) := by decide +kernel
theorem dX7_soonest_54 : decode cX7_soonest 54 = .ok (.ireturn, 1) := by decide +kernel
theorem gf_X7_39 {X : Cx} {cc : ByteArray} {nL pc fr lo : Nat} {L : List (Nat × Value)} {st : List Value} {S : St} (ok : Ok X cc nL RX7 fr lo) (d : decode cc pc = .ok (.getfield 39, 3)) (k : Wp X nL (pc + 3) L (.ref (xad X 50) :: st) S) : Wp X nL pc L (.ref (xad X 44) :: st) S :=
  r_get (C := RX7) (T := TX7) ok ob_44 rfl i_X7 5 (by decide) tw_fl_X7_39 d (by rw [show fvl (xad X) S 44 5 = .ref (xad X 50) from (fvl_ref (d := 50) (by decide))]; exact k)
theorem cl_X7_204 {X : Cx} {cc : ByteArray} {nL pc fr lo : Nat} {L : List (Nat × Value)} {st : List Value} {S : St} (ok : Ok X cc nL RX7 fr lo) {x1 x2 x3 : Int32} (d : decode cc pc = .ok (.invokevirtual 204, 3)) (hroom : 4 ≤ fr ∧ 112 ≤ lo) (hst : (st.map fun v => v.category).sum ≤ 8) {post : St → Prop} (h : wp_X4_explore x1 x2 x3 S post) (kk : ∀ S1 : St, post S1 → Wp X nL (pc + 3) L st S1) : Wp X nL pc L (.int x3 :: .int x2 :: .int x1 :: .ref (xad X 50) :: st) S :=
  r_callVv (n := 8) (f := 3) (lo1 := 85) (N := 3) (As := [.int x1, .int x2, .int x3]) ok tw_in_X4 tw_im_X4_explore tw_se_X4_explore tw_co_X4_explore tw_ml_X7_204 (by decide +kernel) rfl ob_50 rfl hroom hst d rfl (c_X4_explore (xl X) (xG X) h) kk
theorem cl_X7_207 {X : Cx} {cc : ByteArray} {nL pc fr lo : Nat} {L : List (Nat × Value)} {st : List Value} {S : St} (ok : Ok X cc nL RX7 fr lo) {x1 : Int32} (d : decode cc pc = .ok (.invokevirtual 207, 3)) (hroom : 2 ≤ fr ∧ 44 ≤ lo) (hst : (st.map fun v => v.category).sum ≤ 8) {post : Int32 → St → Prop} (h : wp_X4_soonestAt x1 S post) (kk : ∀ (r : Int32) (S1 : St), post r S1 → Wp X nL (pc + 3) L (.int r :: st) S1) : Wp X nL pc L (.int x1 :: .ref (xad X 50) :: st) S :=
  r_callVi (n := 4) (f := 1) (lo1 := 21) (N := 1) (As := [.int x1]) ok tw_in_X4 tw_im_X4_soonestAt tw_se_X4_soonestAt tw_co_X4_soonestAt tw_ml_X7_207 (by decide +kernel) rfl ob_50 rfl hroom hst d rfl (c_X4_soonestAt (xl X) (xG X) h) kk
def wp_X7_soonest (x1 : Int32) (x2 : Int32) (S : St) (post : Int32 → St → Prop) : Prop :=
  wp_X6_hasPerson 0 x1 S (fun r2 S1 => ((r2 = 0 → post (-1000000001) S1) ∧ (¬ r2 = 0 → wp_X6_hasPlace 0 x2 S1 (fun r5 S4 => ((¬ r5 = 0 → wp_X6_become 11 0 S4 (fun S7 => wp_X4_explore x1 0 x2 S7 (fun S8 => wp_X4_soonestAt x2 S8 (fun r10 S9 => post r10 S9)))) ∧ (r5 = 0 → post (-1000000001) S4))))))
theorem w_wp_X7_soonest {X : Cx} (ok : Ok X cX7_soonest 3 RX7 4 112) {post : Int32 → St → Prop} (hret : RetI X cX7_soonest 3 post) {x1 x2 : Int32} {S : St} (h : wp_X7_soonest x1 x2 S post) : Wp X 3 0 [(0, .ref (xad X 44)), (1, .int x1), (2, .int x2)] [] S := by
  unfold wp_X7_soonest at h
  refine r_aload_n ok dX7_soonest_0 0 rfl ?_
  refine gf_X7_12 ok dX7_soonest_1 ?_
  refine r_iload_n ok dX7_soonest_4 1 rfl ?_
  refine cl_X7_139 ok isW_0 dX7_soonest_5 (by decide) (Nat.le_of_ble_eq_true rfl) h (fun r2 S1 h => ?_)
  refine r_if_eq (tgt := 22) ok dX7_soonest_8 rfl (fun hc3 => ?_) (fun hc3 => ?_)
  · replace h := h.1 hc3
    refine r_ldc (v := (-1000000001)) ok dX7_soonest_22 tw_k_X7_129 ?_
    exact hret _ _ _ _ dX7_soonest_24 h
  · replace h := h.2 hc3
    refine r_aload_n ok dX7_soonest_11 0 rfl ?_
    refine gf_X7_12 ok dX7_soonest_12 ?_
    refine r_iload_n ok dX7_soonest_15 2 rfl ?_
    refine cl_X7_167 ok isW_0 dX7_soonest_16 (by decide) (Nat.le_of_ble_eq_true rfl) h (fun r5 S4 h => ?_)
    refine r_if_ne (tgt := 25) ok dX7_soonest_19 rfl (fun hc6 => ?_) (fun hc6 => ?_)
    · replace h := h.1 hc6
      refine r_aload_n ok dX7_soonest_25 0 rfl ?_
      refine gf_X7_16 ok dX7_soonest_26 ?_
      refine r_aload_n ok dX7_soonest_29 0 rfl ?_
      refine gf_X7_12 ok dX7_soonest_30 ?_
      refine cl_X7_97 ok isW_11 isW_0 dX7_soonest_33 (by decide) (Nat.le_of_ble_eq_true rfl) h (fun S7 h => ?_)
      refine r_aload_n ok dX7_soonest_36 0 rfl ?_
      refine gf_X7_39 ok dX7_soonest_37 ?_
      refine r_iload_n ok dX7_soonest_40 1 rfl ?_
      refine r_iconst (v := 0) ok dX7_soonest_41 rfl ?_
      refine r_iload_n ok dX7_soonest_42 2 rfl ?_
      refine cl_X7_204 ok dX7_soonest_43 (by decide) (Nat.le_of_ble_eq_true rfl) h (fun S8 h => ?_)
      refine r_aload_n ok dX7_soonest_46 0 rfl ?_
      refine gf_X7_39 ok dX7_soonest_47 ?_
      refine r_iload_n ok dX7_soonest_50 2 rfl ?_
      refine cl_X7_207 ok dX7_soonest_51 (by decide) (Nat.le_of_ble_eq_true rfl) h (fun r10 S9 h => ?_)
      exact hret _ _ _ _ dX7_soonest_54 h
    · replace h := h.2 hc6
      refine r_ldc (v := (-1000000001)) ok dX7_soonest_22 tw_k_X7_129 ?_
      exact hret _ _ _ _ dX7_soonest_24 h
theorem c_X7_soonest (l : Launch) (G : Gx) {x1 x2 : Int32} {S : St} {post : Int32 → St → Prop} (h : wp_X7_soonest x1 x2 S post) : MtI l yX7_soonest cX7_soonest 3 (some .int) 4 112 G [.ref (G.2.2 44), .int x1, .int x2] S post :=
  ctI (by decide) rfl (Nat.le_of_ble_eq_true rfl) (fun X _ hG ok hret => by subst hG; exact w_wp_X7_soonest ok hret h)

/-! HasteRoads.step(II)I -/
theorem dX7_step_0 : decode cX7_step 0 = .ok (.aload_n 0, 1) := by decide +kernel
theorem dX7_step_1 : decode cX7_step 1 = .ok (.getfield 12, 3) := by decide +kernel
theorem dX7_step_4 : decode cX7_step 4 = .ok (.iload_n 1, 1) := by decide +kernel
theorem dX7_step_5 : decode cX7_step 5 = .ok (.invokevirtual 139, 3) := by decide +kernel
theorem dX7_step_8 : decode cX7_step 8 = .ok (.ifCond .ne 6, 3) := by decide +kernel
theorem dX7_step_11 : decode cX7_step 11 = .ok (.ldc 129, 2) := by decide +kernel
theorem dX7_step_13 : decode cX7_step 13 = .ok (.ireturn, 1) := by decide +kernel
theorem dX7_step_14 : decode cX7_step 14 = .ok (.iload_n 2, 1) := by decide +kernel
theorem dX7_step_15 : decode cX7_step 15 = .ok (.iconst 0, 1) := by decide +kernel
theorem dX7_step_16 : decode cX7_step 16 = .ok (.bipush 99, 2) := by decide +kernel
theorem dX7_step_18 : decode cX7_step 18 = .ok (.invokestatic 77, 3) := by decide +kernel
theorem dX7_step_21 : decode cX7_step 21 = .ok (.ifCond .eq 6, 3) := by decide +kernel
theorem dX7_step_24 : decode cX7_step 24 = .ok (.ldc 81, 2) := by decide +kernel
theorem dX7_step_26 : decode cX7_step 26 = .ok (.ireturn, 1) := by decide +kernel
theorem dX7_step_27 : decode cX7_step 27 = .ok (.aload_n 0, 1) := by decide +kernel
theorem dX7_step_28 : decode cX7_step 28 = .ok (.getfield 16, 3) := by decide +kernel
theorem dX7_step_31 : decode cX7_step 31 = .ok (.aload_n 0, 1) := by decide +kernel
theorem dX7_step_32 : decode cX7_step 32 = .ok (.getfield 12, 3) := by decide +kernel
theorem dX7_step_35 : decode cX7_step 35 = .ok (.invokevirtual 97, 3) := by decide +kernel
theorem dX7_step_38 : decode cX7_step 38 = .ok (.aload_n 0, 1) := by decide +kernel
theorem dX7_step_39 : decode cX7_step 39 = .ok (.getfield 39, 3) := by decide +kernel
theorem dX7_step_42 : decode cX7_step 42 = .ok (.iload_n 1, 1) := by decide +kernel
theorem dX7_step_43 : decode cX7_step 43 = .ok (.iload_n 2, 1) := by decide +kernel
theorem dX7_step_44 : decode cX7_step 44 = .ok (.invokevirtual 210, 3) := by decide +kernel
theorem dX7_step_47 : decode cX7_step 47 = .ok (.ireturn, 1) := by decide +kernel
theorem cl_X7_210 {X : Cx} {cc : ByteArray} {nL pc fr lo : Nat} {L : List (Nat × Value)} {st : List Value} {S : St} (ok : Ok X cc nL RX7 fr lo) {x1 x2 : Int32} (d : decode cc pc = .ok (.invokevirtual 210, 3)) (hroom : 6 ≤ fr ∧ 158 ≤ lo) (hst : (st.map fun v => v.category).sum ≤ 8) {post : Int32 → St → Prop} (h : wp_X4_stepAt x1 x2 S post) (kk : ∀ (r : Int32) (S1 : St), post r S1 → Wp X nL (pc + 3) L (.int r :: st) S1) : Wp X nL pc L (.int x2 :: .int x1 :: .ref (xad X 50) :: st) S :=
  r_callVi (n := 6) (f := 5) (lo1 := 133) (N := 2) (As := [.int x1, .int x2]) ok tw_in_X4 tw_im_X4_stepAt tw_se_X4_stepAt tw_co_X4_stepAt tw_ml_X7_210 (by decide +kernel) rfl ob_50 rfl hroom hst d rfl (c_X4_stepAt (xl X) (xG X) h) kk
def wp_X7_step (x1 : Int32) (x2 : Int32) (S : St) (post : Int32 → St → Prop) : Prop :=
  wp_X6_hasPerson 0 x1 S (fun r2 S1 => ((¬ r2 = 0 → wp_X7_outside x2 0 99 S1 (fun r5 S4 => ((r5 = 0 → wp_X6_become 11 0 S4 (fun S7 => wp_X4_stepAt x1 x2 S7 (fun r9 S8 => post r9 S8))) ∧ (¬ r5 = 0 → post (-1000000002) S4)))) ∧ (r2 = 0 → post (-1000000001) S1)))
theorem w_wp_X7_step {X : Cx} (ok : Ok X cX7_step 3 RX7 6 158) {post : Int32 → St → Prop} (hret : RetI X cX7_step 3 post) {x1 x2 : Int32} {S : St} (h : wp_X7_step x1 x2 S post) : Wp X 3 0 [(0, .ref (xad X 44)), (1, .int x1), (2, .int x2)] [] S := by
  unfold wp_X7_step at h
  refine r_aload_n ok dX7_step_0 0 rfl ?_
  refine gf_X7_12 ok dX7_step_1 ?_
  refine r_iload_n ok dX7_step_4 1 rfl ?_
  refine cl_X7_139 ok isW_0 dX7_step_5 (by decide) (Nat.le_of_ble_eq_true rfl) h (fun r2 S1 h => ?_)
  refine r_if_ne (tgt := 14) ok dX7_step_8 rfl (fun hc3 => ?_) (fun hc3 => ?_)
  · replace h := h.1 hc3
    refine r_iload_n ok dX7_step_14 2 rfl ?_
    refine r_iconst (v := 0) ok dX7_step_15 rfl ?_
    refine r_bipush (v := 99) ok dX7_step_16 rfl ?_
    refine cl_X7_77 ok dX7_step_18 (by decide) (Nat.le_of_ble_eq_true rfl) h (fun r5 S4 h => ?_)
    refine r_if_eq (tgt := 27) ok dX7_step_21 rfl (fun hc6 => ?_) (fun hc6 => ?_)
    · replace h := h.1 hc6
      refine r_aload_n ok dX7_step_27 0 rfl ?_
      refine gf_X7_16 ok dX7_step_28 ?_
      refine r_aload_n ok dX7_step_31 0 rfl ?_
      refine gf_X7_12 ok dX7_step_32 ?_
      refine cl_X7_97 ok isW_11 isW_0 dX7_step_35 (by decide) (Nat.le_of_ble_eq_true rfl) h (fun S7 h => ?_)
      refine r_aload_n ok dX7_step_38 0 rfl ?_
      refine gf_X7_39 ok dX7_step_39 ?_
      refine r_iload_n ok dX7_step_42 1 rfl ?_
      refine r_iload_n ok dX7_step_43 2 rfl ?_
      refine cl_X7_210 ok dX7_step_44 (by decide) (Nat.le_of_ble_eq_true rfl) h (fun r9 S8 h => ?_)
      exact hret _ _ _ _ dX7_step_47 h
    · replace h := h.2 hc6
      refine r_ldc (v := (-1000000002)) ok dX7_step_24 tw_k_X7_81 ?_
      exact hret _ _ _ _ dX7_step_26 h
  · replace h := h.2 hc3
    refine r_ldc (v := (-1000000001)) ok dX7_step_11 tw_k_X7_129 ?_
    exact hret _ _ _ _ dX7_step_13 h
theorem c_X7_step (l : Launch) (G : Gx) {x1 x2 : Int32} {S : St} {post : Int32 → St → Prop} (h : wp_X7_step x1 x2 S post) : MtI l yX7_step cX7_step 3 (some .int) 6 158 G [.ref (G.2.2 44), .int x1, .int x2] S post :=
  ctI (by decide) rfl (Nat.le_of_ble_eq_true rfl) (fun X _ hG ok hret => by subst hG; exact w_wp_X7_step ok hret h)

/-! HasteRoads.latest(I)I -/
theorem dX7_latest_0 : decode cX7_latest 0 = .ok (.aload_n 0, 1) := by decide +kernel
theorem dX7_latest_1 : decode cX7_latest 1 = .ok (.getfield 12, 3) := by decide +kernel
theorem dX7_latest_4 : decode cX7_latest 4 = .ok (.iload_n 1, 1) := by decide +kernel
theorem dX7_latest_5 : decode cX7_latest 5 = .ok (.invokevirtual 139, 3) := by decide +kernel
theorem dX7_latest_8 : decode cX7_latest 8 = .ok (.ifCond .ne 6, 3) := by decide +kernel
theorem dX7_latest_11 : decode cX7_latest 11 = .ok (.ldc 129, 2) := by decide +kernel
theorem dX7_latest_13 : decode cX7_latest 13 = .ok (.ireturn, 1) := by decide +kernel
theorem dX7_latest_14 : decode cX7_latest 14 = .ok (.aload_n 0, 1) := by decide +kernel
theorem dX7_latest_15 : decode cX7_latest 15 = .ok (.getfield 16, 3) := by decide +kernel
theorem dX7_latest_18 : decode cX7_latest 18 = .ok (.aload_n 0, 1) := by decide +kernel
theorem dX7_latest_19 : decode cX7_latest 19 = .ok (.getfield 12, 3) := by decide +kernel
theorem dX7_latest_22 : decode cX7_latest 22 = .ok (.invokevirtual 97, 3) := by decide +kernel
theorem dX7_latest_25 : decode cX7_latest 25 = .ok (.aload_n 0, 1) := by decide +kernel
theorem dX7_latest_26 : decode cX7_latest 26 = .ok (.getfield 39, 3) := by decide +kernel
theorem dX7_latest_29 : decode cX7_latest 29 = .ok (.iload_n 1, 1) := by decide +kernel
theorem dX7_latest_30 : decode cX7_latest 30 = .ok (.aload_n 0, 1) := by decide +kernel
theorem dX7_latest_31 : decode cX7_latest 31 = .ok (.getfield 12, 3) := by decide +kernel
theorem dX7_latest_34 : decode cX7_latest 34 = .ok (.getfield 154, 3) := by decide +kernel
theorem dX7_latest_37 : decode cX7_latest 37 = .ok (.iload_n 1, 1) := by decide +kernel
theorem dX7_latest_38 : decode cX7_latest 38 = .ok (.iaload, 1) := by decide +kernel
theorem dX7_latest_39 : decode cX7_latest 39 = .ok (.invokevirtual 213, 3) := by decide +kernel
theorem dX7_latest_42 : decode cX7_latest 42 = .ok (.aload_n 0, 1) := by decide +kernel
theorem dX7_latest_43 : decode cX7_latest 43 = .ok (.getfield 39, 3) := by decide +kernel
theorem dX7_latest_46 : decode cX7_latest 46 = .ok (.aload_n 0, 1) := by decide +kernel
theorem dX7_latest_47 : decode cX7_latest 47 = .ok (.getfield 12, 3) := by decide +kernel
theorem dX7_latest_50 : decode cX7_latest 50 = .ok (.getfield 142, 3) := by decide +kernel
theorem dX7_latest_53 : decode cX7_latest 53 = .ok (.iload_n 1, 1) := by decide +kernel
theorem dX7_latest_54 : decode cX7_latest 54 = .ok (.iaload, 1) := by decide +kernel
theorem dX7_latest_55 : decode cX7_latest 55 = .ok (.aload_n 0, 1) := by decide +kernel
theorem dX7_latest_56 : decode cX7_latest 56 = .ok (.getfield 12, 3) := by decide +kernel
theorem dX7_latest_59 : decode cX7_latest 59 = .ok (.getfield 151, 3) := by decide +kernel
theorem dX7_latest_62 : decode cX7_latest 62 = .ok (.iload_n 1, 1) := by decide +kernel
theorem dX7_latest_63 : decode cX7_latest 63 = .ok (.iaload, 1) := by decide +kernel
theorem dX7_latest_64 : decode cX7_latest 64 = .ok (.invokevirtual 216, 3) := by decide +kernel
theorem dX7_latest_67 : decode cX7_latest 67 = .ok (.istore_n 2, 1) := by decide +kernel
theorem dX7_latest_68 : decode cX7_latest 68 = .ok (.iload_n 2, 1) := by decide +kernel
theorem dX7_latest_69 : decode cX7_latest 69 = .ok (.aload_n 0, 1) := by decide +kernel
theorem dX7_latest_70 : decode cX7_latest 70 = .ok (.getfield 12, 3) := by decide +kernel
theorem dX7_latest_73 : decode cX7_latest 73 = .ok (.getfield 160, 3) := by decide +kernel
theorem dX7_latest_76 : decode cX7_latest 76 = .ok (.iload_n 1, 1) := by decide +kernel
theorem dX7_latest_77 : decode cX7_latest 77 = .ok (.iaload, 1) := by decide +kernel
theorem dX7_latest_78 : decode cX7_latest 78 = .ok (.if_icmp .ge 7, 3) := by decide +kernel
theorem dX7_latest_81 : decode cX7_latest 81 = .ok (.iconst (-1), 1) := by decide +kernel
theorem dX7_latest_82 : decode cX7_latest 82 = .ok (.goto 4, 3) := by decide +kernel
theorem dX7_latest_85 : decode cX7_latest 85 = .ok (.iload_n 2, 1) := by decide +kernel
theorem dX7_latest_86 : decode cX7_latest 86 = .ok (.ireturn, 1) := by decide +kernel
theorem cl_X7_213 {X : Cx} {cc : ByteArray} {nL pc fr lo : Nat} {L : List (Nat × Value)} {st : List Value} {S : St} (ok : Ok X cc nL RX7 fr lo) {x1 x2 : Int32} (d : decode cc pc = .ok (.invokevirtual 213, 3)) (hroom : 5 ≤ fr ∧ 130 ≤ lo) (hst : (st.map fun v => v.category).sum ≤ 8) {post : St → Prop} (h : wp_X4_lookBack x1 x2 S post) (kk : ∀ S1 : St, post S1 → Wp X nL (pc + 3) L st S1) : Wp X nL pc L (.int x2 :: .int x1 :: .ref (xad X 50) :: st) S :=
  r_callVv (n := 5) (f := 4) (lo1 := 106) (N := 2) (As := [.int x1, .int x2]) ok tw_in_X4 tw_im_X4_lookBack tw_se_X4_lookBack tw_co_X4_lookBack tw_ml_X7_213 (by decide +kernel) rfl ob_50 rfl hroom hst d rfl (c_X4_lookBack (xl X) (xG X) h) kk
theorem cl_X7_216 {X : Cx} {cc : ByteArray} {nL pc fr lo : Nat} {L : List (Nat × Value)} {st : List Value} {S : St} (ok : Ok X cc nL RX7 fr lo) {x1 x2 : Int32} (d : decode cc pc = .ok (.invokevirtual 216, 3)) (hroom : 1 ≤ fr ∧ 22 ≤ lo) (hst : (st.map fun v => v.category).sum ≤ 8) {post : Int32 → St → Prop} (h : wp_X4_latestAt x1 x2 S post) (kk : ∀ (r : Int32) (S1 : St), post r S1 → Wp X nL (pc + 3) L (.int r :: st) S1) : Wp X nL pc L (.int x2 :: .int x1 :: .ref (xad X 50) :: st) S :=
  r_callVi (n := 3) (f := 0) (lo1 := 0) (N := 2) (As := [.int x1, .int x2]) ok tw_in_X4 tw_im_X4_latestAt tw_se_X4_latestAt tw_co_X4_latestAt tw_ml_X7_216 (by decide +kernel) rfl ob_50 rfl hroom hst d rfl (c_X4_latestAt (xl X) (xG X) h) kk
def wp_X7_latest (x1 : Int32) (S : St) (post : Int32 → St → Prop) : Prop :=
  wp_X6_hasPerson 0 x1 S (fun r2 S1 => ((¬ r2 = 0 → wp_X6_become 11 0 S1 (fun S4 => vp_in x1 4 ∧ (wp_X4_lookBack x1 (S4 6 (ix x1)) S4 (fun S5 => vp_in x1 4 ∧ (vp_in x1 4 ∧ (wp_X4_latestAt (S5 7 (ix x1)) (S5 8 (ix x1)) S5 (fun r7 S6 => vp_in x1 4 ∧ ((((S6 10 (ix x1)) ≤ r7 → post r7 S6) ∧ (¬ (S6 10 (ix x1)) ≤ r7 → post (-1) S6)))))))))) ∧ (r2 = 0 → post (-1000000001) S1)))
theorem w_wp_X7_latest {X : Cx} (ok : Ok X cX7_latest 3 RX7 5 130) {post : Int32 → St → Prop} (hret : RetI X cX7_latest 3 post) {x1 : Int32} {S : St} (h : wp_X7_latest x1 S post) : Wp X 3 0 [(0, .ref (xad X 44)), (1, .int x1)] [] S := by
  unfold wp_X7_latest at h
  refine r_aload_n ok dX7_latest_0 0 rfl ?_
  refine gf_X7_12 ok dX7_latest_1 ?_
  refine r_iload_n ok dX7_latest_4 1 rfl ?_
  refine cl_X7_139 ok isW_0 dX7_latest_5 (by decide) (Nat.le_of_ble_eq_true rfl) h (fun r2 S1 h => ?_)
  refine r_if_ne (tgt := 14) ok dX7_latest_8 rfl (fun hc3 => ?_) (fun hc3 => ?_)
  · replace h := h.1 hc3
    refine r_aload_n ok dX7_latest_14 0 rfl ?_
    refine gf_X7_16 ok dX7_latest_15 ?_
    refine r_aload_n ok dX7_latest_18 0 rfl ?_
    refine gf_X7_12 ok dX7_latest_19 ?_
    refine cl_X7_97 ok isW_11 isW_0 dX7_latest_22 (by decide) (Nat.le_of_ble_eq_true rfl) h (fun S4 h => ?_)
    refine r_aload_n ok dX7_latest_25 0 rfl ?_
    refine gf_X7_39 ok dX7_latest_26 ?_
    refine r_iload_n ok dX7_latest_29 1 rfl ?_
    refine r_aload_n ok dX7_latest_30 0 rfl ?_
    refine gf_X7_12 ok dX7_latest_31 ?_
    refine gf_X7_154 ok isW_0 dX7_latest_34 ?_
    refine r_iload_n ok dX7_latest_37 1 rfl ?_
    refine r_iald ok ai_6 h.1 rfl dX7_latest_38 ?_
    replace h := h.2
    refine cl_X7_213 ok dX7_latest_39 (by decide) (Nat.le_of_ble_eq_true rfl) h (fun S5 h => ?_)
    refine r_aload_n ok dX7_latest_42 0 rfl ?_
    refine gf_X7_39 ok dX7_latest_43 ?_
    refine r_aload_n ok dX7_latest_46 0 rfl ?_
    refine gf_X7_12 ok dX7_latest_47 ?_
    refine gf_X7_142 ok isW_0 dX7_latest_50 ?_
    refine r_iload_n ok dX7_latest_53 1 rfl ?_
    refine r_iald ok ai_7 h.1 rfl dX7_latest_54 ?_
    replace h := h.2
    refine r_aload_n ok dX7_latest_55 0 rfl ?_
    refine gf_X7_12 ok dX7_latest_56 ?_
    refine gf_X7_151 ok isW_0 dX7_latest_59 ?_
    refine r_iload_n ok dX7_latest_62 1 rfl ?_
    refine r_iald ok ai_8 h.1 rfl dX7_latest_63 ?_
    replace h := h.2
    refine cl_X7_216 ok dX7_latest_64 (by decide) (Nat.le_of_ble_eq_true rfl) h (fun r7 S6 h => ?_)
    refine r_istore_n ok dX7_latest_67 (by decide) [(0, .ref (xad X 44)), (1, .int x1), (2, .int r7)] [1, 2, 0] rfl ?_
    refine r_iload_n ok dX7_latest_68 2 rfl ?_
    refine r_aload_n ok dX7_latest_69 0 rfl ?_
    refine gf_X7_12 ok dX7_latest_70 ?_
    refine gf_X7_160 ok isW_0 dX7_latest_73 ?_
    refine r_iload_n ok dX7_latest_76 1 rfl ?_
    refine r_iald ok ai_10 h.1 rfl dX7_latest_77 ?_
    replace h := h.2
    refine r_icmp_ge (tgt := 85) ok dX7_latest_78 rfl (fun hc8 => ?_) (fun hc8 => ?_)
    · replace h := h.1 hc8
      refine r_iload_n ok dX7_latest_85 2 rfl ?_
      exact hret _ _ _ _ dX7_latest_86 h
    · replace h := h.2 hc8
      refine r_iconst (v := (-1)) ok dX7_latest_81 rfl ?_
      refine r_goto (tgt := 86) ok dX7_latest_82 rfl ?_
      exact hret _ _ _ _ dX7_latest_86 h
  · replace h := h.2 hc3
    refine r_ldc (v := (-1000000001)) ok dX7_latest_11 tw_k_X7_129 ?_
    exact hret _ _ _ _ dX7_latest_13 h
theorem c_X7_latest (l : Launch) (G : Gx) {x1 : Int32} {S : St} {post : Int32 → St → Prop} (h : wp_X7_latest x1 S post) : MtI l yX7_latest cX7_latest 3 (some .int) 5 130 G [.ref (G.2.2 44), .int x1] S post :=
  ctI (by decide) rfl (Nat.le_of_ble_eq_true rfl) (fun X _ hG ok hret => by subst hG; exact w_wp_X7_latest ok hret h)

/-! HasteRoads.allInTimeWith(I)Z -/
theorem dX7_allInTimeWith_0 : decode cX7_allInTimeWith 0 = .ok (.aload_n 0, 1) := by decide +kernel
theorem dX7_allInTimeWith_1 : decode cX7_allInTimeWith 1 = .ok (.getfield 16, 3) := by decide +kernel
theorem dX7_allInTimeWith_4 : decode cX7_allInTimeWith 4 = .ok (.iload_n 1, 1) := by decide +kernel
theorem dX7_allInTimeWith_5 : decode cX7_allInTimeWith 5 = .ok (.putfield 119, 3) := by decide +kernel
theorem dX7_allInTimeWith_8 : decode cX7_allInTimeWith 8 = .ok (.iconst 0, 1) := by decide +kernel
theorem dX7_allInTimeWith_9 : decode cX7_allInTimeWith 9 = .ok (.istore_n 2, 1) := by decide +kernel
theorem dX7_allInTimeWith_10 : decode cX7_allInTimeWith 10 = .ok (.iload_n 2, 1) := by decide +kernel
theorem dX7_allInTimeWith_11 : decode cX7_allInTimeWith 11 = .ok (.aload_n 0, 1) := by decide +kernel
theorem dX7_allInTimeWith_12 : decode cX7_allInTimeWith 12 = .ok (.getfield 12, 3) := by decide +kernel
theorem dX7_allInTimeWith_15 : decode cX7_allInTimeWith 15 = .ok (.getfield 113, 3) := by decide +kernel
theorem dX7_allInTimeWith_18 : decode cX7_allInTimeWith 18 = .ok (.if_icmp .ge 64, 3) := by decide +kernel
theorem dX7_allInTimeWith_21 : decode cX7_allInTimeWith 21 = .ok (.aload_n 0, 1) := by decide +kernel
theorem dX7_allInTimeWith_22 : decode cX7_allInTimeWith 22 = .ok (.getfield 39, 3) := by decide +kernel
theorem dX7_allInTimeWith_25 : decode cX7_allInTimeWith 25 = .ok (.iload_n 2, 1) := by decide +kernel
theorem dX7_allInTimeWith_26 : decode cX7_allInTimeWith 26 = .ok (.iconst 0, 1) := by decide +kernel
theorem dX7_allInTimeWith_27 : decode cX7_allInTimeWith 27 = .ok (.aload_n 0, 1) := by decide +kernel
theorem dX7_allInTimeWith_28 : decode cX7_allInTimeWith 28 = .ok (.getfield 12, 3) := by decide +kernel
theorem dX7_allInTimeWith_31 : decode cX7_allInTimeWith 31 = .ok (.getfield 145, 3) := by decide +kernel
theorem dX7_allInTimeWith_34 : decode cX7_allInTimeWith 34 = .ok (.iload_n 2, 1) := by decide +kernel
theorem dX7_allInTimeWith_35 : decode cX7_allInTimeWith 35 = .ok (.iaload, 1) := by decide +kernel
theorem dX7_allInTimeWith_36 : decode cX7_allInTimeWith 36 = .ok (.invokevirtual 204, 3) := by decide +kernel
theorem dX7_allInTimeWith_39 : decode cX7_allInTimeWith 39 = .ok (.aload_n 0, 1) := by decide +kernel
theorem dX7_allInTimeWith_40 : decode cX7_allInTimeWith 40 = .ok (.getfield 39, 3) := by decide +kernel
theorem dX7_allInTimeWith_43 : decode cX7_allInTimeWith 43 = .ok (.aload_n 0, 1) := by decide +kernel
theorem dX7_allInTimeWith_44 : decode cX7_allInTimeWith 44 = .ok (.getfield 12, 3) := by decide +kernel
theorem dX7_allInTimeWith_47 : decode cX7_allInTimeWith 47 = .ok (.getfield 145, 3) := by decide +kernel
theorem dX7_allInTimeWith_50 : decode cX7_allInTimeWith 50 = .ok (.iload_n 2, 1) := by decide +kernel
theorem dX7_allInTimeWith_51 : decode cX7_allInTimeWith 51 = .ok (.iaload, 1) := by decide +kernel
theorem dX7_allInTimeWith_52 : decode cX7_allInTimeWith 52 = .ok (.invokevirtual 207, 3) := by decide +kernel
theorem dX7_allInTimeWith_55 : decode cX7_allInTimeWith 55 = .ok (.istore_n 3, 1) := by decide +kernel
theorem dX7_allInTimeWith_56 : decode cX7_allInTimeWith 56 = .ok (.iload_n 3, 1) := by decide +kernel
theorem dX7_allInTimeWith_57 : decode cX7_allInTimeWith 57 = .ok (.iconst (-1), 1) := by decide +kernel
theorem dX7_allInTimeWith_58 : decode cX7_allInTimeWith 58 = .ok (.if_icmp .eq 16, 3) := by decide +kernel
theorem dX7_allInTimeWith_61 : decode cX7_allInTimeWith 61 = .ok (.iload_n 3, 1) := by decide +kernel
theorem dX7_allInTimeWith_62 : decode cX7_allInTimeWith 62 = .ok (.aload_n 0, 1) := by decide +kernel
theorem dX7_allInTimeWith_63 : decode cX7_allInTimeWith 63 = .ok (.getfield 12, 3) := by decide +kernel
theorem dX7_allInTimeWith_66 : decode cX7_allInTimeWith 66 = .ok (.getfield 154, 3) := by decide +kernel
theorem dX7_allInTimeWith_69 : decode cX7_allInTimeWith 69 = .ok (.iload_n 2, 1) := by decide +kernel
theorem dX7_allInTimeWith_70 : decode cX7_allInTimeWith 70 = .ok (.iaload, 1) := by decide +kernel
theorem dX7_allInTimeWith_71 : decode cX7_allInTimeWith 71 = .ok (.if_icmp .le 5, 3) := by decide +kernel
theorem dX7_allInTimeWith_74 : decode cX7_allInTimeWith 74 = .ok (.iconst 0, 1) := by decide +kernel
theorem dX7_allInTimeWith_75 : decode cX7_allInTimeWith 75 = .ok (.ireturn, 1) := by decide +kernel
theorem dX7_allInTimeWith_76 : decode cX7_allInTimeWith 76 = .ok (.iinc 2 1, 3) := by decide +kernel
theorem dX7_allInTimeWith_79 : decode cX7_allInTimeWith 79 = .ok (.goto (-69), 3) := by decide +kernel
theorem dX7_allInTimeWith_82 : decode cX7_allInTimeWith 82 = .ok (.iconst 1, 1) := by decide +kernel
theorem dX7_allInTimeWith_83 : decode cX7_allInTimeWith 83 = .ok (.ireturn, 1) := by decide +kernel

def BD_X7_allInTimeWith_10 (k10 : Int32 → St → Prop) (post : Int32 → St → Prop) (x2 : Int32) (S : St) : Prop :=
  (((S 0 2) ≤ x2 → post 1 S) ∧ (¬ (S 0 2) ≤ x2 → vp_in x2 4 ∧ (wp_X4_explore x2 0 (S 4 (ix x2)) S (fun S2 => vp_in x2 4 ∧ (wp_X4_soonestAt (S2 4 (ix x2)) S2 (fun r4 S3 => ((r4 = (-1) → post 0 S3) ∧ (¬ r4 = (-1) → vp_in x2 4 ∧ (((r4 ≤ (S3 6 (ix x2)) → k10 (x2 + 1) S3) ∧ (¬ r4 ≤ (S3 6 (ix x2)) → post 0 S3)))))))))))
def L_X7_allInTimeWith_10 (post : Int32 → St → Prop) (n : Nat) : Int32 → St → Prop := Nat.rec (motive := fun _ => Int32 → St → Prop) (fun _ _ => False) (fun _ ih => BD_X7_allInTimeWith_10 ih post) n
def B_X7_allInTimeWith_10 (post : Int32 → St → Prop) (x2 : Int32) (S : St) : Prop := ∃ n, L_X7_allInTimeWith_10 post n x2 S
def wp_X7_allInTimeWith (x1 : Int32) (S : St) (post : Int32 → St → Prop) : Prop :=
  ∀ S1 : St, S1 = up S 11 3 x1 → B_X7_allInTimeWith_10 post 0 S1
theorem w_B_X7_allInTimeWith_10 {X : Cx} (ok : Ok X cX7_allInTimeWith 4 RX7 4 112) {post : Int32 → St → Prop} (hret : RetZ X cX7_allInTimeWith 4 post) {x2 : Int32} {S : St} (h : B_X7_allInTimeWith_10 post x2 S) : Wp X 4 10 [(0, .ref (xad X 44)), (2, .int x2)] [] S := by
  obtain ⟨n, h⟩ := h
  induction n generalizing x2 S with
  | zero => exact False.elim h
  | succ n ih =>
    have hk10 : ∀ x2 S, L_X7_allInTimeWith_10 post n x2 S → Wp X 4 10 [(0, .ref (xad X 44)), (2, .int x2)] [] S := by intros; apply ih; assumption
    replace h : BD_X7_allInTimeWith_10 (L_X7_allInTimeWith_10 post n) post x2 S := h
    unfold BD_X7_allInTimeWith_10 at h
    generalize L_X7_allInTimeWith_10 post n = k10 at h hk10
    refine r_iload_n ok dX7_allInTimeWith_10 1 rfl ?_
    refine r_aload_n ok dX7_allInTimeWith_11 0 rfl ?_
    refine gf_X7_12 ok dX7_allInTimeWith_12 ?_
    refine gf_X7_113 ok isW_0 dX7_allInTimeWith_15 ?_
    refine r_icmp_ge (tgt := 82) ok dX7_allInTimeWith_18 rfl (fun hc1 => ?_) (fun hc1 => ?_)
    · replace h := h.1 hc1
      refine r_iconst (v := 1) ok dX7_allInTimeWith_82 rfl ?_
      exact hret _ _ _ _ dX7_allInTimeWith_83 (Or.inr rfl) h
    · replace h := h.2 hc1
      refine r_aload_n ok dX7_allInTimeWith_21 0 rfl ?_
      refine gf_X7_39 ok dX7_allInTimeWith_22 ?_
      refine r_iload_n ok dX7_allInTimeWith_25 1 rfl ?_
      refine r_iconst (v := 0) ok dX7_allInTimeWith_26 rfl ?_
      refine r_aload_n ok dX7_allInTimeWith_27 0 rfl ?_
      refine gf_X7_12 ok dX7_allInTimeWith_28 ?_
      refine gf_X7_145 ok isW_0 dX7_allInTimeWith_31 ?_
      refine r_iload_n ok dX7_allInTimeWith_34 1 rfl ?_
      refine r_iald ok ai_4 h.1 rfl dX7_allInTimeWith_35 ?_
      replace h := h.2
      refine cl_X7_204 ok dX7_allInTimeWith_36 (by decide) (Nat.le_of_ble_eq_true rfl) h (fun S2 h => ?_)
      refine r_aload_n ok dX7_allInTimeWith_39 0 rfl ?_
      refine gf_X7_39 ok dX7_allInTimeWith_40 ?_
      refine r_aload_n ok dX7_allInTimeWith_43 0 rfl ?_
      refine gf_X7_12 ok dX7_allInTimeWith_44 ?_
      refine gf_X7_145 ok isW_0 dX7_allInTimeWith_47 ?_
      refine r_iload_n ok dX7_allInTimeWith_50 1 rfl ?_
      refine r_iald ok ai_4 h.1 rfl dX7_allInTimeWith_51 ?_
      replace h := h.2
      refine cl_X7_207 ok dX7_allInTimeWith_52 (by decide) (Nat.le_of_ble_eq_true rfl) h (fun r4 S3 h => ?_)
      refine r_istore_n ok dX7_allInTimeWith_55 (by decide) [(0, .ref (xad X 44)), (2, .int x2), (3, .int r4)] [1, 2, 0] rfl ?_
      refine r_iload_n ok dX7_allInTimeWith_56 2 rfl ?_
      refine r_iconst (v := (-1)) ok dX7_allInTimeWith_57 rfl ?_
      refine r_icmp_eq (tgt := 74) ok dX7_allInTimeWith_58 rfl (fun hc5 => ?_) (fun hc5 => ?_)
      · replace h := h.1 hc5
        refine r_iconst (v := 0) ok dX7_allInTimeWith_74 rfl ?_
        exact hret _ _ _ _ dX7_allInTimeWith_75 (Or.inl rfl) h
      · replace h := h.2 hc5
        refine r_iload_n ok dX7_allInTimeWith_61 2 rfl ?_
        refine r_aload_n ok dX7_allInTimeWith_62 0 rfl ?_
        refine gf_X7_12 ok dX7_allInTimeWith_63 ?_
        refine gf_X7_154 ok isW_0 dX7_allInTimeWith_66 ?_
        refine r_iload_n ok dX7_allInTimeWith_69 1 rfl ?_
        refine r_iald ok ai_6 h.1 rfl dX7_allInTimeWith_70 ?_
        replace h := h.2
        refine r_icmp_le (tgt := 76) ok dX7_allInTimeWith_71 rfl (fun hc6 => ?_) (fun hc6 => ?_)
        · replace h := h.1 hc6
          refine r_iinc (v := x2 + 1) ok dX7_allInTimeWith_76 1 rfl rfl (by decide) [(0, .ref (xad X 44)), (2, .int (x2 + 1))] [1, 0] rfl ?_
          refine r_goto (tgt := 10) ok dX7_allInTimeWith_79 rfl ?_
          exact hk10 _ _ h
        · replace h := h.2 hc6
          refine r_iconst (v := 0) ok dX7_allInTimeWith_74 rfl ?_
          exact hret _ _ _ _ dX7_allInTimeWith_75 (Or.inl rfl) h
theorem w_wp_X7_allInTimeWith {X : Cx} (ok : Ok X cX7_allInTimeWith 4 RX7 4 112) {post : Int32 → St → Prop} (hret : RetZ X cX7_allInTimeWith 4 post) {x1 : Int32} {S : St} (h : wp_X7_allInTimeWith x1 S post) : Wp X 4 0 [(0, .ref (xad X 44)), (1, .int x1)] [] S := by
  unfold wp_X7_allInTimeWith at h
  refine r_aload_n ok dX7_allInTimeWith_0 0 rfl ?_
  refine gf_X7_16 ok dX7_allInTimeWith_1 ?_
  refine r_iload_n ok dX7_allInTimeWith_4 1 rfl ?_
  refine pf_X7_119 ok isW_11 dX7_allInTimeWith_5 (fun S1 eS1 => ?_)
  replace h := h S1 eS1
  refine r_iconst (v := 0) ok dX7_allInTimeWith_8 rfl ?_
  refine r_istore_n ok dX7_allInTimeWith_9 (by decide) [(0, .ref (xad X 44)), (2, .int 0)] [1, 0] rfl ?_
  exact w_B_X7_allInTimeWith_10 ok hret h
theorem c_X7_allInTimeWith (l : Launch) (G : Gx) {x1 : Int32} {S : St} {post : Int32 → St → Prop} (h : wp_X7_allInTimeWith x1 S post) : MtI l yX7_allInTimeWith cX7_allInTimeWith 4 (some .boolean) 4 112 G [.ref (G.2.2 44), .int x1] S post :=
  ctZ (by decide) rfl (Nat.le_of_ble_eq_true rfl) (fun X _ hG ok hret => by subst hG; exact w_wp_X7_allInTimeWith ok hret h)

/-! HasteRoads.fewestInns()I -/
theorem dX7_fewestInns_0 : decode cX7_fewestInns 0 = .ok (.aload_n 0, 1) := by decide +kernel
theorem dX7_fewestInns_1 : decode cX7_fewestInns 1 = .ok (.getfield 12, 3) := by decide +kernel
theorem dX7_fewestInns_4 : decode cX7_fewestInns 4 = .ok (.invokevirtual 255, 3) := by decide +kernel
theorem dX7_fewestInns_7 : decode cX7_fewestInns 7 = .ok (.istore_n 1, 1) := by decide +kernel
theorem dX7_fewestInns_8 : decode cX7_fewestInns 8 = .ok (.aload_n 0, 1) := by decide +kernel
theorem dX7_fewestInns_9 : decode cX7_fewestInns 9 = .ok (.iload_n 1, 1) := by decide +kernel
theorem dX7_fewestInns_10 : decode cX7_fewestInns 10 = .ok (.invokevirtual 271, 3) := by decide +kernel
theorem dX7_fewestInns_13 : decode cX7_fewestInns 13 = .ok (.ifCond .ne 5, 3) := by decide +kernel
theorem dX7_fewestInns_16 : decode cX7_fewestInns 16 = .ok (.iconst (-1), 1) := by decide +kernel
theorem dX7_fewestInns_17 : decode cX7_fewestInns 17 = .ok (.ireturn, 1) := by decide +kernel
theorem dX7_fewestInns_18 : decode cX7_fewestInns 18 = .ok (.iconst 0, 1) := by decide +kernel
theorem dX7_fewestInns_19 : decode cX7_fewestInns 19 = .ok (.istore_n 2, 1) := by decide +kernel
theorem dX7_fewestInns_20 : decode cX7_fewestInns 20 = .ok (.iload_n 2, 1) := by decide +kernel
theorem dX7_fewestInns_21 : decode cX7_fewestInns 21 = .ok (.aload_n 0, 1) := by decide +kernel
theorem dX7_fewestInns_22 : decode cX7_fewestInns 22 = .ok (.getfield 12, 3) := by decide +kernel
theorem dX7_fewestInns_25 : decode cX7_fewestInns 25 = .ok (.getfield 104, 3) := by decide +kernel
theorem dX7_fewestInns_28 : decode cX7_fewestInns 28 = .ok (.if_icmp .gt 40, 3) := by decide +kernel
theorem dX7_fewestInns_31 : decode cX7_fewestInns 31 = .ok (.iconst 0, 1) := by decide +kernel
theorem dX7_fewestInns_32 : decode cX7_fewestInns 32 = .ok (.istore_n 3, 1) := by decide +kernel
theorem dX7_fewestInns_33 : decode cX7_fewestInns 33 = .ok (.iload_n 3, 1) := by decide +kernel
theorem dX7_fewestInns_34 : decode cX7_fewestInns 34 = .ok (.iload_n 1, 1) := by decide +kernel
theorem dX7_fewestInns_35 : decode cX7_fewestInns 35 = .ok (.if_icmp .gt 27, 3) := by decide +kernel
theorem dX7_fewestInns_38 : decode cX7_fewestInns 38 = .ok (.iload_n 3, 1) := by decide +kernel
theorem dX7_fewestInns_39 : decode cX7_fewestInns 39 = .ok (.invokestatic 222, 3) := by decide +kernel
theorem dX7_fewestInns_42 : decode cX7_fewestInns 42 = .ok (.iload_n 2, 1) := by decide +kernel
theorem dX7_fewestInns_43 : decode cX7_fewestInns 43 = .ok (.if_icmp .ne 13, 3) := by decide +kernel
theorem dX7_fewestInns_46 : decode cX7_fewestInns 46 = .ok (.aload_n 0, 1) := by decide +kernel
theorem dX7_fewestInns_47 : decode cX7_fewestInns 47 = .ok (.iload_n 3, 1) := by decide +kernel
theorem dX7_fewestInns_48 : decode cX7_fewestInns 48 = .ok (.invokevirtual 271, 3) := by decide +kernel
theorem dX7_fewestInns_51 : decode cX7_fewestInns 51 = .ok (.ifCond .eq 5, 3) := by decide +kernel
theorem dX7_fewestInns_54 : decode cX7_fewestInns 54 = .ok (.iload_n 3, 1) := by decide +kernel
theorem dX7_fewestInns_55 : decode cX7_fewestInns 55 = .ok (.ireturn, 1) := by decide +kernel
theorem dX7_fewestInns_56 : decode cX7_fewestInns 56 = .ok (.iinc 3 1, 3) := by decide +kernel
theorem dX7_fewestInns_59 : decode cX7_fewestInns 59 = .ok (.goto (-26), 3) := by decide +kernel
theorem dX7_fewestInns_62 : decode cX7_fewestInns 62 = .ok (.iinc 2 1, 3) := by decide +kernel
theorem dX7_fewestInns_65 : decode cX7_fewestInns 65 = .ok (.goto (-45), 3) := by decide +kernel
theorem dX7_fewestInns_68 : decode cX7_fewestInns 68 = .ok (.iconst (-1), 1) := by decide +kernel
theorem dX7_fewestInns_69 : decode cX7_fewestInns 69 = .ok (.ireturn, 1) := by decide +kernel
theorem cl_X7_255 {X : Cx} {cc : ByteArray} {nL pc fr lo : Nat} {L : List (Nat × Value)} {st : List Value} {S : St} (ok : Ok X cc nL RX7 fr lo) {o : Nat} (ho : isW o) (d : decode cc pc = .ok (.invokevirtual 255, 3)) (hroom : 1 ≤ fr ∧ 20 ≤ lo) (hst : (st.map fun v => v.category).sum ≤ 8) {post : Int32 → St → Prop} (h : wp_X6_allPlaces o S post) (kk : ∀ (r : Int32) (S1 : St), post r S1 → Wp X nL (pc + 3) L (.int r :: st) S1) : Wp X nL pc L (.ref (xad X o) :: st) S :=
  r_callVi (n := 1) (f := 0) (lo1 := 0) (N := 0) (As := []) ok tw_in_X6 tw_im_X6_allPlaces tw_se_X6_allPlaces tw_co_X6_allPlaces tw_ml_X7_255 (by decide +kernel) rfl ho.ob rfl hroom hst d rfl (c_X6_allPlaces (xl X) (xG X) ho h) kk
theorem cl_X7_271 {X : Cx} {cc : ByteArray} {nL pc fr lo : Nat} {L : List (Nat × Value)} {st : List Value} {S : St} (ok : Ok X cc nL RX7 fr lo) {x1 : Int32} (d : decode cc pc = .ok (.invokevirtual 271, 3)) (hroom : 5 ≤ fr ∧ 135 ≤ lo) (hst : (st.map fun v => v.category).sum ≤ 8) {post : Int32 → St → Prop} (h : wp_X7_allInTimeWith x1 S post) (kk : ∀ (r : Int32) (S1 : St), post r S1 → Wp X nL (pc + 3) L (.int r :: st) S1) : Wp X nL pc L (.int x1 :: .ref (xad X 44) :: st) S :=
  r_callVi (n := 4) (f := 4) (lo1 := 112) (N := 1) (As := [.int x1]) ok tw_in_X7 tw_im_X7_allInTimeWith tw_se_X7_allInTimeWith tw_co_X7_allInTimeWith tw_ml_X7_271 (by decide +kernel) rfl ob_44 rfl hroom hst d rfl (c_X7_allInTimeWith (xl X) (xG X) h) kk
theorem cl_X7_222 {X : Cx} {cc : ByteArray} {nL pc fr lo : Nat} {L : List (Nat × Value)} {st : List Value} {S : St} (ok : Ok X cc nL RX7 fr lo) {x0 : Int32} (d : decode cc pc = .ok (.invokestatic 222, 3)) (hroom : 1 ≤ fr ∧ 20 ≤ lo) (hst : (st.map fun v => v.category).sum ≤ 8) {post : Int32 → St → Prop} (h : wp_J6_bitCount_0f7a4 x0 S post) (kk : ∀ (r : Int32) (S1 : St), post r S1 → Wp X nL (pc + 3) L (.int r :: st) S1) : Wp X nL pc L (.int x0 :: st) S :=
  r_callSi (n := 1) (f := 0) (lo1 := 0) (N := 1) (As := [.int x0]) ok tw_in_J6 tw_st_J6_bitCount_0f7a4 tw_co_J6_bitCount_0f7a4 tw_ml_X7_222 (by decide +kernel) rfl hroom hst d rfl (c_J6_bitCount_0f7a4 (xl X) (xG X) h) kk
def BD_X7_fewestInns_33 (k20 : Int32 → Int32 → St → Prop) (k33 : Int32 → Int32 → Int32 → St → Prop) (post : Int32 → St → Prop) (x1 : Int32) (x2 : Int32) (x3 : Int32) (S : St) : Prop :=
  ((x1 < x3 → k20 x1 (x2 + 1) S) ∧ (¬ x1 < x3 → wp_J6_bitCount_0f7a4 x3 S (fun r3 S2 => ((¬ r3 = x2 → k33 x1 x2 (x3 + 1) S2) ∧ (r3 = x2 → wp_X7_allInTimeWith x3 S2 (fun r6 S5 => ((r6 = 0 → k33 x1 x2 (x3 + 1) S5) ∧ (¬ r6 = 0 → post x3 S5))))))))
def L_X7_fewestInns_33 (k20 : Int32 → Int32 → St → Prop) (post : Int32 → St → Prop) (n : Nat) : Int32 → Int32 → Int32 → St → Prop := Nat.rec (motive := fun _ => Int32 → Int32 → Int32 → St → Prop) (fun _ _ _ _ => False) (fun _ ih => BD_X7_fewestInns_33 k20 ih post) n
def B_X7_fewestInns_33 (k20 : Int32 → Int32 → St → Prop) (post : Int32 → St → Prop) (x1 : Int32) (x2 : Int32) (x3 : Int32) (S : St) : Prop := ∃ n, L_X7_fewestInns_33 k20 post n x1 x2 x3 S
def BD_X7_fewestInns_20 (k20 : Int32 → Int32 → St → Prop) (post : Int32 → St → Prop) (x1 : Int32) (x2 : Int32) (S : St) : Prop :=
  (((S 0 0) < x2 → post (-1) S) ∧ (¬ (S 0 0) < x2 → B_X7_fewestInns_33 k20 post x1 x2 0 S))
def L_X7_fewestInns_20 (post : Int32 → St → Prop) (n : Nat) : Int32 → Int32 → St → Prop := Nat.rec (motive := fun _ => Int32 → Int32 → St → Prop) (fun _ _ _ => False) (fun _ ih => BD_X7_fewestInns_20 ih post) n
def B_X7_fewestInns_20 (post : Int32 → St → Prop) (x1 : Int32) (x2 : Int32) (S : St) : Prop := ∃ n, L_X7_fewestInns_20 post n x1 x2 S
def wp_X7_fewestInns (S : St) (post : Int32 → St → Prop) : Prop :=
  wp_X6_allPlaces 0 S (fun r2 S1 => wp_X7_allInTimeWith r2 S1 (fun r4 S3 => ((¬ r4 = 0 → B_X7_fewestInns_20 post r2 0 S3) ∧ (r4 = 0 → post (-1) S3))))
theorem w_B_X7_fewestInns_33 {X : Cx} (ok : Ok X cX7_fewestInns 4 RX7 5 135) {post : Int32 → St → Prop} (hret : RetI X cX7_fewestInns 4 post) {k20 : Int32 → Int32 → St → Prop} (hk20 : ∀ x1 x2 S, k20 x1 x2 S → Wp X 4 20 [(0, .ref (xad X 44)), (1, .int x1), (2, .int x2)] [] S) {x1 x2 x3 : Int32} {S : St} (h : B_X7_fewestInns_33 k20 post x1 x2 x3 S) : Wp X 4 33 [(0, .ref (xad X 44)), (1, .int x1), (2, .int x2), (3, .int x3)] [] S := by
  obtain ⟨n, h⟩ := h
  induction n generalizing x1 x2 x3 S with
  | zero => exact False.elim h
  | succ n ih =>
    have hk33 : ∀ x1 x2 x3 S, L_X7_fewestInns_33 k20 post n x1 x2 x3 S → Wp X 4 33 [(0, .ref (xad X 44)), (1, .int x1), (2, .int x2), (3, .int x3)] [] S := by intros; apply ih; assumption
    replace h : BD_X7_fewestInns_33 k20 (L_X7_fewestInns_33 k20 post n) post x1 x2 x3 S := h
    unfold BD_X7_fewestInns_33 at h
    generalize L_X7_fewestInns_33 k20 post n = k33 at h hk33
    refine r_iload_n ok dX7_fewestInns_33 3 rfl ?_
    refine r_iload_n ok dX7_fewestInns_34 1 rfl ?_
    refine r_icmp_gt (tgt := 62) ok dX7_fewestInns_35 rfl (fun hc1 => ?_) (fun hc1 => ?_)
    · replace h := h.1 hc1
      refine r_iinc (v := x2 + 1) ok dX7_fewestInns_62 2 rfl rfl (by decide) [(0, .ref (xad X 44)), (1, .int x1), (2, .int (x2 + 1))] [1, 2, 0] rfl ?_
      refine r_goto (tgt := 20) ok dX7_fewestInns_65 rfl ?_
      exact hk20 _ _ _ h
    · replace h := h.2 hc1
      refine r_iload_n ok dX7_fewestInns_38 3 rfl ?_
      refine cl_X7_222 ok dX7_fewestInns_39 (by decide) (Nat.le_of_ble_eq_true rfl) h (fun r3 S2 h => ?_)
      refine r_iload_n ok dX7_fewestInns_42 2 rfl ?_
      refine r_icmp_ne (tgt := 56) ok dX7_fewestInns_43 rfl (fun hc4 => ?_) (fun hc4 => ?_)
      · replace h := h.1 hc4
        refine r_iinc (v := x3 + 1) ok dX7_fewestInns_56 3 rfl rfl (by decide) [(0, .ref (xad X 44)), (1, .int x1), (2, .int x2), (3, .int (x3 + 1))] [1, 2, 3, 0] rfl ?_
        refine r_goto (tgt := 33) ok dX7_fewestInns_59 rfl ?_
        exact hk33 _ _ _ _ h
      · replace h := h.2 hc4
        refine r_aload_n ok dX7_fewestInns_46 0 rfl ?_
        refine r_iload_n ok dX7_fewestInns_47 3 rfl ?_
        refine cl_X7_271 ok dX7_fewestInns_48 (by decide) (Nat.le_of_ble_eq_true rfl) h (fun r6 S5 h => ?_)
        refine r_if_eq (tgt := 56) ok dX7_fewestInns_51 rfl (fun hc7 => ?_) (fun hc7 => ?_)
        · replace h := h.1 hc7
          refine r_iinc (v := x3 + 1) ok dX7_fewestInns_56 3 rfl rfl (by decide) [(0, .ref (xad X 44)), (1, .int x1), (2, .int x2), (3, .int (x3 + 1))] [1, 2, 3, 0] rfl ?_
          refine r_goto (tgt := 33) ok dX7_fewestInns_59 rfl ?_
          exact hk33 _ _ _ _ h
        · replace h := h.2 hc7
          refine r_iload_n ok dX7_fewestInns_54 3 rfl ?_
          exact hret _ _ _ _ dX7_fewestInns_55 h
theorem w_B_X7_fewestInns_20 {X : Cx} (ok : Ok X cX7_fewestInns 4 RX7 5 135) {post : Int32 → St → Prop} (hret : RetI X cX7_fewestInns 4 post) {x1 x2 : Int32} {S : St} (h : B_X7_fewestInns_20 post x1 x2 S) : Wp X 4 20 [(0, .ref (xad X 44)), (1, .int x1), (2, .int x2)] [] S := by
  obtain ⟨n, h⟩ := h
  induction n generalizing x1 x2 S with
  | zero => exact False.elim h
  | succ n ih =>
    have hk20 : ∀ x1 x2 S, L_X7_fewestInns_20 post n x1 x2 S → Wp X 4 20 [(0, .ref (xad X 44)), (1, .int x1), (2, .int x2)] [] S := by intros; apply ih; assumption
    replace h : BD_X7_fewestInns_20 (L_X7_fewestInns_20 post n) post x1 x2 S := h
    unfold BD_X7_fewestInns_20 at h
    generalize L_X7_fewestInns_20 post n = k20 at h hk20
    refine r_iload_n ok dX7_fewestInns_20 2 rfl ?_
    refine r_aload_n ok dX7_fewestInns_21 0 rfl ?_
    refine gf_X7_12 ok dX7_fewestInns_22 ?_
    refine gf_X7_104 ok isW_0 dX7_fewestInns_25 ?_
    refine r_icmp_gt (tgt := 68) ok dX7_fewestInns_28 rfl (fun hc1 => ?_) (fun hc1 => ?_)
    · replace h := h.1 hc1
      refine r_iconst (v := (-1)) ok dX7_fewestInns_68 rfl ?_
      exact hret _ _ _ _ dX7_fewestInns_69 h
    · replace h := h.2 hc1
      refine r_iconst (v := 0) ok dX7_fewestInns_31 rfl ?_
      refine r_istore_n ok dX7_fewestInns_32 (by decide) [(0, .ref (xad X 44)), (1, .int x1), (2, .int x2), (3, .int 0)] [1, 2, 3, 0] rfl ?_
      exact w_B_X7_fewestInns_33 ok hret hk20 h
theorem w_wp_X7_fewestInns {X : Cx} (ok : Ok X cX7_fewestInns 4 RX7 5 135) {post : Int32 → St → Prop} (hret : RetI X cX7_fewestInns 4 post) {S : St} (h : wp_X7_fewestInns S post) : Wp X 4 0 [(0, .ref (xad X 44))] [] S := by
  unfold wp_X7_fewestInns at h
  refine r_aload_n ok dX7_fewestInns_0 0 rfl ?_
  refine gf_X7_12 ok dX7_fewestInns_1 ?_
  refine cl_X7_255 ok isW_0 dX7_fewestInns_4 (by decide) (Nat.le_of_ble_eq_true rfl) h (fun r2 S1 h => ?_)
  refine r_istore_n ok dX7_fewestInns_7 (by decide) [(0, .ref (xad X 44)), (1, .int r2)] [1, 0] rfl ?_
  refine r_aload_n ok dX7_fewestInns_8 0 rfl ?_
  refine r_iload_n ok dX7_fewestInns_9 1 rfl ?_
  refine cl_X7_271 ok dX7_fewestInns_10 (by decide) (Nat.le_of_ble_eq_true rfl) h (fun r4 S3 h => ?_)
  refine r_if_ne (tgt := 18) ok dX7_fewestInns_13 rfl (fun hc5 => ?_) (fun hc5 => ?_)
  · replace h := h.1 hc5
    refine r_iconst (v := 0) ok dX7_fewestInns_18 rfl ?_
    refine r_istore_n ok dX7_fewestInns_19 (by decide) [(0, .ref (xad X 44)), (1, .int r2), (2, .int 0)] [1, 2, 0] rfl ?_
    exact w_B_X7_fewestInns_20 ok hret h
  · replace h := h.2 hc5
    refine r_iconst (v := (-1)) ok dX7_fewestInns_16 rfl ?_
    exact hret _ _ _ _ dX7_fewestInns_17 h
theorem c_X7_fewestInns (l : Launch) (G : Gx) {S : St} {post : Int32 → St → Prop} (h : wp_X7_fewestInns S post) : MtI l yX7_fewestInns cX7_fewestInns 4 (some .int) 5 135 G [.ref (G.2.2 44)] S post :=
  ctI (by decide) rfl (Nat.le_of_ble_eq_true rfl) (fun X _ hG ok hret => by subst hG; exact w_wp_X7_fewestInns ok hret h)

/-! HasteRoads.inns(I)I -/
theorem dX7_inns_0 : decode cX7_inns 0 = .ok (.iload_n 1, 1) := by decide +kernel
theorem dX7_inns_1 : decode cX7_inns 1 = .ok (.iconst 0, 1) := by decide +kernel
theorem dX7_inns_2 : decode cX7_inns 2 = .ok (.iconst 1, 1) := by decide +kernel
theorem dX7_inns_3 : decode cX7_inns 3 = .ok (.invokestatic 77, 3) := by decide +kernel
theorem dX7_inns_6 : decode cX7_inns 6 = .ok (.ifCond .eq 6, 3) := by decide +kernel
theorem dX7_inns_9 : decode cX7_inns 9 = .ok (.ldc 81, 2) := by decide +kernel
theorem dX7_inns_11 : decode cX7_inns 11 = .ok (.ireturn, 1) := by decide +kernel
theorem dX7_inns_12 : decode cX7_inns 12 = .ok (.aload_n 0, 1) := by decide +kernel
theorem dX7_inns_13 : decode cX7_inns 13 = .ok (.getfield 16, 3) := by decide +kernel
theorem dX7_inns_16 : decode cX7_inns 16 = .ok (.aload_n 0, 1) := by decide +kernel
theorem dX7_inns_17 : decode cX7_inns 17 = .ok (.getfield 12, 3) := by decide +kernel
theorem dX7_inns_20 : decode cX7_inns 20 = .ok (.invokevirtual 97, 3) := by decide +kernel
theorem dX7_inns_23 : decode cX7_inns 23 = .ok (.aload_n 0, 1) := by decide +kernel
theorem dX7_inns_24 : decode cX7_inns 24 = .ok (.invokevirtual 219, 3) := by decide +kernel
theorem dX7_inns_27 : decode cX7_inns 27 = .ok (.istore_n 2, 1) := by decide +kernel
theorem dX7_inns_28 : decode cX7_inns 28 = .ok (.iload_n 1, 1) := by decide +kernel
theorem dX7_inns_29 : decode cX7_inns 29 = .ok (.ifCond .ne 15, 3) := by decide +kernel
theorem dX7_inns_32 : decode cX7_inns 32 = .ok (.iload_n 2, 1) := by decide +kernel
theorem dX7_inns_33 : decode cX7_inns 33 = .ok (.iconst (-1), 1) := by decide +kernel
theorem dX7_inns_34 : decode cX7_inns 34 = .ok (.if_icmp .eq 10, 3) := by decide +kernel
theorem dX7_inns_37 : decode cX7_inns 37 = .ok (.iload_n 2, 1) := by decide +kernel
theorem dX7_inns_38 : decode cX7_inns 38 = .ok (.invokestatic 222, 3) := by decide +kernel
theorem dX7_inns_41 : decode cX7_inns 41 = .ok (.goto 4, 3) := by decide +kernel
theorem dX7_inns_44 : decode cX7_inns 44 = .ok (.iload_n 2, 1) := by decide +kernel
theorem dX7_inns_45 : decode cX7_inns 45 = .ok (.ireturn, 1) := by decide +kernel
theorem cl_X7_219 {X : Cx} {cc : ByteArray} {nL pc fr lo : Nat} {L : List (Nat × Value)} {st : List Value} {S : St} (ok : Ok X cc nL RX7 fr lo) (d : decode cc pc = .ok (.invokevirtual 219, 3)) (hroom : 6 ≤ fr ∧ 158 ≤ lo) (hst : (st.map fun v => v.category).sum ≤ 8) {post : Int32 → St → Prop} (h : wp_X7_fewestInns S post) (kk : ∀ (r : Int32) (S1 : St), post r S1 → Wp X nL (pc + 3) L (.int r :: st) S1) : Wp X nL pc L (.ref (xad X 44) :: st) S :=
  r_callVi (n := 4) (f := 5) (lo1 := 135) (N := 0) (As := []) ok tw_in_X7 tw_im_X7_fewestInns tw_se_X7_fewestInns tw_co_X7_fewestInns tw_ml_X7_219 (by decide +kernel) rfl ob_44 rfl hroom hst d rfl (c_X7_fewestInns (xl X) (xG X) h) kk
def wp_X7_inns (x1 : Int32) (S : St) (post : Int32 → St → Prop) : Prop :=
  wp_X7_outside x1 0 1 S (fun r2 S1 => ((r2 = 0 → wp_X6_become 11 0 S1 (fun S4 => wp_X7_fewestInns S4 (fun r6 S5 => ((¬ x1 = 0 → post r6 S5) ∧ (x1 = 0 → ((r6 = (-1) → post r6 S5) ∧ (¬ r6 = (-1) → wp_J6_bitCount_0f7a4 r6 S5 (fun r10 S9 => post r10 S9)))))))) ∧ (¬ r2 = 0 → post (-1000000002) S1)))
theorem w_wp_X7_inns {X : Cx} (ok : Ok X cX7_inns 3 RX7 6 158) {post : Int32 → St → Prop} (hret : RetI X cX7_inns 3 post) {x1 : Int32} {S : St} (h : wp_X7_inns x1 S post) : Wp X 3 0 [(0, .ref (xad X 44)), (1, .int x1)] [] S := by
  unfold wp_X7_inns at h
  refine r_iload_n ok dX7_inns_0 1 rfl ?_
  refine r_iconst (v := 0) ok dX7_inns_1 rfl ?_
  refine r_iconst (v := 1) ok dX7_inns_2 rfl ?_
  refine cl_X7_77 ok dX7_inns_3 (by decide) (Nat.le_of_ble_eq_true rfl) h (fun r2 S1 h => ?_)
  refine r_if_eq (tgt := 12) ok dX7_inns_6 rfl (fun hc3 => ?_) (fun hc3 => ?_)
  · replace h := h.1 hc3
    refine r_aload_n ok dX7_inns_12 0 rfl ?_
    refine gf_X7_16 ok dX7_inns_13 ?_
    refine r_aload_n ok dX7_inns_16 0 rfl ?_
    refine gf_X7_12 ok dX7_inns_17 ?_
    refine cl_X7_97 ok isW_11 isW_0 dX7_inns_20 (by decide) (Nat.le_of_ble_eq_true rfl) h (fun S4 h => ?_)
    refine r_aload_n ok dX7_inns_23 0 rfl ?_
    refine cl_X7_219 ok dX7_inns_24 (by decide) (Nat.le_of_ble_eq_true rfl) h (fun r6 S5 h => ?_)
    refine r_istore_n ok dX7_inns_27 (by decide) [(1, .int x1), (2, .int r6)] [2, 0] rfl ?_
    refine r_iload_n ok dX7_inns_28 0 rfl ?_
    refine r_if_ne (tgt := 44) ok dX7_inns_29 rfl (fun hc7 => ?_) (fun hc7 => ?_)
    · replace h := h.1 hc7
      refine r_iload_n ok dX7_inns_44 1 rfl ?_
      exact hret _ _ _ _ dX7_inns_45 h
    · replace h := h.2 hc7
      refine r_iload_n ok dX7_inns_32 1 rfl ?_
      refine r_iconst (v := (-1)) ok dX7_inns_33 rfl ?_
      refine r_icmp_eq (tgt := 44) ok dX7_inns_34 rfl (fun hc8 => ?_) (fun hc8 => ?_)
      · replace h := h.1 hc8
        refine r_iload_n ok dX7_inns_44 1 rfl ?_
        exact hret _ _ _ _ dX7_inns_45 h
      · replace h := h.2 hc8
        refine r_iload_n ok dX7_inns_37 1 rfl ?_
        refine cl_X7_222 ok dX7_inns_38 (by decide) (Nat.le_of_ble_eq_true rfl) h (fun r10 S9 h => ?_)
        refine r_goto (tgt := 45) ok dX7_inns_41 rfl ?_
        exact hret _ _ _ _ dX7_inns_45 h
  · replace h := h.2 hc3
    refine r_ldc (v := (-1000000002)) ok dX7_inns_9 tw_k_X7_81 ?_
    exact hret _ _ _ _ dX7_inns_11 h
theorem c_X7_inns (l : Launch) (G : Gx) {x1 : Int32} {S : St} {post : Int32 → St → Prop} (h : wp_X7_inns x1 S post) : MtI l yX7_inns cX7_inns 3 (some .int) 6 158 G [.ref (G.2.2 44), .int x1] S post :=
  ctI (by decide) rfl (Nat.le_of_ble_eq_true rfl) (fun X _ hG ok hret => by subst hG; exact w_wp_X7_inns ok hret h)

/-! HasteRoads.relay(III)I -/
theorem dX7_relay_0 : decode cX7_relay 0 = .ok (.aload_n 0, 1) := by decide +kernel
theorem dX7_relay_1 : decode cX7_relay 1 = .ok (.getfield 12, 3) := by decide +kernel
theorem dX7_relay_4 : decode cX7_relay 4 = .ok (.iload_n 1, 1) := by decide +kernel
theorem dX7_relay_5 : decode cX7_relay 5 = .ok (.invokevirtual 167, 3) := by decide +kernel
theorem dX7_relay_8 : decode cX7_relay 8 = .ok (.ifCond .eq 19, 3) := by decide +kernel
theorem dX7_relay_11 : decode cX7_relay 11 = .ok (.aload_n 0, 1) := by decide +kernel
theorem dX7_relay_12 : decode cX7_relay 12 = .ok (.getfield 12, 3) := by decide +kernel
theorem dX7_relay_15 : decode cX7_relay 15 = .ok (.iload_n 2, 1) := by decide +kernel
theorem dX7_relay_16 : decode cX7_relay 16 = .ok (.invokevirtual 167, 3) := by decide +kernel
theorem dX7_relay_19 : decode cX7_relay 19 = .ok (.ifCond .eq 8, 3) := by decide +kernel
theorem dX7_relay_22 : decode cX7_relay 22 = .ok (.iload_n 1, 1) := by decide +kernel
theorem dX7_relay_23 : decode cX7_relay 23 = .ok (.iload_n 2, 1) := by decide +kernel
theorem dX7_relay_24 : decode cX7_relay 24 = .ok (.if_icmp .ne 6, 3) := by decide +kernel
theorem dX7_relay_27 : decode cX7_relay 27 = .ok (.ldc 129, 2) := by decide +kernel
theorem dX7_relay_29 : decode cX7_relay 29 = .ok (.ireturn, 1) := by decide +kernel
theorem dX7_relay_30 : decode cX7_relay 30 = .ok (.iload_n 3, 1) := by decide +kernel
theorem dX7_relay_31 : decode cX7_relay 31 = .ok (.iconst 0, 1) := by decide +kernel
theorem dX7_relay_32 : decode cX7_relay 32 = .ok (.iconst 1, 1) := by decide +kernel
theorem dX7_relay_33 : decode cX7_relay 33 = .ok (.invokestatic 77, 3) := by decide +kernel
theorem dX7_relay_36 : decode cX7_relay 36 = .ok (.ifCond .eq 6, 3) := by decide +kernel
theorem dX7_relay_39 : decode cX7_relay 39 = .ok (.ldc 81, 2) := by decide +kernel
theorem dX7_relay_41 : decode cX7_relay 41 = .ok (.ireturn, 1) := by decide +kernel
theorem dX7_relay_42 : decode cX7_relay 42 = .ok (.aload_n 0, 1) := by decide +kernel
theorem dX7_relay_43 : decode cX7_relay 43 = .ok (.getfield 16, 3) := by decide +kernel
theorem dX7_relay_46 : decode cX7_relay 46 = .ok (.aload_n 0, 1) := by decide +kernel
theorem dX7_relay_47 : decode cX7_relay 47 = .ok (.getfield 12, 3) := by decide +kernel
theorem dX7_relay_50 : decode cX7_relay 50 = .ok (.invokevirtual 97, 3) := by decide +kernel
theorem dX7_relay_53 : decode cX7_relay 53 = .ok (.aload_n 0, 1) := by decide +kernel
theorem dX7_relay_54 : decode cX7_relay 54 = .ok (.getfield 48, 3) := by decide +kernel
theorem dX7_relay_57 : decode cX7_relay 57 = .ok (.iload_n 1, 1) := by decide +kernel
theorem dX7_relay_58 : decode cX7_relay 58 = .ok (.invokevirtual 227, 3) := by decide +kernel
theorem dX7_relay_61 : decode cX7_relay 61 = .ok (.iload_n 3, 1) := by decide +kernel
theorem dX7_relay_62 : decode cX7_relay 62 = .ok (.ifCond .ne 14, 3) := by decide +kernel
theorem dX7_relay_65 : decode cX7_relay 65 = .ok (.aload_n 0, 1) := by decide +kernel
theorem dX7_relay_66 : decode cX7_relay 66 = .ok (.getfield 48, 3) := by decide +kernel
theorem dX7_relay_69 : decode cX7_relay 69 = .ok (.iload_n 2, 1) := by decide +kernel
theorem dX7_relay_70 : decode cX7_relay 70 = .ok (.invokevirtual 231, 3) := by decide +kernel
theorem dX7_relay_73 : decode cX7_relay 73 = .ok (.goto 11, 3) := by decide +kernel
theorem dX7_relay_76 : decode cX7_relay 76 = .ok (.aload_n 0, 1) := by decide +kernel
theorem dX7_relay_77 : decode cX7_relay 77 = .ok (.getfield 48, 3) := by decide +kernel
theorem dX7_relay_80 : decode cX7_relay 80 = .ok (.iload_n 2, 1) := by decide +kernel
theorem dX7_relay_81 : decode cX7_relay 81 = .ok (.invokevirtual 234, 3) := by decide +kernel
theorem dX7_relay_84 : decode cX7_relay 84 = .ok (.ireturn, 1) := by decide +kernel
theorem gf_X7_48 {X : Cx} {cc : ByteArray} {nL pc fr lo : Nat} {L : List (Nat × Value)} {st : List Value} {S : St} (ok : Ok X cc nL RX7 fr lo) (d : decode cc pc = .ok (.getfield 48, 3)) (k : Wp X nL (pc + 3) L (.ref (xad X 55) :: st) S) : Wp X nL pc L (.ref (xad X 44) :: st) S :=
  r_get (C := RX7) (T := TX7) ok ob_44 rfl i_X7 6 (by decide) tw_fl_X7_48 d (by rw [show fvl (xad X) S 44 6 = .ref (xad X 55) from (fvl_ref (d := 55) (by decide))]; exact k)
theorem cl_X7_227 {X : Cx} {cc : ByteArray} {nL pc fr lo : Nat} {L : List (Nat × Value)} {st : List Value} {S : St} (ok : Ok X cc nL RX7 fr lo) {x1 : Int32} (d : decode cc pc = .ok (.invokevirtual 227, 3)) (hroom : 6 ≤ fr ∧ 160 ≤ lo) (hst : (st.map fun v => v.category).sum ≤ 8) {post : St → Prop} (h : wp_X3_carry x1 S post) (kk : ∀ S1 : St, post S1 → Wp X nL (pc + 3) L st S1) : Wp X nL pc L (.int x1 :: .ref (xad X 55) :: st) S :=
  r_callVv (n := 5) (f := 5) (lo1 := 136) (N := 1) (As := [.int x1]) ok tw_in_X3 tw_im_X3_carry tw_se_X3_carry tw_co_X3_carry tw_ml_X7_227 (by decide +kernel) rfl ob_55 rfl hroom hst d rfl (c_X3_carry (xl X) (xG X) h) kk
theorem cl_X7_234 {X : Cx} {cc : ByteArray} {nL pc fr lo : Nat} {L : List (Nat × Value)} {st : List Value} {S : St} (ok : Ok X cc nL RX7 fr lo) {x1 : Int32} (d : decode cc pc = .ok (.invokevirtual 234, 3)) (hroom : 1 ≤ fr ∧ 21 ≤ lo) (hst : (st.map fun v => v.category).sum ≤ 8) {post : Int32 → St → Prop} (h : wp_X3_carriersTo x1 S post) (kk : ∀ (r : Int32) (S1 : St), post r S1 → Wp X nL (pc + 3) L (.int r :: st) S1) : Wp X nL pc L (.int x1 :: .ref (xad X 55) :: st) S :=
  r_callVi (n := 2) (f := 0) (lo1 := 0) (N := 1) (As := [.int x1]) ok tw_in_X3 tw_im_X3_carriersTo tw_se_X3_carriersTo tw_co_X3_carriersTo tw_ml_X7_234 (by decide +kernel) rfl ob_55 rfl hroom hst d rfl (c_X3_carriersTo (xl X) (xG X) h) kk
theorem cl_X7_231 {X : Cx} {cc : ByteArray} {nL pc fr lo : Nat} {L : List (Nat × Value)} {st : List Value} {S : St} (ok : Ok X cc nL RX7 fr lo) {x1 : Int32} (d : decode cc pc = .ok (.invokevirtual 231, 3)) (hroom : 1 ≤ fr ∧ 21 ≤ lo) (hst : (st.map fun v => v.category).sum ≤ 8) {post : Int32 → St → Prop} (h : wp_X3_minuteAt x1 S post) (kk : ∀ (r : Int32) (S1 : St), post r S1 → Wp X nL (pc + 3) L (.int r :: st) S1) : Wp X nL pc L (.int x1 :: .ref (xad X 55) :: st) S :=
  r_callVi (n := 2) (f := 0) (lo1 := 0) (N := 1) (As := [.int x1]) ok tw_in_X3 tw_im_X3_minuteAt tw_se_X3_minuteAt tw_co_X3_minuteAt tw_ml_X7_231 (by decide +kernel) rfl ob_55 rfl hroom hst d rfl (c_X3_minuteAt (xl X) (xG X) h) kk
def wp_X7_relay (x1 : Int32) (x2 : Int32) (x3 : Int32) (S : St) (post : Int32 → St → Prop) : Prop :=
  wp_X6_hasPlace 0 x1 S (fun r2 S1 => ((r2 = 0 → post (-1000000001) S1) ∧ (¬ r2 = 0 → wp_X6_hasPlace 0 x2 S1 (fun r5 S4 => ((r5 = 0 → post (-1000000001) S4) ∧ (¬ r5 = 0 → ((¬ x1 = x2 → wp_X7_outside x3 0 1 S4 (fun r9 S8 => ((r9 = 0 → wp_X6_become 11 0 S8 (fun S11 => wp_X3_carry x1 S11 (fun S12 => ((¬ x3 = 0 → wp_X3_carriersTo x2 S12 (fun r15 S14 => post r15 S14)) ∧ (x3 = 0 → wp_X3_minuteAt x2 S12 (fun r17 S16 => post r17 S16)))))) ∧ (¬ r9 = 0 → post (-1000000002) S8)))) ∧ (x1 = x2 → post (-1000000001) S4))))))))
theorem w_wp_X7_relay {X : Cx} (ok : Ok X cX7_relay 4 RX7 6 160) {post : Int32 → St → Prop} (hret : RetI X cX7_relay 4 post) {x1 x2 x3 : Int32} {S : St} (h : wp_X7_relay x1 x2 x3 S post) : Wp X 4 0 [(0, .ref (xad X 44)), (1, .int x1), (2, .int x2), (3, .int x3)] [] S := by
  unfold wp_X7_relay at h
  refine r_aload_n ok dX7_relay_0 0 rfl ?_
  refine gf_X7_12 ok dX7_relay_1 ?_
  refine r_iload_n ok dX7_relay_4 1 rfl ?_
  refine cl_X7_167 ok isW_0 dX7_relay_5 (by decide) (Nat.le_of_ble_eq_true rfl) h (fun r2 S1 h => ?_)
  refine r_if_eq (tgt := 27) ok dX7_relay_8 rfl (fun hc3 => ?_) (fun hc3 => ?_)
  · replace h := h.1 hc3
    refine r_ldc (v := (-1000000001)) ok dX7_relay_27 tw_k_X7_129 ?_
    exact hret _ _ _ _ dX7_relay_29 h
  · replace h := h.2 hc3
    refine r_aload_n ok dX7_relay_11 0 rfl ?_
    refine gf_X7_12 ok dX7_relay_12 ?_
    refine r_iload_n ok dX7_relay_15 2 rfl ?_
    refine cl_X7_167 ok isW_0 dX7_relay_16 (by decide) (Nat.le_of_ble_eq_true rfl) h (fun r5 S4 h => ?_)
    refine r_if_eq (tgt := 27) ok dX7_relay_19 rfl (fun hc6 => ?_) (fun hc6 => ?_)
    · replace h := h.1 hc6
      refine r_ldc (v := (-1000000001)) ok dX7_relay_27 tw_k_X7_129 ?_
      exact hret _ _ _ _ dX7_relay_29 h
    · replace h := h.2 hc6
      refine r_iload_n ok dX7_relay_22 1 rfl ?_
      refine r_iload_n ok dX7_relay_23 2 rfl ?_
      refine r_icmp_ne (tgt := 30) ok dX7_relay_24 rfl (fun hc7 => ?_) (fun hc7 => ?_)
      · replace h := h.1 hc7
        refine r_iload_n ok dX7_relay_30 3 rfl ?_
        refine r_iconst (v := 0) ok dX7_relay_31 rfl ?_
        refine r_iconst (v := 1) ok dX7_relay_32 rfl ?_
        refine cl_X7_77 ok dX7_relay_33 (by decide) (Nat.le_of_ble_eq_true rfl) h (fun r9 S8 h => ?_)
        refine r_if_eq (tgt := 42) ok dX7_relay_36 rfl (fun hc10 => ?_) (fun hc10 => ?_)
        · replace h := h.1 hc10
          refine r_aload_n ok dX7_relay_42 0 rfl ?_
          refine gf_X7_16 ok dX7_relay_43 ?_
          refine r_aload_n ok dX7_relay_46 0 rfl ?_
          refine gf_X7_12 ok dX7_relay_47 ?_
          refine cl_X7_97 ok isW_11 isW_0 dX7_relay_50 (by decide) (Nat.le_of_ble_eq_true rfl) h (fun S11 h => ?_)
          refine r_aload_n ok dX7_relay_53 0 rfl ?_
          refine gf_X7_48 ok dX7_relay_54 ?_
          refine r_iload_n ok dX7_relay_57 1 rfl ?_
          refine cl_X7_227 ok dX7_relay_58 (by decide) (Nat.le_of_ble_eq_true rfl) h (fun S12 h => ?_)
          refine r_iload_n ok dX7_relay_61 3 rfl ?_
          refine r_if_ne (tgt := 76) ok dX7_relay_62 rfl (fun hc13 => ?_) (fun hc13 => ?_)
          · replace h := h.1 hc13
            refine r_aload_n ok dX7_relay_76 0 rfl ?_
            refine gf_X7_48 ok dX7_relay_77 ?_
            refine r_iload_n ok dX7_relay_80 2 rfl ?_
            refine cl_X7_234 ok dX7_relay_81 (by decide) (Nat.le_of_ble_eq_true rfl) h (fun r15 S14 h => ?_)
            exact hret _ _ _ _ dX7_relay_84 h
          · replace h := h.2 hc13
            refine r_aload_n ok dX7_relay_65 0 rfl ?_
            refine gf_X7_48 ok dX7_relay_66 ?_
            refine r_iload_n ok dX7_relay_69 2 rfl ?_
            refine cl_X7_231 ok dX7_relay_70 (by decide) (Nat.le_of_ble_eq_true rfl) h (fun r17 S16 h => ?_)
            refine r_goto (tgt := 84) ok dX7_relay_73 rfl ?_
            exact hret _ _ _ _ dX7_relay_84 h
        · replace h := h.2 hc10
          refine r_ldc (v := (-1000000002)) ok dX7_relay_39 tw_k_X7_81 ?_
          exact hret _ _ _ _ dX7_relay_41 h
      · replace h := h.2 hc7
        refine r_ldc (v := (-1000000001)) ok dX7_relay_27 tw_k_X7_129 ?_
        exact hret _ _ _ _ dX7_relay_29 h
theorem c_X7_relay (l : Launch) (G : Gx) {x1 x2 x3 : Int32} {S : St} {post : Int32 → St → Prop} (h : wp_X7_relay x1 x2 x3 S post) : MtI l yX7_relay cX7_relay 4 (some .int) 6 160 G [.ref (G.2.2 44), .int x1, .int x2, .int x3] S post :=
  ctI (by decide) rfl (Nat.le_of_ble_eq_true rfl) (fun X _ hG ok hret => by subst hG; exact w_wp_X7_relay ok hret h)

/-! HasteRoads.meet(III)I -/
theorem dX7_meet_0 : decode cX7_meet 0 = .ok (.aload_n 0, 1) := by decide +kernel
theorem dX7_meet_1 : decode cX7_meet 1 = .ok (.getfield 12, 3) := by decide +kernel
theorem dX7_meet_4 : decode cX7_meet 4 = .ok (.iload_n 1, 1) := by decide +kernel
theorem dX7_meet_5 : decode cX7_meet 5 = .ok (.invokevirtual 139, 3) := by decide +kernel
theorem dX7_meet_8 : decode cX7_meet 8 = .ok (.ifCond .eq 19, 3) := by decide +kernel
theorem dX7_meet_11 : decode cX7_meet 11 = .ok (.aload_n 0, 1) := by decide +kernel
theorem dX7_meet_12 : decode cX7_meet 12 = .ok (.getfield 12, 3) := by decide +kernel
theorem dX7_meet_15 : decode cX7_meet 15 = .ok (.iload_n 2, 1) := by decide +kernel
theorem dX7_meet_16 : decode cX7_meet 16 = .ok (.invokevirtual 139, 3) := by decide +kernel
theorem dX7_meet_19 : decode cX7_meet 19 = .ok (.ifCond .eq 8, 3) := by decide +kernel
theorem dX7_meet_22 : decode cX7_meet 22 = .ok (.iload_n 1, 1) := by decide +kernel
theorem dX7_meet_23 : decode cX7_meet 23 = .ok (.iload_n 2, 1) := by decide +kernel
theorem dX7_meet_24 : decode cX7_meet 24 = .ok (.if_icmp .ne 6, 3) := by decide +kernel
theorem dX7_meet_27 : decode cX7_meet 27 = .ok (.ldc 129, 2) := by decide +kernel
theorem dX7_meet_29 : decode cX7_meet 29 = .ok (.ireturn, 1) := by decide +kernel
theorem dX7_meet_30 : decode cX7_meet 30 = .ok (.iload_n 3, 1) := by decide +kernel
theorem dX7_meet_31 : decode cX7_meet 31 = .ok (.iconst 0, 1) := by decide +kernel
theorem dX7_meet_32 : decode cX7_meet 32 = .ok (.iconst 1, 1) := by decide +kernel
theorem dX7_meet_33 : decode cX7_meet 33 = .ok (.invokestatic 77, 3) := by decide +kernel
theorem dX7_meet_36 : decode cX7_meet 36 = .ok (.ifCond .eq 6, 3) := by decide +kernel
theorem dX7_meet_39 : decode cX7_meet 39 = .ok (.ldc 81, 2) := by decide +kernel
theorem dX7_meet_41 : decode cX7_meet 41 = .ok (.ireturn, 1) := by decide +kernel
theorem dX7_meet_42 : decode cX7_meet 42 = .ok (.aload_n 0, 1) := by decide +kernel
theorem dX7_meet_43 : decode cX7_meet 43 = .ok (.getfield 16, 3) := by decide +kernel
theorem dX7_meet_46 : decode cX7_meet 46 = .ok (.aload_n 0, 1) := by decide +kernel
theorem dX7_meet_47 : decode cX7_meet 47 = .ok (.getfield 12, 3) := by decide +kernel
theorem dX7_meet_50 : decode cX7_meet 50 = .ok (.invokevirtual 97, 3) := by decide +kernel
theorem dX7_meet_53 : decode cX7_meet 53 = .ok (.aload_n 0, 1) := by decide +kernel
theorem dX7_meet_54 : decode cX7_meet 54 = .ok (.getfield 39, 3) := by decide +kernel
theorem dX7_meet_57 : decode cX7_meet 57 = .ok (.iload_n 1, 1) := by decide +kernel
theorem dX7_meet_58 : decode cX7_meet 58 = .ok (.iconst 0, 1) := by decide +kernel
theorem dX7_meet_59 : decode cX7_meet 59 = .ok (.iconst (-1), 1) := by decide +kernel
theorem dX7_meet_60 : decode cX7_meet 60 = .ok (.invokevirtual 204, 3) := by decide +kernel
theorem dX7_meet_63 : decode cX7_meet 63 = .ok (.iconst 0, 1) := by decide +kernel
theorem dX7_meet_64 : decode cX7_meet 64 = .ok (.istore 4, 2) := by decide +kernel
theorem dX7_meet_66 : decode cX7_meet 66 = .ok (.iload 4, 2) := by decide +kernel
theorem dX7_meet_68 : decode cX7_meet 68 = .ok (.aload_n 0, 1) := by decide +kernel
theorem dX7_meet_69 : decode cX7_meet 69 = .ok (.getfield 12, 3) := by decide +kernel
theorem dX7_meet_72 : decode cX7_meet 72 = .ok (.getfield 104, 3) := by decide +kernel
theorem dX7_meet_75 : decode cX7_meet 75 = .ok (.if_icmp .ge 25, 3) := by decide +kernel
theorem dX7_meet_78 : decode cX7_meet 78 = .ok (.aload_n 0, 1) := by decide +kernel
theorem dX7_meet_79 : decode cX7_meet 79 = .ok (.getfield 73, 3) := by decide +kernel
theorem dX7_meet_82 : decode cX7_meet 82 = .ok (.iload 4, 2) := by decide +kernel
theorem dX7_meet_84 : decode cX7_meet 84 = .ok (.aload_n 0, 1) := by decide +kernel
theorem dX7_meet_85 : decode cX7_meet 85 = .ok (.getfield 39, 3) := by decide +kernel
theorem dX7_meet_88 : decode cX7_meet 88 = .ok (.iload 4, 2) := by decide +kernel
theorem dX7_meet_90 : decode cX7_meet 90 = .ok (.invokevirtual 207, 3) := by decide +kernel
theorem dX7_meet_93 : decode cX7_meet 93 = .ok (.iastore, 1) := by decide +kernel
theorem dX7_meet_94 : decode cX7_meet 94 = .ok (.iinc 4 1, 3) := by decide +kernel
theorem dX7_meet_97 : decode cX7_meet 97 = .ok (.goto (-31), 3) := by decide +kernel
theorem dX7_meet_100 : decode cX7_meet 100 = .ok (.aload_n 0, 1) := by decide +kernel
theorem dX7_meet_101 : decode cX7_meet 101 = .ok (.getfield 39, 3) := by decide +kernel
theorem dX7_meet_104 : decode cX7_meet 104 = .ok (.iload_n 2, 1) := by decide +kernel
theorem dX7_meet_105 : decode cX7_meet 105 = .ok (.iconst 0, 1) := by decide +kernel
theorem dX7_meet_106 : decode cX7_meet 106 = .ok (.iconst (-1), 1) := by decide +kernel
theorem dX7_meet_107 : decode cX7_meet 107 = .ok (.invokevirtual 204, 3) := by decide +kernel
theorem dX7_meet_110 : decode cX7_meet 110 = .ok (.iconst (-1), 1) := by decide +kernel
theorem dX7_meet_111 : decode cX7_meet 111 = .ok (.istore 4, 2) := by decide +kernel
theorem dX7_meet_113 : decode cX7_meet 113 = .ok (.iconst (-1), 1) := by decide +kernel
theorem dX7_meet_114 : decode cX7_meet 114 = .ok (.istore 5, 2) := by decide +kernel
theorem dX7_meet_116 : decode cX7_meet 116 = .ok (.iconst 0, 1) := by decide +kernel
theorem dX7_meet_117 : decode cX7_meet 117 = .ok (.istore 6, 2) := by decide +kernel
theorem dX7_meet_119 : decode cX7_meet 119 = .ok (.iload 6, 2) := by decide +kernel
theorem dX7_meet_121 : decode cX7_meet 121 = .ok (.aload_n 0, 1) := by decide +kernel
theorem dX7_meet_122 : decode cX7_meet 122 = .ok (.getfield 12, 3) := by decide +kernel
theorem dX7_meet_125 : decode cX7_meet 125 = .ok (.getfield 104, 3) := by decide +kernel
theorem dX7_meet_128 : decode cX7_meet 128 = .ok (.if_icmp .ge 75, 3) := by decide +kernel
theorem dX7_meet_131 : decode cX7_meet 131 = .ok (.aload_n 0, 1) := by decide +kernel
theorem dX7_meet_132 : decode cX7_meet 132 = .ok (.getfield 39, 3) := by decide +kernel
theorem dX7_meet_135 : decode cX7_meet 135 = .ok (.iload 6, 2) := by decide +kernel
theorem dX7_meet_137 : decode cX7_meet 137 = .ok (.invokevirtual 207, 3) := by decide +kernel
theorem dX7_meet_140 : decode cX7_meet 140 = .ok (.istore 7, 2) := by decide +kernel
theorem dX7_meet_142 : decode cX7_meet 142 = .ok (.aload_n 0, 1) := by decide +kernel
theorem dX7_meet_143 : decode cX7_meet 143 = .ok (.getfield 73, 3) := by decide +kernel
theorem dX7_meet_146 : decode cX7_meet 146 = .ok (.iload 6, 2) := by decide +kernel
theorem dX7_meet_148 : decode cX7_meet 148 = .ok (.iaload, 1) := by decide +kernel
theorem dX7_meet_149 : decode cX7_meet 149 = .ok (.iconst (-1), 1) := by decide +kernel
theorem dX7_meet_150 : decode cX7_meet 150 = .ok (.if_icmp .eq 47, 3) := by decide +kernel
theorem dX7_meet_153 : decode cX7_meet 153 = .ok (.iload 7, 2) := by decide +kernel
theorem dX7_meet_155 : decode cX7_meet 155 = .ok (.iconst (-1), 1) := by decide +kernel
theorem dX7_meet_156 : decode cX7_meet 156 = .ok (.if_icmp .ne 6, 3) := by decide +kernel
theorem dX7_meet_159 : decode cX7_meet 159 = .ok (.goto 38, 3) := by decide +kernel
theorem dX7_meet_162 : decode cX7_meet 162 = .ok (.aload_n 0, 1) := by decide +kernel
theorem dX7_meet_163 : decode cX7_meet 163 = .ok (.getfield 73, 3) := by decide +kernel
theorem dX7_meet_166 : decode cX7_meet 166 = .ok (.iload 6, 2) := by decide +kernel
theorem dX7_meet_168 : decode cX7_meet 168 = .ok (.iaload, 1) := by decide +kernel
theorem dX7_meet_169 : decode cX7_meet 169 = .ok (.iload 7, 2) := by decide +kernel
theorem dX7_meet_171 : decode cX7_meet 171 = .ok (.invokestatic 237, 3) := by decide +kernel
theorem dX7_meet_174 : decode cX7_meet 174 = .ok (.istore 8, 2) := by decide +kernel
theorem dX7_meet_176 : decode cX7_meet 176 = .ok (.iload 5, 2) := by decide +kernel
theorem dX7_meet_178 : decode cX7_meet 178 = .ok (.iconst (-1), 1) := by decide +kernel
theorem dX7_meet_179 : decode cX7_meet 179 = .ok (.if_icmp .eq 10, 3) := by decide +kernel
theorem dX7_meet_182 : decode cX7_meet 182 = .ok (.iload 8, 2) := by decide +kernel
theorem dX7_meet_184 : decode cX7_meet 184 = .ok (.iload 4, 2) := by decide +kernel
theorem dX7_meet_186 : decode cX7_meet 186 = .ok (.if_icmp .ge 11, 3) := by decide +kernel
theorem dX7_meet_189 : decode cX7_meet 189 = .ok (.iload 8, 2) := by decide +kernel
theorem dX7_meet_191 : decode cX7_meet 191 = .ok (.istore 4, 2) := by decide +kernel
theorem dX7_meet_193 : decode cX7_meet 193 = .ok (.iload 6, 2) := by decide +kernel
theorem dX7_meet_195 : decode cX7_meet 195 = .ok (.istore 5, 2) := by decide +kernel
theorem dX7_meet_197 : decode cX7_meet 197 = .ok (.iinc 6 1, 3) := by decide +kernel
theorem dX7_meet_200 : decode cX7_meet 200 = .ok (.goto (-81), 3) := by decide +kernel
theorem dX7_meet_203 : decode cX7_meet 203 = .ok (.iload_n 3, 1) := by decide +kernel
theorem dX7_meet_204 : decode cX7_meet 204 = .ok (.ifCond .ne 8, 3) := by decide +kernel
theorem dX7_meet_207 : decode cX7_meet 207 = .ok (.iload 4, 2) := by decide +kernel
theorem dX7_meet_209 : decode cX7_meet 209 = .ok (.goto 5, 3) := by decide +kernel
theorem dX7_meet_212 : decode cX7_meet 212 = .ok (.iload 5, 2) := by decide +kernel
theorem dX7_meet_214 : decode cX7_meet 214 = .ok (.ireturn, 1) := by decide +kernel
theorem gf_X7_73 {X : Cx} {cc : ByteArray} {nL pc fr lo : Nat} {L : List (Nat × Value)} {st : List Value} {S : St} (ok : Ok X cc nL RX7 fr lo) (d : decode cc pc = .ok (.getfield 73, 3)) (k : Wp X nL (pc + 3) L (.ref (xad X 47) :: st) S) : Wp X nL pc L (.ref (xad X 44) :: st) S :=
  r_get (C := RX7) (T := TX7) ok ob_44 rfl i_X7 10 (by decide) tw_fl_X7_73 d (by rw [show fvl (xad X) S 44 10 = .ref (xad X 47) from (fvl_ref (d := 47) (by decide))]; exact k)
def B_X7_meet_203 (post : Int32 → St → Prop) (x3 : Int32) (x4 : Int32) (x5 : Int32) (S : St) : Prop :=
  ((¬ x3 = 0 → post x5 S) ∧ (x3 = 0 → post x4 S))
def BD_X7_meet_119 (k119 : Int32 → Int32 → Int32 → Int32 → St → Prop) (post : Int32 → St → Prop) (x3 : Int32) (x4 : Int32) (x5 : Int32) (x6 : Int32) (S : St) : Prop :=
  (((S 0 0) ≤ x6 → B_X7_meet_203 post x3 x4 x5 S) ∧ (¬ (S 0 0) ≤ x6 → wp_X4_soonestAt x6 S (fun r3 S2 => vp_in x6 6 ∧ ((((S2 47 (ix x6)) = (-1) → k119 x3 x4 x5 (x6 + 1) S2) ∧ (¬ (S2 47 (ix x6)) = (-1) → ((¬ r3 = (-1) → vp_in x6 6 ∧ (∀ v6 : Int32, v6 = (if (S2 47 (ix x6)) < r3 then r3 else (S2 47 (ix x6))) → ((x5 = (-1) → k119 x3 v6 x6 (x6 + 1) S2) ∧ (¬ x5 = (-1) → ((x4 ≤ v6 → k119 x3 x4 x5 (x6 + 1) S2) ∧ (¬ x4 ≤ v6 → k119 x3 v6 x6 (x6 + 1) S2)))))) ∧ (r3 = (-1) → k119 x3 x4 x5 (x6 + 1) S2))))))))
def L_X7_meet_119 (post : Int32 → St → Prop) (n : Nat) : Int32 → Int32 → Int32 → Int32 → St → Prop := Nat.rec (motive := fun _ => Int32 → Int32 → Int32 → Int32 → St → Prop) (fun _ _ _ _ _ => False) (fun _ ih => BD_X7_meet_119 ih post) n
def B_X7_meet_119 (post : Int32 → St → Prop) (x3 : Int32) (x4 : Int32) (x5 : Int32) (x6 : Int32) (S : St) : Prop := ∃ n, L_X7_meet_119 post n x3 x4 x5 x6 S
def B_X7_meet_100 (post : Int32 → St → Prop) (x2 : Int32) (x3 : Int32) (S : St) : Prop :=
  wp_X4_explore x2 0 (-1) S (fun S1 => B_X7_meet_119 post x3 (-1) (-1) 0 S1)
def BD_X7_meet_66 (k66 : Int32 → Int32 → Int32 → St → Prop) (post : Int32 → St → Prop) (x2 : Int32) (x3 : Int32) (x4 : Int32) (S : St) : Prop :=
  (((S 0 0) ≤ x4 → B_X7_meet_100 post x2 x3 S) ∧ (¬ (S 0 0) ≤ x4 → wp_X4_soonestAt x4 S (fun r3 S2 => vp_in x4 6 ∧ (∀ S4 : St, S4 = up S2 47 (ix x4) r3 → k66 x2 x3 (x4 + 1) S4))))
def L_X7_meet_66 (post : Int32 → St → Prop) (n : Nat) : Int32 → Int32 → Int32 → St → Prop := Nat.rec (motive := fun _ => Int32 → Int32 → Int32 → St → Prop) (fun _ _ _ _ => False) (fun _ ih => BD_X7_meet_66 ih post) n
def B_X7_meet_66 (post : Int32 → St → Prop) (x2 : Int32) (x3 : Int32) (x4 : Int32) (S : St) : Prop := ∃ n, L_X7_meet_66 post n x2 x3 x4 S
def wp_X7_meet (x1 : Int32) (x2 : Int32) (x3 : Int32) (S : St) (post : Int32 → St → Prop) : Prop :=
  wp_X6_hasPerson 0 x1 S (fun r2 S1 => ((r2 = 0 → post (-1000000001) S1) ∧ (¬ r2 = 0 → wp_X6_hasPerson 0 x2 S1 (fun r5 S4 => ((r5 = 0 → post (-1000000001) S4) ∧ (¬ r5 = 0 → ((¬ x1 = x2 → wp_X7_outside x3 0 1 S4 (fun r9 S8 => ((r9 = 0 → wp_X6_become 11 0 S8 (fun S11 => wp_X4_explore x1 0 (-1) S11 (fun S12 => B_X7_meet_66 post x2 x3 0 S12))) ∧ (¬ r9 = 0 → post (-1000000002) S8)))) ∧ (x1 = x2 → post (-1000000001) S4))))))))
theorem w_B_X7_meet_203 {X : Cx} (ok : Ok X cX7_meet 9 RX7 4 112) {post : Int32 → St → Prop} (hret : RetI X cX7_meet 9 post) {x3 x4 x5 : Int32} {S : St} (h : B_X7_meet_203 post x3 x4 x5 S) : Wp X 9 203 [(3, .int x3), (4, .int x4), (5, .int x5)] [] S := by
  unfold B_X7_meet_203 at h
  refine r_iload_n ok dX7_meet_203 0 rfl ?_
  refine r_if_ne (tgt := 212) ok dX7_meet_204 rfl (fun hc1 => ?_) (fun hc1 => ?_)
  · replace h := h.1 hc1
    refine r_iload ok dX7_meet_212 2 rfl ?_
    exact hret _ _ _ _ dX7_meet_214 h
  · replace h := h.2 hc1
    refine r_iload ok dX7_meet_207 1 rfl ?_
    refine r_goto (tgt := 214) ok dX7_meet_209 rfl ?_
    exact hret _ _ _ _ dX7_meet_214 h
theorem w_B_X7_meet_119 {X : Cx} (ok : Ok X cX7_meet 9 RX7 4 112) {post : Int32 → St → Prop} (hret : RetI X cX7_meet 9 post) {x3 x4 x5 x6 : Int32} {S : St} (h : B_X7_meet_119 post x3 x4 x5 x6 S) : Wp X 9 119 [(0, .ref (xad X 44)), (3, .int x3), (4, .int x4), (5, .int x5), (6, .int x6)] [] S := by
  obtain ⟨n, h⟩ := h
  induction n generalizing x3 x4 x5 x6 S with
  | zero => exact False.elim h
  | succ n ih =>
    have hk119 : ∀ x3 x4 x5 x6 S, L_X7_meet_119 post n x3 x4 x5 x6 S → Wp X 9 119 [(0, .ref (xad X 44)), (3, .int x3), (4, .int x4), (5, .int x5), (6, .int x6)] [] S := by intros; apply ih; assumption
    replace h : BD_X7_meet_119 (L_X7_meet_119 post n) post x3 x4 x5 x6 S := h
    unfold BD_X7_meet_119 at h
    generalize L_X7_meet_119 post n = k119 at h hk119
    refine r_iload ok dX7_meet_119 4 rfl ?_
    refine r_aload_n ok dX7_meet_121 0 rfl ?_
    refine gf_X7_12 ok dX7_meet_122 ?_
    refine gf_X7_104 ok isW_0 dX7_meet_125 ?_
    refine r_icmp_ge (tgt := 203) ok dX7_meet_128 rfl (fun hc1 => ?_) (fun hc1 => ?_)
    · replace h := h.1 hc1
      refine r_sub [(3, .int x3), (4, .int x4), (5, .int x5)] [1, 2, 3] rfl ?_
      exact w_B_X7_meet_203 ok hret h
    · replace h := h.2 hc1
      refine r_aload_n ok dX7_meet_131 0 rfl ?_
      refine gf_X7_39 ok dX7_meet_132 ?_
      refine r_iload ok dX7_meet_135 4 rfl ?_
      refine cl_X7_207 ok dX7_meet_137 (by decide) (Nat.le_of_ble_eq_true rfl) h (fun r3 S2 h => ?_)
      refine r_istore ok dX7_meet_140 (by decide) [(0, .ref (xad X 44)), (3, .int x3), (4, .int x4), (5, .int x5), (6, .int x6), (7, .int r3)] [1, 2, 3, 4, 5, 0] rfl ?_
      refine r_aload_n ok dX7_meet_142 0 rfl ?_
      refine gf_X7_73 ok dX7_meet_143 ?_
      refine r_iload ok dX7_meet_146 4 rfl ?_
      refine r_iald ok ai_47 h.1 rfl dX7_meet_148 ?_
      replace h := h.2
      refine r_iconst (v := (-1)) ok dX7_meet_149 rfl ?_
      refine r_icmp_eq (tgt := 197) ok dX7_meet_150 rfl (fun hc4 => ?_) (fun hc4 => ?_)
      · replace h := h.1 hc4
        refine r_iinc (v := x6 + 1) ok dX7_meet_197 4 rfl rfl (by decide) [(0, .ref (xad X 44)), (3, .int x3), (4, .int x4), (5, .int x5), (6, .int (x6 + 1))] [1, 2, 3, 4, 0] rfl ?_
        refine r_goto (tgt := 119) ok dX7_meet_200 rfl ?_
        exact hk119 _ _ _ _ _ h
      · replace h := h.2 hc4
        refine r_iload ok dX7_meet_153 5 rfl ?_
        refine r_iconst (v := (-1)) ok dX7_meet_155 rfl ?_
        refine r_icmp_ne (tgt := 162) ok dX7_meet_156 rfl (fun hc5 => ?_) (fun hc5 => ?_)
        · replace h := h.1 hc5
          refine r_aload_n ok dX7_meet_162 0 rfl ?_
          refine gf_X7_73 ok dX7_meet_163 ?_
          refine r_iload ok dX7_meet_166 4 rfl ?_
          refine r_iald ok ai_47 h.1 rfl dX7_meet_168 ?_
          replace h := h.2
          refine r_iload ok dX7_meet_169 5 rfl ?_
          refine r_max ok dX7_meet_171 tw_ml_X7_237 tw_st_Math_max tw_in_Math tw_co_Math_max (by decide) (Nat.le_of_ble_eq_true rfl) ?_
          refine r_top (fun v6 ev6 => ?_)
          replace h := h v6 ev6
          refine r_istore ok dX7_meet_174 (by decide) [(0, .ref (xad X 44)), (3, .int x3), (4, .int x4), (5, .int x5), (6, .int x6), (8, .int v6)] [1, 2, 3, 4, 5, 0] rfl ?_
          refine r_iload ok dX7_meet_176 3 rfl ?_
          refine r_iconst (v := (-1)) ok dX7_meet_178 rfl ?_
          refine r_icmp_eq (tgt := 189) ok dX7_meet_179 rfl (fun hc7 => ?_) (fun hc7 => ?_)
          · replace h := h.1 hc7
            refine r_iload ok dX7_meet_189 5 rfl ?_
            refine r_istore ok dX7_meet_191 (by decide) [(0, .ref (xad X 44)), (3, .int x3), (4, .int v6), (6, .int x6)] [1, 2, 0, 4] rfl ?_
            refine r_iload ok dX7_meet_193 3 rfl ?_
            refine r_istore ok dX7_meet_195 (by decide) [(0, .ref (xad X 44)), (3, .int x3), (4, .int v6), (5, .int x6), (6, .int x6)] [1, 2, 3, 0, 4] rfl ?_
            refine r_iinc (v := x6 + 1) ok dX7_meet_197 4 rfl rfl (by decide) [(0, .ref (xad X 44)), (3, .int x3), (4, .int v6), (5, .int x6), (6, .int (x6 + 1))] [1, 2, 3, 4, 0] rfl ?_
            refine r_goto (tgt := 119) ok dX7_meet_200 rfl ?_
            exact hk119 _ _ _ _ _ h
          · replace h := h.2 hc7
            refine r_iload ok dX7_meet_182 5 rfl ?_
            refine r_iload ok dX7_meet_184 2 rfl ?_
            refine r_icmp_ge (tgt := 197) ok dX7_meet_186 rfl (fun hc8 => ?_) (fun hc8 => ?_)
            · replace h := h.1 hc8
              refine r_iinc (v := x6 + 1) ok dX7_meet_197 4 rfl rfl (by decide) [(0, .ref (xad X 44)), (3, .int x3), (4, .int x4), (5, .int x5), (6, .int (x6 + 1))] [1, 2, 3, 4, 0] rfl ?_
              refine r_goto (tgt := 119) ok dX7_meet_200 rfl ?_
              exact hk119 _ _ _ _ _ h
            · replace h := h.2 hc8
              refine r_iload ok dX7_meet_189 5 rfl ?_
              refine r_istore ok dX7_meet_191 (by decide) [(0, .ref (xad X 44)), (3, .int x3), (4, .int v6), (6, .int x6)] [1, 2, 0, 4] rfl ?_
              refine r_iload ok dX7_meet_193 3 rfl ?_
              refine r_istore ok dX7_meet_195 (by decide) [(0, .ref (xad X 44)), (3, .int x3), (4, .int v6), (5, .int x6), (6, .int x6)] [1, 2, 3, 0, 4] rfl ?_
              refine r_iinc (v := x6 + 1) ok dX7_meet_197 4 rfl rfl (by decide) [(0, .ref (xad X 44)), (3, .int x3), (4, .int v6), (5, .int x6), (6, .int (x6 + 1))] [1, 2, 3, 4, 0] rfl ?_
              refine r_goto (tgt := 119) ok dX7_meet_200 rfl ?_
              exact hk119 _ _ _ _ _ h
        · replace h := h.2 hc5
          refine r_goto (tgt := 197) ok dX7_meet_159 rfl ?_
          refine r_iinc (v := x6 + 1) ok dX7_meet_197 4 rfl rfl (by decide) [(0, .ref (xad X 44)), (3, .int x3), (4, .int x4), (5, .int x5), (6, .int (x6 + 1))] [1, 2, 3, 4, 0] rfl ?_
          refine r_goto (tgt := 119) ok dX7_meet_200 rfl ?_
          exact hk119 _ _ _ _ _ h
theorem w_B_X7_meet_100 {X : Cx} (ok : Ok X cX7_meet 9 RX7 4 112) {post : Int32 → St → Prop} (hret : RetI X cX7_meet 9 post) {x2 x3 : Int32} {S : St} (h : B_X7_meet_100 post x2 x3 S) : Wp X 9 100 [(0, .ref (xad X 44)), (2, .int x2), (3, .int x3)] [] S := by
  unfold B_X7_meet_100 at h
  refine r_aload_n ok dX7_meet_100 0 rfl ?_
  refine gf_X7_39 ok dX7_meet_101 ?_
  refine r_iload_n ok dX7_meet_104 1 rfl ?_
  refine r_iconst (v := 0) ok dX7_meet_105 rfl ?_
  refine r_iconst (v := (-1)) ok dX7_meet_106 rfl ?_
  refine cl_X7_204 ok dX7_meet_107 (by decide) (Nat.le_of_ble_eq_true rfl) h (fun S1 h => ?_)
  refine r_iconst (v := (-1)) ok dX7_meet_110 rfl ?_
  refine r_istore ok dX7_meet_111 (by decide) [(0, .ref (xad X 44)), (3, .int x3), (4, .int (-1))] [1, 3, 0] rfl ?_
  refine r_iconst (v := (-1)) ok dX7_meet_113 rfl ?_
  refine r_istore ok dX7_meet_114 (by decide) [(0, .ref (xad X 44)), (3, .int x3), (4, .int (-1)), (5, .int (-1))] [1, 2, 3, 0] rfl ?_
  refine r_iconst (v := 0) ok dX7_meet_116 rfl ?_
  refine r_istore ok dX7_meet_117 (by decide) [(0, .ref (xad X 44)), (3, .int x3), (4, .int (-1)), (5, .int (-1)), (6, .int 0)] [1, 2, 3, 4, 0] rfl ?_
  exact w_B_X7_meet_119 ok hret h
theorem w_B_X7_meet_66 {X : Cx} (ok : Ok X cX7_meet 9 RX7 4 112) {post : Int32 → St → Prop} (hret : RetI X cX7_meet 9 post) {x2 x3 x4 : Int32} {S : St} (h : B_X7_meet_66 post x2 x3 x4 S) : Wp X 9 66 [(0, .ref (xad X 44)), (2, .int x2), (3, .int x3), (4, .int x4)] [] S := by
  obtain ⟨n, h⟩ := h
  induction n generalizing x2 x3 x4 S with
  | zero => exact False.elim h
  | succ n ih =>
    have hk66 : ∀ x2 x3 x4 S, L_X7_meet_66 post n x2 x3 x4 S → Wp X 9 66 [(0, .ref (xad X 44)), (2, .int x2), (3, .int x3), (4, .int x4)] [] S := by intros; apply ih; assumption
    replace h : BD_X7_meet_66 (L_X7_meet_66 post n) post x2 x3 x4 S := h
    unfold BD_X7_meet_66 at h
    generalize L_X7_meet_66 post n = k66 at h hk66
    refine r_iload ok dX7_meet_66 3 rfl ?_
    refine r_aload_n ok dX7_meet_68 0 rfl ?_
    refine gf_X7_12 ok dX7_meet_69 ?_
    refine gf_X7_104 ok isW_0 dX7_meet_72 ?_
    refine r_icmp_ge (tgt := 100) ok dX7_meet_75 rfl (fun hc1 => ?_) (fun hc1 => ?_)
    · replace h := h.1 hc1
      refine r_sub [(0, .ref (xad X 44)), (2, .int x2), (3, .int x3)] [0, 1, 2] rfl ?_
      exact w_B_X7_meet_100 ok hret h
    · replace h := h.2 hc1
      refine r_aload_n ok dX7_meet_78 0 rfl ?_
      refine gf_X7_73 ok dX7_meet_79 ?_
      refine r_iload ok dX7_meet_82 3 rfl ?_
      refine r_aload_n ok dX7_meet_84 0 rfl ?_
      refine gf_X7_39 ok dX7_meet_85 ?_
      refine r_iload ok dX7_meet_88 3 rfl ?_
      refine cl_X7_207 ok dX7_meet_90 (by decide) (Nat.le_of_ble_eq_true rfl) h (fun r3 S2 h => ?_)
      have hi5 := h.1
      replace h := h.2
      refine r_iast ok ai_47 hi5 rfl dX7_meet_93 (fun S4 eS4 => ?_)
      replace h := h S4 eS4
      refine r_iinc (v := x4 + 1) ok dX7_meet_94 3 rfl rfl (by decide) [(0, .ref (xad X 44)), (2, .int x2), (3, .int x3), (4, .int (x4 + 1))] [1, 2, 3, 0] rfl ?_
      refine r_goto (tgt := 66) ok dX7_meet_97 rfl ?_
      exact hk66 _ _ _ _ h
theorem w_wp_X7_meet {X : Cx} (ok : Ok X cX7_meet 9 RX7 4 112) {post : Int32 → St → Prop} (hret : RetI X cX7_meet 9 post) {x1 x2 x3 : Int32} {S : St} (h : wp_X7_meet x1 x2 x3 S post) : Wp X 9 0 [(0, .ref (xad X 44)), (1, .int x1), (2, .int x2), (3, .int x3)] [] S := by
  unfold wp_X7_meet at h
  refine r_aload_n ok dX7_meet_0 0 rfl ?_
  refine gf_X7_12 ok dX7_meet_1 ?_
  refine r_iload_n ok dX7_meet_4 1 rfl ?_
  refine cl_X7_139 ok isW_0 dX7_meet_5 (by decide) (Nat.le_of_ble_eq_true rfl) h (fun r2 S1 h => ?_)
  refine r_if_eq (tgt := 27) ok dX7_meet_8 rfl (fun hc3 => ?_) (fun hc3 => ?_)
  · replace h := h.1 hc3
    refine r_ldc (v := (-1000000001)) ok dX7_meet_27 tw_k_X7_129 ?_
    exact hret _ _ _ _ dX7_meet_29 h
  · replace h := h.2 hc3
    refine r_aload_n ok dX7_meet_11 0 rfl ?_
    refine gf_X7_12 ok dX7_meet_12 ?_
    refine r_iload_n ok dX7_meet_15 2 rfl ?_
    refine cl_X7_139 ok isW_0 dX7_meet_16 (by decide) (Nat.le_of_ble_eq_true rfl) h (fun r5 S4 h => ?_)
    refine r_if_eq (tgt := 27) ok dX7_meet_19 rfl (fun hc6 => ?_) (fun hc6 => ?_)
    · replace h := h.1 hc6
      refine r_ldc (v := (-1000000001)) ok dX7_meet_27 tw_k_X7_129 ?_
      exact hret _ _ _ _ dX7_meet_29 h
    · replace h := h.2 hc6
      refine r_iload_n ok dX7_meet_22 1 rfl ?_
      refine r_iload_n ok dX7_meet_23 2 rfl ?_
      refine r_icmp_ne (tgt := 30) ok dX7_meet_24 rfl (fun hc7 => ?_) (fun hc7 => ?_)
      · replace h := h.1 hc7
        refine r_iload_n ok dX7_meet_30 3 rfl ?_
        refine r_iconst (v := 0) ok dX7_meet_31 rfl ?_
        refine r_iconst (v := 1) ok dX7_meet_32 rfl ?_
        refine cl_X7_77 ok dX7_meet_33 (by decide) (Nat.le_of_ble_eq_true rfl) h (fun r9 S8 h => ?_)
        refine r_if_eq (tgt := 42) ok dX7_meet_36 rfl (fun hc10 => ?_) (fun hc10 => ?_)
        · replace h := h.1 hc10
          refine r_aload_n ok dX7_meet_42 0 rfl ?_
          refine gf_X7_16 ok dX7_meet_43 ?_
          refine r_aload_n ok dX7_meet_46 0 rfl ?_
          refine gf_X7_12 ok dX7_meet_47 ?_
          refine cl_X7_97 ok isW_11 isW_0 dX7_meet_50 (by decide) (Nat.le_of_ble_eq_true rfl) h (fun S11 h => ?_)
          refine r_aload_n ok dX7_meet_53 0 rfl ?_
          refine gf_X7_39 ok dX7_meet_54 ?_
          refine r_iload_n ok dX7_meet_57 1 rfl ?_
          refine r_iconst (v := 0) ok dX7_meet_58 rfl ?_
          refine r_iconst (v := (-1)) ok dX7_meet_59 rfl ?_
          refine cl_X7_204 ok dX7_meet_60 (by decide) (Nat.le_of_ble_eq_true rfl) h (fun S12 h => ?_)
          refine r_iconst (v := 0) ok dX7_meet_63 rfl ?_
          refine r_istore ok dX7_meet_64 (by decide) [(0, .ref (xad X 44)), (2, .int x2), (3, .int x3), (4, .int 0)] [1, 3, 4, 0] rfl ?_
          exact w_B_X7_meet_66 ok hret h
        · replace h := h.2 hc10
          refine r_ldc (v := (-1000000002)) ok dX7_meet_39 tw_k_X7_81 ?_
          exact hret _ _ _ _ dX7_meet_41 h
      · replace h := h.2 hc7
        refine r_ldc (v := (-1000000001)) ok dX7_meet_27 tw_k_X7_129 ?_
        exact hret _ _ _ _ dX7_meet_29 h
theorem c_X7_meet (l : Launch) (G : Gx) {x1 x2 x3 : Int32} {S : St} {post : Int32 → St → Prop} (h : wp_X7_meet x1 x2 x3 S post) : MtI l yX7_meet cX7_meet 9 (some .int) 4 112 G [.ref (G.2.2 44), .int x1, .int x2, .int x3] S post :=
  ctI (by decide) rfl (Nat.le_of_ble_eq_true rfl) (fun X _ hG ok hret => by subst hG; exact w_wp_X7_meet ok hret h)

/-! HasteRoads.cost(I)I -/
theorem dX7_cost_0 : decode cX7_cost 0 = .ok (.aload_n 0, 1) := by decide +kernel
theorem dX7_cost_1 : decode cX7_cost 1 = .ok (.getfield 12, 3) := by decide +kernel
theorem dX7_cost_4 : decode cX7_cost 4 = .ok (.iload_n 1, 1) := by decide +kernel
theorem dX7_cost_5 : decode cX7_cost 5 = .ok (.invokevirtual 167, 3) := by decide +kernel
theorem dX7_cost_8 : decode cX7_cost 8 = .ok (.ifCond .ne 6, 3) := by decide +kernel
theorem dX7_cost_11 : decode cX7_cost 11 = .ok (.ldc 129, 2) := by decide +kernel
theorem dX7_cost_13 : decode cX7_cost 13 = .ok (.ireturn, 1) := by decide +kernel
theorem dX7_cost_14 : decode cX7_cost 14 = .ok (.aload_n 0, 1) := by decide +kernel
theorem dX7_cost_15 : decode cX7_cost 15 = .ok (.getfield 16, 3) := by decide +kernel
theorem dX7_cost_18 : decode cX7_cost 18 = .ok (.aload_n 0, 1) := by decide +kernel
theorem dX7_cost_19 : decode cX7_cost 19 = .ok (.getfield 12, 3) := by decide +kernel
theorem dX7_cost_22 : decode cX7_cost 22 = .ok (.invokevirtual 97, 3) := by decide +kernel
theorem dX7_cost_25 : decode cX7_cost 25 = .ok (.aload_n 0, 1) := by decide +kernel
theorem dX7_cost_26 : decode cX7_cost 26 = .ok (.getfield 16, 3) := by decide +kernel
theorem dX7_cost_29 : decode cX7_cost 29 = .ok (.aload_n 0, 1) := by decide +kernel
theorem dX7_cost_30 : decode cX7_cost 30 = .ok (.getfield 12, 3) := by decide +kernel
theorem dX7_cost_33 : decode cX7_cost 33 = .ok (.getfield 122, 3) := by decide +kernel
theorem dX7_cost_36 : decode cX7_cost 36 = .ok (.iload_n 1, 1) := by decide +kernel
theorem dX7_cost_37 : decode cX7_cost 37 = .ok (.iconst 0, 1) := by decide +kernel
theorem dX7_cost_38 : decode cX7_cost 38 = .ok (.invokestatic 193, 3) := by decide +kernel
theorem dX7_cost_41 : decode cX7_cost 41 = .ok (.putfield 122, 3) := by decide +kernel
theorem dX7_cost_44 : decode cX7_cost 44 = .ok (.aload_n 0, 1) := by decide +kernel
theorem dX7_cost_45 : decode cX7_cost 45 = .ok (.getfield 39, 3) := by decide +kernel
theorem dX7_cost_48 : decode cX7_cost 48 = .ok (.invokevirtual 242, 3) := by decide +kernel
theorem dX7_cost_51 : decode cX7_cost 51 = .ok (.istore_n 2, 1) := by decide +kernel
theorem dX7_cost_52 : decode cX7_cost 52 = .ok (.iload_n 2, 1) := by decide +kernel
theorem dX7_cost_53 : decode cX7_cost 53 = .ok (.iconst (-1), 1) := by decide +kernel
theorem dX7_cost_54 : decode cX7_cost 54 = .ok (.if_icmp .ne 5, 3) := by decide +kernel
theorem dX7_cost_57 : decode cX7_cost 57 = .ok (.iconst (-1), 1) := by decide +kernel
theorem dX7_cost_58 : decode cX7_cost 58 = .ok (.ireturn, 1) := by decide +kernel
theorem dX7_cost_59 : decode cX7_cost 59 = .ok (.aload_n 0, 1) := by decide +kernel
theorem dX7_cost_60 : decode cX7_cost 60 = .ok (.getfield 16, 3) := by decide +kernel
theorem dX7_cost_63 : decode cX7_cost 63 = .ok (.aload_n 0, 1) := by decide +kernel
theorem dX7_cost_64 : decode cX7_cost 64 = .ok (.getfield 12, 3) := by decide +kernel
theorem dX7_cost_67 : decode cX7_cost 67 = .ok (.getfield 122, 3) := by decide +kernel
theorem dX7_cost_70 : decode cX7_cost 70 = .ok (.iload_n 1, 1) := by decide +kernel
theorem dX7_cost_71 : decode cX7_cost 71 = .ok (.iconst 1, 1) := by decide +kernel
theorem dX7_cost_72 : decode cX7_cost 72 = .ok (.invokestatic 193, 3) := by decide +kernel
theorem dX7_cost_75 : decode cX7_cost 75 = .ok (.putfield 122, 3) := by decide +kernel
theorem dX7_cost_78 : decode cX7_cost 78 = .ok (.aload_n 0, 1) := by decide +kernel
theorem dX7_cost_79 : decode cX7_cost 79 = .ok (.getfield 39, 3) := by decide +kernel
theorem dX7_cost_82 : decode cX7_cost 82 = .ok (.invokevirtual 242, 3) := by decide +kernel
theorem dX7_cost_85 : decode cX7_cost 85 = .ok (.iload_n 2, 1) := by decide +kernel
theorem dX7_cost_86 : decode cX7_cost 86 = .ok (.isub, 1) := by decide +kernel
theorem dX7_cost_87 : decode cX7_cost 87 = .ok (.ireturn, 1) := by decide +kernel
theorem cl_X7_242 {X : Cx} {cc : ByteArray} {nL pc fr lo : Nat} {L : List (Nat × Value)} {st : List Value} {S : St} (ok : Ok X cc nL RX7 fr lo) (d : decode cc pc = .ok (.invokevirtual 242, 3)) (hroom : 6 ≤ fr ∧ 156 ≤ lo) (hst : (st.map fun v => v.category).sum ≤ 8) {post : Int32 → St → Prop} (h : wp_X4_allTogether S post) (kk : ∀ (r : Int32) (S1 : St), post r S1 → Wp X nL (pc + 3) L (.int r :: st) S1) : Wp X nL pc L (.ref (xad X 50) :: st) S :=
  r_callVi (n := 4) (f := 5) (lo1 := 133) (N := 0) (As := []) ok tw_in_X4 tw_im_X4_allTogether tw_se_X4_allTogether tw_co_X4_allTogether tw_ml_X7_242 (by decide +kernel) rfl ob_50 rfl hroom hst d rfl (c_X4_allTogether (xl X) (xG X) h) kk
def wp_X7_cost (x1 : Int32) (S : St) (post : Int32 → St → Prop) : Prop :=
  wp_X6_hasPlace 0 x1 S (fun r2 S1 => ((¬ r2 = 0 → wp_X6_become 11 0 S1 (fun S4 => wp_X7_withBit (S4 0 4) x1 0 S4 (fun r6 S5 => ∀ S7 : St, S7 = up S5 11 4 r6 → wp_X4_allTogether S7 (fun r9 S8 => ((¬ r9 = (-1) → wp_X7_withBit (S8 0 4) x1 1 S8 (fun r12 S11 => ∀ S13 : St, S13 = up S11 11 4 r12 → wp_X4_allTogether S13 (fun r15 S14 => post (r15 - r9) S14))) ∧ (r9 = (-1) → post (-1) S8)))))) ∧ (r2 = 0 → post (-1000000001) S1)))
theorem w_wp_X7_cost {X : Cx} (ok : Ok X cX7_cost 3 RX7 6 156) {post : Int32 → St → Prop} (hret : RetI X cX7_cost 3 post) {x1 : Int32} {S : St} (h : wp_X7_cost x1 S post) : Wp X 3 0 [(0, .ref (xad X 44)), (1, .int x1)] [] S := by
  unfold wp_X7_cost at h
  refine r_aload_n ok dX7_cost_0 0 rfl ?_
  refine gf_X7_12 ok dX7_cost_1 ?_
  refine r_iload_n ok dX7_cost_4 1 rfl ?_
  refine cl_X7_167 ok isW_0 dX7_cost_5 (by decide) (Nat.le_of_ble_eq_true rfl) h (fun r2 S1 h => ?_)
  refine r_if_ne (tgt := 14) ok dX7_cost_8 rfl (fun hc3 => ?_) (fun hc3 => ?_)
  · replace h := h.1 hc3
    refine r_aload_n ok dX7_cost_14 0 rfl ?_
    refine gf_X7_16 ok dX7_cost_15 ?_
    refine r_aload_n ok dX7_cost_18 0 rfl ?_
    refine gf_X7_12 ok dX7_cost_19 ?_
    refine cl_X7_97 ok isW_11 isW_0 dX7_cost_22 (by decide) (Nat.le_of_ble_eq_true rfl) h (fun S4 h => ?_)
    refine r_aload_n ok dX7_cost_25 0 rfl ?_
    refine gf_X7_16 ok dX7_cost_26 ?_
    refine r_aload_n ok dX7_cost_29 0 rfl ?_
    refine gf_X7_12 ok dX7_cost_30 ?_
    refine gf_X7_122 ok isW_0 dX7_cost_33 ?_
    refine r_iload_n ok dX7_cost_36 1 rfl ?_
    refine r_iconst (v := 0) ok dX7_cost_37 rfl ?_
    refine cl_X7_193 ok dX7_cost_38 (by decide) (Nat.le_of_ble_eq_true rfl) h (fun r6 S5 h => ?_)
    refine pf_X7_122 ok isW_11 dX7_cost_41 (fun S7 eS7 => ?_)
    replace h := h S7 eS7
    refine r_aload_n ok dX7_cost_44 0 rfl ?_
    refine gf_X7_39 ok dX7_cost_45 ?_
    refine cl_X7_242 ok dX7_cost_48 (by decide) (Nat.le_of_ble_eq_true rfl) h (fun r9 S8 h => ?_)
    refine r_istore_n ok dX7_cost_51 (by decide) [(0, .ref (xad X 44)), (1, .int x1), (2, .int r9)] [1, 2, 0] rfl ?_
    refine r_iload_n ok dX7_cost_52 2 rfl ?_
    refine r_iconst (v := (-1)) ok dX7_cost_53 rfl ?_
    refine r_icmp_ne (tgt := 59) ok dX7_cost_54 rfl (fun hc10 => ?_) (fun hc10 => ?_)
    · replace h := h.1 hc10
      refine r_aload_n ok dX7_cost_59 0 rfl ?_
      refine gf_X7_16 ok dX7_cost_60 ?_
      refine r_aload_n ok dX7_cost_63 0 rfl ?_
      refine gf_X7_12 ok dX7_cost_64 ?_
      refine gf_X7_122 ok isW_0 dX7_cost_67 ?_
      refine r_iload_n ok dX7_cost_70 1 rfl ?_
      refine r_iconst (v := 1) ok dX7_cost_71 rfl ?_
      refine cl_X7_193 ok dX7_cost_72 (by decide) (Nat.le_of_ble_eq_true rfl) h (fun r12 S11 h => ?_)
      refine pf_X7_122 ok isW_11 dX7_cost_75 (fun S13 eS13 => ?_)
      replace h := h S13 eS13
      refine r_aload_n ok dX7_cost_78 0 rfl ?_
      refine gf_X7_39 ok dX7_cost_79 ?_
      refine cl_X7_242 ok dX7_cost_82 (by decide) (Nat.le_of_ble_eq_true rfl) h (fun r15 S14 h => ?_)
      refine r_iload_n ok dX7_cost_85 2 rfl ?_
      refine r_isub ok dX7_cost_86 ?_
      exact hret _ _ _ _ dX7_cost_87 h
    · replace h := h.2 hc10
      refine r_iconst (v := (-1)) ok dX7_cost_57 rfl ?_
      exact hret _ _ _ _ dX7_cost_58 h
  · replace h := h.2 hc3
    refine r_ldc (v := (-1000000001)) ok dX7_cost_11 tw_k_X7_129 ?_
    exact hret _ _ _ _ dX7_cost_13 h
theorem c_X7_cost (l : Launch) (G : Gx) {x1 : Int32} {S : St} {post : Int32 → St → Prop} (h : wp_X7_cost x1 S post) : MtI l yX7_cost cX7_cost 3 (some .int) 6 156 G [.ref (G.2.2 44), .int x1] S post :=
  ctI (by decide) rfl (Nat.le_of_ble_eq_true rfl) (fun X _ hG ok hret => by subst hG; exact w_wp_X7_cost ok hret h)

/-! HasteRoads.shorter(I)I -/
theorem dX7_shorter_0 : decode cX7_shorter 0 = .ok (.iload_n 1, 1) := by decide +kernel
theorem dX7_shorter_1 : decode cX7_shorter 1 = .ok (.iconst 0, 1) := by decide +kernel
theorem dX7_shorter_2 : decode cX7_shorter 2 = .ok (.iconst 1, 1) := by decide +kernel
theorem dX7_shorter_3 : decode cX7_shorter 3 = .ok (.invokestatic 77, 3) := by decide +kernel
theorem dX7_shorter_6 : decode cX7_shorter 6 = .ok (.ifCond .eq 6, 3) := by decide +kernel
theorem dX7_shorter_9 : decode cX7_shorter 9 = .ok (.ldc 81, 2) := by decide +kernel
theorem dX7_shorter_11 : decode cX7_shorter 11 = .ok (.ireturn, 1) := by decide +kernel
theorem dX7_shorter_12 : decode cX7_shorter 12 = .ok (.aload_n 0, 1) := by decide +kernel
theorem dX7_shorter_13 : decode cX7_shorter 13 = .ok (.getfield 16, 3) := by decide +kernel
theorem dX7_shorter_16 : decode cX7_shorter 16 = .ok (.aload_n 0, 1) := by decide +kernel
theorem dX7_shorter_17 : decode cX7_shorter 17 = .ok (.getfield 12, 3) := by decide +kernel
theorem dX7_shorter_20 : decode cX7_shorter 20 = .ok (.invokevirtual 97, 3) := by decide +kernel
theorem dX7_shorter_23 : decode cX7_shorter 23 = .ok (.aload_n 0, 1) := by decide +kernel
theorem dX7_shorter_24 : decode cX7_shorter 24 = .ok (.getfield 39, 3) := by decide +kernel
theorem dX7_shorter_27 : decode cX7_shorter 27 = .ok (.invokevirtual 242, 3) := by decide +kernel
theorem dX7_shorter_30 : decode cX7_shorter 30 = .ok (.istore_n 2, 1) := by decide +kernel
theorem dX7_shorter_31 : decode cX7_shorter 31 = .ok (.iload_n 2, 1) := by decide +kernel
theorem dX7_shorter_32 : decode cX7_shorter 32 = .ok (.iconst (-1), 1) := by decide +kernel
theorem dX7_shorter_33 : decode cX7_shorter 33 = .ok (.if_icmp .ne 5, 3) := by decide +kernel
theorem dX7_shorter_36 : decode cX7_shorter 36 = .ok (.iconst (-1), 1) := by decide +kernel
theorem dX7_shorter_37 : decode cX7_shorter 37 = .ok (.ireturn, 1) := by decide +kernel
theorem dX7_shorter_38 : decode cX7_shorter 38 = .ok (.iconst (-1), 1) := by decide +kernel
theorem dX7_shorter_39 : decode cX7_shorter 39 = .ok (.istore_n 3, 1) := by decide +kernel
theorem dX7_shorter_40 : decode cX7_shorter 40 = .ok (.iconst (-1), 1) := by decide +kernel
theorem dX7_shorter_41 : decode cX7_shorter 41 = .ok (.istore 4, 2) := by decide +kernel
theorem dX7_shorter_43 : decode cX7_shorter 43 = .ok (.iconst 0, 1) := by decide +kernel
theorem dX7_shorter_44 : decode cX7_shorter 44 = .ok (.istore 5, 2) := by decide +kernel
theorem dX7_shorter_46 : decode cX7_shorter 46 = .ok (.iload 5, 2) := by decide +kernel
theorem dX7_shorter_48 : decode cX7_shorter 48 = .ok (.aload_n 0, 1) := by decide +kernel
theorem dX7_shorter_49 : decode cX7_shorter 49 = .ok (.getfield 12, 3) := by decide +kernel
theorem dX7_shorter_52 : decode cX7_shorter 52 = .ok (.getfield 110, 3) := by decide +kernel
theorem dX7_shorter_55 : decode cX7_shorter 55 = .ok (.if_icmp .ge 93, 3) := by decide +kernel
theorem dX7_shorter_58 : decode cX7_shorter 58 = .ok (.aload_n 0, 1) := by decide +kernel
theorem dX7_shorter_59 : decode cX7_shorter 59 = .ok (.getfield 12, 3) := by decide +kernel
theorem dX7_shorter_62 : decode cX7_shorter 62 = .ok (.getfield 136, 3) := by decide +kernel
theorem dX7_shorter_65 : decode cX7_shorter 65 = .ok (.iload 5, 2) := by decide +kernel
theorem dX7_shorter_67 : decode cX7_shorter 67 = .ok (.iaload, 1) := by decide +kernel
theorem dX7_shorter_68 : decode cX7_shorter 68 = .ok (.iconst 2, 1) := by decide +kernel
theorem dX7_shorter_69 : decode cX7_shorter 69 = .ok (.if_icmp .ge 6, 3) := by decide +kernel
theorem dX7_shorter_72 : decode cX7_shorter 72 = .ok (.goto 70, 3) := by decide +kernel
theorem dX7_shorter_75 : decode cX7_shorter 75 = .ok (.aload_n 0, 1) := by decide +kernel
theorem dX7_shorter_76 : decode cX7_shorter 76 = .ok (.getfield 16, 3) := by decide +kernel
theorem dX7_shorter_79 : decode cX7_shorter 79 = .ok (.getfield 136, 3) := by decide +kernel
theorem dX7_shorter_82 : decode cX7_shorter 82 = .ok (.iload 5, 2) := by decide +kernel
theorem dX7_shorter_84 : decode cX7_shorter 84 = .ok (.aload_n 0, 1) := by decide +kernel
theorem dX7_shorter_85 : decode cX7_shorter 85 = .ok (.getfield 12, 3) := by decide +kernel
theorem dX7_shorter_88 : decode cX7_shorter 88 = .ok (.getfield 136, 3) := by decide +kernel
theorem dX7_shorter_91 : decode cX7_shorter 91 = .ok (.iload 5, 2) := by decide +kernel
theorem dX7_shorter_93 : decode cX7_shorter 93 = .ok (.iaload, 1) := by decide +kernel
theorem dX7_shorter_94 : decode cX7_shorter 94 = .ok (.iconst 1, 1) := by decide +kernel
theorem dX7_shorter_95 : decode cX7_shorter 95 = .ok (.isub, 1) := by decide +kernel
theorem dX7_shorter_96 : decode cX7_shorter 96 = .ok (.iastore, 1) := by decide +kernel
theorem dX7_shorter_97 : decode cX7_shorter 97 = .ok (.iload_n 2, 1) := by decide +kernel
theorem dX7_shorter_98 : decode cX7_shorter 98 = .ok (.aload_n 0, 1) := by decide +kernel
theorem dX7_shorter_99 : decode cX7_shorter 99 = .ok (.getfield 39, 3) := by decide +kernel
theorem dX7_shorter_102 : decode cX7_shorter 102 = .ok (.invokevirtual 242, 3) := by decide +kernel
theorem dX7_shorter_105 : decode cX7_shorter 105 = .ok (.isub, 1) := by decide +kernel
theorem dX7_shorter_106 : decode cX7_shorter 106 = .ok (.istore 6, 2) := by decide +kernel
theorem dX7_shorter_108 : decode cX7_shorter 108 = .ok (.aload_n 0, 1) := by decide +kernel
theorem dX7_shorter_109 : decode cX7_shorter 109 = .ok (.getfield 16, 3) := by decide +kernel
theorem dX7_shorter_112 : decode cX7_shorter 112 = .ok (.getfield 136, 3) := by decide +kernel
theorem dX7_shorter_115 : decode cX7_shorter 115 = .ok (.iload 5, 2) := by decide +kernel
theorem dX7_shorter_117 : decode cX7_shorter 117 = .ok (.aload_n 0, 1) := by decide +kernel
theorem dX7_shorter_118 : decode cX7_shorter 118 = .ok (.getfield 12, 3) := by decide +kernel
theorem dX7_shorter_121 : decode cX7_shorter 121 = .ok (.getfield 136, 3) := by decide +kernel
theorem dX7_shorter_124 : decode cX7_shorter 124 = .ok (.iload 5, 2) := by decide +kernel
theorem dX7_shorter_126 : decode cX7_shorter 126 = .ok (.iaload, 1) := by decide +kernel
theorem dX7_shorter_127 : decode cX7_shorter 127 = .ok (.iastore, 1) := by decide +kernel
theorem dX7_shorter_128 : decode cX7_shorter 128 = .ok (.iload 6, 2) := by decide +kernel
theorem dX7_shorter_130 : decode cX7_shorter 130 = .ok (.iload 4, 2) := by decide +kernel
theorem dX7_shorter_132 : decode cX7_shorter 132 = .ok (.if_icmp .le 10, 3) := by decide +kernel
theorem dX7_shorter_135 : decode cX7_shorter 135 = .ok (.iload 6, 2) := by decide +kernel
theorem dX7_shorter_137 : decode cX7_shorter 137 = .ok (.istore 4, 2) := by decide +kernel
theorem dX7_shorter_139 : decode cX7_shorter 139 = .ok (.iload 5, 2) := by decide +kernel
theorem dX7_shorter_141 : decode cX7_shorter 141 = .ok (.istore_n 3, 1) := by decide +kernel
theorem dX7_shorter_142 : decode cX7_shorter 142 = .ok (.iinc 5 1, 3) := by decide +kernel
theorem dX7_shorter_145 : decode cX7_shorter 145 = .ok (.goto (-99), 3) := by decide +kernel
theorem dX7_shorter_148 : decode cX7_shorter 148 = .ok (.iload_n 1, 1) := by decide +kernel
theorem dX7_shorter_149 : decode cX7_shorter 149 = .ok (.ifCond .ne 7, 3) := by decide +kernel
theorem dX7_shorter_152 : decode cX7_shorter 152 = .ok (.iload_n 3, 1) := by decide +kernel
theorem dX7_shorter_153 : decode cX7_shorter 153 = .ok (.goto 5, 3) := by decide +kernel
theorem dX7_shorter_156 : decode cX7_shorter 156 = .ok (.iload 4, 2) := by decide +kernel
theorem dX7_shorter_158 : decode cX7_shorter 158 = .ok (.ireturn, 1) := by decide +kernel

def B_X7_shorter_148 (post : Int32 → St → Prop) (x1 : Int32) (x3 : Int32) (x4 : Int32) (S : St) : Prop :=
  ((¬ x1 = 0 → post x4 S) ∧ (x1 = 0 → post x3 S))
def BD_X7_shorter_46 (k46 : Int32 → Int32 → Int32 → Int32 → Int32 → St → Prop) (post : Int32 → St → Prop) (x1 : Int32) (x2 : Int32) (x3 : Int32) (x4 : Int32) (x5 : Int32) (S : St) : Prop :=
  (((S 0 1) ≤ x5 → B_X7_shorter_148 post x1 x3 x4 S) ∧ (¬ (S 0 1) ≤ x5 → vp_in x5 9 ∧ (((2 ≤ (S 3 (ix x5)) → vp_in x5 9 ∧ (vp_in x5 9 ∧ (∀ S3 : St, S3 = up S 14 (ix x5) ((S 3 (ix x5)) - 1) → wp_X4_allTogether S3 (fun r6 S5 => ∀ v7 : Int32, v7 = (x2 - r6) → vp_in x5 9 ∧ (vp_in x5 9 ∧ (∀ S8 : St, S8 = up S5 14 (ix x5) (S5 3 (ix x5)) → ((v7 ≤ x4 → k46 x1 x2 x3 x4 (x5 + 1) S8) ∧ (¬ v7 ≤ x4 → k46 x1 x2 x5 v7 (x5 + 1) S8)))))))) ∧ (¬ 2 ≤ (S 3 (ix x5)) → k46 x1 x2 x3 x4 (x5 + 1) S)))))
def L_X7_shorter_46 (post : Int32 → St → Prop) (n : Nat) : Int32 → Int32 → Int32 → Int32 → Int32 → St → Prop := Nat.rec (motive := fun _ => Int32 → Int32 → Int32 → Int32 → Int32 → St → Prop) (fun _ _ _ _ _ _ => False) (fun _ ih => BD_X7_shorter_46 ih post) n
def B_X7_shorter_46 (post : Int32 → St → Prop) (x1 : Int32) (x2 : Int32) (x3 : Int32) (x4 : Int32) (x5 : Int32) (S : St) : Prop := ∃ n, L_X7_shorter_46 post n x1 x2 x3 x4 x5 S
def wp_X7_shorter (x1 : Int32) (S : St) (post : Int32 → St → Prop) : Prop :=
  wp_X7_outside x1 0 1 S (fun r2 S1 => ((r2 = 0 → wp_X6_become 11 0 S1 (fun S4 => wp_X4_allTogether S4 (fun r6 S5 => ((¬ r6 = (-1) → B_X7_shorter_46 post x1 r6 (-1) (-1) 0 S5) ∧ (r6 = (-1) → post (-1) S5))))) ∧ (¬ r2 = 0 → post (-1000000002) S1)))
theorem w_B_X7_shorter_148 {X : Cx} (ok : Ok X cX7_shorter 7 RX7 6 156) {post : Int32 → St → Prop} (hret : RetI X cX7_shorter 7 post) {x1 x3 x4 : Int32} {S : St} (h : B_X7_shorter_148 post x1 x3 x4 S) : Wp X 7 148 [(1, .int x1), (3, .int x3), (4, .int x4)] [] S := by
  unfold B_X7_shorter_148 at h
  refine r_iload_n ok dX7_shorter_148 0 rfl ?_
  refine r_if_ne (tgt := 156) ok dX7_shorter_149 rfl (fun hc1 => ?_) (fun hc1 => ?_)
  · replace h := h.1 hc1
    refine r_iload ok dX7_shorter_156 2 rfl ?_
    exact hret _ _ _ _ dX7_shorter_158 h
  · replace h := h.2 hc1
    refine r_iload_n ok dX7_shorter_152 1 rfl ?_
    refine r_goto (tgt := 158) ok dX7_shorter_153 rfl ?_
    exact hret _ _ _ _ dX7_shorter_158 h
theorem w_B_X7_shorter_46 {X : Cx} (ok : Ok X cX7_shorter 7 RX7 6 156) {post : Int32 → St → Prop} (hret : RetI X cX7_shorter 7 post) {x1 x2 x3 x4 x5 : Int32} {S : St} (h : B_X7_shorter_46 post x1 x2 x3 x4 x5 S) : Wp X 7 46 [(0, .ref (xad X 44)), (1, .int x1), (2, .int x2), (3, .int x3), (4, .int x4), (5, .int x5)] [] S := by
  obtain ⟨n, h⟩ := h
  induction n generalizing x1 x2 x3 x4 x5 S with
  | zero => exact False.elim h
  | succ n ih =>
    have hk46 : ∀ x1 x2 x3 x4 x5 S, L_X7_shorter_46 post n x1 x2 x3 x4 x5 S → Wp X 7 46 [(0, .ref (xad X 44)), (1, .int x1), (2, .int x2), (3, .int x3), (4, .int x4), (5, .int x5)] [] S := by intros; apply ih; assumption
    replace h : BD_X7_shorter_46 (L_X7_shorter_46 post n) post x1 x2 x3 x4 x5 S := h
    unfold BD_X7_shorter_46 at h
    generalize L_X7_shorter_46 post n = k46 at h hk46
    refine r_iload ok dX7_shorter_46 5 rfl ?_
    refine r_aload_n ok dX7_shorter_48 0 rfl ?_
    refine gf_X7_12 ok dX7_shorter_49 ?_
    refine gf_X7_110 ok isW_0 dX7_shorter_52 ?_
    refine r_icmp_ge (tgt := 148) ok dX7_shorter_55 rfl (fun hc1 => ?_) (fun hc1 => ?_)
    · replace h := h.1 hc1
      refine r_sub [(1, .int x1), (3, .int x3), (4, .int x4)] [1, 3, 4] rfl ?_
      exact w_B_X7_shorter_148 ok hret h
    · replace h := h.2 hc1
      refine r_aload_n ok dX7_shorter_58 0 rfl ?_
      refine gf_X7_12 ok dX7_shorter_59 ?_
      refine gf_X7_136 ok isW_0 dX7_shorter_62 ?_
      refine r_iload ok dX7_shorter_65 5 rfl ?_
      refine r_iald ok ai_3 h.1 rfl dX7_shorter_67 ?_
      replace h := h.2
      refine r_iconst (v := 2) ok dX7_shorter_68 rfl ?_
      refine r_icmp_ge (tgt := 75) ok dX7_shorter_69 rfl (fun hc2 => ?_) (fun hc2 => ?_)
      · replace h := h.1 hc2
        refine r_aload_n ok dX7_shorter_75 0 rfl ?_
        refine gf_X7_16 ok dX7_shorter_76 ?_
        refine gf_X7_136 ok isW_11 dX7_shorter_79 ?_
        refine r_iload ok dX7_shorter_82 5 rfl ?_
        refine r_aload_n ok dX7_shorter_84 0 rfl ?_
        refine gf_X7_12 ok dX7_shorter_85 ?_
        refine gf_X7_136 ok isW_0 dX7_shorter_88 ?_
        refine r_iload ok dX7_shorter_91 5 rfl ?_
        refine r_iald ok ai_3 h.1 rfl dX7_shorter_93 ?_
        replace h := h.2
        refine r_iconst (v := 1) ok dX7_shorter_94 rfl ?_
        refine r_isub ok dX7_shorter_95 ?_
        have hi4 := h.1
        replace h := h.2
        refine r_iast ok ai_14 hi4 rfl dX7_shorter_96 (fun S3 eS3 => ?_)
        replace h := h S3 eS3
        refine r_iload_n ok dX7_shorter_97 2 rfl ?_
        refine r_aload_n ok dX7_shorter_98 0 rfl ?_
        refine gf_X7_39 ok dX7_shorter_99 ?_
        refine cl_X7_242 ok dX7_shorter_102 (by decide) (Nat.le_of_ble_eq_true rfl) h (fun r6 S5 h => ?_)
        refine r_isub ok dX7_shorter_105 ?_
        refine r_top (fun v7 ev7 => ?_)
        replace h := h v7 ev7
        refine r_istore ok dX7_shorter_106 (by decide) [(0, .ref (xad X 44)), (1, .int x1), (2, .int x2), (3, .int x3), (4, .int x4), (5, .int x5), (6, .int v7)] [1, 2, 3, 4, 5, 6, 0] rfl ?_
        refine r_aload_n ok dX7_shorter_108 0 rfl ?_
        refine gf_X7_16 ok dX7_shorter_109 ?_
        refine gf_X7_136 ok isW_11 dX7_shorter_112 ?_
        refine r_iload ok dX7_shorter_115 5 rfl ?_
        refine r_aload_n ok dX7_shorter_117 0 rfl ?_
        refine gf_X7_12 ok dX7_shorter_118 ?_
        refine gf_X7_136 ok isW_0 dX7_shorter_121 ?_
        refine r_iload ok dX7_shorter_124 5 rfl ?_
        refine r_iald ok ai_3 h.1 rfl dX7_shorter_126 ?_
        replace h := h.2
        have hi9 := h.1
        replace h := h.2
        refine r_iast ok ai_14 hi9 rfl dX7_shorter_127 (fun S8 eS8 => ?_)
        replace h := h S8 eS8
        refine r_iload ok dX7_shorter_128 6 rfl ?_
        refine r_iload ok dX7_shorter_130 4 rfl ?_
        refine r_icmp_le (tgt := 142) ok dX7_shorter_132 rfl (fun hc10 => ?_) (fun hc10 => ?_)
        · replace h := h.1 hc10
          refine r_iinc (v := x5 + 1) ok dX7_shorter_142 5 rfl rfl (by decide) [(0, .ref (xad X 44)), (1, .int x1), (2, .int x2), (3, .int x3), (4, .int x4), (5, .int (x5 + 1))] [1, 2, 3, 4, 5, 0] rfl ?_
          refine r_goto (tgt := 46) ok dX7_shorter_145 rfl ?_
          exact hk46 _ _ _ _ _ _ h
        · replace h := h.2 hc10
          refine r_iload ok dX7_shorter_135 6 rfl ?_
          refine r_istore ok dX7_shorter_137 (by decide) [(0, .ref (xad X 44)), (1, .int x1), (2, .int x2), (4, .int v7), (5, .int x5)] [1, 2, 3, 0, 5] rfl ?_
          refine r_iload ok dX7_shorter_139 4 rfl ?_
          refine r_istore_n ok dX7_shorter_141 (by decide) [(0, .ref (xad X 44)), (1, .int x1), (2, .int x2), (3, .int x5), (4, .int v7), (5, .int x5)] [1, 2, 3, 0, 4, 5] rfl ?_
          refine r_iinc (v := x5 + 1) ok dX7_shorter_142 5 rfl rfl (by decide) [(0, .ref (xad X 44)), (1, .int x1), (2, .int x2), (3, .int x5), (4, .int v7), (5, .int (x5 + 1))] [1, 2, 3, 4, 5, 0] rfl ?_
          refine r_goto (tgt := 46) ok dX7_shorter_145 rfl ?_
          exact hk46 _ _ _ _ _ _ h
      · replace h := h.2 hc2
        refine r_goto (tgt := 142) ok dX7_shorter_72 rfl ?_
        refine r_iinc (v := x5 + 1) ok dX7_shorter_142 5 rfl rfl (by decide) [(0, .ref (xad X 44)), (1, .int x1), (2, .int x2), (3, .int x3), (4, .int x4), (5, .int (x5 + 1))] [1, 2, 3, 4, 5, 0] rfl ?_
        refine r_goto (tgt := 46) ok dX7_shorter_145 rfl ?_
        exact hk46 _ _ _ _ _ _ h
theorem w_wp_X7_shorter {X : Cx} (ok : Ok X cX7_shorter 7 RX7 6 156) {post : Int32 → St → Prop} (hret : RetI X cX7_shorter 7 post) {x1 : Int32} {S : St} (h : wp_X7_shorter x1 S post) : Wp X 7 0 [(0, .ref (xad X 44)), (1, .int x1)] [] S := by
  unfold wp_X7_shorter at h
  refine r_iload_n ok dX7_shorter_0 1 rfl ?_
  refine r_iconst (v := 0) ok dX7_shorter_1 rfl ?_
  refine r_iconst (v := 1) ok dX7_shorter_2 rfl ?_
  refine cl_X7_77 ok dX7_shorter_3 (by decide) (Nat.le_of_ble_eq_true rfl) h (fun r2 S1 h => ?_)
  refine r_if_eq (tgt := 12) ok dX7_shorter_6 rfl (fun hc3 => ?_) (fun hc3 => ?_)
  · replace h := h.1 hc3
    refine r_aload_n ok dX7_shorter_12 0 rfl ?_
    refine gf_X7_16 ok dX7_shorter_13 ?_
    refine r_aload_n ok dX7_shorter_16 0 rfl ?_
    refine gf_X7_12 ok dX7_shorter_17 ?_
    refine cl_X7_97 ok isW_11 isW_0 dX7_shorter_20 (by decide) (Nat.le_of_ble_eq_true rfl) h (fun S4 h => ?_)
    refine r_aload_n ok dX7_shorter_23 0 rfl ?_
    refine gf_X7_39 ok dX7_shorter_24 ?_
    refine cl_X7_242 ok dX7_shorter_27 (by decide) (Nat.le_of_ble_eq_true rfl) h (fun r6 S5 h => ?_)
    refine r_istore_n ok dX7_shorter_30 (by decide) [(0, .ref (xad X 44)), (1, .int x1), (2, .int r6)] [1, 2, 0] rfl ?_
    refine r_iload_n ok dX7_shorter_31 2 rfl ?_
    refine r_iconst (v := (-1)) ok dX7_shorter_32 rfl ?_
    refine r_icmp_ne (tgt := 38) ok dX7_shorter_33 rfl (fun hc7 => ?_) (fun hc7 => ?_)
    · replace h := h.1 hc7
      refine r_iconst (v := (-1)) ok dX7_shorter_38 rfl ?_
      refine r_istore_n ok dX7_shorter_39 (by decide) [(0, .ref (xad X 44)), (1, .int x1), (2, .int r6), (3, .int (-1))] [1, 2, 3, 0] rfl ?_
      refine r_iconst (v := (-1)) ok dX7_shorter_40 rfl ?_
      refine r_istore ok dX7_shorter_41 (by decide) [(0, .ref (xad X 44)), (1, .int x1), (2, .int r6), (3, .int (-1)), (4, .int (-1))] [1, 2, 3, 4, 0] rfl ?_
      refine r_iconst (v := 0) ok dX7_shorter_43 rfl ?_
      refine r_istore ok dX7_shorter_44 (by decide) [(0, .ref (xad X 44)), (1, .int x1), (2, .int r6), (3, .int (-1)), (4, .int (-1)), (5, .int 0)] [1, 2, 3, 4, 5, 0] rfl ?_
      exact w_B_X7_shorter_46 ok hret h
    · replace h := h.2 hc7
      refine r_iconst (v := (-1)) ok dX7_shorter_36 rfl ?_
      exact hret _ _ _ _ dX7_shorter_37 h
  · replace h := h.2 hc3
    refine r_ldc (v := (-1000000002)) ok dX7_shorter_9 tw_k_X7_81 ?_
    exact hret _ _ _ _ dX7_shorter_11 h
theorem c_X7_shorter (l : Launch) (G : Gx) {x1 : Int32} {S : St} {post : Int32 → St → Prop} (h : wp_X7_shorter x1 S post) : MtI l yX7_shorter cX7_shorter 7 (some .int) 6 156 G [.ref (G.2.2 44), .int x1] S post :=
  ctI (by decide) rfl (Nat.le_of_ble_eq_true rfl) (fun X _ hG ok hret => by subst hG; exact w_wp_X7_shorter ok hret h)

/-! HasteRoads.lend(III)I -/
theorem dX7_lend_0 : decode cX7_lend 0 = .ok (.aload_n 0, 1) := by decide +kernel
theorem dX7_lend_1 : decode cX7_lend 1 = .ok (.getfield 12, 3) := by decide +kernel
theorem dX7_lend_4 : decode cX7_lend 4 = .ok (.iload_n 1, 1) := by decide +kernel
theorem dX7_lend_5 : decode cX7_lend 5 = .ok (.invokevirtual 139, 3) := by decide +kernel
theorem dX7_lend_8 : decode cX7_lend 8 = .ok (.ifCond .eq 19, 3) := by decide +kernel
theorem dX7_lend_11 : decode cX7_lend 11 = .ok (.aload_n 0, 1) := by decide +kernel
theorem dX7_lend_12 : decode cX7_lend 12 = .ok (.getfield 12, 3) := by decide +kernel
theorem dX7_lend_15 : decode cX7_lend 15 = .ok (.iload_n 2, 1) := by decide +kernel
theorem dX7_lend_16 : decode cX7_lend 16 = .ok (.invokevirtual 139, 3) := by decide +kernel
theorem dX7_lend_19 : decode cX7_lend 19 = .ok (.ifCond .eq 8, 3) := by decide +kernel
theorem dX7_lend_22 : decode cX7_lend 22 = .ok (.iload_n 1, 1) := by decide +kernel
theorem dX7_lend_23 : decode cX7_lend 23 = .ok (.iload_n 2, 1) := by decide +kernel
theorem dX7_lend_24 : decode cX7_lend 24 = .ok (.if_icmp .ne 6, 3) := by decide +kernel
theorem dX7_lend_27 : decode cX7_lend 27 = .ok (.ldc 129, 2) := by decide +kernel
theorem dX7_lend_29 : decode cX7_lend 29 = .ok (.ireturn, 1) := by decide +kernel
theorem dX7_lend_30 : decode cX7_lend 30 = .ok (.iload_n 3, 1) := by decide +kernel
theorem dX7_lend_31 : decode cX7_lend 31 = .ok (.iconst 0, 1) := by decide +kernel
theorem dX7_lend_32 : decode cX7_lend 32 = .ok (.iconst 5, 1) := by decide +kernel
theorem dX7_lend_33 : decode cX7_lend 33 = .ok (.invokestatic 77, 3) := by decide +kernel
theorem dX7_lend_36 : decode cX7_lend 36 = .ok (.ifCond .eq 6, 3) := by decide +kernel
theorem dX7_lend_39 : decode cX7_lend 39 = .ok (.ldc 81, 2) := by decide +kernel
theorem dX7_lend_41 : decode cX7_lend 41 = .ok (.ireturn, 1) := by decide +kernel
theorem dX7_lend_42 : decode cX7_lend 42 = .ok (.aload_n 0, 1) := by decide +kernel
theorem dX7_lend_43 : decode cX7_lend 43 = .ok (.getfield 12, 3) := by decide +kernel
theorem dX7_lend_46 : decode cX7_lend 46 = .ok (.getfield 142, 3) := by decide +kernel
theorem dX7_lend_49 : decode cX7_lend 49 = .ok (.iload_n 1, 1) := by decide +kernel
theorem dX7_lend_50 : decode cX7_lend 50 = .ok (.iaload, 1) := by decide +kernel
theorem dX7_lend_51 : decode cX7_lend 51 = .ok (.aload_n 0, 1) := by decide +kernel
theorem dX7_lend_52 : decode cX7_lend 52 = .ok (.getfield 12, 3) := by decide +kernel
theorem dX7_lend_55 : decode cX7_lend 55 = .ok (.getfield 142, 3) := by decide +kernel
theorem dX7_lend_58 : decode cX7_lend 58 = .ok (.iload_n 2, 1) := by decide +kernel
theorem dX7_lend_59 : decode cX7_lend 59 = .ok (.iaload, 1) := by decide +kernel
theorem dX7_lend_60 : decode cX7_lend 60 = .ok (.if_icmp .ne 16, 3) := by decide +kernel
theorem dX7_lend_63 : decode cX7_lend 63 = .ok (.aload_n 0, 1) := by decide +kernel
theorem dX7_lend_64 : decode cX7_lend 64 = .ok (.getfield 12, 3) := by decide +kernel
theorem dX7_lend_67 : decode cX7_lend 67 = .ok (.getfield 151, 3) := by decide +kernel
theorem dX7_lend_70 : decode cX7_lend 70 = .ok (.iload_n 1, 1) := by decide +kernel
theorem dX7_lend_71 : decode cX7_lend 71 = .ok (.iaload, 1) := by decide +kernel
theorem dX7_lend_72 : decode cX7_lend 72 = .ok (.iload_n 3, 1) := by decide +kernel
theorem dX7_lend_73 : decode cX7_lend 73 = .ok (.if_icmp .ge 6, 3) := by decide +kernel
theorem dX7_lend_76 : decode cX7_lend 76 = .ok (.ldc 175, 2) := by decide +kernel
theorem dX7_lend_78 : decode cX7_lend 78 = .ok (.ireturn, 1) := by decide +kernel
theorem dX7_lend_79 : decode cX7_lend 79 = .ok (.aload_n 0, 1) := by decide +kernel
theorem dX7_lend_80 : decode cX7_lend 80 = .ok (.getfield 16, 3) := by decide +kernel
theorem dX7_lend_83 : decode cX7_lend 83 = .ok (.aload_n 0, 1) := by decide +kernel
theorem dX7_lend_84 : decode cX7_lend 84 = .ok (.getfield 12, 3) := by decide +kernel
theorem dX7_lend_87 : decode cX7_lend 87 = .ok (.invokevirtual 97, 3) := by decide +kernel
theorem dX7_lend_90 : decode cX7_lend 90 = .ok (.aload_n 0, 1) := by decide +kernel
theorem dX7_lend_91 : decode cX7_lend 91 = .ok (.getfield 39, 3) := by decide +kernel
theorem dX7_lend_94 : decode cX7_lend 94 = .ok (.iload_n 2, 1) := by decide +kernel
theorem dX7_lend_95 : decode cX7_lend 95 = .ok (.invokevirtual 245, 3) := by decide +kernel
theorem dX7_lend_98 : decode cX7_lend 98 = .ok (.istore 4, 2) := by decide +kernel
theorem dX7_lend_100 : decode cX7_lend 100 = .ok (.iload 4, 2) := by decide +kernel
theorem dX7_lend_102 : decode cX7_lend 102 = .ok (.iconst (-1), 1) := by decide +kernel
theorem dX7_lend_103 : decode cX7_lend 103 = .ok (.if_icmp .ne 5, 3) := by decide +kernel
theorem dX7_lend_106 : decode cX7_lend 106 = .ok (.iconst (-1), 1) := by decide +kernel
theorem dX7_lend_107 : decode cX7_lend 107 = .ok (.ireturn, 1) := by decide +kernel
theorem dX7_lend_108 : decode cX7_lend 108 = .ok (.aload_n 0, 1) := by decide +kernel
theorem dX7_lend_109 : decode cX7_lend 109 = .ok (.getfield 16, 3) := by decide +kernel
theorem dX7_lend_112 : decode cX7_lend 112 = .ok (.getfield 151, 3) := by decide +kernel
theorem dX7_lend_115 : decode cX7_lend 115 = .ok (.iload_n 2, 1) := by decide +kernel
theorem dX7_lend_116 : decode cX7_lend 116 = .ok (.iconst 5, 1) := by decide +kernel
theorem dX7_lend_117 : decode cX7_lend 117 = .ok (.aload_n 0, 1) := by decide +kernel
theorem dX7_lend_118 : decode cX7_lend 118 = .ok (.getfield 12, 3) := by decide +kernel
theorem dX7_lend_121 : decode cX7_lend 121 = .ok (.getfield 151, 3) := by decide +kernel
theorem dX7_lend_124 : decode cX7_lend 124 = .ok (.iload_n 2, 1) := by decide +kernel
theorem dX7_lend_125 : decode cX7_lend 125 = .ok (.iaload, 1) := by decide +kernel
theorem dX7_lend_126 : decode cX7_lend 126 = .ok (.iload_n 3, 1) := by decide +kernel
theorem dX7_lend_127 : decode cX7_lend 127 = .ok (.iadd, 1) := by decide +kernel
theorem dX7_lend_128 : decode cX7_lend 128 = .ok (.invokestatic 248, 3) := by decide +kernel
theorem dX7_lend_131 : decode cX7_lend 131 = .ok (.iastore, 1) := by decide +kernel
theorem dX7_lend_132 : decode cX7_lend 132 = .ok (.iload 4, 2) := by decide +kernel
theorem dX7_lend_134 : decode cX7_lend 134 = .ok (.aload_n 0, 1) := by decide +kernel
theorem dX7_lend_135 : decode cX7_lend 135 = .ok (.getfield 39, 3) := by decide +kernel
theorem dX7_lend_138 : decode cX7_lend 138 = .ok (.iload_n 2, 1) := by decide +kernel
theorem dX7_lend_139 : decode cX7_lend 139 = .ok (.invokevirtual 245, 3) := by decide +kernel
theorem dX7_lend_142 : decode cX7_lend 142 = .ok (.isub, 1) := by decide +kernel
theorem dX7_lend_143 : decode cX7_lend 143 = .ok (.ireturn, 1) := by decide +kernel
theorem cl_X7_245 {X : Cx} {cc : ByteArray} {nL pc fr lo : Nat} {L : List (Nat × Value)} {st : List Value} {S : St} (ok : Ok X cc nL RX7 fr lo) {x1 : Int32} (d : decode cc pc = .ok (.invokevirtual 245, 3)) (hroom : 5 ≤ fr ∧ 133 ≤ lo) (hst : (st.map fun v => v.category).sum ≤ 8) {post : Int32 → St → Prop} (h : wp_X4_soonestAtErrand x1 S post) (kk : ∀ (r : Int32) (S1 : St), post r S1 → Wp X nL (pc + 3) L (.int r :: st) S1) : Wp X nL pc L (.int x1 :: .ref (xad X 50) :: st) S :=
  r_callVi (n := 2) (f := 4) (lo1 := 112) (N := 1) (As := [.int x1]) ok tw_in_X4 tw_im_X4_soonestAtErrand tw_se_X4_soonestAtErrand tw_co_X4_soonestAtErrand tw_ml_X7_245 (by decide +kernel) rfl ob_50 rfl hroom hst d rfl (c_X4_soonestAtErrand (xl X) (xG X) h) kk
def wp_X7_lend (x1 : Int32) (x2 : Int32) (x3 : Int32) (S : St) (post : Int32 → St → Prop) : Prop :=
  wp_X6_hasPerson 0 x1 S (fun r2 S1 => ((r2 = 0 → post (-1000000001) S1) ∧ (¬ r2 = 0 → wp_X6_hasPerson 0 x2 S1 (fun r5 S4 => ((r5 = 0 → post (-1000000001) S4) ∧ (¬ r5 = 0 → ((¬ x1 = x2 → wp_X7_outside x3 0 5 S4 (fun r9 S8 => ((r9 = 0 → vp_in x1 4 ∧ (vp_in x2 4 ∧ (((¬ (S8 7 (ix x1)) = (S8 7 (ix x2)) → post (-1000000003) S8) ∧ ((S8 7 (ix x1)) = (S8 7 (ix x2)) → vp_in x1 4 ∧ (((x3 ≤ (S8 8 (ix x1)) → wp_X6_become 11 0 S8 (fun S13 => wp_X4_soonestAtErrand x2 S13 (fun r15 S14 => ((¬ r15 = (-1) → vp_in x2 4 ∧ (vp_in x2 4 ∧ (∀ S17 : St, S17 = up S14 19 (ix x2) (if ((S14 8 (ix x2)) + x3) < 5 then ((S14 8 (ix x2)) + x3) else 5) → wp_X4_soonestAtErrand x2 S17 (fun r20 S19 => post (r15 - r20) S19)))) ∧ (r15 = (-1) → post (-1) S14))))) ∧ (¬ x3 ≤ (S8 8 (ix x1)) → post (-1000000003) S8)))))))) ∧ (¬ r9 = 0 → post (-1000000002) S8)))) ∧ (x1 = x2 → post (-1000000001) S4))))))))
theorem w_wp_X7_lend {X : Cx} (ok : Ok X cX7_lend 5 RX7 5 133) {post : Int32 → St → Prop} (hret : RetI X cX7_lend 5 post) {x1 x2 x3 : Int32} {S : St} (h : wp_X7_lend x1 x2 x3 S post) : Wp X 5 0 [(0, .ref (xad X 44)), (1, .int x1), (2, .int x2), (3, .int x3)] [] S := by
  unfold wp_X7_lend at h
  refine r_aload_n ok dX7_lend_0 0 rfl ?_
  refine gf_X7_12 ok dX7_lend_1 ?_
  refine r_iload_n ok dX7_lend_4 1 rfl ?_
  refine cl_X7_139 ok isW_0 dX7_lend_5 (by decide) (Nat.le_of_ble_eq_true rfl) h (fun r2 S1 h => ?_)
  refine r_if_eq (tgt := 27) ok dX7_lend_8 rfl (fun hc3 => ?_) (fun hc3 => ?_)
  · replace h := h.1 hc3
    refine r_ldc (v := (-1000000001)) ok dX7_lend_27 tw_k_X7_129 ?_
    exact hret _ _ _ _ dX7_lend_29 h
  · replace h := h.2 hc3
    refine r_aload_n ok dX7_lend_11 0 rfl ?_
    refine gf_X7_12 ok dX7_lend_12 ?_
    refine r_iload_n ok dX7_lend_15 2 rfl ?_
    refine cl_X7_139 ok isW_0 dX7_lend_16 (by decide) (Nat.le_of_ble_eq_true rfl) h (fun r5 S4 h => ?_)
    refine r_if_eq (tgt := 27) ok dX7_lend_19 rfl (fun hc6 => ?_) (fun hc6 => ?_)
    · replace h := h.1 hc6
      refine r_ldc (v := (-1000000001)) ok dX7_lend_27 tw_k_X7_129 ?_
      exact hret _ _ _ _ dX7_lend_29 h
    · replace h := h.2 hc6
      refine r_iload_n ok dX7_lend_22 1 rfl ?_
      refine r_iload_n ok dX7_lend_23 2 rfl ?_
      refine r_icmp_ne (tgt := 30) ok dX7_lend_24 rfl (fun hc7 => ?_) (fun hc7 => ?_)
      · replace h := h.1 hc7
        refine r_iload_n ok dX7_lend_30 3 rfl ?_
        refine r_iconst (v := 0) ok dX7_lend_31 rfl ?_
        refine r_iconst (v := 5) ok dX7_lend_32 rfl ?_
        refine cl_X7_77 ok dX7_lend_33 (by decide) (Nat.le_of_ble_eq_true rfl) h (fun r9 S8 h => ?_)
        refine r_if_eq (tgt := 42) ok dX7_lend_36 rfl (fun hc10 => ?_) (fun hc10 => ?_)
        · replace h := h.1 hc10
          refine r_aload_n ok dX7_lend_42 0 rfl ?_
          refine gf_X7_12 ok dX7_lend_43 ?_
          refine gf_X7_142 ok isW_0 dX7_lend_46 ?_
          refine r_iload_n ok dX7_lend_49 1 rfl ?_
          refine r_iald ok ai_7 h.1 rfl dX7_lend_50 ?_
          replace h := h.2
          refine r_aload_n ok dX7_lend_51 0 rfl ?_
          refine gf_X7_12 ok dX7_lend_52 ?_
          refine gf_X7_142 ok isW_0 dX7_lend_55 ?_
          refine r_iload_n ok dX7_lend_58 2 rfl ?_
          refine r_iald ok ai_7 h.1 rfl dX7_lend_59 ?_
          replace h := h.2
          refine r_icmp_ne (tgt := 76) ok dX7_lend_60 rfl (fun hc11 => ?_) (fun hc11 => ?_)
          · replace h := h.1 hc11
            refine r_ldc (v := (-1000000003)) ok dX7_lend_76 tw_k_X7_175 ?_
            exact hret _ _ _ _ dX7_lend_78 h
          · replace h := h.2 hc11
            refine r_aload_n ok dX7_lend_63 0 rfl ?_
            refine gf_X7_12 ok dX7_lend_64 ?_
            refine gf_X7_151 ok isW_0 dX7_lend_67 ?_
            refine r_iload_n ok dX7_lend_70 1 rfl ?_
            refine r_iald ok ai_8 h.1 rfl dX7_lend_71 ?_
            replace h := h.2
            refine r_iload_n ok dX7_lend_72 3 rfl ?_
            refine r_icmp_ge (tgt := 79) ok dX7_lend_73 rfl (fun hc12 => ?_) (fun hc12 => ?_)
            · replace h := h.1 hc12
              refine r_aload_n ok dX7_lend_79 0 rfl ?_
              refine gf_X7_16 ok dX7_lend_80 ?_
              refine r_aload_n ok dX7_lend_83 0 rfl ?_
              refine gf_X7_12 ok dX7_lend_84 ?_
              refine cl_X7_97 ok isW_11 isW_0 dX7_lend_87 (by decide) (Nat.le_of_ble_eq_true rfl) h (fun S13 h => ?_)
              refine r_aload_n ok dX7_lend_90 0 rfl ?_
              refine gf_X7_39 ok dX7_lend_91 ?_
              refine r_iload_n ok dX7_lend_94 2 rfl ?_
              refine cl_X7_245 ok dX7_lend_95 (by decide) (Nat.le_of_ble_eq_true rfl) h (fun r15 S14 h => ?_)
              refine r_istore ok dX7_lend_98 (by decide) [(0, .ref (xad X 44)), (2, .int x2), (3, .int x3), (4, .int r15)] [1, 3, 4, 0] rfl ?_
              refine r_iload ok dX7_lend_100 3 rfl ?_
              refine r_iconst (v := (-1)) ok dX7_lend_102 rfl ?_
              refine r_icmp_ne (tgt := 108) ok dX7_lend_103 rfl (fun hc16 => ?_) (fun hc16 => ?_)
              · replace h := h.1 hc16
                refine r_aload_n ok dX7_lend_108 0 rfl ?_
                refine gf_X7_16 ok dX7_lend_109 ?_
                refine gf_X7_151 ok isW_11 dX7_lend_112 ?_
                refine r_iload_n ok dX7_lend_115 1 rfl ?_
                refine r_iconst (v := 5) ok dX7_lend_116 rfl ?_
                refine r_aload_n ok dX7_lend_117 0 rfl ?_
                refine gf_X7_12 ok dX7_lend_118 ?_
                refine gf_X7_151 ok isW_0 dX7_lend_121 ?_
                refine r_iload_n ok dX7_lend_124 1 rfl ?_
                refine r_iald ok ai_8 h.1 rfl dX7_lend_125 ?_
                replace h := h.2
                refine r_iload_n ok dX7_lend_126 2 rfl ?_
                refine r_iadd ok dX7_lend_127 ?_
                refine r_min ok dX7_lend_128 tw_ml_X7_248 tw_st_Math_min tw_in_Math tw_co_Math_min (by decide) (Nat.le_of_ble_eq_true rfl) ?_
                have hi18 := h.1
                replace h := h.2
                refine r_iast ok ai_19 hi18 rfl dX7_lend_131 (fun S17 eS17 => ?_)
                replace h := h S17 eS17
                refine r_iload ok dX7_lend_132 3 rfl ?_
                refine r_aload_n ok dX7_lend_134 0 rfl ?_
                refine gf_X7_39 ok dX7_lend_135 ?_
                refine r_iload_n ok dX7_lend_138 1 rfl ?_
                refine cl_X7_245 ok dX7_lend_139 (by decide) (Nat.le_of_ble_eq_true rfl) h (fun r20 S19 h => ?_)
                refine r_isub ok dX7_lend_142 ?_
                exact hret _ _ _ _ dX7_lend_143 h
              · replace h := h.2 hc16
                refine r_iconst (v := (-1)) ok dX7_lend_106 rfl ?_
                exact hret _ _ _ _ dX7_lend_107 h
            · replace h := h.2 hc12
              refine r_ldc (v := (-1000000003)) ok dX7_lend_76 tw_k_X7_175 ?_
              exact hret _ _ _ _ dX7_lend_78 h
        · replace h := h.2 hc10
          refine r_ldc (v := (-1000000002)) ok dX7_lend_39 tw_k_X7_81 ?_
          exact hret _ _ _ _ dX7_lend_41 h
      · replace h := h.2 hc7
        refine r_ldc (v := (-1000000001)) ok dX7_lend_27 tw_k_X7_129 ?_
        exact hret _ _ _ _ dX7_lend_29 h
theorem c_X7_lend (l : Launch) (G : Gx) {x1 x2 x3 : Int32} {S : St} {post : Int32 → St → Prop} (h : wp_X7_lend x1 x2 x3 S post) : MtI l yX7_lend cX7_lend 5 (some .int) 5 133 G [.ref (G.2.2 44), .int x1, .int x2, .int x3] S post :=
  ctI (by decide) rfl (Nat.le_of_ble_eq_true rfl) (fun X _ hG ok hret => by subst hG; exact w_wp_X7_lend ok hret h)

/-! HasteRoads.guard(II)I -/
theorem dX7_guard_0 : decode cX7_guard 0 = .ok (.aload_n 0, 1) := by decide +kernel
theorem dX7_guard_1 : decode cX7_guard 1 = .ok (.getfield 12, 3) := by decide +kernel
theorem dX7_guard_4 : decode cX7_guard 4 = .ok (.iload_n 1, 1) := by decide +kernel
theorem dX7_guard_5 : decode cX7_guard 5 = .ok (.invokevirtual 167, 3) := by decide +kernel
theorem dX7_guard_8 : decode cX7_guard 8 = .ok (.ifCond .eq 14, 3) := by decide +kernel
theorem dX7_guard_11 : decode cX7_guard 11 = .ok (.aload_n 0, 1) := by decide +kernel
theorem dX7_guard_12 : decode cX7_guard 12 = .ok (.getfield 12, 3) := by decide +kernel
theorem dX7_guard_15 : decode cX7_guard 15 = .ok (.iload_n 2, 1) := by decide +kernel
theorem dX7_guard_16 : decode cX7_guard 16 = .ok (.invokevirtual 167, 3) := by decide +kernel
theorem dX7_guard_19 : decode cX7_guard 19 = .ok (.ifCond .ne 6, 3) := by decide +kernel
theorem dX7_guard_22 : decode cX7_guard 22 = .ok (.ldc 129, 2) := by decide +kernel
theorem dX7_guard_24 : decode cX7_guard 24 = .ok (.ireturn, 1) := by decide +kernel
theorem dX7_guard_25 : decode cX7_guard 25 = .ok (.aload_n 0, 1) := by decide +kernel
theorem dX7_guard_26 : decode cX7_guard 26 = .ok (.getfield 55, 3) := by decide +kernel
theorem dX7_guard_29 : decode cX7_guard 29 = .ok (.aload_n 0, 1) := by decide +kernel
theorem dX7_guard_30 : decode cX7_guard 30 = .ok (.getfield 12, 3) := by decide +kernel
theorem dX7_guard_33 : decode cX7_guard 33 = .ok (.iload_n 1, 1) := by decide +kernel
theorem dX7_guard_34 : decode cX7_guard 34 = .ok (.iload_n 2, 1) := by decide +kernel
theorem dX7_guard_35 : decode cX7_guard 35 = .ok (.invokevirtual 251, 3) := by decide +kernel
theorem dX7_guard_38 : decode cX7_guard 38 = .ok (.ireturn, 1) := by decide +kernel
theorem gf_X7_55 {X : Cx} {cc : ByteArray} {nL pc fr lo : Nat} {L : List (Nat × Value)} {st : List Value} {S : St} (ok : Ok X cc nL RX7 fr lo) (d : decode cc pc = .ok (.getfield 55, 3)) (k : Wp X nL (pc + 3) L (.ref (xad X 59) :: st) S) : Wp X nL pc L (.ref (xad X 44) :: st) S :=
  r_get (C := RX7) (T := TX7) ok ob_44 rfl i_X7 7 (by decide) tw_fl_X7_55 d (by rw [show fvl (xad X) S 44 7 = .ref (xad X 59) from (fvl_ref (d := 59) (by decide))]; exact k)
theorem cl_X7_251 {X : Cx} {cc : ByteArray} {nL pc fr lo : Nat} {L : List (Nat × Value)} {st : List Value} {S : St} (ok : Ok X cc nL RX7 fr lo) {x2 x3 : Int32} (d : decode cc pc = .ok (.invokevirtual 251, 3)) (hroom : 2 ≤ fr ∧ 48 ≤ lo) (hst : (st.map fun v => v.category).sum ≤ 8) {post : Int32 → St → Prop} (h : wp_X1_turns x2 x3 S post) (kk : ∀ (r : Int32) (S1 : St), post r S1 → Wp X nL (pc + 3) L (.int r :: st) S1) : Wp X nL pc L (.int x3 :: .int x2 :: .ref (xad X 0) :: .ref (xad X 59) :: st) S :=
  r_callVi (n := 5) (f := 1) (lo1 := 24) (N := 3) (As := [.ref (xad X 0), .int x2, .int x3]) ok tw_in_X1 tw_im_X1_turns tw_se_X1_turns tw_co_X1_turns tw_ml_X7_251 (by decide +kernel) rfl ob_59 rfl hroom hst d rfl (c_X1_turns (xl X) (xG X) h) kk
def wp_X7_guard (x1 : Int32) (x2 : Int32) (S : St) (post : Int32 → St → Prop) : Prop :=
  wp_X6_hasPlace 0 x1 S (fun r2 S1 => ((r2 = 0 → post (-1000000001) S1) ∧ (¬ r2 = 0 → wp_X6_hasPlace 0 x2 S1 (fun r5 S4 => ((¬ r5 = 0 → wp_X1_turns x1 x2 S4 (fun r8 S7 => post r8 S7)) ∧ (r5 = 0 → post (-1000000001) S4))))))
theorem w_wp_X7_guard {X : Cx} (ok : Ok X cX7_guard 3 RX7 2 48) {post : Int32 → St → Prop} (hret : RetI X cX7_guard 3 post) {x1 x2 : Int32} {S : St} (h : wp_X7_guard x1 x2 S post) : Wp X 3 0 [(0, .ref (xad X 44)), (1, .int x1), (2, .int x2)] [] S := by
  unfold wp_X7_guard at h
  refine r_aload_n ok dX7_guard_0 0 rfl ?_
  refine gf_X7_12 ok dX7_guard_1 ?_
  refine r_iload_n ok dX7_guard_4 1 rfl ?_
  refine cl_X7_167 ok isW_0 dX7_guard_5 (by decide) (Nat.le_of_ble_eq_true rfl) h (fun r2 S1 h => ?_)
  refine r_if_eq (tgt := 22) ok dX7_guard_8 rfl (fun hc3 => ?_) (fun hc3 => ?_)
  · replace h := h.1 hc3
    refine r_ldc (v := (-1000000001)) ok dX7_guard_22 tw_k_X7_129 ?_
    exact hret _ _ _ _ dX7_guard_24 h
  · replace h := h.2 hc3
    refine r_aload_n ok dX7_guard_11 0 rfl ?_
    refine gf_X7_12 ok dX7_guard_12 ?_
    refine r_iload_n ok dX7_guard_15 2 rfl ?_
    refine cl_X7_167 ok isW_0 dX7_guard_16 (by decide) (Nat.le_of_ble_eq_true rfl) h (fun r5 S4 h => ?_)
    refine r_if_ne (tgt := 25) ok dX7_guard_19 rfl (fun hc6 => ?_) (fun hc6 => ?_)
    · replace h := h.1 hc6
      refine r_aload_n ok dX7_guard_25 0 rfl ?_
      refine gf_X7_55 ok dX7_guard_26 ?_
      refine r_aload_n ok dX7_guard_29 0 rfl ?_
      refine gf_X7_12 ok dX7_guard_30 ?_
      refine r_iload_n ok dX7_guard_33 1 rfl ?_
      refine r_iload_n ok dX7_guard_34 2 rfl ?_
      refine cl_X7_251 ok dX7_guard_35 (by decide) (Nat.le_of_ble_eq_true rfl) h (fun r8 S7 h => ?_)
      exact hret _ _ _ _ dX7_guard_38 h
    · replace h := h.2 hc6
      refine r_ldc (v := (-1000000001)) ok dX7_guard_22 tw_k_X7_129 ?_
      exact hret _ _ _ _ dX7_guard_24 h
theorem c_X7_guard (l : Launch) (G : Gx) {x1 x2 : Int32} {S : St} {post : Int32 → St → Prop} (h : wp_X7_guard x1 x2 S post) : MtI l yX7_guard cX7_guard 3 (some .int) 2 48 G [.ref (G.2.2 44), .int x1, .int x2] S post :=
  ctI (by decide) rfl (Nat.le_of_ble_eq_true rfl) (fun X _ hG ok hret => by subst hG; exact w_wp_X7_guard ok hret h)

/-! HasteRoads.round(II)I -/
theorem dX7_round_0 : decode cX7_round 0 = .ok (.aload_n 0, 1) := by decide +kernel
theorem dX7_round_1 : decode cX7_round 1 = .ok (.getfield 12, 3) := by decide +kernel
theorem dX7_round_4 : decode cX7_round 4 = .ok (.iload_n 1, 1) := by decide +kernel
theorem dX7_round_5 : decode cX7_round 5 = .ok (.invokevirtual 139, 3) := by decide +kernel
theorem dX7_round_8 : decode cX7_round 8 = .ok (.ifCond .eq 18, 3) := by decide +kernel
theorem dX7_round_11 : decode cX7_round 11 = .ok (.iload_n 2, 1) := by decide +kernel
theorem dX7_round_12 : decode cX7_round 12 = .ok (.iconst 0, 1) := by decide +kernel
theorem dX7_round_13 : decode cX7_round 13 = .ok (.aload_n 0, 1) := by decide +kernel
theorem dX7_round_14 : decode cX7_round 14 = .ok (.getfield 12, 3) := by decide +kernel
theorem dX7_round_17 : decode cX7_round 17 = .ok (.invokevirtual 255, 3) := by decide +kernel
theorem dX7_round_20 : decode cX7_round 20 = .ok (.invokestatic 77, 3) := by decide +kernel
theorem dX7_round_23 : decode cX7_round 23 = .ok (.ifCond .eq 6, 3) := by decide +kernel
theorem dX7_round_26 : decode cX7_round 26 = .ok (.ldc 129, 2) := by decide +kernel
theorem dX7_round_28 : decode cX7_round 28 = .ok (.ireturn, 1) := by decide +kernel
theorem dX7_round_29 : decode cX7_round 29 = .ok (.aload_n 0, 1) := by decide +kernel
theorem dX7_round_30 : decode cX7_round 30 = .ok (.getfield 16, 3) := by decide +kernel
theorem dX7_round_33 : decode cX7_round 33 = .ok (.aload_n 0, 1) := by decide +kernel
theorem dX7_round_34 : decode cX7_round 34 = .ok (.getfield 12, 3) := by decide +kernel
theorem dX7_round_37 : decode cX7_round 37 = .ok (.invokevirtual 97, 3) := by decide +kernel
theorem dX7_round_40 : decode cX7_round 40 = .ok (.aload_n 0, 1) := by decide +kernel
theorem dX7_round_41 : decode cX7_round 41 = .ok (.getfield 39, 3) := by decide +kernel
theorem dX7_round_44 : decode cX7_round 44 = .ok (.iload_n 1, 1) := by decide +kernel
theorem dX7_round_45 : decode cX7_round 45 = .ok (.iload_n 2, 1) := by decide +kernel
theorem dX7_round_46 : decode cX7_round 46 = .ok (.iconst (-1), 1) := by decide +kernel
theorem dX7_round_47 : decode cX7_round 47 = .ok (.invokevirtual 204, 3) := by decide +kernel
theorem dX7_round_50 : decode cX7_round 50 = .ok (.aload_n 0, 1) := by decide +kernel
theorem dX7_round_51 : decode cX7_round 51 = .ok (.getfield 39, 3) := by decide +kernel
theorem dX7_round_54 : decode cX7_round 54 = .ok (.iload_n 2, 1) := by decide +kernel
theorem dX7_round_55 : decode cX7_round 55 = .ok (.invokevirtual 258, 3) := by decide +kernel
theorem dX7_round_58 : decode cX7_round 58 = .ok (.ireturn, 1) := by decide +kernel
theorem cl_X7_258 {X : Cx} {cc : ByteArray} {nL pc fr lo : Nat} {L : List (Nat × Value)} {st : List Value} {S : St} (ok : Ok X cc nL RX7 fr lo) {x1 : Int32} (d : decode cc pc = .ok (.invokevirtual 258, 3)) (hroom : 2 ≤ fr ∧ 44 ≤ lo) (hst : (st.map fun v => v.category).sum ≤ 8) {post : Int32 → St → Prop} (h : wp_X4_soonestWith x1 S post) (kk : ∀ (r : Int32) (S1 : St), post r S1 → Wp X nL (pc + 3) L (.int r :: st) S1) : Wp X nL pc L (.int x1 :: .ref (xad X 50) :: st) S :=
  r_callVi (n := 4) (f := 1) (lo1 := 21) (N := 1) (As := [.int x1]) ok tw_in_X4 tw_im_X4_soonestWith tw_se_X4_soonestWith tw_co_X4_soonestWith tw_ml_X7_258 (by decide +kernel) rfl ob_50 rfl hroom hst d rfl (c_X4_soonestWith (xl X) (xG X) h) kk
def wp_X7_round (x1 : Int32) (x2 : Int32) (S : St) (post : Int32 → St → Prop) : Prop :=
  wp_X6_hasPerson 0 x1 S (fun r2 S1 => ((r2 = 0 → post (-1000000001) S1) ∧ (¬ r2 = 0 → wp_X6_allPlaces 0 S1 (fun r5 S4 => wp_X7_outside x2 0 r5 S4 (fun r7 S6 => ((r7 = 0 → wp_X6_become 11 0 S6 (fun S9 => wp_X4_explore x1 x2 (-1) S9 (fun S10 => wp_X4_soonestWith x2 S10 (fun r12 S11 => post r12 S11)))) ∧ (¬ r7 = 0 → post (-1000000001) S6)))))))
theorem w_wp_X7_round {X : Cx} (ok : Ok X cX7_round 3 RX7 4 112) {post : Int32 → St → Prop} (hret : RetI X cX7_round 3 post) {x1 x2 : Int32} {S : St} (h : wp_X7_round x1 x2 S post) : Wp X 3 0 [(0, .ref (xad X 44)), (1, .int x1), (2, .int x2)] [] S := by
  unfold wp_X7_round at h
  refine r_aload_n ok dX7_round_0 0 rfl ?_
  refine gf_X7_12 ok dX7_round_1 ?_
  refine r_iload_n ok dX7_round_4 1 rfl ?_
  refine cl_X7_139 ok isW_0 dX7_round_5 (by decide) (Nat.le_of_ble_eq_true rfl) h (fun r2 S1 h => ?_)
  refine r_if_eq (tgt := 26) ok dX7_round_8 rfl (fun hc3 => ?_) (fun hc3 => ?_)
  · replace h := h.1 hc3
    refine r_ldc (v := (-1000000001)) ok dX7_round_26 tw_k_X7_129 ?_
    exact hret _ _ _ _ dX7_round_28 h
  · replace h := h.2 hc3
    refine r_iload_n ok dX7_round_11 2 rfl ?_
    refine r_iconst (v := 0) ok dX7_round_12 rfl ?_
    refine r_aload_n ok dX7_round_13 0 rfl ?_
    refine gf_X7_12 ok dX7_round_14 ?_
    refine cl_X7_255 ok isW_0 dX7_round_17 (by decide) (Nat.le_of_ble_eq_true rfl) h (fun r5 S4 h => ?_)
    refine cl_X7_77 ok dX7_round_20 (by decide) (Nat.le_of_ble_eq_true rfl) h (fun r7 S6 h => ?_)
    refine r_if_eq (tgt := 29) ok dX7_round_23 rfl (fun hc8 => ?_) (fun hc8 => ?_)
    · replace h := h.1 hc8
      refine r_aload_n ok dX7_round_29 0 rfl ?_
      refine gf_X7_16 ok dX7_round_30 ?_
      refine r_aload_n ok dX7_round_33 0 rfl ?_
      refine gf_X7_12 ok dX7_round_34 ?_
      refine cl_X7_97 ok isW_11 isW_0 dX7_round_37 (by decide) (Nat.le_of_ble_eq_true rfl) h (fun S9 h => ?_)
      refine r_aload_n ok dX7_round_40 0 rfl ?_
      refine gf_X7_39 ok dX7_round_41 ?_
      refine r_iload_n ok dX7_round_44 1 rfl ?_
      refine r_iload_n ok dX7_round_45 2 rfl ?_
      refine r_iconst (v := (-1)) ok dX7_round_46 rfl ?_
      refine cl_X7_204 ok dX7_round_47 (by decide) (Nat.le_of_ble_eq_true rfl) h (fun S10 h => ?_)
      refine r_aload_n ok dX7_round_50 0 rfl ?_
      refine gf_X7_39 ok dX7_round_51 ?_
      refine r_iload_n ok dX7_round_54 2 rfl ?_
      refine cl_X7_258 ok dX7_round_55 (by decide) (Nat.le_of_ble_eq_true rfl) h (fun r12 S11 h => ?_)
      exact hret _ _ _ _ dX7_round_58 h
    · replace h := h.2 hc8
      refine r_ldc (v := (-1000000001)) ok dX7_round_26 tw_k_X7_129 ?_
      exact hret _ _ _ _ dX7_round_28 h
theorem c_X7_round (l : Launch) (G : Gx) {x1 x2 : Int32} {S : St} {post : Int32 → St → Prop} (h : wp_X7_round x1 x2 S post) : MtI l yX7_round cX7_round 3 (some .int) 4 112 G [.ref (G.2.2 44), .int x1, .int x2] S post :=
  ctI (by decide) rfl (Nat.le_of_ble_eq_true rfl) (fun X _ hG ok hret => by subst hG; exact w_wp_X7_round ok hret h)

/-! HasteRoads.took(IIIII)I -/
theorem dX7_took_0 : decode cX7_took 0 = .ok (.aload_n 0, 1) := by decide +kernel
theorem dX7_took_1 : decode cX7_took 1 = .ok (.getfield 12, 3) := by decide +kernel
theorem dX7_took_4 : decode cX7_took 4 = .ok (.iload_n 1, 1) := by decide +kernel
theorem dX7_took_5 : decode cX7_took 5 = .ok (.invokevirtual 139, 3) := by decide +kernel
theorem dX7_took_8 : decode cX7_took 8 = .ok (.ifCond .eq 25, 3) := by decide +kernel
theorem dX7_took_11 : decode cX7_took 11 = .ok (.aload_n 0, 1) := by decide +kernel
theorem dX7_took_12 : decode cX7_took 12 = .ok (.getfield 12, 3) := by decide +kernel
theorem dX7_took_15 : decode cX7_took 15 = .ok (.iload_n 2, 1) := by decide +kernel
theorem dX7_took_16 : decode cX7_took 16 = .ok (.invokevirtual 125, 3) := by decide +kernel
theorem dX7_took_19 : decode cX7_took 19 = .ok (.ifCond .eq 14, 3) := by decide +kernel
theorem dX7_took_22 : decode cX7_took 22 = .ok (.aload_n 0, 1) := by decide +kernel
theorem dX7_took_23 : decode cX7_took 23 = .ok (.getfield 12, 3) := by decide +kernel
theorem dX7_took_26 : decode cX7_took 26 = .ok (.iload_n 3, 1) := by decide +kernel
theorem dX7_took_27 : decode cX7_took 27 = .ok (.invokevirtual 167, 3) := by decide +kernel
theorem dX7_took_30 : decode cX7_took 30 = .ok (.ifCond .ne 6, 3) := by decide +kernel
theorem dX7_took_33 : decode cX7_took 33 = .ok (.ldc 129, 2) := by decide +kernel
theorem dX7_took_35 : decode cX7_took 35 = .ok (.ireturn, 1) := by decide +kernel
theorem dX7_took_36 : decode cX7_took 36 = .ok (.iload 4, 2) := by decide +kernel
theorem dX7_took_38 : decode cX7_took 38 = .ok (.iconst 0, 1) := by decide +kernel
theorem dX7_took_39 : decode cX7_took 39 = .ok (.sipush 999, 3) := by decide +kernel
theorem dX7_took_42 : decode cX7_took 42 = .ok (.invokestatic 77, 3) := by decide +kernel
theorem dX7_took_45 : decode cX7_took 45 = .ok (.ifCond .ne 15, 3) := by decide +kernel
theorem dX7_took_48 : decode cX7_took 48 = .ok (.iload 5, 2) := by decide +kernel
theorem dX7_took_50 : decode cX7_took 50 = .ok (.iconst 1, 1) := by decide +kernel
theorem dX7_took_51 : decode cX7_took 51 = .ok (.sipush 999, 3) := by decide +kernel
theorem dX7_took_54 : decode cX7_took 54 = .ok (.invokestatic 77, 3) := by decide +kernel
theorem dX7_took_57 : decode cX7_took 57 = .ok (.ifCond .eq 6, 3) := by decide +kernel
theorem dX7_took_60 : decode cX7_took 60 = .ok (.ldc 81, 2) := by decide +kernel
theorem dX7_took_62 : decode cX7_took 62 = .ok (.ireturn, 1) := by decide +kernel
theorem dX7_took_63 : decode cX7_took 63 = .ok (.aload_n 0, 1) := by decide +kernel
theorem dX7_took_64 : decode cX7_took 64 = .ok (.getfield 12, 3) := by decide +kernel
theorem dX7_took_67 : decode cX7_took 67 = .ok (.iload_n 2, 1) := by decide +kernel
theorem dX7_took_68 : decode cX7_took 68 = .ok (.iload_n 3, 1) := by decide +kernel
theorem dX7_took_69 : decode cX7_took 69 = .ok (.invokevirtual 171, 3) := by decide +kernel
theorem dX7_took_72 : decode cX7_took 72 = .ok (.iconst (-1), 1) := by decide +kernel
theorem dX7_took_73 : decode cX7_took 73 = .ok (.if_icmp .ne 6, 3) := by decide +kernel
theorem dX7_took_76 : decode cX7_took 76 = .ok (.ldc 175, 2) := by decide +kernel
theorem dX7_took_78 : decode cX7_took 78 = .ok (.ireturn, 1) := by decide +kernel
theorem dX7_took_79 : decode cX7_took 79 = .ok (.aload_n 0, 1) := by decide +kernel
theorem dX7_took_80 : decode cX7_took 80 = .ok (.getfield 62, 3) := by decide +kernel
theorem dX7_took_83 : decode cX7_took 83 = .ok (.iload_n 1, 1) := by decide +kernel
theorem dX7_took_84 : decode cX7_took 84 = .ok (.iload_n 2, 1) := by decide +kernel
theorem dX7_took_85 : decode cX7_took 85 = .ok (.iload_n 3, 1) := by decide +kernel
theorem dX7_took_86 : decode cX7_took 86 = .ok (.iload 4, 2) := by decide +kernel
theorem dX7_took_88 : decode cX7_took 88 = .ok (.iload 5, 2) := by decide +kernel
theorem dX7_took_90 : decode cX7_took 90 = .ok (.invokevirtual 261, 3) := by decide +kernel
theorem dX7_took_93 : decode cX7_took 93 = .ok (.ireturn, 1) := by decide +kernel
theorem cl_X7_261 {X : Cx} {cc : ByteArray} {nL pc fr lo : Nat} {L : List (Nat × Value)} {st : List Value} {S : St} (ok : Ok X cc nL RX7 fr lo) {x1 x2 x3 x4 x5 : Int32} (d : decode cc pc = .ok (.invokevirtual 261, 3)) (hroom : 1 ≤ fr ∧ 25 ≤ lo) (hst : (st.map fun v => v.category).sum ≤ 8) {post : Int32 → St → Prop} (h : wp_X2_add x1 x2 x3 x4 x5 S post) (kk : ∀ (r : Int32) (S1 : St), post r S1 → Wp X nL (pc + 3) L (.int r :: st) S1) : Wp X nL pc L (.int x5 :: .int x4 :: .int x3 :: .int x2 :: .int x1 :: .ref (xad X 63) :: st) S :=
  r_callVi (n := 6) (f := 0) (lo1 := 0) (N := 5) (As := [.int x1, .int x2, .int x3, .int x4, .int x5]) ok tw_in_X2 tw_im_X2_add tw_se_X2_add tw_co_X2_add tw_ml_X7_261 (by decide +kernel) rfl ob_63 rfl hroom hst d rfl (c_X2_add (xl X) (xG X) h) kk
def wp_X7_took (x1 : Int32) (x2 : Int32) (x3 : Int32) (x4 : Int32) (x5 : Int32) (S : St) (post : Int32 → St → Prop) : Prop :=
  wp_X6_hasPerson 0 x1 S (fun r2 S1 => ((r2 = 0 → post (-1000000001) S1) ∧ (¬ r2 = 0 → wp_X6_hasRoad 0 x2 S1 (fun r5 S4 => ((r5 = 0 → post (-1000000001) S4) ∧ (¬ r5 = 0 → wp_X6_hasPlace 0 x3 S4 (fun r8 S7 => ((¬ r8 = 0 → wp_X7_outside x4 0 999 S7 (fun r11 S10 => ((¬ r11 = 0 → post (-1000000002) S10) ∧ (r11 = 0 → wp_X7_outside x5 1 999 S10 (fun r14 S13 => ((r14 = 0 → wp_X6_otherEnd 0 x2 x3 S13 (fun r17 S16 => ((¬ r17 = (-1) → wp_X2_add x1 x2 x3 x4 x5 S16 (fun r20 S19 => post r20 S19)) ∧ (r17 = (-1) → post (-1000000003) S16)))) ∧ (¬ r14 = 0 → post (-1000000002) S13))))))) ∧ (r8 = 0 → post (-1000000001) S7)))))))))
theorem w_wp_X7_took {X : Cx} (ok : Ok X cX7_took 6 RX7 1 25) {post : Int32 → St → Prop} (hret : RetI X cX7_took 6 post) {x1 x2 x3 x4 x5 : Int32} {S : St} (h : wp_X7_took x1 x2 x3 x4 x5 S post) : Wp X 6 0 [(0, .ref (xad X 44)), (1, .int x1), (2, .int x2), (3, .int x3), (4, .int x4), (5, .int x5)] [] S := by
  unfold wp_X7_took at h
  refine r_aload_n ok dX7_took_0 0 rfl ?_
  refine gf_X7_12 ok dX7_took_1 ?_
  refine r_iload_n ok dX7_took_4 1 rfl ?_
  refine cl_X7_139 ok isW_0 dX7_took_5 (by decide) (Nat.le_of_ble_eq_true rfl) h (fun r2 S1 h => ?_)
  refine r_if_eq (tgt := 33) ok dX7_took_8 rfl (fun hc3 => ?_) (fun hc3 => ?_)
  · replace h := h.1 hc3
    refine r_ldc (v := (-1000000001)) ok dX7_took_33 tw_k_X7_129 ?_
    exact hret _ _ _ _ dX7_took_35 h
  · replace h := h.2 hc3
    refine r_aload_n ok dX7_took_11 0 rfl ?_
    refine gf_X7_12 ok dX7_took_12 ?_
    refine r_iload_n ok dX7_took_15 2 rfl ?_
    refine cl_X7_125 ok isW_0 dX7_took_16 (by decide) (Nat.le_of_ble_eq_true rfl) h (fun r5 S4 h => ?_)
    refine r_if_eq (tgt := 33) ok dX7_took_19 rfl (fun hc6 => ?_) (fun hc6 => ?_)
    · replace h := h.1 hc6
      refine r_ldc (v := (-1000000001)) ok dX7_took_33 tw_k_X7_129 ?_
      exact hret _ _ _ _ dX7_took_35 h
    · replace h := h.2 hc6
      refine r_aload_n ok dX7_took_22 0 rfl ?_
      refine gf_X7_12 ok dX7_took_23 ?_
      refine r_iload_n ok dX7_took_26 3 rfl ?_
      refine cl_X7_167 ok isW_0 dX7_took_27 (by decide) (Nat.le_of_ble_eq_true rfl) h (fun r8 S7 h => ?_)
      refine r_if_ne (tgt := 36) ok dX7_took_30 rfl (fun hc9 => ?_) (fun hc9 => ?_)
      · replace h := h.1 hc9
        refine r_iload ok dX7_took_36 4 rfl ?_
        refine r_iconst (v := 0) ok dX7_took_38 rfl ?_
        refine r_sipush (v := 999) ok dX7_took_39 rfl ?_
        refine cl_X7_77 ok dX7_took_42 (by decide) (Nat.le_of_ble_eq_true rfl) h (fun r11 S10 h => ?_)
        refine r_if_ne (tgt := 60) ok dX7_took_45 rfl (fun hc12 => ?_) (fun hc12 => ?_)
        · replace h := h.1 hc12
          refine r_ldc (v := (-1000000002)) ok dX7_took_60 tw_k_X7_81 ?_
          exact hret _ _ _ _ dX7_took_62 h
        · replace h := h.2 hc12
          refine r_iload ok dX7_took_48 5 rfl ?_
          refine r_iconst (v := 1) ok dX7_took_50 rfl ?_
          refine r_sipush (v := 999) ok dX7_took_51 rfl ?_
          refine cl_X7_77 ok dX7_took_54 (by decide) (Nat.le_of_ble_eq_true rfl) h (fun r14 S13 h => ?_)
          refine r_if_eq (tgt := 63) ok dX7_took_57 rfl (fun hc15 => ?_) (fun hc15 => ?_)
          · replace h := h.1 hc15
            refine r_aload_n ok dX7_took_63 0 rfl ?_
            refine gf_X7_12 ok dX7_took_64 ?_
            refine r_iload_n ok dX7_took_67 2 rfl ?_
            refine r_iload_n ok dX7_took_68 3 rfl ?_
            refine cl_X7_171 ok isW_0 dX7_took_69 (by decide) (Nat.le_of_ble_eq_true rfl) h (fun r17 S16 h => ?_)
            refine r_iconst (v := (-1)) ok dX7_took_72 rfl ?_
            refine r_icmp_ne (tgt := 79) ok dX7_took_73 rfl (fun hc18 => ?_) (fun hc18 => ?_)
            · replace h := h.1 hc18
              refine r_aload_n ok dX7_took_79 0 rfl ?_
              refine gf_X7_62 ok dX7_took_80 ?_
              refine r_iload_n ok dX7_took_83 1 rfl ?_
              refine r_iload_n ok dX7_took_84 2 rfl ?_
              refine r_iload_n ok dX7_took_85 3 rfl ?_
              refine r_iload ok dX7_took_86 4 rfl ?_
              refine r_iload ok dX7_took_88 5 rfl ?_
              refine cl_X7_261 ok dX7_took_90 (by decide) (Nat.le_of_ble_eq_true rfl) h (fun r20 S19 h => ?_)
              exact hret _ _ _ _ dX7_took_93 h
            · replace h := h.2 hc18
              refine r_ldc (v := (-1000000003)) ok dX7_took_76 tw_k_X7_175 ?_
              exact hret _ _ _ _ dX7_took_78 h
          · replace h := h.2 hc15
            refine r_ldc (v := (-1000000002)) ok dX7_took_60 tw_k_X7_81 ?_
            exact hret _ _ _ _ dX7_took_62 h
      · replace h := h.2 hc9
        refine r_ldc (v := (-1000000001)) ok dX7_took_33 tw_k_X7_129 ?_
        exact hret _ _ _ _ dX7_took_35 h
theorem c_X7_took (l : Launch) (G : Gx) {x1 x2 x3 x4 x5 : Int32} {S : St} {post : Int32 → St → Prop} (h : wp_X7_took x1 x2 x3 x4 x5 S post) : MtI l yX7_took cX7_took 6 (some .int) 1 25 G [.ref (G.2.2 44), .int x1, .int x2, .int x3, .int x4, .int x5] S post :=
  ctI (by decide) rfl (Nat.le_of_ble_eq_true rfl) (fun X _ hG ok hret => by subst hG; exact w_wp_X7_took ok hret h)
