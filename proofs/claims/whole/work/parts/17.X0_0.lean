/-! HasteRoads$Book.add(I)I -/
theorem dX0_add_0 : decode cX0_add 0 = .ok (.aload_n 0, 1) := by decide +kernel
theorem dX0_add_1 : decode cX0_add 1 = .ok (.getfield 15, 3) := by decide +kernel
theorem dX0_add_4 : decode cX0_add 4 = .ok (.bipush 30, 2) := by decide +kernel
theorem dX0_add_6 : decode cX0_add 6 = .ok (.if_icmp .lt 6, 3) := by decide +kernel
theorem dX0_add_9 : decode cX0_add 9 = .ok (.ldc 19, 2) := by decide +kernel
theorem dX0_add_11 : decode cX0_add 11 = .ok (.ireturn, 1) := by decide +kernel
theorem dX0_add_12 : decode cX0_add 12 = .ok (.aload_n 0, 1) := by decide +kernel
theorem dX0_add_13 : decode cX0_add 13 = .ok (.getfield 9, 3) := by decide +kernel
theorem dX0_add_16 : decode cX0_add 16 = .ok (.aload_n 0, 1) := by decide +kernel
theorem dX0_add_17 : decode cX0_add 17 = .ok (.getfield 15, 3) := by decide +kernel
theorem dX0_add_20 : decode cX0_add 20 = .ok (.iload_n 1, 1) := by decide +kernel
theorem dX0_add_21 : decode cX0_add 21 = .ok (.iastore, 1) := by decide +kernel
theorem dX0_add_22 : decode cX0_add 22 = .ok (.aload_n 0, 1) := by decide +kernel
theorem dX0_add_23 : decode cX0_add 23 = .ok (.dup, 1) := by decide +kernel
theorem dX0_add_24 : decode cX0_add 24 = .ok (.getfield 15, 3) := by decide +kernel
theorem dX0_add_27 : decode cX0_add 27 = .ok (.iconst 1, 1) := by decide +kernel
theorem dX0_add_28 : decode cX0_add 28 = .ok (.iadd, 1) := by decide +kernel
theorem dX0_add_29 : decode cX0_add 29 = .ok (.putfield 15, 3) := by decide +kernel
theorem dX0_add_32 : decode cX0_add 32 = .ok (.aload_n 0, 1) := by decide +kernel
theorem dX0_add_33 : decode cX0_add 33 = .ok (.getfield 15, 3) := by decide +kernel
theorem dX0_add_36 : decode cX0_add 36 = .ok (.ireturn, 1) := by decide +kernel
theorem gf_X0_15 {X : Cx} {cc : ByteArray} {nL pc fr lo : Nat} {L : List (Nat × Value)} {st : List Value} {S : St} (ok : Ok X cc nL RX0 fr lo) (d : decode cc pc = .ok (.getfield 15, 3)) (k : Wp X nL (pc + 3) L (.int (S 69 0) :: st) S) : Wp X nL pc L (.ref (xad X 69) :: st) S :=
  r_get (C := RX0) (T := TX0) ok ob_69 rfl i_X0 0 (by decide) tw_fl_X0_15 d (by rw [show fvl (xad X) S 69 0 = .int (S 69 0) from (fvl_int (by decide))]; exact k)
theorem gf_X0_9 {X : Cx} {cc : ByteArray} {nL pc fr lo : Nat} {L : List (Nat × Value)} {st : List Value} {S : St} (ok : Ok X cc nL RX0 fr lo) (d : decode cc pc = .ok (.getfield 9, 3)) (k : Wp X nL (pc + 3) L (.ref (xad X 70) :: st) S) : Wp X nL pc L (.ref (xad X 69) :: st) S :=
  r_get (C := RX0) (T := TX0) ok ob_69 rfl i_X0 1 (by decide) tw_fl_X0_9 d (by rw [show fvl (xad X) S 69 1 = .ref (xad X 70) from (fvl_ref (d := 70) (by decide))]; exact k)
theorem pf_X0_15 {X : Cx} {cc : ByteArray} {nL pc fr lo : Nat} {L : List (Nat × Value)} {st : List Value} {S : St} {v : Int32} (ok : Ok X cc nL RX0 fr lo) (d : decode cc pc = .ok (.putfield 15, 3)) (k : ∀ S1 : St, S1 = up S 69 0 v → Wp X nL (pc + 3) L st S1) : Wp X nL pc L (.int v :: .ref (xad X 69) :: st) S :=
  r_put (C := RX0) (T := TX0) ok ob_69 rfl i_X0 tyX0 tyX0_ok nmX0 0 (by decide) tw_fl_X0_15 rfl rfl (by decide) d (k _ rfl)
def wp_X0_add (x1 : Int32) (S : St) (post : Int32 → St → Prop) : Prop :=
  (((S 69 0) < 30 → vp_in (S 69 0) 30 ∧ (∀ S2 : St, S2 = up S 70 (ix (S 69 0)) x1 → ∀ S4 : St, S4 = up S2 69 0 ((S2 69 0) + 1) → post (S4 69 0) S4)) ∧ (¬ (S 69 0) < 30 → post (-1000000004) S))
theorem w_wp_X0_add {X : Cx} (ok : Ok X cX0_add 2 RX0 0 0) {post : Int32 → St → Prop} (hret : RetI X cX0_add 2 post) {x1 : Int32} {S : St} (h : wp_X0_add x1 S post) : Wp X 2 0 [(0, .ref (xad X 69)), (1, .int x1)] [] S := by
  unfold wp_X0_add at h
  refine r_aload_n ok dX0_add_0 0 rfl ?_
  refine gf_X0_15 ok dX0_add_1 ?_
  refine r_bipush (v := 30) ok dX0_add_4 rfl ?_
  refine r_icmp_lt (tgt := 12) ok dX0_add_6 rfl (fun hc1 => ?_) (fun hc1 => ?_)
  · replace h := h.1 hc1
    refine r_aload_n ok dX0_add_12 0 rfl ?_
    refine gf_X0_9 ok dX0_add_13 ?_
    refine r_aload_n ok dX0_add_16 0 rfl ?_
    refine gf_X0_15 ok dX0_add_17 ?_
    refine r_iload_n ok dX0_add_20 1 rfl ?_
    have hi3 := h.1
    replace h := h.2
    refine r_iast ok ai_70 hi3 rfl dX0_add_21 (fun S2 eS2 => ?_)
    replace h := h S2 eS2
    refine r_aload_n ok dX0_add_22 0 rfl ?_
    refine r_dup ok dX0_add_23 rfl ?_
    refine gf_X0_15 ok dX0_add_24 ?_
    refine r_iconst (v := 1) ok dX0_add_27 rfl ?_
    refine r_iadd ok dX0_add_28 ?_
    refine pf_X0_15 ok dX0_add_29 (fun S4 eS4 => ?_)
    replace h := h S4 eS4
    refine r_aload_n ok dX0_add_32 0 rfl ?_
    refine gf_X0_15 ok dX0_add_33 ?_
    exact hret _ _ _ _ dX0_add_36 h
  · replace h := h.2 hc1
    refine r_ldc (v := (-1000000004)) ok dX0_add_9 tw_k_X0_19 ?_
    exact hret _ _ _ _ dX0_add_11 h
theorem c_X0_add (l : Launch) (G : Gx) {x1 : Int32} {S : St} {post : Int32 → St → Prop} (h : wp_X0_add x1 S post) : MtI l yX0_add cX0_add 2 (some .int) 0 0 G [.ref (G.2.2 69), .int x1] S post :=
  ctI (by decide) rfl (Nat.le_of_ble_eq_true rfl) (fun X _ hG ok hret => by subst hG; exact w_wp_X0_add ok hret h)

/-! HasteRoads$Book.follow(LHasteRoads$World;I)I -/
theorem dX0_follow_0 : decode cX0_follow 0 = .ok (.iconst 0, 1) := by decide +kernel
theorem dX0_follow_1 : decode cX0_follow 1 = .ok (.istore_n 3, 1) := by decide +kernel
theorem dX0_follow_2 : decode cX0_follow 2 = .ok (.iload_n 3, 1) := by decide +kernel
theorem dX0_follow_3 : decode cX0_follow 3 = .ok (.aload_n 0, 1) := by decide +kernel
theorem dX0_follow_4 : decode cX0_follow 4 = .ok (.getfield 15, 3) := by decide +kernel
theorem dX0_follow_7 : decode cX0_follow 7 = .ok (.if_icmp .ge 71, 3) := by decide +kernel
theorem dX0_follow_10 : decode cX0_follow 10 = .ok (.aload_n 0, 1) := by decide +kernel
theorem dX0_follow_11 : decode cX0_follow 11 = .ok (.getfield 9, 3) := by decide +kernel
theorem dX0_follow_14 : decode cX0_follow 14 = .ok (.iload_n 3, 1) := by decide +kernel
theorem dX0_follow_15 : decode cX0_follow 15 = .ok (.iaload, 1) := by decide +kernel
theorem dX0_follow_16 : decode cX0_follow 16 = .ok (.istore 4, 2) := by decide +kernel
theorem dX0_follow_18 : decode cX0_follow 18 = .ok (.iload 4, 2) := by decide +kernel
theorem dX0_follow_20 : decode cX0_follow 20 = .ok (.bipush (-2), 2) := by decide +kernel
theorem dX0_follow_22 : decode cX0_follow 22 = .ok (.if_icmp .ne 12, 3) := by decide +kernel
theorem dX0_follow_25 : decode cX0_follow 25 = .ok (.aload_n 1, 1) := by decide +kernel
theorem dX0_follow_26 : decode cX0_follow 26 = .ok (.iload_n 2, 1) := by decide +kernel
theorem dX0_follow_27 : decode cX0_follow 27 = .ok (.iconst 1, 1) := by decide +kernel
theorem dX0_follow_28 : decode cX0_follow 28 = .ok (.invokevirtual 20, 3) := by decide +kernel
theorem dX0_follow_31 : decode cX0_follow 31 = .ok (.goto 41, 3) := by decide +kernel
theorem dX0_follow_34 : decode cX0_follow 34 = .ok (.aload_n 1, 1) := by decide +kernel
theorem dX0_follow_35 : decode cX0_follow 35 = .ok (.iload_n 2, 1) := by decide +kernel
theorem dX0_follow_36 : decode cX0_follow 36 = .ok (.iload 4, 2) := by decide +kernel
theorem dX0_follow_38 : decode cX0_follow 38 = .ok (.bipush 10, 2) := by decide +kernel
theorem dX0_follow_40 : decode cX0_follow 40 = .ok (.idiv, 1) := by decide +kernel
theorem dX0_follow_41 : decode cX0_follow 41 = .ok (.iload 4, 2) := by decide +kernel
theorem dX0_follow_43 : decode cX0_follow 43 = .ok (.bipush 10, 2) := by decide +kernel
theorem dX0_follow_45 : decode cX0_follow 45 = .ok (.irem, 1) := by decide +kernel
theorem dX0_follow_46 : decode cX0_follow 46 = .ok (.invokevirtual 26, 3) := by decide +kernel
theorem dX0_follow_49 : decode cX0_follow 49 = .ok (.ifCond .eq 21, 3) := by decide +kernel
theorem dX0_follow_52 : decode cX0_follow 52 = .ok (.aload_n 1, 1) := by decide +kernel
theorem dX0_follow_53 : decode cX0_follow 53 = .ok (.iload_n 2, 1) := by decide +kernel
theorem dX0_follow_54 : decode cX0_follow 54 = .ok (.iload 4, 2) := by decide +kernel
theorem dX0_follow_56 : decode cX0_follow 56 = .ok (.bipush 10, 2) := by decide +kernel
theorem dX0_follow_58 : decode cX0_follow 58 = .ok (.idiv, 1) := by decide +kernel
theorem dX0_follow_59 : decode cX0_follow 59 = .ok (.iload 4, 2) := by decide +kernel
theorem dX0_follow_61 : decode cX0_follow 61 = .ok (.bipush 10, 2) := by decide +kernel
theorem dX0_follow_63 : decode cX0_follow 63 = .ok (.irem, 1) := by decide +kernel
theorem dX0_follow_64 : decode cX0_follow 64 = .ok (.invokevirtual 30, 3) := by decide +kernel
theorem dX0_follow_67 : decode cX0_follow 67 = .ok (.goto 5, 3) := by decide +kernel
theorem dX0_follow_70 : decode cX0_follow 70 = .ok (.iload_n 3, 1) := by decide +kernel
theorem dX0_follow_71 : decode cX0_follow 71 = .ok (.ireturn, 1) := by decide +kernel
theorem dX0_follow_72 : decode cX0_follow 72 = .ok (.iinc 3 1, 3) := by decide +kernel
theorem dX0_follow_75 : decode cX0_follow 75 = .ok (.goto (-73), 3) := by decide +kernel
theorem dX0_follow_78 : decode cX0_follow 78 = .ok (.iconst (-1), 1) := by decide +kernel
theorem dX0_follow_79 : decode cX0_follow 79 = .ok (.ireturn, 1) := by decide +kernel
theorem cl_X0_26 {X : Cx} {cc : ByteArray} {nL pc fr lo : Nat} {L : List (Nat × Value)} {st : List Value} {S : St} (ok : Ok X cc nL RX0 fr lo) {o : Nat} (ho : isW o) {x1 x2 x3 : Int32} (d : decode cc pc = .ok (.invokevirtual 26, 3)) (hroom : 2 ≤ fr ∧ 45 ≤ lo) (hst : (st.map fun v => v.category).sum ≤ 8) {post : Int32 → St → Prop} (h : wp_X6_canMove o x1 x2 x3 S post) (kk : ∀ (r : Int32) (S1 : St), post r S1 → Wp X nL (pc + 3) L (.int r :: st) S1) : Wp X nL pc L (.int x3 :: .int x2 :: .int x1 :: .ref (xad X o) :: st) S :=
  r_callVi (n := 4) (f := 1) (lo1 := 22) (N := 3) (As := [.int x1, .int x2, .int x3]) ok tw_in_X6 tw_im_X6_canMove tw_se_X6_canMove tw_co_X6_canMove tw_ml_X0_26 (by decide +kernel) rfl ho.ob rfl hroom hst d rfl (c_X6_canMove (xl X) (xG X) ho h) kk
theorem cl_X0_30 {X : Cx} {cc : ByteArray} {nL pc fr lo : Nat} {L : List (Nat × Value)} {st : List Value} {S : St} (ok : Ok X cc nL RX0 fr lo) {o : Nat} (ho : isW o) {x1 x2 x3 : Int32} (d : decode cc pc = .ok (.invokevirtual 30, 3)) (hroom : 3 ≤ fr ∧ 73 ≤ lo) (hst : (st.map fun v => v.category).sum ≤ 8) {post : St → Prop} (h : wp_X6_move o x1 x2 x3 S post) (kk : ∀ S1 : St, post S1 → Wp X nL (pc + 3) L st S1) : Wp X nL pc L (.int x3 :: .int x2 :: .int x1 :: .ref (xad X o) :: st) S :=
  r_callVv (n := 4) (f := 2) (lo1 := 50) (N := 3) (As := [.int x1, .int x2, .int x3]) ok tw_in_X6 tw_im_X6_move tw_se_X6_move tw_co_X6_move tw_ml_X0_30 (by decide +kernel) rfl ho.ob rfl hroom hst d rfl (c_X6_move (xl X) (xG X) ho h) kk
theorem cl_X0_20 {X : Cx} {cc : ByteArray} {nL pc fr lo : Nat} {L : List (Nat × Value)} {st : List Value} {S : St} (ok : Ok X cc nL RX0 fr lo) {o : Nat} (ho : isW o) {x1 x2 : Int32} (d : decode cc pc = .ok (.invokevirtual 20, 3)) (hroom : 3 ≤ fr ∧ 66 ≤ lo) (hst : (st.map fun v => v.category).sum ≤ 8) {post : St → Prop} (h : wp_X6_rest o x1 x2 S post) (kk : ∀ S1 : St, post S1 → Wp X nL (pc + 3) L st S1) : Wp X nL pc L (.int x2 :: .int x1 :: .ref (xad X o) :: st) S :=
  r_callVv (n := 3) (f := 2) (lo1 := 44) (N := 2) (As := [.int x1, .int x2]) ok tw_in_X6 tw_im_X6_rest tw_se_X6_rest tw_co_X6_rest tw_ml_X0_20 (by decide +kernel) rfl ho.ob rfl hroom hst d rfl (c_X6_rest (xl X) (xG X) ho h) kk
def BD_X0_follow_2 (k2 : Int32 → Int32 → St → Prop) (post : Int32 → St → Prop) (x2 : Int32) (x3 : Int32) (S : St) : Prop :=
  (((S 69 0) ≤ x3 → post (-1) S) ∧ (¬ (S 69 0) ≤ x3 → vp_in x3 30 ∧ (∀ v2 : Int32, v2 = (S 70 (ix x3)) → ((¬ v2 = (-2) → wp_X6_canMove 11 x2 (v2 / 10) (v2 - v2 / 10 * 10) S (fun r5 S4 => ((r5 = 0 → post x3 S4) ∧ (¬ r5 = 0 → wp_X6_move 11 x2 (v2 / 10) (v2 - v2 / 10 * 10) S4 (fun S7 => k2 x2 (x3 + 1) S7))))) ∧ (v2 = (-2) → wp_X6_rest 11 x2 1 S (fun S8 => k2 x2 (x3 + 1) S8))))))
def L_X0_follow_2 (post : Int32 → St → Prop) (n : Nat) : Int32 → Int32 → St → Prop := Nat.rec (motive := fun _ => Int32 → Int32 → St → Prop) (fun _ _ _ => False) (fun _ ih => BD_X0_follow_2 ih post) n
def B_X0_follow_2 (post : Int32 → St → Prop) (x2 : Int32) (x3 : Int32) (S : St) : Prop := ∃ n, L_X0_follow_2 post n x2 x3 S
def wp_X0_follow (x2 : Int32) (S : St) (post : Int32 → St → Prop) : Prop :=
  B_X0_follow_2 post x2 0 S
theorem w_B_X0_follow_2 {X : Cx} (ok : Ok X cX0_follow 5 RX0 3 73) {post : Int32 → St → Prop} (hret : RetI X cX0_follow 5 post) {x2 x3 : Int32} {S : St} (h : B_X0_follow_2 post x2 x3 S) : Wp X 5 2 [(0, .ref (xad X 69)), (1, .ref (xad X 11)), (2, .int x2), (3, .int x3)] [] S := by
  obtain ⟨n, h⟩ := h
  induction n generalizing x2 x3 S with
  | zero => exact False.elim h
  | succ n ih =>
    have hk2 : ∀ x2 x3 S, L_X0_follow_2 post n x2 x3 S → Wp X 5 2 [(0, .ref (xad X 69)), (1, .ref (xad X 11)), (2, .int x2), (3, .int x3)] [] S := by intros; apply ih; assumption
    replace h : BD_X0_follow_2 (L_X0_follow_2 post n) post x2 x3 S := h
    unfold BD_X0_follow_2 at h
    generalize L_X0_follow_2 post n = k2 at h hk2
    refine r_iload_n ok dX0_follow_2 3 rfl ?_
    refine r_aload_n ok dX0_follow_3 0 rfl ?_
    refine gf_X0_15 ok dX0_follow_4 ?_
    refine r_icmp_ge (tgt := 78) ok dX0_follow_7 rfl (fun hc1 => ?_) (fun hc1 => ?_)
    · replace h := h.1 hc1
      refine r_iconst (v := (-1)) ok dX0_follow_78 rfl ?_
      exact hret _ _ _ _ dX0_follow_79 h
    · replace h := h.2 hc1
      refine r_aload_n ok dX0_follow_10 0 rfl ?_
      refine gf_X0_9 ok dX0_follow_11 ?_
      refine r_iload_n ok dX0_follow_14 3 rfl ?_
      refine r_iald ok ai_70 h.1 rfl dX0_follow_15 ?_
      replace h := h.2
      refine r_top (fun v2 ev2 => ?_)
      replace h := h v2 ev2
      refine r_istore ok dX0_follow_16 (by decide) [(0, .ref (xad X 69)), (1, .ref (xad X 11)), (2, .int x2), (3, .int x3), (4, .int v2)] [1, 2, 3, 4, 0] rfl ?_
      refine r_iload ok dX0_follow_18 4 rfl ?_
      refine r_bipush (v := (-2)) ok dX0_follow_20 rfl ?_
      refine r_icmp_ne (tgt := 34) ok dX0_follow_22 rfl (fun hc3 => ?_) (fun hc3 => ?_)
      · replace h := h.1 hc3
        refine r_aload_n ok dX0_follow_34 1 rfl ?_
        refine r_iload_n ok dX0_follow_35 2 rfl ?_
        refine r_iload ok dX0_follow_36 4 rfl ?_
        refine r_bipush (v := 10) ok dX0_follow_38 rfl ?_
        refine r_idiv ok dX0_follow_40 (by decide) ?_
        refine r_iload ok dX0_follow_41 4 rfl ?_
        refine r_bipush (v := 10) ok dX0_follow_43 rfl ?_
        refine r_irem ok dX0_follow_45 (by decide) ?_
        refine cl_X0_26 ok isW_11 dX0_follow_46 (by decide) (Nat.le_of_ble_eq_true rfl) h (fun r5 S4 h => ?_)
        refine r_if_eq (tgt := 70) ok dX0_follow_49 rfl (fun hc6 => ?_) (fun hc6 => ?_)
        · replace h := h.1 hc6
          refine r_iload_n ok dX0_follow_70 3 rfl ?_
          exact hret _ _ _ _ dX0_follow_71 h
        · replace h := h.2 hc6
          refine r_aload_n ok dX0_follow_52 1 rfl ?_
          refine r_iload_n ok dX0_follow_53 2 rfl ?_
          refine r_iload ok dX0_follow_54 4 rfl ?_
          refine r_bipush (v := 10) ok dX0_follow_56 rfl ?_
          refine r_idiv ok dX0_follow_58 (by decide) ?_
          refine r_iload ok dX0_follow_59 4 rfl ?_
          refine r_bipush (v := 10) ok dX0_follow_61 rfl ?_
          refine r_irem ok dX0_follow_63 (by decide) ?_
          refine cl_X0_30 ok isW_11 dX0_follow_64 (by decide) (Nat.le_of_ble_eq_true rfl) h (fun S7 h => ?_)
          refine r_goto (tgt := 72) ok dX0_follow_67 rfl ?_
          refine r_iinc (v := x3 + 1) ok dX0_follow_72 3 rfl rfl (by decide) [(0, .ref (xad X 69)), (1, .ref (xad X 11)), (2, .int x2), (3, .int (x3 + 1))] [1, 2, 3, 0] rfl ?_
          refine r_goto (tgt := 2) ok dX0_follow_75 rfl ?_
          exact hk2 _ _ _ h
      · replace h := h.2 hc3
        refine r_aload_n ok dX0_follow_25 1 rfl ?_
        refine r_iload_n ok dX0_follow_26 2 rfl ?_
        refine r_iconst (v := 1) ok dX0_follow_27 rfl ?_
        refine cl_X0_20 ok isW_11 dX0_follow_28 (by decide) (Nat.le_of_ble_eq_true rfl) h (fun S8 h => ?_)
        refine r_goto (tgt := 72) ok dX0_follow_31 rfl ?_
        refine r_iinc (v := x3 + 1) ok dX0_follow_72 3 rfl rfl (by decide) [(0, .ref (xad X 69)), (1, .ref (xad X 11)), (2, .int x2), (3, .int (x3 + 1))] [1, 2, 3, 0] rfl ?_
        refine r_goto (tgt := 2) ok dX0_follow_75 rfl ?_
        exact hk2 _ _ _ h
theorem w_wp_X0_follow {X : Cx} (ok : Ok X cX0_follow 5 RX0 3 73) {post : Int32 → St → Prop} (hret : RetI X cX0_follow 5 post) {x2 : Int32} {S : St} (h : wp_X0_follow x2 S post) : Wp X 5 0 [(0, .ref (xad X 69)), (1, .ref (xad X 11)), (2, .int x2)] [] S := by
  unfold wp_X0_follow at h
  refine r_iconst (v := 0) ok dX0_follow_0 rfl ?_
  refine r_istore_n ok dX0_follow_1 (by decide) [(0, .ref (xad X 69)), (1, .ref (xad X 11)), (2, .int x2), (3, .int 0)] [1, 2, 3, 0] rfl ?_
  exact w_B_X0_follow_2 ok hret h
theorem c_X0_follow (l : Launch) (G : Gx) {x2 : Int32} {S : St} {post : Int32 → St → Prop} (h : wp_X0_follow x2 S post) : MtI l yX0_follow cX0_follow 5 (some .int) 3 73 G [.ref (G.2.2 69), .ref (G.2.2 11), .int x2] S post :=
  ctI (by decide) rfl (Nat.le_of_ble_eq_true rfl) (fun X _ hG ok hret => by subst hG; exact w_wp_X0_follow ok hret h)
