/-! HasteRoads$Search.stepAt(II)I -/
theorem dX4_stepAt_0 : decode cX4_stepAt 0 = .ok (.aload_n 0, 1) := by decide +kernel
theorem dX4_stepAt_1 : decode cX4_stepAt 1 = .ok (.iload_n 1, 1) := by decide +kernel
theorem dX4_stepAt_2 : decode cX4_stepAt 2 = .ok (.invokevirtual 66, 3) := by decide +kernel
theorem dX4_stepAt_5 : decode cX4_stepAt 5 = .ok (.istore_n 3, 1) := by decide +kernel
theorem dX4_stepAt_6 : decode cX4_stepAt 6 = .ok (.iload_n 3, 1) := by decide +kernel
theorem dX4_stepAt_7 : decode cX4_stepAt 7 = .ok (.iconst (-1), 1) := by decide +kernel
theorem dX4_stepAt_8 : decode cX4_stepAt 8 = .ok (.if_icmp .ne 5, 3) := by decide +kernel
theorem dX4_stepAt_11 : decode cX4_stepAt 11 = .ok (.iconst (-1), 1) := by decide +kernel
theorem dX4_stepAt_12 : decode cX4_stepAt 12 = .ok (.ireturn, 1) := by decide +kernel
theorem dX4_stepAt_13 : decode cX4_stepAt 13 = .ok (.aload_n 0, 1) := by decide +kernel
theorem dX4_stepAt_14 : decode cX4_stepAt 14 = .ok (.iload_n 1, 1) := by decide +kernel
theorem dX4_stepAt_15 : decode cX4_stepAt 15 = .ok (.iload_n 3, 1) := by decide +kernel
theorem dX4_stepAt_16 : decode cX4_stepAt 16 = .ok (.invokevirtual 120, 3) := by decide +kernel
theorem dX4_stepAt_19 : decode cX4_stepAt 19 = .ok (.iconst 0, 1) := by decide +kernel
theorem dX4_stepAt_20 : decode cX4_stepAt 20 = .ok (.istore 4, 2) := by decide +kernel
theorem dX4_stepAt_22 : decode cX4_stepAt 22 = .ok (.iload 4, 2) := by decide +kernel
theorem dX4_stepAt_24 : decode cX4_stepAt 24 = .ok (.iload_n 2, 1) := by decide +kernel
theorem dX4_stepAt_25 : decode cX4_stepAt 25 = .ok (.if_icmp .ge 61, 3) := by decide +kernel
theorem dX4_stepAt_28 : decode cX4_stepAt 28 = .ok (.aload_n 0, 1) := by decide +kernel
theorem dX4_stepAt_29 : decode cX4_stepAt 29 = .ok (.iload_n 1, 1) := by decide +kernel
theorem dX4_stepAt_30 : decode cX4_stepAt 30 = .ok (.invokevirtual 123, 3) := by decide +kernel
theorem dX4_stepAt_33 : decode cX4_stepAt 33 = .ok (.istore 5, 2) := by decide +kernel
theorem dX4_stepAt_35 : decode cX4_stepAt 35 = .ok (.iload 5, 2) := by decide +kernel
theorem dX4_stepAt_37 : decode cX4_stepAt 37 = .ok (.iconst (-1), 1) := by decide +kernel
theorem dX4_stepAt_38 : decode cX4_stepAt 38 = .ok (.if_icmp .ne 5, 3) := by decide +kernel
theorem dX4_stepAt_41 : decode cX4_stepAt 41 = .ok (.iconst (-1), 1) := by decide +kernel
theorem dX4_stepAt_42 : decode cX4_stepAt 42 = .ok (.ireturn, 1) := by decide +kernel
theorem dX4_stepAt_43 : decode cX4_stepAt 43 = .ok (.iload 5, 2) := by decide +kernel
theorem dX4_stepAt_45 : decode cX4_stepAt 45 = .ok (.bipush (-2), 2) := by decide +kernel
theorem dX4_stepAt_47 : decode cX4_stepAt 47 = .ok (.if_icmp .ne 15, 3) := by decide +kernel
theorem dX4_stepAt_50 : decode cX4_stepAt 50 = .ok (.aload_n 0, 1) := by decide +kernel
theorem dX4_stepAt_51 : decode cX4_stepAt 51 = .ok (.getfield 25, 3) := by decide +kernel
theorem dX4_stepAt_54 : decode cX4_stepAt 54 = .ok (.iload_n 1, 1) := by decide +kernel
theorem dX4_stepAt_55 : decode cX4_stepAt 55 = .ok (.iconst 1, 1) := by decide +kernel
theorem dX4_stepAt_56 : decode cX4_stepAt 56 = .ok (.invokevirtual 126, 3) := by decide +kernel
theorem dX4_stepAt_59 : decode cX4_stepAt 59 = .ok (.goto 21, 3) := by decide +kernel
theorem dX4_stepAt_62 : decode cX4_stepAt 62 = .ok (.aload_n 0, 1) := by decide +kernel
theorem dX4_stepAt_63 : decode cX4_stepAt 63 = .ok (.getfield 25, 3) := by decide +kernel
theorem dX4_stepAt_66 : decode cX4_stepAt 66 = .ok (.iload_n 1, 1) := by decide +kernel
theorem dX4_stepAt_67 : decode cX4_stepAt 67 = .ok (.iload 5, 2) := by decide +kernel
theorem dX4_stepAt_69 : decode cX4_stepAt 69 = .ok (.bipush 10, 2) := by decide +kernel
theorem dX4_stepAt_71 : decode cX4_stepAt 71 = .ok (.idiv, 1) := by decide +kernel
theorem dX4_stepAt_72 : decode cX4_stepAt 72 = .ok (.iload 5, 2) := by decide +kernel
theorem dX4_stepAt_74 : decode cX4_stepAt 74 = .ok (.bipush 10, 2) := by decide +kernel
theorem dX4_stepAt_76 : decode cX4_stepAt 76 = .ok (.irem, 1) := by decide +kernel
theorem dX4_stepAt_77 : decode cX4_stepAt 77 = .ok (.invokevirtual 129, 3) := by decide +kernel
theorem dX4_stepAt_80 : decode cX4_stepAt 80 = .ok (.iinc 4 1, 3) := by decide +kernel
theorem dX4_stepAt_83 : decode cX4_stepAt 83 = .ok (.goto (-61), 3) := by decide +kernel
theorem dX4_stepAt_86 : decode cX4_stepAt 86 = .ok (.aload_n 0, 1) := by decide +kernel
theorem dX4_stepAt_87 : decode cX4_stepAt 87 = .ok (.iload_n 1, 1) := by decide +kernel
theorem dX4_stepAt_88 : decode cX4_stepAt 88 = .ok (.invokevirtual 123, 3) := by decide +kernel
theorem dX4_stepAt_91 : decode cX4_stepAt 91 = .ok (.ireturn, 1) := by decide +kernel
theorem cl_X4_66 {X : Cx} {cc : ByteArray} {nL pc fr lo : Nat} {L : List (Nat × Value)} {st : List Value} {S : St} (ok : Ok X cc nL RX4 fr lo) {x1 : Int32} (d : decode cc pc = .ok (.invokevirtual 66, 3)) (hroom : 5 ≤ fr ∧ 133 ≤ lo) (hst : (st.map fun v => v.category).sum ≤ 8) {post : Int32 → St → Prop} (h : wp_X4_soonestAtErrand x1 S post) (kk : ∀ (r : Int32) (S1 : St), post r S1 → Wp X nL (pc + 3) L (.int r :: st) S1) : Wp X nL pc L (.int x1 :: .ref (xad X 50) :: st) S :=
  r_callVi (n := 2) (f := 4) (lo1 := 112) (N := 1) (As := [.int x1]) ok tw_in_X4 tw_im_X4_soonestAtErrand tw_se_X4_soonestAtErrand tw_co_X4_soonestAtErrand tw_ml_X4_66 (by decide +kernel) rfl ob_50 rfl hroom hst d rfl (c_X4_soonestAtErrand (xl X) (xG X) h) kk
theorem cl_X4_120 {X : Cx} {cc : ByteArray} {nL pc fr lo : Nat} {L : List (Nat × Value)} {st : List Value} {S : St} (ok : Ok X cc nL RX4 fr lo) {x1 x2 : Int32} (d : decode cc pc = .ok (.invokevirtual 120, 3)) (hroom : 5 ≤ fr ∧ 130 ≤ lo) (hst : (st.map fun v => v.category).sum ≤ 8) {post : St → Prop} (h : wp_X4_lookBack x1 x2 S post) (kk : ∀ S1 : St, post S1 → Wp X nL (pc + 3) L st S1) : Wp X nL pc L (.int x2 :: .int x1 :: .ref (xad X 50) :: st) S :=
  r_callVv (n := 5) (f := 4) (lo1 := 106) (N := 2) (As := [.int x1, .int x2]) ok tw_in_X4 tw_im_X4_lookBack tw_se_X4_lookBack tw_co_X4_lookBack tw_ml_X4_120 (by decide +kernel) rfl ob_50 rfl hroom hst d rfl (c_X4_lookBack (xl X) (xG X) h) kk
theorem cl_X4_123 {X : Cx} {cc : ByteArray} {nL pc fr lo : Nat} {L : List (Nat × Value)} {st : List Value} {S : St} (ok : Ok X cc nL RX4 fr lo) {x1 : Int32} (d : decode cc pc = .ok (.invokevirtual 123, 3)) (hroom : 3 ≤ fr ∧ 77 ≤ lo) (hst : (st.map fun v => v.category).sum ≤ 8) {post : Int32 → St → Prop} (h : wp_X4_firstStep x1 S post) (kk : ∀ (r : Int32) (S1 : St), post r S1 → Wp X nL (pc + 3) L (.int r :: st) S1) : Wp X nL pc L (.int x1 :: .ref (xad X 50) :: st) S :=
  r_callVi (n := 8) (f := 2) (lo1 := 50) (N := 1) (As := [.int x1]) ok tw_in_X4 tw_im_X4_firstStep tw_se_X4_firstStep tw_co_X4_firstStep tw_ml_X4_123 (by decide +kernel) rfl ob_50 rfl hroom hst d rfl (c_X4_firstStep (xl X) (xG X) h) kk
theorem cl_X4_129 {X : Cx} {cc : ByteArray} {nL pc fr lo : Nat} {L : List (Nat × Value)} {st : List Value} {S : St} (ok : Ok X cc nL RX4 fr lo) {o : Nat} (ho : isW o) {x1 x2 x3 : Int32} (d : decode cc pc = .ok (.invokevirtual 129, 3)) (hroom : 3 ≤ fr ∧ 73 ≤ lo) (hst : (st.map fun v => v.category).sum ≤ 8) {post : St → Prop} (h : wp_X6_move o x1 x2 x3 S post) (kk : ∀ S1 : St, post S1 → Wp X nL (pc + 3) L st S1) : Wp X nL pc L (.int x3 :: .int x2 :: .int x1 :: .ref (xad X o) :: st) S :=
  r_callVv (n := 4) (f := 2) (lo1 := 50) (N := 3) (As := [.int x1, .int x2, .int x3]) ok tw_in_X6 tw_im_X6_move tw_se_X6_move tw_co_X6_move tw_ml_X4_129 (by decide +kernel) rfl ho.ob rfl hroom hst d rfl (c_X6_move (xl X) (xG X) ho h) kk
theorem cl_X4_126 {X : Cx} {cc : ByteArray} {nL pc fr lo : Nat} {L : List (Nat × Value)} {st : List Value} {S : St} (ok : Ok X cc nL RX4 fr lo) {o : Nat} (ho : isW o) {x1 x2 : Int32} (d : decode cc pc = .ok (.invokevirtual 126, 3)) (hroom : 3 ≤ fr ∧ 66 ≤ lo) (hst : (st.map fun v => v.category).sum ≤ 8) {post : St → Prop} (h : wp_X6_rest o x1 x2 S post) (kk : ∀ S1 : St, post S1 → Wp X nL (pc + 3) L st S1) : Wp X nL pc L (.int x2 :: .int x1 :: .ref (xad X o) :: st) S :=
  r_callVv (n := 3) (f := 2) (lo1 := 44) (N := 2) (As := [.int x1, .int x2]) ok tw_in_X6 tw_im_X6_rest tw_se_X6_rest tw_co_X6_rest tw_ml_X4_126 (by decide +kernel) rfl ho.ob rfl hroom hst d rfl (c_X6_rest (xl X) (xG X) ho h) kk
def B_X4_stepAt_86 (post : Int32 → St → Prop) (x1 : Int32) (S : St) : Prop :=
  wp_X4_firstStep x1 S (fun r2 S1 => post r2 S1)
def BD_X4_stepAt_22 (k22 : Int32 → Int32 → Int32 → St → Prop) (post : Int32 → St → Prop) (x1 : Int32) (x2 : Int32) (x4 : Int32) (S : St) : Prop :=
  ((x2 ≤ x4 → B_X4_stepAt_86 post x1 S) ∧ (¬ x2 ≤ x4 → wp_X4_firstStep x1 S (fun r3 S2 => ((¬ r3 = (-1) → ((¬ r3 = (-2) → wp_X6_move 11 x1 (r3 / 10) (r3 - r3 / 10 * 10) S2 (fun S6 => k22 x1 x2 (x4 + 1) S6)) ∧ (r3 = (-2) → wp_X6_rest 11 x1 1 S2 (fun S7 => k22 x1 x2 (x4 + 1) S7)))) ∧ (r3 = (-1) → post (-1) S2)))))
def L_X4_stepAt_22 (post : Int32 → St → Prop) (n : Nat) : Int32 → Int32 → Int32 → St → Prop := Nat.rec (motive := fun _ => Int32 → Int32 → Int32 → St → Prop) (fun _ _ _ _ => False) (fun _ ih => BD_X4_stepAt_22 ih post) n
def B_X4_stepAt_22 (post : Int32 → St → Prop) (x1 : Int32) (x2 : Int32) (x4 : Int32) (S : St) : Prop := ∃ n, L_X4_stepAt_22 post n x1 x2 x4 S
def wp_X4_stepAt (x1 : Int32) (x2 : Int32) (S : St) (post : Int32 → St → Prop) : Prop :=
  wp_X4_soonestAtErrand x1 S (fun r2 S1 => ((¬ r2 = (-1) → wp_X4_lookBack x1 r2 S1 (fun S4 => B_X4_stepAt_22 post x1 x2 0 S4)) ∧ (r2 = (-1) → post (-1) S1)))
theorem w_B_X4_stepAt_86 {X : Cx} (ok : Ok X cX4_stepAt 6 RX4 5 133) {post : Int32 → St → Prop} (hret : RetI X cX4_stepAt 6 post) {x1 : Int32} {S : St} (h : B_X4_stepAt_86 post x1 S) : Wp X 6 86 [(0, .ref (xad X 50)), (1, .int x1)] [] S := by
  unfold B_X4_stepAt_86 at h
  refine r_aload_n ok dX4_stepAt_86 0 rfl ?_
  refine r_iload_n ok dX4_stepAt_87 1 rfl ?_
  refine cl_X4_123 ok dX4_stepAt_88 (by decide) (Nat.le_of_ble_eq_true rfl) h (fun r2 S1 h => ?_)
  exact hret _ _ _ _ dX4_stepAt_91 h
theorem w_B_X4_stepAt_22 {X : Cx} (ok : Ok X cX4_stepAt 6 RX4 5 133) {post : Int32 → St → Prop} (hret : RetI X cX4_stepAt 6 post) {x1 x2 x4 : Int32} {S : St} (h : B_X4_stepAt_22 post x1 x2 x4 S) : Wp X 6 22 [(0, .ref (xad X 50)), (1, .int x1), (2, .int x2), (4, .int x4)] [] S := by
  obtain ⟨n, h⟩ := h
  induction n generalizing x1 x2 x4 S with
  | zero => exact False.elim h
  | succ n ih =>
    have hk22 : ∀ x1 x2 x4 S, L_X4_stepAt_22 post n x1 x2 x4 S → Wp X 6 22 [(0, .ref (xad X 50)), (1, .int x1), (2, .int x2), (4, .int x4)] [] S := by intros; apply ih; assumption
    replace h : BD_X4_stepAt_22 (L_X4_stepAt_22 post n) post x1 x2 x4 S := h
    unfold BD_X4_stepAt_22 at h
    generalize L_X4_stepAt_22 post n = k22 at h hk22
    refine r_iload ok dX4_stepAt_22 3 rfl ?_
    refine r_iload_n ok dX4_stepAt_24 2 rfl ?_
    refine r_icmp_ge (tgt := 86) ok dX4_stepAt_25 rfl (fun hc1 => ?_) (fun hc1 => ?_)
    · replace h := h.1 hc1
      refine r_sub [(0, .ref (xad X 50)), (1, .int x1)] [0, 1] rfl ?_
      exact w_B_X4_stepAt_86 ok hret h
    · replace h := h.2 hc1
      refine r_aload_n ok dX4_stepAt_28 0 rfl ?_
      refine r_iload_n ok dX4_stepAt_29 1 rfl ?_
      refine cl_X4_123 ok dX4_stepAt_30 (by decide) (Nat.le_of_ble_eq_true rfl) h (fun r3 S2 h => ?_)
      refine r_istore ok dX4_stepAt_33 (by decide) [(0, .ref (xad X 50)), (1, .int x1), (2, .int x2), (4, .int x4), (5, .int r3)] [1, 2, 3, 4, 0] rfl ?_
      refine r_iload ok dX4_stepAt_35 4 rfl ?_
      refine r_iconst (v := (-1)) ok dX4_stepAt_37 rfl ?_
      refine r_icmp_ne (tgt := 43) ok dX4_stepAt_38 rfl (fun hc4 => ?_) (fun hc4 => ?_)
      · replace h := h.1 hc4
        refine r_iload ok dX4_stepAt_43 4 rfl ?_
        refine r_bipush (v := (-2)) ok dX4_stepAt_45 rfl ?_
        refine r_icmp_ne (tgt := 62) ok dX4_stepAt_47 rfl (fun hc5 => ?_) (fun hc5 => ?_)
        · replace h := h.1 hc5
          refine r_aload_n ok dX4_stepAt_62 0 rfl ?_
          refine gf_X4_25 ok dX4_stepAt_63 ?_
          refine r_iload_n ok dX4_stepAt_66 1 rfl ?_
          refine r_iload ok dX4_stepAt_67 4 rfl ?_
          refine r_bipush (v := 10) ok dX4_stepAt_69 rfl ?_
          refine r_idiv ok dX4_stepAt_71 (by decide) ?_
          refine r_iload ok dX4_stepAt_72 4 rfl ?_
          refine r_bipush (v := 10) ok dX4_stepAt_74 rfl ?_
          refine r_irem ok dX4_stepAt_76 (by decide) ?_
          refine cl_X4_129 ok isW_11 dX4_stepAt_77 (by decide) (Nat.le_of_ble_eq_true rfl) h (fun S6 h => ?_)
          refine r_iinc (v := x4 + 1) ok dX4_stepAt_80 3 rfl rfl (by decide) [(0, .ref (xad X 50)), (1, .int x1), (2, .int x2), (4, .int (x4 + 1))] [1, 2, 3, 0] rfl ?_
          refine r_goto (tgt := 22) ok dX4_stepAt_83 rfl ?_
          exact hk22 _ _ _ _ h
        · replace h := h.2 hc5
          refine r_aload_n ok dX4_stepAt_50 0 rfl ?_
          refine gf_X4_25 ok dX4_stepAt_51 ?_
          refine r_iload_n ok dX4_stepAt_54 1 rfl ?_
          refine r_iconst (v := 1) ok dX4_stepAt_55 rfl ?_
          refine cl_X4_126 ok isW_11 dX4_stepAt_56 (by decide) (Nat.le_of_ble_eq_true rfl) h (fun S7 h => ?_)
          refine r_goto (tgt := 80) ok dX4_stepAt_59 rfl ?_
          refine r_iinc (v := x4 + 1) ok dX4_stepAt_80 3 rfl rfl (by decide) [(0, .ref (xad X 50)), (1, .int x1), (2, .int x2), (4, .int (x4 + 1))] [1, 2, 3, 0] rfl ?_
          refine r_goto (tgt := 22) ok dX4_stepAt_83 rfl ?_
          exact hk22 _ _ _ _ h
      · replace h := h.2 hc4
        refine r_iconst (v := (-1)) ok dX4_stepAt_41 rfl ?_
        exact hret _ _ _ _ dX4_stepAt_42 h
theorem w_wp_X4_stepAt {X : Cx} (ok : Ok X cX4_stepAt 6 RX4 5 133) {post : Int32 → St → Prop} (hret : RetI X cX4_stepAt 6 post) {x1 x2 : Int32} {S : St} (h : wp_X4_stepAt x1 x2 S post) : Wp X 6 0 [(0, .ref (xad X 50)), (1, .int x1), (2, .int x2)] [] S := by
  unfold wp_X4_stepAt at h
  refine r_aload_n ok dX4_stepAt_0 0 rfl ?_
  refine r_iload_n ok dX4_stepAt_1 1 rfl ?_
  refine cl_X4_66 ok dX4_stepAt_2 (by decide) (Nat.le_of_ble_eq_true rfl) h (fun r2 S1 h => ?_)
  refine r_istore_n ok dX4_stepAt_5 (by decide) [(0, .ref (xad X 50)), (1, .int x1), (2, .int x2), (3, .int r2)] [1, 2, 3, 0] rfl ?_
  refine r_iload_n ok dX4_stepAt_6 3 rfl ?_
  refine r_iconst (v := (-1)) ok dX4_stepAt_7 rfl ?_
  refine r_icmp_ne (tgt := 13) ok dX4_stepAt_8 rfl (fun hc3 => ?_) (fun hc3 => ?_)
  · replace h := h.1 hc3
    refine r_aload_n ok dX4_stepAt_13 0 rfl ?_
    refine r_iload_n ok dX4_stepAt_14 1 rfl ?_
    refine r_iload_n ok dX4_stepAt_15 3 rfl ?_
    refine cl_X4_120 ok dX4_stepAt_16 (by decide) (Nat.le_of_ble_eq_true rfl) h (fun S4 h => ?_)
    refine r_iconst (v := 0) ok dX4_stepAt_19 rfl ?_
    refine r_istore ok dX4_stepAt_20 (by decide) [(0, .ref (xad X 50)), (1, .int x1), (2, .int x2), (4, .int 0)] [1, 2, 3, 0] rfl ?_
    exact w_B_X4_stepAt_22 ok hret h
  · replace h := h.2 hc3
    refine r_iconst (v := (-1)) ok dX4_stepAt_11 rfl ?_
    exact hret _ _ _ _ dX4_stepAt_12 h
theorem c_X4_stepAt (l : Launch) (G : Gx) {x1 x2 : Int32} {S : St} {post : Int32 → St → Prop} (h : wp_X4_stepAt x1 x2 S post) : MtI l yX4_stepAt cX4_stepAt 6 (some .int) 5 133 G [.ref (G.2.2 50), .int x1, .int x2] S post :=
  ctI (by decide) rfl (Nat.le_of_ble_eq_true rfl) (fun X _ hG ok hret => by subst hG; exact w_wp_X4_stepAt ok hret h)

/-! HasteRoads$Search.allTogether()I -/
theorem dX4_allTogether_0 : decode cX4_allTogether 0 = .ok (.iconst 0, 1) := by decide +kernel
theorem dX4_allTogether_1 : decode cX4_allTogether 1 = .ok (.istore_n 1, 1) := by decide +kernel
theorem dX4_allTogether_2 : decode cX4_allTogether 2 = .ok (.iconst 0, 1) := by decide +kernel
theorem dX4_allTogether_3 : decode cX4_allTogether 3 = .ok (.istore_n 2, 1) := by decide +kernel
theorem dX4_allTogether_4 : decode cX4_allTogether 4 = .ok (.iload_n 2, 1) := by decide +kernel
theorem dX4_allTogether_5 : decode cX4_allTogether 5 = .ok (.aload_n 0, 1) := by decide +kernel
theorem dX4_allTogether_6 : decode cX4_allTogether 6 = .ok (.getfield 25, 3) := by decide +kernel
theorem dX4_allTogether_9 : decode cX4_allTogether 9 = .ok (.getfield 62, 3) := by decide +kernel
theorem dX4_allTogether_12 : decode cX4_allTogether 12 = .ok (.if_icmp .ge 26, 3) := by decide +kernel
theorem dX4_allTogether_15 : decode cX4_allTogether 15 = .ok (.aload_n 0, 1) := by decide +kernel
theorem dX4_allTogether_16 : decode cX4_allTogether 16 = .ok (.iload_n 2, 1) := by decide +kernel
theorem dX4_allTogether_17 : decode cX4_allTogether 17 = .ok (.invokevirtual 66, 3) := by decide +kernel
theorem dX4_allTogether_20 : decode cX4_allTogether 20 = .ok (.istore_n 3, 1) := by decide +kernel
theorem dX4_allTogether_21 : decode cX4_allTogether 21 = .ok (.iload_n 3, 1) := by decide +kernel
theorem dX4_allTogether_22 : decode cX4_allTogether 22 = .ok (.iconst (-1), 1) := by decide +kernel
theorem dX4_allTogether_23 : decode cX4_allTogether 23 = .ok (.if_icmp .ne 5, 3) := by decide +kernel
theorem dX4_allTogether_26 : decode cX4_allTogether 26 = .ok (.iconst (-1), 1) := by decide +kernel
theorem dX4_allTogether_27 : decode cX4_allTogether 27 = .ok (.ireturn, 1) := by decide +kernel
theorem dX4_allTogether_28 : decode cX4_allTogether 28 = .ok (.iload_n 1, 1) := by decide +kernel
theorem dX4_allTogether_29 : decode cX4_allTogether 29 = .ok (.iload_n 3, 1) := by decide +kernel
theorem dX4_allTogether_30 : decode cX4_allTogether 30 = .ok (.iadd, 1) := by decide +kernel
theorem dX4_allTogether_31 : decode cX4_allTogether 31 = .ok (.istore_n 1, 1) := by decide +kernel
theorem dX4_allTogether_32 : decode cX4_allTogether 32 = .ok (.iinc 2 1, 3) := by decide +kernel
theorem dX4_allTogether_35 : decode cX4_allTogether 35 = .ok (.goto (-31), 3) := by decide +kernel
theorem dX4_allTogether_38 : decode cX4_allTogether 38 = .ok (.iload_n 1, 1) := by decide +kernel
theorem dX4_allTogether_39 : decode cX4_allTogether 39 = .ok (.ireturn, 1) := by decide +kernel
theorem gf_X4_62 {X : Cx} {cc : ByteArray} {nL pc fr lo : Nat} {L : List (Nat × Value)} {st : List Value} {S : St} (ok : Ok X cc nL RX4 fr lo) {o : Nat} (ho : isW o) (d : decode cc pc = .ok (.getfield 62, 3)) (k : Wp X nL (pc + 3) L (.int (S o 2) :: st) S) : Wp X nL pc L (.ref (xad X o) :: st) S :=
  r_get (C := RX6) (T := TX6) ok ho.ob rfl i_X6 2 (by decide) tw_fl_X4_62 d (by rw [show fvl (xad X) S o 2 = .int (S o 2) from (fvl_int (ho.ri 2 (by decide)))]; exact k)
def BD_X4_allTogether_4 (k4 : Int32 → Int32 → St → Prop) (post : Int32 → St → Prop) (x1 : Int32) (x2 : Int32) (S : St) : Prop :=
  (((S 11 2) ≤ x2 → post x1 S) ∧ (¬ (S 11 2) ≤ x2 → wp_X4_soonestAtErrand x2 S (fun r3 S2 => ((¬ r3 = (-1) → ∀ v5 : Int32, v5 = (x1 + r3) → k4 v5 (x2 + 1) S2) ∧ (r3 = (-1) → post (-1) S2)))))
def L_X4_allTogether_4 (post : Int32 → St → Prop) (n : Nat) : Int32 → Int32 → St → Prop := Nat.rec (motive := fun _ => Int32 → Int32 → St → Prop) (fun _ _ _ => False) (fun _ ih => BD_X4_allTogether_4 ih post) n
def B_X4_allTogether_4 (post : Int32 → St → Prop) (x1 : Int32) (x2 : Int32) (S : St) : Prop := ∃ n, L_X4_allTogether_4 post n x1 x2 S
def wp_X4_allTogether (S : St) (post : Int32 → St → Prop) : Prop :=
  B_X4_allTogether_4 post 0 0 S
theorem w_B_X4_allTogether_4 {X : Cx} (ok : Ok X cX4_allTogether 4 RX4 5 133) {post : Int32 → St → Prop} (hret : RetI X cX4_allTogether 4 post) {x1 x2 : Int32} {S : St} (h : B_X4_allTogether_4 post x1 x2 S) : Wp X 4 4 [(0, .ref (xad X 50)), (1, .int x1), (2, .int x2)] [] S := by
  obtain ⟨n, h⟩ := h
  induction n generalizing x1 x2 S with
  | zero => exact False.elim h
  | succ n ih =>
    have hk4 : ∀ x1 x2 S, L_X4_allTogether_4 post n x1 x2 S → Wp X 4 4 [(0, .ref (xad X 50)), (1, .int x1), (2, .int x2)] [] S := by intros; apply ih; assumption
    replace h : BD_X4_allTogether_4 (L_X4_allTogether_4 post n) post x1 x2 S := h
    unfold BD_X4_allTogether_4 at h
    generalize L_X4_allTogether_4 post n = k4 at h hk4
    refine r_iload_n ok dX4_allTogether_4 2 rfl ?_
    refine r_aload_n ok dX4_allTogether_5 0 rfl ?_
    refine gf_X4_25 ok dX4_allTogether_6 ?_
    refine gf_X4_62 ok isW_11 dX4_allTogether_9 ?_
    refine r_icmp_ge (tgt := 38) ok dX4_allTogether_12 rfl (fun hc1 => ?_) (fun hc1 => ?_)
    · replace h := h.1 hc1
      refine r_iload_n ok dX4_allTogether_38 1 rfl ?_
      exact hret _ _ _ _ dX4_allTogether_39 h
    · replace h := h.2 hc1
      refine r_aload_n ok dX4_allTogether_15 0 rfl ?_
      refine r_iload_n ok dX4_allTogether_16 2 rfl ?_
      refine cl_X4_66 ok dX4_allTogether_17 (by decide) (Nat.le_of_ble_eq_true rfl) h (fun r3 S2 h => ?_)
      refine r_istore_n ok dX4_allTogether_20 (by decide) [(0, .ref (xad X 50)), (1, .int x1), (2, .int x2), (3, .int r3)] [1, 2, 3, 0] rfl ?_
      refine r_iload_n ok dX4_allTogether_21 3 rfl ?_
      refine r_iconst (v := (-1)) ok dX4_allTogether_22 rfl ?_
      refine r_icmp_ne (tgt := 28) ok dX4_allTogether_23 rfl (fun hc4 => ?_) (fun hc4 => ?_)
      · replace h := h.1 hc4
        refine r_iload_n ok dX4_allTogether_28 1 rfl ?_
        refine r_iload_n ok dX4_allTogether_29 3 rfl ?_
        refine r_iadd ok dX4_allTogether_30 ?_
        refine r_top (fun v5 ev5 => ?_)
        replace h := h v5 ev5
        refine r_istore_n ok dX4_allTogether_31 (by decide) [(0, .ref (xad X 50)), (1, .int v5), (2, .int x2)] [1, 0, 2] rfl ?_
        refine r_iinc (v := x2 + 1) ok dX4_allTogether_32 2 rfl rfl (by decide) [(0, .ref (xad X 50)), (1, .int v5), (2, .int (x2 + 1))] [1, 2, 0] rfl ?_
        refine r_goto (tgt := 4) ok dX4_allTogether_35 rfl ?_
        exact hk4 _ _ _ h
      · replace h := h.2 hc4
        refine r_iconst (v := (-1)) ok dX4_allTogether_26 rfl ?_
        exact hret _ _ _ _ dX4_allTogether_27 h
theorem w_wp_X4_allTogether {X : Cx} (ok : Ok X cX4_allTogether 4 RX4 5 133) {post : Int32 → St → Prop} (hret : RetI X cX4_allTogether 4 post) {S : St} (h : wp_X4_allTogether S post) : Wp X 4 0 [(0, .ref (xad X 50))] [] S := by
  unfold wp_X4_allTogether at h
  refine r_iconst (v := 0) ok dX4_allTogether_0 rfl ?_
  refine r_istore_n ok dX4_allTogether_1 (by decide) [(0, .ref (xad X 50)), (1, .int 0)] [1, 0] rfl ?_
  refine r_iconst (v := 0) ok dX4_allTogether_2 rfl ?_
  refine r_istore_n ok dX4_allTogether_3 (by decide) [(0, .ref (xad X 50)), (1, .int 0), (2, .int 0)] [1, 2, 0] rfl ?_
  exact w_B_X4_allTogether_4 ok hret h
theorem c_X4_allTogether (l : Launch) (G : Gx) {S : St} {post : Int32 → St → Prop} (h : wp_X4_allTogether S post) : MtI l yX4_allTogether cX4_allTogether 4 (some .int) 5 133 G [.ref (G.2.2 50)] S post :=
  ctI (by decide) rfl (Nat.le_of_ble_eq_true rfl) (fun X _ hG ok hret => by subst hG; exact w_wp_X4_allTogether ok hret h)

/-! HasteRoads$Search.soonestWith(I)I -/
theorem dX4_soonestWith_0 : decode cX4_soonestWith 0 = .ok (.ldc 29, 2) := by decide +kernel
theorem dX4_soonestWith_2 : decode cX4_soonestWith 2 = .ok (.istore_n 2, 1) := by decide +kernel
theorem dX4_soonestWith_3 : decode cX4_soonestWith 3 = .ok (.iconst 0, 1) := by decide +kernel
theorem dX4_soonestWith_4 : decode cX4_soonestWith 4 = .ok (.istore_n 3, 1) := by decide +kernel
theorem dX4_soonestWith_5 : decode cX4_soonestWith 5 = .ok (.iload_n 3, 1) := by decide +kernel
theorem dX4_soonestWith_6 : decode cX4_soonestWith 6 = .ok (.bipush 36, 2) := by decide +kernel
theorem dX4_soonestWith_8 : decode cX4_soonestWith 8 = .ok (.if_icmp .ge 25, 3) := by decide +kernel
theorem dX4_soonestWith_11 : decode cX4_soonestWith 11 = .ok (.iload_n 2, 1) := by decide +kernel
theorem dX4_soonestWith_12 : decode cX4_soonestWith 12 = .ok (.aload_n 0, 1) := by decide +kernel
theorem dX4_soonestWith_13 : decode cX4_soonestWith 13 = .ok (.getfield 9, 3) := by decide +kernel
theorem dX4_soonestWith_16 : decode cX4_soonestWith 16 = .ok (.iload_n 1, 1) := by decide +kernel
theorem dX4_soonestWith_17 : decode cX4_soonestWith 17 = .ok (.bipush 36, 2) := by decide +kernel
theorem dX4_soonestWith_19 : decode cX4_soonestWith 19 = .ok (.imul, 1) := by decide +kernel
theorem dX4_soonestWith_20 : decode cX4_soonestWith 20 = .ok (.iload_n 3, 1) := by decide +kernel
theorem dX4_soonestWith_21 : decode cX4_soonestWith 21 = .ok (.iadd, 1) := by decide +kernel
theorem dX4_soonestWith_22 : decode cX4_soonestWith 22 = .ok (.iaload, 1) := by decide +kernel
theorem dX4_soonestWith_23 : decode cX4_soonestWith 23 = .ok (.invokestatic 45, 3) := by decide +kernel
theorem dX4_soonestWith_26 : decode cX4_soonestWith 26 = .ok (.istore_n 2, 1) := by decide +kernel
theorem dX4_soonestWith_27 : decode cX4_soonestWith 27 = .ok (.iinc 3 1, 3) := by decide +kernel
theorem dX4_soonestWith_30 : decode cX4_soonestWith 30 = .ok (.goto (-25), 3) := by decide +kernel
theorem dX4_soonestWith_33 : decode cX4_soonestWith 33 = .ok (.iload_n 2, 1) := by decide +kernel
theorem dX4_soonestWith_34 : decode cX4_soonestWith 34 = .ok (.ldc 29, 2) := by decide +kernel
theorem dX4_soonestWith_36 : decode cX4_soonestWith 36 = .ok (.if_icmp .ne 7, 3) := by decide +kernel
theorem dX4_soonestWith_39 : decode cX4_soonestWith 39 = .ok (.iconst (-1), 1) := by decide +kernel
theorem dX4_soonestWith_40 : decode cX4_soonestWith 40 = .ok (.goto 4, 3) := by decide +kernel
theorem dX4_soonestWith_43 : decode cX4_soonestWith 43 = .ok (.iload_n 2, 1) := by decide +kernel
theorem dX4_soonestWith_44 : decode cX4_soonestWith 44 = .ok (.ireturn, 1) := by decide +kernel

def B_X4_soonestWith_33 (post : Int32 → St → Prop) (x2 : Int32) (S : St) : Prop :=
  ((¬ x2 = 1000000000 → post x2 S) ∧ (x2 = 1000000000 → post (-1) S))
def BD_X4_soonestWith_5 (k5 : Int32 → Int32 → Int32 → St → Prop) (post : Int32 → St → Prop) (x1 : Int32) (x2 : Int32) (x3 : Int32) (S : St) : Prop :=
  ((36 ≤ x3 → B_X4_soonestWith_33 post x2 S) ∧ (¬ 36 ≤ x3 → vp_in ((x1 * 36) + x3) 2304 ∧ (∀ v2 : Int32, v2 = (if (S 51 (ix ((x1 * 36) + x3))) < x2 then (S 51 (ix ((x1 * 36) + x3))) else x2) → k5 x1 v2 (x3 + 1) S)))
def L_X4_soonestWith_5 (post : Int32 → St → Prop) (n : Nat) : Int32 → Int32 → Int32 → St → Prop := Nat.rec (motive := fun _ => Int32 → Int32 → Int32 → St → Prop) (fun _ _ _ _ => False) (fun _ ih => BD_X4_soonestWith_5 ih post) n
def B_X4_soonestWith_5 (post : Int32 → St → Prop) (x1 : Int32) (x2 : Int32) (x3 : Int32) (S : St) : Prop := ∃ n, L_X4_soonestWith_5 post n x1 x2 x3 S
def wp_X4_soonestWith (x1 : Int32) (S : St) (post : Int32 → St → Prop) : Prop :=
  B_X4_soonestWith_5 post x1 1000000000 0 S
theorem w_B_X4_soonestWith_33 {X : Cx} (ok : Ok X cX4_soonestWith 4 RX4 1 21) {post : Int32 → St → Prop} (hret : RetI X cX4_soonestWith 4 post) {x2 : Int32} {S : St} (h : B_X4_soonestWith_33 post x2 S) : Wp X 4 33 [(2, .int x2)] [] S := by
  unfold B_X4_soonestWith_33 at h
  refine r_iload_n ok dX4_soonestWith_33 0 rfl ?_
  refine r_ldc (v := 1000000000) ok dX4_soonestWith_34 tw_k_X4_29 ?_
  refine r_icmp_ne (tgt := 43) ok dX4_soonestWith_36 rfl (fun hc1 => ?_) (fun hc1 => ?_)
  · replace h := h.1 hc1
    refine r_iload_n ok dX4_soonestWith_43 0 rfl ?_
    exact hret _ _ _ _ dX4_soonestWith_44 h
  · replace h := h.2 hc1
    refine r_iconst (v := (-1)) ok dX4_soonestWith_39 rfl ?_
    refine r_goto (tgt := 44) ok dX4_soonestWith_40 rfl ?_
    exact hret _ _ _ _ dX4_soonestWith_44 h
theorem w_B_X4_soonestWith_5 {X : Cx} (ok : Ok X cX4_soonestWith 4 RX4 1 21) {post : Int32 → St → Prop} (hret : RetI X cX4_soonestWith 4 post) {x1 x2 x3 : Int32} {S : St} (h : B_X4_soonestWith_5 post x1 x2 x3 S) : Wp X 4 5 [(0, .ref (xad X 50)), (1, .int x1), (2, .int x2), (3, .int x3)] [] S := by
  obtain ⟨n, h⟩ := h
  induction n generalizing x1 x2 x3 S with
  | zero => exact False.elim h
  | succ n ih =>
    have hk5 : ∀ x1 x2 x3 S, L_X4_soonestWith_5 post n x1 x2 x3 S → Wp X 4 5 [(0, .ref (xad X 50)), (1, .int x1), (2, .int x2), (3, .int x3)] [] S := by intros; apply ih; assumption
    replace h : BD_X4_soonestWith_5 (L_X4_soonestWith_5 post n) post x1 x2 x3 S := h
    unfold BD_X4_soonestWith_5 at h
    generalize L_X4_soonestWith_5 post n = k5 at h hk5
    refine r_iload_n ok dX4_soonestWith_5 3 rfl ?_
    refine r_bipush (v := 36) ok dX4_soonestWith_6 rfl ?_
    refine r_icmp_ge (tgt := 33) ok dX4_soonestWith_8 rfl (fun hc1 => ?_) (fun hc1 => ?_)
    · replace h := h.1 hc1
      refine r_sub [(2, .int x2)] [2] rfl ?_
      exact w_B_X4_soonestWith_33 ok hret h
    · replace h := h.2 hc1
      refine r_iload_n ok dX4_soonestWith_11 2 rfl ?_
      refine r_aload_n ok dX4_soonestWith_12 0 rfl ?_
      refine gf_X4_9 ok dX4_soonestWith_13 ?_
      refine r_iload_n ok dX4_soonestWith_16 1 rfl ?_
      refine r_bipush (v := 36) ok dX4_soonestWith_17 rfl ?_
      refine r_imul ok dX4_soonestWith_19 ?_
      refine r_iload_n ok dX4_soonestWith_20 3 rfl ?_
      refine r_iadd ok dX4_soonestWith_21 ?_
      refine r_iald ok ai_51 h.1 rfl dX4_soonestWith_22 ?_
      replace h := h.2
      refine r_min ok dX4_soonestWith_23 tw_ml_X4_45 tw_st_Math_min tw_in_Math tw_co_Math_min (by decide) (Nat.le_of_ble_eq_true rfl) ?_
      refine r_top (fun v2 ev2 => ?_)
      replace h := h v2 ev2
      refine r_istore_n ok dX4_soonestWith_26 (by decide) [(0, .ref (xad X 50)), (1, .int x1), (2, .int v2), (3, .int x3)] [1, 2, 0, 3] rfl ?_
      refine r_iinc (v := x3 + 1) ok dX4_soonestWith_27 3 rfl rfl (by decide) [(0, .ref (xad X 50)), (1, .int x1), (2, .int v2), (3, .int (x3 + 1))] [1, 2, 3, 0] rfl ?_
      refine r_goto (tgt := 5) ok dX4_soonestWith_30 rfl ?_
      exact hk5 _ _ _ _ h
theorem w_wp_X4_soonestWith {X : Cx} (ok : Ok X cX4_soonestWith 4 RX4 1 21) {post : Int32 → St → Prop} (hret : RetI X cX4_soonestWith 4 post) {x1 : Int32} {S : St} (h : wp_X4_soonestWith x1 S post) : Wp X 4 0 [(0, .ref (xad X 50)), (1, .int x1)] [] S := by
  unfold wp_X4_soonestWith at h
  refine r_ldc (v := 1000000000) ok dX4_soonestWith_0 tw_k_X4_29 ?_
  refine r_istore_n ok dX4_soonestWith_2 (by decide) [(0, .ref (xad X 50)), (1, .int x1), (2, .int 1000000000)] [1, 2, 0] rfl ?_
  refine r_iconst (v := 0) ok dX4_soonestWith_3 rfl ?_
  refine r_istore_n ok dX4_soonestWith_4 (by decide) [(0, .ref (xad X 50)), (1, .int x1), (2, .int 1000000000), (3, .int 0)] [1, 2, 3, 0] rfl ?_
  exact w_B_X4_soonestWith_5 ok hret h
theorem c_X4_soonestWith (l : Launch) (G : Gx) {x1 : Int32} {S : St} {post : Int32 → St → Prop} (h : wp_X4_soonestWith x1 S post) : MtI l yX4_soonestWith cX4_soonestWith 4 (some .int) 1 21 G [.ref (G.2.2 50), .int x1] S post :=
  ctI (by decide) rfl (Nat.le_of_ble_eq_true rfl) (fun X _ hG ok hret => by subst hG; exact w_wp_X4_soonestWith ok hret h)
