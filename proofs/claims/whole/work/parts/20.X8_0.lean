/-! HasteRoadsModel.in(III)Z -/
theorem dX8_in_0 : decode cX8_in 0 = .ok (.iload_n 0, 1) := by decide +kernel
theorem dX8_in_1 : decode cX8_in 1 = .ok (.iload_n 1, 1) := by decide +kernel
theorem dX8_in_2 : decode cX8_in 2 = .ok (.if_icmp .lt 12, 3) := by decide +kernel
theorem dX8_in_5 : decode cX8_in 5 = .ok (.iload_n 0, 1) := by decide +kernel
theorem dX8_in_6 : decode cX8_in 6 = .ok (.iload_n 2, 1) := by decide +kernel
theorem dX8_in_7 : decode cX8_in 7 = .ok (.if_icmp .gt 7, 3) := by decide +kernel
theorem dX8_in_10 : decode cX8_in 10 = .ok (.iconst 1, 1) := by decide +kernel
theorem dX8_in_11 : decode cX8_in 11 = .ok (.goto 4, 3) := by decide +kernel
theorem dX8_in_14 : decode cX8_in 14 = .ok (.iconst 0, 1) := by decide +kernel
theorem dX8_in_15 : decode cX8_in 15 = .ok (.ireturn, 1) := by decide +kernel

def wp_X8_in (x0 : Int32) (x1 : Int32) (x2 : Int32) (S : St) (post : Int32 → St → Prop) : Prop :=
  ((x0 < x1 → post 0 S) ∧ (¬ x0 < x1 → ((x2 < x0 → post 0 S) ∧ (¬ x2 < x0 → post 1 S))))
theorem w_wp_X8_in {X : Cx} (ok : Ok X cX8_in 3 RX8 0 0) {post : Int32 → St → Prop} (hret : RetZ X cX8_in 3 post) {x0 x1 x2 : Int32} {S : St} (h : wp_X8_in x0 x1 x2 S post) : Wp X 3 0 [(0, .int x0), (1, .int x1), (2, .int x2)] [] S := by
  unfold wp_X8_in at h
  refine r_iload_n ok dX8_in_0 0 rfl ?_
  refine r_iload_n ok dX8_in_1 1 rfl ?_
  refine r_icmp_lt (tgt := 14) ok dX8_in_2 rfl (fun hc1 => ?_) (fun hc1 => ?_)
  · replace h := h.1 hc1
    refine r_iconst (v := 0) ok dX8_in_14 rfl ?_
    exact hret _ _ _ _ dX8_in_15 (Or.inl rfl) h
  · replace h := h.2 hc1
    refine r_iload_n ok dX8_in_5 0 rfl ?_
    refine r_iload_n ok dX8_in_6 2 rfl ?_
    refine r_icmp_gt (tgt := 14) ok dX8_in_7 rfl (fun hc2 => ?_) (fun hc2 => ?_)
    · replace h := h.1 hc2
      refine r_iconst (v := 0) ok dX8_in_14 rfl ?_
      exact hret _ _ _ _ dX8_in_15 (Or.inl rfl) h
    · replace h := h.2 hc2
      refine r_iconst (v := 1) ok dX8_in_10 rfl ?_
      refine r_goto (tgt := 15) ok dX8_in_11 rfl ?_
      exact hret _ _ _ _ dX8_in_15 (Or.inr rfl) h
theorem c_X8_in (l : Launch) (G : Gx) {x0 x1 x2 : Int32} {S : St} {post : Int32 → St → Prop} (h : wp_X8_in x0 x1 x2 S post) : MtI l yX8_in cX8_in 3 (some .boolean) 0 0 G [.int x0, .int x1, .int x2] S post :=
  ctZ (by decide) rfl (Nat.le_of_ble_eq_true rfl) (fun X _ hG ok hret => by subst hG; exact w_wp_X8_in ok hret h)

/-! HasteRoadsModel.ones(I)I -/
theorem dX8_ones_0 : decode cX8_ones 0 = .ok (.iconst 0, 1) := by decide +kernel
theorem dX8_ones_1 : decode cX8_ones 1 = .ok (.istore_n 1, 1) := by decide +kernel
theorem dX8_ones_2 : decode cX8_ones 2 = .ok (.iconst 0, 1) := by decide +kernel
theorem dX8_ones_3 : decode cX8_ones 3 = .ok (.istore_n 2, 1) := by decide +kernel
theorem dX8_ones_4 : decode cX8_ones 4 = .ok (.iload_n 2, 1) := by decide +kernel
theorem dX8_ones_5 : decode cX8_ones 5 = .ok (.bipush 6, 2) := by decide +kernel
theorem dX8_ones_7 : decode cX8_ones 7 = .ok (.if_icmp .ge 17, 3) := by decide +kernel
theorem dX8_ones_10 : decode cX8_ones 10 = .ok (.iload_n 1, 1) := by decide +kernel
theorem dX8_ones_11 : decode cX8_ones 11 = .ok (.iload_n 0, 1) := by decide +kernel
theorem dX8_ones_12 : decode cX8_ones 12 = .ok (.iload_n 2, 1) := by decide +kernel
theorem dX8_ones_13 : decode cX8_ones 13 = .ok (.ishr, 1) := by decide +kernel
theorem dX8_ones_14 : decode cX8_ones 14 = .ok (.iconst 1, 1) := by decide +kernel
theorem dX8_ones_15 : decode cX8_ones 15 = .ok (.iand, 1) := by decide +kernel
theorem dX8_ones_16 : decode cX8_ones 16 = .ok (.iadd, 1) := by decide +kernel
theorem dX8_ones_17 : decode cX8_ones 17 = .ok (.istore_n 1, 1) := by decide +kernel
theorem dX8_ones_18 : decode cX8_ones 18 = .ok (.iinc 2 1, 3) := by decide +kernel
theorem dX8_ones_21 : decode cX8_ones 21 = .ok (.goto (-17), 3) := by decide +kernel
theorem dX8_ones_24 : decode cX8_ones 24 = .ok (.iload_n 1, 1) := by decide +kernel
theorem dX8_ones_25 : decode cX8_ones 25 = .ok (.ireturn, 1) := by decide +kernel

def BD_X8_ones_4 (k4 : Int32 → Int32 → Int32 → St → Prop) (post : Int32 → St → Prop) (x0 : Int32) (x1 : Int32) (x2 : Int32) (S : St) : Prop :=
  ((6 ≤ x2 → post x1 S) ∧ (¬ 6 ≤ x2 → ∀ v2 : Int32, v2 = (x1 + ((x0 >>> (x2 &&& 31)) &&& 1)) → k4 x0 v2 (x2 + 1) S))
def L_X8_ones_4 (post : Int32 → St → Prop) (n : Nat) : Int32 → Int32 → Int32 → St → Prop := Nat.rec (motive := fun _ => Int32 → Int32 → Int32 → St → Prop) (fun _ _ _ _ => False) (fun _ ih => BD_X8_ones_4 ih post) n
def B_X8_ones_4 (post : Int32 → St → Prop) (x0 : Int32) (x1 : Int32) (x2 : Int32) (S : St) : Prop := ∃ n, L_X8_ones_4 post n x0 x1 x2 S
def wp_X8_ones (x0 : Int32) (S : St) (post : Int32 → St → Prop) : Prop :=
  B_X8_ones_4 post x0 0 0 S
theorem w_B_X8_ones_4 {X : Cx} (ok : Ok X cX8_ones 3 RX8 0 0) {post : Int32 → St → Prop} (hret : RetI X cX8_ones 3 post) {x0 x1 x2 : Int32} {S : St} (h : B_X8_ones_4 post x0 x1 x2 S) : Wp X 3 4 [(0, .int x0), (1, .int x1), (2, .int x2)] [] S := by
  obtain ⟨n, h⟩ := h
  induction n generalizing x0 x1 x2 S with
  | zero => exact False.elim h
  | succ n ih =>
    have hk4 : ∀ x0 x1 x2 S, L_X8_ones_4 post n x0 x1 x2 S → Wp X 3 4 [(0, .int x0), (1, .int x1), (2, .int x2)] [] S := by intros; apply ih; assumption
    replace h : BD_X8_ones_4 (L_X8_ones_4 post n) post x0 x1 x2 S := h
    unfold BD_X8_ones_4 at h
    generalize L_X8_ones_4 post n = k4 at h hk4
    refine r_iload_n ok dX8_ones_4 2 rfl ?_
    refine r_bipush (v := 6) ok dX8_ones_5 rfl ?_
    refine r_icmp_ge (tgt := 24) ok dX8_ones_7 rfl (fun hc1 => ?_) (fun hc1 => ?_)
    · replace h := h.1 hc1
      refine r_iload_n ok dX8_ones_24 1 rfl ?_
      exact hret _ _ _ _ dX8_ones_25 h
    · replace h := h.2 hc1
      refine r_iload_n ok dX8_ones_10 1 rfl ?_
      refine r_iload_n ok dX8_ones_11 0 rfl ?_
      refine r_iload_n ok dX8_ones_12 2 rfl ?_
      refine r_ishr ok dX8_ones_13 ?_
      refine r_iconst (v := 1) ok dX8_ones_14 rfl ?_
      refine r_iand ok dX8_ones_15 ?_
      refine r_iadd ok dX8_ones_16 ?_
      refine r_top (fun v2 ev2 => ?_)
      replace h := h v2 ev2
      refine r_istore_n ok dX8_ones_17 (by decide) [(0, .int x0), (1, .int v2), (2, .int x2)] [1, 0, 2] rfl ?_
      refine r_iinc (v := x2 + 1) ok dX8_ones_18 2 rfl rfl (by decide) [(0, .int x0), (1, .int v2), (2, .int (x2 + 1))] [1, 2, 0] rfl ?_
      refine r_goto (tgt := 4) ok dX8_ones_21 rfl ?_
      exact hk4 _ _ _ _ h
theorem w_wp_X8_ones {X : Cx} (ok : Ok X cX8_ones 3 RX8 0 0) {post : Int32 → St → Prop} (hret : RetI X cX8_ones 3 post) {x0 : Int32} {S : St} (h : wp_X8_ones x0 S post) : Wp X 3 0 [(0, .int x0)] [] S := by
  unfold wp_X8_ones at h
  refine r_iconst (v := 0) ok dX8_ones_0 rfl ?_
  refine r_istore_n ok dX8_ones_1 (by decide) [(0, .int x0), (1, .int 0)] [1, 0] rfl ?_
  refine r_iconst (v := 0) ok dX8_ones_2 rfl ?_
  refine r_istore_n ok dX8_ones_3 (by decide) [(0, .int x0), (1, .int 0), (2, .int 0)] [1, 2, 0] rfl ?_
  exact w_B_X8_ones_4 ok hret h
theorem c_X8_ones (l : Launch) (G : Gx) {x0 : Int32} {S : St} {post : Int32 → St → Prop} (h : wp_X8_ones x0 S post) : MtI l yX8_ones cX8_ones 3 (some .int) 0 0 G [.int x0] S post :=
  ctI (by decide) rfl (Nat.le_of_ble_eq_true rfl) (fun X _ hG ok hret => by subst hG; exact w_wp_X8_ones ok hret h)

/-! HasteRoadsModel.feed(I)I -/
theorem dX8_feed_0 : decode cX8_feed 0 = .ok (.aload_n 0, 1) := by decide +kernel
theorem dX8_feed_1 : decode cX8_feed 1 = .ok (.iconst 0, 1) := by decide +kernel
theorem dX8_feed_2 : decode cX8_feed 2 = .ok (.putfield 75, 3) := by decide +kernel
theorem dX8_feed_5 : decode cX8_feed 5 = .ok (.iload_n 1, 1) := by decide +kernel
theorem dX8_feed_6 : decode cX8_feed 6 = .ok (.iconst 0, 1) := by decide +kernel
theorem dX8_feed_7 : decode cX8_feed 7 = .ok (.sipush 255, 3) := by decide +kernel
theorem dX8_feed_10 : decode cX8_feed 10 = .ok (.invokestatic 78, 3) := by decide +kernel
theorem dX8_feed_13 : decode cX8_feed 13 = .ok (.ifCond .ne 6, 3) := by decide +kernel
theorem dX8_feed_16 : decode cX8_feed 16 = .ok (.ldc 82, 2) := by decide +kernel
theorem dX8_feed_18 : decode cX8_feed 18 = .ok (.ireturn, 1) := by decide +kernel
theorem dX8_feed_19 : decode cX8_feed 19 = .ok (.aload_n 0, 1) := by decide +kernel
theorem dX8_feed_20 : decode cX8_feed 20 = .ok (.getfield 83, 3) := by decide +kernel
theorem dX8_feed_23 : decode cX8_feed 23 = .ok (.sipush 250, 3) := by decide +kernel
theorem dX8_feed_26 : decode cX8_feed 26 = .ok (.if_icmp .ne 6, 3) := by decide +kernel
theorem dX8_feed_29 : decode cX8_feed 29 = .ok (.ldc 86, 2) := by decide +kernel
theorem dX8_feed_31 : decode cX8_feed 31 = .ok (.ireturn, 1) := by decide +kernel
theorem dX8_feed_32 : decode cX8_feed 32 = .ok (.aload_n 0, 1) := by decide +kernel
theorem dX8_feed_33 : decode cX8_feed 33 = .ok (.getfield 7, 3) := by decide +kernel
theorem dX8_feed_36 : decode cX8_feed 36 = .ok (.aload_n 0, 1) := by decide +kernel
theorem dX8_feed_37 : decode cX8_feed 37 = .ok (.getfield 83, 3) := by decide +kernel
theorem dX8_feed_40 : decode cX8_feed 40 = .ok (.iload_n 1, 1) := by decide +kernel
theorem dX8_feed_41 : decode cX8_feed 41 = .ok (.iastore, 1) := by decide +kernel
theorem dX8_feed_42 : decode cX8_feed 42 = .ok (.aload_n 0, 1) := by decide +kernel
theorem dX8_feed_43 : decode cX8_feed 43 = .ok (.dup, 1) := by decide +kernel
theorem dX8_feed_44 : decode cX8_feed 44 = .ok (.getfield 83, 3) := by decide +kernel
theorem dX8_feed_47 : decode cX8_feed 47 = .ok (.iconst 1, 1) := by decide +kernel
theorem dX8_feed_48 : decode cX8_feed 48 = .ok (.iadd, 1) := by decide +kernel
theorem dX8_feed_49 : decode cX8_feed 49 = .ok (.putfield 83, 3) := by decide +kernel
theorem dX8_feed_52 : decode cX8_feed 52 = .ok (.aload_n 0, 1) := by decide +kernel
theorem dX8_feed_53 : decode cX8_feed 53 = .ok (.getfield 83, 3) := by decide +kernel
theorem dX8_feed_56 : decode cX8_feed 56 = .ok (.ireturn, 1) := by decide +kernel
theorem gf_X8_83 {X : Cx} {cc : ByteArray} {nL pc fr lo : Nat} {L : List (Nat × Value)} {st : List Value} {S : St} (ok : Ok X cc nL RX8 fr lo) (d : decode cc pc = .ok (.getfield 83, 3)) (k : Wp X nL (pc + 3) L (.int (S 71 2) :: st) S) : Wp X nL pc L (.ref (xad X 71) :: st) S :=
  r_get (C := RX8) (T := TX8) ok ob_71 rfl i_X8 2 (by decide) tw_fl_X8_83 d (by rw [show fvl (xad X) S 71 2 = .int (S 71 2) from (fvl_int (by decide))]; exact k)
theorem gf_X8_7 {X : Cx} {cc : ByteArray} {nL pc fr lo : Nat} {L : List (Nat × Value)} {st : List Value} {S : St} (ok : Ok X cc nL RX8 fr lo) (d : decode cc pc = .ok (.getfield 7, 3)) (k : Wp X nL (pc + 3) L (.ref (xad X 72) :: st) S) : Wp X nL pc L (.ref (xad X 71) :: st) S :=
  r_get (C := RX8) (T := TX8) ok ob_71 rfl i_X8 1 (by decide) tw_fl_X8_7 d (by rw [show fvl (xad X) S 71 1 = .ref (xad X 72) from (fvl_ref (d := 72) (by decide))]; exact k)
theorem pf_X8_75 {X : Cx} {cc : ByteArray} {nL pc fr lo : Nat} {L : List (Nat × Value)} {st : List Value} {S : St} {v : Int32} (ok : Ok X cc nL RX8 fr lo) (d : decode cc pc = .ok (.putfield 75, 3)) (k : ∀ S1 : St, S1 = up S 71 0 v → Wp X nL (pc + 3) L st S1) : Wp X nL pc L (.int v :: .ref (xad X 71) :: st) S :=
  r_put (C := RX8) (T := TX8) ok ob_71 rfl i_X8 tyX8 tyX8_ok nmX8 0 (by decide) tw_fl_X8_75 rfl rfl (by decide) d (k _ rfl)
theorem pf_X8_83 {X : Cx} {cc : ByteArray} {nL pc fr lo : Nat} {L : List (Nat × Value)} {st : List Value} {S : St} {v : Int32} (ok : Ok X cc nL RX8 fr lo) (d : decode cc pc = .ok (.putfield 83, 3)) (k : ∀ S1 : St, S1 = up S 71 2 v → Wp X nL (pc + 3) L st S1) : Wp X nL pc L (.int v :: .ref (xad X 71) :: st) S :=
  r_put (C := RX8) (T := TX8) ok ob_71 rfl i_X8 tyX8 tyX8_ok nmX8 2 (by decide) tw_fl_X8_83 rfl rfl (by decide) d (k _ rfl)
theorem cl_X8_78 {X : Cx} {cc : ByteArray} {nL pc fr lo : Nat} {L : List (Nat × Value)} {st : List Value} {S : St} (ok : Ok X cc nL RX8 fr lo) {x0 x1 x2 : Int32} (d : decode cc pc = .ok (.invokestatic 78, 3)) (hroom : 1 ≤ fr ∧ 22 ≤ lo) (hst : (st.map fun v => v.category).sum ≤ 8) {post : Int32 → St → Prop} (h : wp_X8_in x0 x1 x2 S post) (kk : ∀ (r : Int32) (S1 : St), post r S1 → Wp X nL (pc + 3) L (.int r :: st) S1) : Wp X nL pc L (.int x2 :: .int x1 :: .int x0 :: st) S :=
  r_callSi (n := 3) (f := 0) (lo1 := 0) (N := 3) (As := [.int x0, .int x1, .int x2]) ok tw_in_X8 tw_st_X8_in tw_co_X8_in tw_ml_X8_78 (by decide +kernel) rfl hroom hst d rfl (c_X8_in (xl X) (xG X) h) kk
def wp_X8_feed (x1 : Int32) (S : St) (post : Int32 → St → Prop) : Prop :=
  ∀ S1 : St, S1 = up S 71 0 0 → wp_X8_in x1 0 255 S1 (fun r3 S2 => ((¬ r3 = 0 → ((¬ (S2 71 2) = 250 → vp_in (S2 71 2) 250 ∧ (∀ S6 : St, S6 = up S2 72 (ix (S2 71 2)) x1 → ∀ S8 : St, S8 = up S6 71 2 ((S6 71 2) + 1) → post (S8 71 2) S8)) ∧ ((S2 71 2) = 250 → post (-1000000004) S2))) ∧ (r3 = 0 → post (-1000000002) S2)))
theorem w_wp_X8_feed {X : Cx} (ok : Ok X cX8_feed 2 RX8 1 22) {post : Int32 → St → Prop} (hret : RetI X cX8_feed 2 post) {x1 : Int32} {S : St} (h : wp_X8_feed x1 S post) : Wp X 2 0 [(0, .ref (xad X 71)), (1, .int x1)] [] S := by
  unfold wp_X8_feed at h
  refine r_aload_n ok dX8_feed_0 0 rfl ?_
  refine r_iconst (v := 0) ok dX8_feed_1 rfl ?_
  refine pf_X8_75 ok dX8_feed_2 (fun S1 eS1 => ?_)
  replace h := h S1 eS1
  refine r_iload_n ok dX8_feed_5 1 rfl ?_
  refine r_iconst (v := 0) ok dX8_feed_6 rfl ?_
  refine r_sipush (v := 255) ok dX8_feed_7 rfl ?_
  refine cl_X8_78 ok dX8_feed_10 (by decide) (Nat.le_of_ble_eq_true rfl) h (fun r3 S2 h => ?_)
  refine r_if_ne (tgt := 19) ok dX8_feed_13 rfl (fun hc4 => ?_) (fun hc4 => ?_)
  · replace h := h.1 hc4
    refine r_aload_n ok dX8_feed_19 0 rfl ?_
    refine gf_X8_83 ok dX8_feed_20 ?_
    refine r_sipush (v := 250) ok dX8_feed_23 rfl ?_
    refine r_icmp_ne (tgt := 32) ok dX8_feed_26 rfl (fun hc5 => ?_) (fun hc5 => ?_)
    · replace h := h.1 hc5
      refine r_aload_n ok dX8_feed_32 0 rfl ?_
      refine gf_X8_7 ok dX8_feed_33 ?_
      refine r_aload_n ok dX8_feed_36 0 rfl ?_
      refine gf_X8_83 ok dX8_feed_37 ?_
      refine r_iload_n ok dX8_feed_40 1 rfl ?_
      have hi7 := h.1
      replace h := h.2
      refine r_iast ok ai_72 hi7 rfl dX8_feed_41 (fun S6 eS6 => ?_)
      replace h := h S6 eS6
      refine r_aload_n ok dX8_feed_42 0 rfl ?_
      refine r_dup ok dX8_feed_43 rfl ?_
      refine gf_X8_83 ok dX8_feed_44 ?_
      refine r_iconst (v := 1) ok dX8_feed_47 rfl ?_
      refine r_iadd ok dX8_feed_48 ?_
      refine pf_X8_83 ok dX8_feed_49 (fun S8 eS8 => ?_)
      replace h := h S8 eS8
      refine r_aload_n ok dX8_feed_52 0 rfl ?_
      refine gf_X8_83 ok dX8_feed_53 ?_
      exact hret _ _ _ _ dX8_feed_56 h
    · replace h := h.2 hc5
      refine r_ldc (v := (-1000000004)) ok dX8_feed_29 tw_k_X8_86 ?_
      exact hret _ _ _ _ dX8_feed_31 h
  · replace h := h.2 hc4
    refine r_ldc (v := (-1000000002)) ok dX8_feed_16 tw_k_X8_82 ?_
    exact hret _ _ _ _ dX8_feed_18 h
theorem c_X8_feed (l : Launch) (G : Gx) {x1 : Int32} {S : St} {post : Int32 → St → Prop} (h : wp_X8_feed x1 S post) : MtI l yX8_feed cX8_feed 2 (some .int) 1 22 G [.ref (G.2.2 71), .int x1] S post :=
  ctI (by decide) rfl (Nat.le_of_ble_eq_true rfl) (fun X _ hG ok hret => by subst hG; exact w_wp_X8_feed ok hret h)

/-! HasteRoadsModel.letterAt(I)I -/
theorem dX8_letterAt_0 : decode cX8_letterAt 0 = .ok (.iload_n 1, 1) := by decide +kernel
theorem dX8_letterAt_1 : decode cX8_letterAt 1 = .ok (.aload_n 0, 1) := by decide +kernel
theorem dX8_letterAt_2 : decode cX8_letterAt 2 = .ok (.getfield 83, 3) := by decide +kernel
theorem dX8_letterAt_5 : decode cX8_letterAt 5 = .ok (.if_icmp .ge 12, 3) := by decide +kernel
theorem dX8_letterAt_8 : decode cX8_letterAt 8 = .ok (.aload_n 0, 1) := by decide +kernel
theorem dX8_letterAt_9 : decode cX8_letterAt 9 = .ok (.getfield 7, 3) := by decide +kernel
theorem dX8_letterAt_12 : decode cX8_letterAt 12 = .ok (.iload_n 1, 1) := by decide +kernel
theorem dX8_letterAt_13 : decode cX8_letterAt 13 = .ok (.iaload, 1) := by decide +kernel
theorem dX8_letterAt_14 : decode cX8_letterAt 14 = .ok (.goto 4, 3) := by decide +kernel
theorem dX8_letterAt_17 : decode cX8_letterAt 17 = .ok (.iconst (-1), 1) := by decide +kernel
theorem dX8_letterAt_18 : decode cX8_letterAt 18 = .ok (.ireturn, 1) := by decide +kernel

def wp_X8_letterAt (x1 : Int32) (S : St) (post : Int32 → St → Prop) : Prop :=
  (((S 71 2) ≤ x1 → post (-1) S) ∧ (¬ (S 71 2) ≤ x1 → vp_in x1 250 ∧ (post (S 72 (ix x1)) S)))
theorem w_wp_X8_letterAt {X : Cx} (ok : Ok X cX8_letterAt 2 RX8 0 0) {post : Int32 → St → Prop} (hret : RetI X cX8_letterAt 2 post) {x1 : Int32} {S : St} (h : wp_X8_letterAt x1 S post) : Wp X 2 0 [(0, .ref (xad X 71)), (1, .int x1)] [] S := by
  unfold wp_X8_letterAt at h
  refine r_iload_n ok dX8_letterAt_0 1 rfl ?_
  refine r_aload_n ok dX8_letterAt_1 0 rfl ?_
  refine gf_X8_83 ok dX8_letterAt_2 ?_
  refine r_icmp_ge (tgt := 17) ok dX8_letterAt_5 rfl (fun hc1 => ?_) (fun hc1 => ?_)
  · replace h := h.1 hc1
    refine r_iconst (v := (-1)) ok dX8_letterAt_17 rfl ?_
    exact hret _ _ _ _ dX8_letterAt_18 h
  · replace h := h.2 hc1
    refine r_aload_n ok dX8_letterAt_8 0 rfl ?_
    refine gf_X8_7 ok dX8_letterAt_9 ?_
    refine r_iload_n ok dX8_letterAt_12 1 rfl ?_
    refine r_iald ok ai_72 h.1 rfl dX8_letterAt_13 ?_
    replace h := h.2
    refine r_goto (tgt := 18) ok dX8_letterAt_14 rfl ?_
    exact hret _ _ _ _ dX8_letterAt_18 h
theorem c_X8_letterAt (l : Launch) (G : Gx) {x1 : Int32} {S : St} {post : Int32 → St → Prop} (h : wp_X8_letterAt x1 S post) : MtI l yX8_letterAt cX8_letterAt 2 (some .int) 0 0 G [.ref (G.2.2 71), .int x1] S post :=
  ctI (by decide) rfl (Nat.le_of_ble_eq_true rfl) (fun X _ hG ok hret => by subst hG; exact w_wp_X8_letterAt ok hret h)

/-! HasteRoadsModel.advances()V -/
theorem dX8_advances_0 : decode cX8_advances 0 = .ok (.aload_n 0, 1) := by decide +kernel
theorem dX8_advances_1 : decode cX8_advances 1 = .ok (.aload_n 0, 1) := by decide +kernel
theorem dX8_advances_2 : decode cX8_advances 2 = .ok (.getfield 87, 3) := by decide +kernel
theorem dX8_advances_5 : decode cX8_advances 5 = .ok (.invokevirtual 90, 3) := by decide +kernel
theorem dX8_advances_8 : decode cX8_advances 8 = .ok (.bipush 32, 2) := by decide +kernel
theorem dX8_advances_10 : decode cX8_advances 10 = .ok (.if_icmp .ne 16, 3) := by decide +kernel
theorem dX8_advances_13 : decode cX8_advances 13 = .ok (.aload_n 0, 1) := by decide +kernel
theorem dX8_advances_14 : decode cX8_advances 14 = .ok (.dup, 1) := by decide +kernel
theorem dX8_advances_15 : decode cX8_advances 15 = .ok (.getfield 87, 3) := by decide +kernel
theorem dX8_advances_18 : decode cX8_advances 18 = .ok (.iconst 1, 1) := by decide +kernel
theorem dX8_advances_19 : decode cX8_advances 19 = .ok (.iadd, 1) := by decide +kernel
theorem dX8_advances_20 : decode cX8_advances 20 = .ok (.putfield 87, 3) := by decide +kernel
theorem dX8_advances_23 : decode cX8_advances 23 = .ok (.goto (-23), 3) := by decide +kernel
theorem dX8_advances_26 : decode cX8_advances 26 = .ok (.aload_n 0, 1) := by decide +kernel
theorem dX8_advances_27 : decode cX8_advances 27 = .ok (.aload_n 0, 1) := by decide +kernel
theorem dX8_advances_28 : decode cX8_advances 28 = .ok (.getfield 87, 3) := by decide +kernel
theorem dX8_advances_31 : decode cX8_advances 31 = .ok (.putfield 94, 3) := by decide +kernel
theorem dX8_advances_34 : decode cX8_advances 34 = .ok (.aload_n 0, 1) := by decide +kernel
theorem dX8_advances_35 : decode cX8_advances 35 = .ok (.aload_n 0, 1) := by decide +kernel
theorem dX8_advances_36 : decode cX8_advances 36 = .ok (.getfield 87, 3) := by decide +kernel
theorem dX8_advances_39 : decode cX8_advances 39 = .ok (.invokevirtual 90, 3) := by decide +kernel
theorem dX8_advances_42 : decode cX8_advances 42 = .ok (.istore_n 1, 1) := by decide +kernel
theorem dX8_advances_43 : decode cX8_advances 43 = .ok (.iload_n 1, 1) := by decide +kernel
theorem dX8_advances_44 : decode cX8_advances 44 = .ok (.ifCond .ge 11, 3) := by decide +kernel
theorem dX8_advances_47 : decode cX8_advances 47 = .ok (.aload_n 0, 1) := by decide +kernel
theorem dX8_advances_48 : decode cX8_advances 48 = .ok (.iconst 0, 1) := by decide +kernel
theorem dX8_advances_49 : decode cX8_advances 49 = .ok (.putfield 97, 3) := by decide +kernel
theorem dX8_advances_52 : decode cX8_advances 52 = .ok (.goto 172, 3) := by decide +kernel
theorem dX8_advances_55 : decode cX8_advances 55 = .ok (.iload_n 1, 1) := by decide +kernel
theorem dX8_advances_56 : decode cX8_advances 56 = .ok (.bipush 48, 2) := by decide +kernel
theorem dX8_advances_58 : decode cX8_advances 58 = .ok (.bipush 57, 2) := by decide +kernel
theorem dX8_advances_60 : decode cX8_advances 60 = .ok (.invokestatic 78, 3) := by decide +kernel
theorem dX8_advances_63 : decode cX8_advances 63 = .ok (.ifCond .eq 103, 3) := by decide +kernel
theorem dX8_advances_66 : decode cX8_advances 66 = .ok (.aload_n 0, 1) := by decide +kernel
theorem dX8_advances_67 : decode cX8_advances 67 = .ok (.iconst 0, 1) := by decide +kernel
theorem dX8_advances_68 : decode cX8_advances 68 = .ok (.putfield 100, 3) := by decide +kernel
theorem dX8_advances_71 : decode cX8_advances 71 = .ok (.aload_n 0, 1) := by decide +kernel
theorem dX8_advances_72 : decode cX8_advances 72 = .ok (.aload_n 0, 1) := by decide +kernel
theorem dX8_advances_73 : decode cX8_advances 73 = .ok (.getfield 87, 3) := by decide +kernel
theorem dX8_advances_76 : decode cX8_advances 76 = .ok (.invokevirtual 90, 3) := by decide +kernel
theorem dX8_advances_79 : decode cX8_advances 79 = .ok (.bipush 48, 2) := by decide +kernel
theorem dX8_advances_81 : decode cX8_advances 81 = .ok (.bipush 57, 2) := by decide +kernel
theorem dX8_advances_83 : decode cX8_advances 83 = .ok (.invokestatic 78, 3) := by decide +kernel
theorem dX8_advances_86 : decode cX8_advances 86 = .ok (.ifCond .eq 59, 3) := by decide +kernel
theorem dX8_advances_89 : decode cX8_advances 89 = .ok (.aload_n 0, 1) := by decide +kernel
theorem dX8_advances_90 : decode cX8_advances 90 = .ok (.aload_n 0, 1) := by decide +kernel
theorem dX8_advances_91 : decode cX8_advances 91 = .ok (.getfield 87, 3) := by decide +kernel
theorem dX8_advances_94 : decode cX8_advances 94 = .ok (.aload_n 0, 1) := by decide +kernel
theorem dX8_advances_95 : decode cX8_advances 95 = .ok (.getfield 94, 3) := by decide +kernel
theorem dX8_advances_98 : decode cX8_advances 98 = .ok (.isub, 1) := by decide +kernel
theorem dX8_advances_99 : decode cX8_advances 99 = .ok (.iconst 3, 1) := by decide +kernel
theorem dX8_advances_100 : decode cX8_advances 100 = .ok (.if_icmp .ge 25, 3) := by decide +kernel
theorem dX8_advances_103 : decode cX8_advances 103 = .ok (.bipush 10, 2) := by decide +kernel
theorem dX8_advances_105 : decode cX8_advances 105 = .ok (.aload_n 0, 1) := by decide +kernel
theorem dX8_advances_106 : decode cX8_advances 106 = .ok (.getfield 100, 3) := by decide +kernel
theorem dX8_advances_109 : decode cX8_advances 109 = .ok (.imul, 1) := by decide +kernel
theorem dX8_advances_110 : decode cX8_advances 110 = .ok (.aload_n 0, 1) := by decide +kernel
theorem dX8_advances_111 : decode cX8_advances 111 = .ok (.aload_n 0, 1) := by decide +kernel
theorem dX8_advances_112 : decode cX8_advances 112 = .ok (.getfield 87, 3) := by decide +kernel
theorem dX8_advances_115 : decode cX8_advances 115 = .ok (.invokevirtual 90, 3) := by decide +kernel
theorem dX8_advances_118 : decode cX8_advances 118 = .ok (.iadd, 1) := by decide +kernel
theorem dX8_advances_119 : decode cX8_advances 119 = .ok (.bipush 48, 2) := by decide +kernel
theorem dX8_advances_121 : decode cX8_advances 121 = .ok (.isub, 1) := by decide +kernel
theorem dX8_advances_122 : decode cX8_advances 122 = .ok (.goto 7, 3) := by decide +kernel
theorem dX8_advances_125 : decode cX8_advances 125 = .ok (.aload_n 0, 1) := by decide +kernel
theorem dX8_advances_126 : decode cX8_advances 126 = .ok (.getfield 100, 3) := by decide +kernel
theorem dX8_advances_129 : decode cX8_advances 129 = .ok (.putfield 100, 3) := by decide +kernel
theorem dX8_advances_132 : decode cX8_advances 132 = .ok (.aload_n 0, 1) := by decide +kernel
theorem dX8_advances_133 : decode cX8_advances 133 = .ok (.dup, 1) := by decide +kernel
theorem dX8_advances_134 : decode cX8_advances 134 = .ok (.getfield 87, 3) := by decide +kernel
theorem dX8_advances_137 : decode cX8_advances 137 = .ok (.iconst 1, 1) := by decide +kernel
theorem dX8_advances_138 : decode cX8_advances 138 = .ok (.iadd, 1) := by decide +kernel
theorem dX8_advances_139 : decode cX8_advances 139 = .ok (.putfield 87, 3) := by decide +kernel
theorem dX8_advances_142 : decode cX8_advances 142 = .ok (.goto (-71), 3) := by decide +kernel
theorem dX8_advances_145 : decode cX8_advances 145 = .ok (.aload_n 0, 1) := by decide +kernel
theorem dX8_advances_146 : decode cX8_advances 146 = .ok (.aload_n 0, 1) := by decide +kernel
theorem dX8_advances_147 : decode cX8_advances 147 = .ok (.getfield 87, 3) := by decide +kernel
theorem dX8_advances_150 : decode cX8_advances 150 = .ok (.aload_n 0, 1) := by decide +kernel
theorem dX8_advances_151 : decode cX8_advances 151 = .ok (.getfield 94, 3) := by decide +kernel
theorem dX8_advances_154 : decode cX8_advances 154 = .ok (.isub, 1) := by decide +kernel
theorem dX8_advances_155 : decode cX8_advances 155 = .ok (.putfield 103, 3) := by decide +kernel
theorem dX8_advances_158 : decode cX8_advances 158 = .ok (.aload_n 0, 1) := by decide +kernel
theorem dX8_advances_159 : decode cX8_advances 159 = .ok (.iconst 2, 1) := by decide +kernel
theorem dX8_advances_160 : decode cX8_advances 160 = .ok (.putfield 97, 3) := by decide +kernel
theorem dX8_advances_163 : decode cX8_advances 163 = .ok (.goto 61, 3) := by decide +kernel
theorem dX8_advances_166 : decode cX8_advances 166 = .ok (.aload_n 0, 1) := by decide +kernel
theorem dX8_advances_167 : decode cX8_advances 167 = .ok (.dup, 1) := by decide +kernel
theorem dX8_advances_168 : decode cX8_advances 168 = .ok (.getfield 87, 3) := by decide +kernel
theorem dX8_advances_171 : decode cX8_advances 171 = .ok (.iconst 1, 1) := by decide +kernel
theorem dX8_advances_172 : decode cX8_advances 172 = .ok (.iadd, 1) := by decide +kernel
theorem dX8_advances_173 : decode cX8_advances 173 = .ok (.putfield 87, 3) := by decide +kernel
theorem dX8_advances_176 : decode cX8_advances 176 = .ok (.aload_n 0, 1) := by decide +kernel
theorem dX8_advances_177 : decode cX8_advances 177 = .ok (.iload_n 1, 1) := by decide +kernel
theorem dX8_advances_178 : decode cX8_advances 178 = .ok (.putfield 100, 3) := by decide +kernel
theorem dX8_advances_181 : decode cX8_advances 181 = .ok (.aload_n 0, 1) := by decide +kernel
theorem dX8_advances_182 : decode cX8_advances 182 = .ok (.iload_n 1, 1) := by decide +kernel
theorem dX8_advances_183 : decode cX8_advances 183 = .ok (.bipush 59, 2) := by decide +kernel
theorem dX8_advances_185 : decode cX8_advances 185 = .ok (.if_icmp .ne 7, 3) := by decide +kernel
theorem dX8_advances_188 : decode cX8_advances 188 = .ok (.iconst 3, 1) := by decide +kernel
theorem dX8_advances_189 : decode cX8_advances 189 = .ok (.goto 32, 3) := by decide +kernel
theorem dX8_advances_192 : decode cX8_advances 192 = .ok (.iload_n 1, 1) := by decide +kernel
theorem dX8_advances_193 : decode cX8_advances 193 = .ok (.bipush 112, 2) := by decide +kernel
theorem dX8_advances_195 : decode cX8_advances 195 = .ok (.if_icmp .eq 21, 3) := by decide +kernel
theorem dX8_advances_198 : decode cX8_advances 198 = .ok (.iload_n 1, 1) := by decide +kernel
theorem dX8_advances_199 : decode cX8_advances 199 = .ok (.bipush 114, 2) := by decide +kernel
theorem dX8_advances_201 : decode cX8_advances 201 = .ok (.if_icmp .eq 15, 3) := by decide +kernel
theorem dX8_advances_204 : decode cX8_advances 204 = .ok (.iload_n 1, 1) := by decide +kernel
theorem dX8_advances_205 : decode cX8_advances 205 = .ok (.bipush 109, 2) := by decide +kernel
theorem dX8_advances_207 : decode cX8_advances 207 = .ok (.if_icmp .eq 9, 3) := by decide +kernel
theorem dX8_advances_210 : decode cX8_advances 210 = .ok (.iload_n 1, 1) := by decide +kernel
theorem dX8_advances_211 : decode cX8_advances 211 = .ok (.bipush 99, 2) := by decide +kernel
theorem dX8_advances_213 : decode cX8_advances 213 = .ok (.if_icmp .ne 7, 3) := by decide +kernel
theorem dX8_advances_216 : decode cX8_advances 216 = .ok (.iconst 1, 1) := by decide +kernel
theorem dX8_advances_217 : decode cX8_advances 217 = .ok (.goto 4, 3) := by decide +kernel
theorem dX8_advances_220 : decode cX8_advances 220 = .ok (.iconst 4, 1) := by decide +kernel
theorem dX8_advances_221 : decode cX8_advances 221 = .ok (.putfield 97, 3) := by decide +kernel
theorem dX8_advances_224 : decode cX8_advances 224 = .ok (.return_, 1) := by decide +kernel
theorem gf_X8_87 {X : Cx} {cc : ByteArray} {nL pc fr lo : Nat} {L : List (Nat × Value)} {st : List Value} {S : St} (ok : Ok X cc nL RX8 fr lo) (d : decode cc pc = .ok (.getfield 87, 3)) (k : Wp X nL (pc + 3) L (.int (S 71 3) :: st) S) : Wp X nL pc L (.ref (xad X 71) :: st) S :=
  r_get (C := RX8) (T := TX8) ok ob_71 rfl i_X8 3 (by decide) tw_fl_X8_87 d (by rw [show fvl (xad X) S 71 3 = .int (S 71 3) from (fvl_int (by decide))]; exact k)
theorem gf_X8_94 {X : Cx} {cc : ByteArray} {nL pc fr lo : Nat} {L : List (Nat × Value)} {st : List Value} {S : St} (ok : Ok X cc nL RX8 fr lo) (d : decode cc pc = .ok (.getfield 94, 3)) (k : Wp X nL (pc + 3) L (.int (S 71 5) :: st) S) : Wp X nL pc L (.ref (xad X 71) :: st) S :=
  r_get (C := RX8) (T := TX8) ok ob_71 rfl i_X8 5 (by decide) tw_fl_X8_94 d (by rw [show fvl (xad X) S 71 5 = .int (S 71 5) from (fvl_int (by decide))]; exact k)
theorem gf_X8_100 {X : Cx} {cc : ByteArray} {nL pc fr lo : Nat} {L : List (Nat × Value)} {st : List Value} {S : St} (ok : Ok X cc nL RX8 fr lo) (d : decode cc pc = .ok (.getfield 100, 3)) (k : Wp X nL (pc + 3) L (.int (S 71 6) :: st) S) : Wp X nL pc L (.ref (xad X 71) :: st) S :=
  r_get (C := RX8) (T := TX8) ok ob_71 rfl i_X8 6 (by decide) tw_fl_X8_100 d (by rw [show fvl (xad X) S 71 6 = .int (S 71 6) from (fvl_int (by decide))]; exact k)
theorem pf_X8_87 {X : Cx} {cc : ByteArray} {nL pc fr lo : Nat} {L : List (Nat × Value)} {st : List Value} {S : St} {v : Int32} (ok : Ok X cc nL RX8 fr lo) (d : decode cc pc = .ok (.putfield 87, 3)) (k : ∀ S1 : St, S1 = up S 71 3 v → Wp X nL (pc + 3) L st S1) : Wp X nL pc L (.int v :: .ref (xad X 71) :: st) S :=
  r_put (C := RX8) (T := TX8) ok ob_71 rfl i_X8 tyX8 tyX8_ok nmX8 3 (by decide) tw_fl_X8_87 rfl rfl (by decide) d (k _ rfl)
theorem pf_X8_94 {X : Cx} {cc : ByteArray} {nL pc fr lo : Nat} {L : List (Nat × Value)} {st : List Value} {S : St} {v : Int32} (ok : Ok X cc nL RX8 fr lo) (d : decode cc pc = .ok (.putfield 94, 3)) (k : ∀ S1 : St, S1 = up S 71 5 v → Wp X nL (pc + 3) L st S1) : Wp X nL pc L (.int v :: .ref (xad X 71) :: st) S :=
  r_put (C := RX8) (T := TX8) ok ob_71 rfl i_X8 tyX8 tyX8_ok nmX8 5 (by decide) tw_fl_X8_94 rfl rfl (by decide) d (k _ rfl)
theorem pf_X8_100 {X : Cx} {cc : ByteArray} {nL pc fr lo : Nat} {L : List (Nat × Value)} {st : List Value} {S : St} {v : Int32} (ok : Ok X cc nL RX8 fr lo) (d : decode cc pc = .ok (.putfield 100, 3)) (k : ∀ S1 : St, S1 = up S 71 6 v → Wp X nL (pc + 3) L st S1) : Wp X nL pc L (.int v :: .ref (xad X 71) :: st) S :=
  r_put (C := RX8) (T := TX8) ok ob_71 rfl i_X8 tyX8 tyX8_ok nmX8 6 (by decide) tw_fl_X8_100 rfl rfl (by decide) d (k _ rfl)
theorem pf_X8_97 {X : Cx} {cc : ByteArray} {nL pc fr lo : Nat} {L : List (Nat × Value)} {st : List Value} {S : St} {v : Int32} (ok : Ok X cc nL RX8 fr lo) (d : decode cc pc = .ok (.putfield 97, 3)) (k : ∀ S1 : St, S1 = up S 71 4 v → Wp X nL (pc + 3) L st S1) : Wp X nL pc L (.int v :: .ref (xad X 71) :: st) S :=
  r_put (C := RX8) (T := TX8) ok ob_71 rfl i_X8 tyX8 tyX8_ok nmX8 4 (by decide) tw_fl_X8_97 rfl rfl (by decide) d (k _ rfl)
theorem pf_X8_103 {X : Cx} {cc : ByteArray} {nL pc fr lo : Nat} {L : List (Nat × Value)} {st : List Value} {S : St} {v : Int32} (ok : Ok X cc nL RX8 fr lo) (d : decode cc pc = .ok (.putfield 103, 3)) (k : ∀ S1 : St, S1 = up S 71 7 v → Wp X nL (pc + 3) L st S1) : Wp X nL pc L (.int v :: .ref (xad X 71) :: st) S :=
  r_put (C := RX8) (T := TX8) ok ob_71 rfl i_X8 tyX8 tyX8_ok nmX8 7 (by decide) tw_fl_X8_103 rfl rfl (by decide) d (k _ rfl)
theorem cl_X8_90 {X : Cx} {cc : ByteArray} {nL pc fr lo : Nat} {L : List (Nat × Value)} {st : List Value} {S : St} (ok : Ok X cc nL RX8 fr lo) {x1 : Int32} (d : decode cc pc = .ok (.invokevirtual 90, 3)) (hroom : 1 ≤ fr ∧ 21 ≤ lo) (hst : (st.map fun v => v.category).sum ≤ 8) {post : Int32 → St → Prop} (h : wp_X8_letterAt x1 S post) (kk : ∀ (r : Int32) (S1 : St), post r S1 → Wp X nL (pc + 3) L (.int r :: st) S1) : Wp X nL pc L (.int x1 :: .ref (xad X 71) :: st) S :=
  r_callVi (n := 2) (f := 0) (lo1 := 0) (N := 1) (As := [.int x1]) ok tw_in_X8 tw_im_X8_letterAt tw_se_X8_letterAt tw_co_X8_letterAt tw_ml_X8_90 (by decide +kernel) rfl ob_71 rfl hroom hst d rfl (c_X8_letterAt (xl X) (xG X) h) kk
def B_X8_advances_145 (post : St → Prop) (S : St) : Prop :=
  ∀ S1 : St, S1 = up S 71 7 ((S 71 3) - (S 71 5)) → ∀ S2 : St, S2 = up S1 71 4 2 → post S2
def BD_X8_advances_71 (k71 : St → Prop) (post : St → Prop) (S : St) : Prop :=
  wp_X8_letterAt (S 71 3) S (fun r2 S1 => wp_X8_in r2 48 57 S1 (fun r4 S3 => ((r4 = 0 → B_X8_advances_145 post S3) ∧ (¬ r4 = 0 → ((3 ≤ ((S3 71 3) - (S3 71 5)) → ∀ S7 : St, S7 = up S3 71 6 (S3 71 6) → ∀ S8 : St, S8 = up S7 71 3 ((S7 71 3) + 1) → k71 S8) ∧ (¬ 3 ≤ ((S3 71 3) - (S3 71 5)) → wp_X8_letterAt (S3 71 3) S3 (fun r10 S9 => ∀ S11 : St, S11 = up S9 71 6 ((((10 : Int32) * (S3 71 6)) + r10) - 48) → ∀ S12 : St, S12 = up S11 71 3 ((S11 71 3) + 1) → k71 S12)))))))
def L_X8_advances_71 (post : St → Prop) (n : Nat) : St → Prop := Nat.rec (motive := fun _ => St → Prop) (fun _ => False) (fun _ ih => BD_X8_advances_71 ih post) n
def B_X8_advances_71 (post : St → Prop) (S : St) : Prop := ∃ n, L_X8_advances_71 post n S
def B_X8_advances_26 (post : St → Prop) (S : St) : Prop :=
  ∀ S1 : St, S1 = up S 71 5 (S 71 3) → wp_X8_letterAt (S1 71 3) S1 (fun r3 S2 => ((0 ≤ r3 → wp_X8_in r3 48 57 S2 (fun r6 S5 => ((r6 = 0 → ∀ S8 : St, S8 = up S5 71 3 ((S5 71 3) + 1) → ∀ S9 : St, S9 = up S8 71 6 r3 → ((¬ r3 = 59 → ((r3 = 112 → ∀ S12 : St, S12 = up S9 71 4 1 → post S12) ∧ (¬ r3 = 112 → ((r3 = 114 → ∀ S14 : St, S14 = up S9 71 4 1 → post S14) ∧ (¬ r3 = 114 → ((r3 = 109 → ∀ S16 : St, S16 = up S9 71 4 1 → post S16) ∧ (¬ r3 = 109 → ((¬ r3 = 99 → ∀ S18 : St, S18 = up S9 71 4 4 → post S18) ∧ (r3 = 99 → ∀ S19 : St, S19 = up S9 71 4 1 → post S19))))))))) ∧ (r3 = 59 → ∀ S20 : St, S20 = up S9 71 4 3 → post S20))) ∧ (¬ r6 = 0 → ∀ S21 : St, S21 = up S5 71 6 0 → B_X8_advances_71 post S21)))) ∧ (¬ 0 ≤ r3 → ∀ S22 : St, S22 = up S2 71 4 0 → post S22)))
def BD_X8_advances_0 (k0 : St → Prop) (post : St → Prop) (S : St) : Prop :=
  wp_X8_letterAt (S 71 3) S (fun r2 S1 => ((¬ r2 = 32 → B_X8_advances_26 post S1) ∧ (r2 = 32 → ∀ S4 : St, S4 = up S1 71 3 ((S1 71 3) + 1) → k0 S4)))
def L_X8_advances_0 (post : St → Prop) (n : Nat) : St → Prop := Nat.rec (motive := fun _ => St → Prop) (fun _ => False) (fun _ ih => BD_X8_advances_0 ih post) n
def B_X8_advances_0 (post : St → Prop) (S : St) : Prop := ∃ n, L_X8_advances_0 post n S
def wp_X8_advances (S : St) (post : St → Prop) : Prop := B_X8_advances_0 post S
theorem w_B_X8_advances_145 {X : Cx} (ok : Ok X cX8_advances 2 RX8 1 22) {post : St → Prop} (hret : RetV X cX8_advances 2 post) {S : St} (h : B_X8_advances_145 post S) : Wp X 2 145 [(0, .ref (xad X 71))] [] S := by
  unfold B_X8_advances_145 at h
  refine r_aload_n ok dX8_advances_145 0 rfl ?_
  refine r_aload_n ok dX8_advances_146 0 rfl ?_
  refine gf_X8_87 ok dX8_advances_147 ?_
  refine r_aload_n ok dX8_advances_150 0 rfl ?_
  refine gf_X8_94 ok dX8_advances_151 ?_
  refine r_isub ok dX8_advances_154 ?_
  refine pf_X8_103 ok dX8_advances_155 (fun S1 eS1 => ?_)
  replace h := h S1 eS1
  refine r_aload_n ok dX8_advances_158 0 rfl ?_
  refine r_iconst (v := 2) ok dX8_advances_159 rfl ?_
  refine pf_X8_97 ok dX8_advances_160 (fun S2 eS2 => ?_)
  replace h := h S2 eS2
  refine r_goto (tgt := 224) ok dX8_advances_163 rfl ?_
  exact hret _ _ _ dX8_advances_224 h
theorem w_B_X8_advances_71 {X : Cx} (ok : Ok X cX8_advances 2 RX8 1 22) {post : St → Prop} (hret : RetV X cX8_advances 2 post) {S : St} (h : B_X8_advances_71 post S) : Wp X 2 71 [(0, .ref (xad X 71))] [] S := by
  obtain ⟨n, h⟩ := h
  induction n generalizing S with
  | zero => exact False.elim h
  | succ n ih =>
    have hk71 : ∀ S, L_X8_advances_71 post n S → Wp X 2 71 [(0, .ref (xad X 71))] [] S := by intros; apply ih; assumption
    replace h : BD_X8_advances_71 (L_X8_advances_71 post n) post S := h
    unfold BD_X8_advances_71 at h
    generalize L_X8_advances_71 post n = k71 at h hk71
    refine r_aload_n ok dX8_advances_71 0 rfl ?_
    refine r_aload_n ok dX8_advances_72 0 rfl ?_
    refine gf_X8_87 ok dX8_advances_73 ?_
    refine cl_X8_90 ok dX8_advances_76 (by decide) (Nat.le_of_ble_eq_true rfl) h (fun r2 S1 h => ?_)
    refine r_bipush (v := 48) ok dX8_advances_79 rfl ?_
    refine r_bipush (v := 57) ok dX8_advances_81 rfl ?_
    refine cl_X8_78 ok dX8_advances_83 (by decide) (Nat.le_of_ble_eq_true rfl) h (fun r4 S3 h => ?_)
    refine r_if_eq (tgt := 145) ok dX8_advances_86 rfl (fun hc5 => ?_) (fun hc5 => ?_)
    · replace h := h.1 hc5
      exact w_B_X8_advances_145 ok hret h
    · replace h := h.2 hc5
      refine r_aload_n ok dX8_advances_89 0 rfl ?_
      refine r_aload_n ok dX8_advances_90 0 rfl ?_
      refine gf_X8_87 ok dX8_advances_91 ?_
      refine r_aload_n ok dX8_advances_94 0 rfl ?_
      refine gf_X8_94 ok dX8_advances_95 ?_
      refine r_isub ok dX8_advances_98 ?_
      refine r_iconst (v := 3) ok dX8_advances_99 rfl ?_
      refine r_icmp_ge (tgt := 125) ok dX8_advances_100 rfl (fun hc6 => ?_) (fun hc6 => ?_)
      · replace h := h.1 hc6
        refine r_aload_n ok dX8_advances_125 0 rfl ?_
        refine gf_X8_100 ok dX8_advances_126 ?_
        refine pf_X8_100 ok dX8_advances_129 (fun S7 eS7 => ?_)
        replace h := h S7 eS7
        refine r_aload_n ok dX8_advances_132 0 rfl ?_
        refine r_dup ok dX8_advances_133 rfl ?_
        refine gf_X8_87 ok dX8_advances_134 ?_
        refine r_iconst (v := 1) ok dX8_advances_137 rfl ?_
        refine r_iadd ok dX8_advances_138 ?_
        refine pf_X8_87 ok dX8_advances_139 (fun S8 eS8 => ?_)
        replace h := h S8 eS8
        refine r_goto (tgt := 71) ok dX8_advances_142 rfl ?_
        exact hk71 _ h
      · replace h := h.2 hc6
        refine r_bipush (v := 10) ok dX8_advances_103 rfl ?_
        refine r_aload_n ok dX8_advances_105 0 rfl ?_
        refine gf_X8_100 ok dX8_advances_106 ?_
        refine r_imul ok dX8_advances_109 ?_
        refine r_aload_n ok dX8_advances_110 0 rfl ?_
        refine r_aload_n ok dX8_advances_111 0 rfl ?_
        refine gf_X8_87 ok dX8_advances_112 ?_
        refine cl_X8_90 ok dX8_advances_115 (by decide) (Nat.le_of_ble_eq_true rfl) h (fun r10 S9 h => ?_)
        refine r_iadd ok dX8_advances_118 ?_
        refine r_bipush (v := 48) ok dX8_advances_119 rfl ?_
        refine r_isub ok dX8_advances_121 ?_
        refine r_goto (tgt := 129) ok dX8_advances_122 rfl ?_
        refine pf_X8_100 ok dX8_advances_129 (fun S11 eS11 => ?_)
        replace h := h S11 eS11
        refine r_aload_n ok dX8_advances_132 0 rfl ?_
        refine r_dup ok dX8_advances_133 rfl ?_
        refine gf_X8_87 ok dX8_advances_134 ?_
        refine r_iconst (v := 1) ok dX8_advances_137 rfl ?_
        refine r_iadd ok dX8_advances_138 ?_
        refine pf_X8_87 ok dX8_advances_139 (fun S12 eS12 => ?_)
        replace h := h S12 eS12
        refine r_goto (tgt := 71) ok dX8_advances_142 rfl ?_
        exact hk71 _ h
theorem w_B_X8_advances_26 {X : Cx} (ok : Ok X cX8_advances 2 RX8 1 22) {post : St → Prop} (hret : RetV X cX8_advances 2 post) {S : St} (h : B_X8_advances_26 post S) : Wp X 2 26 [(0, .ref (xad X 71))] [] S := by
  unfold B_X8_advances_26 at h
  refine r_aload_n ok dX8_advances_26 0 rfl ?_
  refine r_aload_n ok dX8_advances_27 0 rfl ?_
  refine gf_X8_87 ok dX8_advances_28 ?_
  refine pf_X8_94 ok dX8_advances_31 (fun S1 eS1 => ?_)
  replace h := h S1 eS1
  refine r_aload_n ok dX8_advances_34 0 rfl ?_
  refine r_aload_n ok dX8_advances_35 0 rfl ?_
  refine gf_X8_87 ok dX8_advances_36 ?_
  refine cl_X8_90 ok dX8_advances_39 (by decide) (Nat.le_of_ble_eq_true rfl) h (fun r3 S2 h => ?_)
  refine r_istore_n ok dX8_advances_42 (by decide) [(0, .ref (xad X 71)), (1, .int r3)] [1, 0] rfl ?_
  refine r_iload_n ok dX8_advances_43 1 rfl ?_
  refine r_if_ge (tgt := 55) ok dX8_advances_44 rfl (fun hc4 => ?_) (fun hc4 => ?_)
  · replace h := h.1 hc4
    refine r_iload_n ok dX8_advances_55 1 rfl ?_
    refine r_bipush (v := 48) ok dX8_advances_56 rfl ?_
    refine r_bipush (v := 57) ok dX8_advances_58 rfl ?_
    refine cl_X8_78 ok dX8_advances_60 (by decide) (Nat.le_of_ble_eq_true rfl) h (fun r6 S5 h => ?_)
    refine r_if_eq (tgt := 166) ok dX8_advances_63 rfl (fun hc7 => ?_) (fun hc7 => ?_)
    · replace h := h.1 hc7
      refine r_aload_n ok dX8_advances_166 0 rfl ?_
      refine r_dup ok dX8_advances_167 rfl ?_
      refine gf_X8_87 ok dX8_advances_168 ?_
      refine r_iconst (v := 1) ok dX8_advances_171 rfl ?_
      refine r_iadd ok dX8_advances_172 ?_
      refine pf_X8_87 ok dX8_advances_173 (fun S8 eS8 => ?_)
      replace h := h S8 eS8
      refine r_aload_n ok dX8_advances_176 0 rfl ?_
      refine r_iload_n ok dX8_advances_177 1 rfl ?_
      refine pf_X8_100 ok dX8_advances_178 (fun S9 eS9 => ?_)
      replace h := h S9 eS9
      refine r_aload_n ok dX8_advances_181 0 rfl ?_
      refine r_iload_n ok dX8_advances_182 1 rfl ?_
      refine r_bipush (v := 59) ok dX8_advances_183 rfl ?_
      refine r_icmp_ne (tgt := 192) ok dX8_advances_185 rfl (fun hc10 => ?_) (fun hc10 => ?_)
      · replace h := h.1 hc10
        refine r_iload_n ok dX8_advances_192 1 rfl ?_
        refine r_bipush (v := 112) ok dX8_advances_193 rfl ?_
        refine r_icmp_eq (tgt := 216) ok dX8_advances_195 rfl (fun hc11 => ?_) (fun hc11 => ?_)
        · replace h := h.1 hc11
          refine r_iconst (v := 1) ok dX8_advances_216 rfl ?_
          refine r_goto (tgt := 221) ok dX8_advances_217 rfl ?_
          refine pf_X8_97 ok dX8_advances_221 (fun S12 eS12 => ?_)
          replace h := h S12 eS12
          exact hret _ _ _ dX8_advances_224 h
        · replace h := h.2 hc11
          refine r_iload_n ok dX8_advances_198 1 rfl ?_
          refine r_bipush (v := 114) ok dX8_advances_199 rfl ?_
          refine r_icmp_eq (tgt := 216) ok dX8_advances_201 rfl (fun hc13 => ?_) (fun hc13 => ?_)
          · replace h := h.1 hc13
            refine r_iconst (v := 1) ok dX8_advances_216 rfl ?_
            refine r_goto (tgt := 221) ok dX8_advances_217 rfl ?_
            refine pf_X8_97 ok dX8_advances_221 (fun S14 eS14 => ?_)
            replace h := h S14 eS14
            exact hret _ _ _ dX8_advances_224 h
          · replace h := h.2 hc13
            refine r_iload_n ok dX8_advances_204 1 rfl ?_
            refine r_bipush (v := 109) ok dX8_advances_205 rfl ?_
            refine r_icmp_eq (tgt := 216) ok dX8_advances_207 rfl (fun hc15 => ?_) (fun hc15 => ?_)
            · replace h := h.1 hc15
              refine r_iconst (v := 1) ok dX8_advances_216 rfl ?_
              refine r_goto (tgt := 221) ok dX8_advances_217 rfl ?_
              refine pf_X8_97 ok dX8_advances_221 (fun S16 eS16 => ?_)
              replace h := h S16 eS16
              exact hret _ _ _ dX8_advances_224 h
            · replace h := h.2 hc15
              refine r_iload_n ok dX8_advances_210 1 rfl ?_
              refine r_bipush (v := 99) ok dX8_advances_211 rfl ?_
              refine r_icmp_ne (tgt := 220) ok dX8_advances_213 rfl (fun hc17 => ?_) (fun hc17 => ?_)
              · replace h := h.1 hc17
                refine r_iconst (v := 4) ok dX8_advances_220 rfl ?_
                refine pf_X8_97 ok dX8_advances_221 (fun S18 eS18 => ?_)
                replace h := h S18 eS18
                exact hret _ _ _ dX8_advances_224 h
              · replace h := h.2 hc17
                refine r_iconst (v := 1) ok dX8_advances_216 rfl ?_
                refine r_goto (tgt := 221) ok dX8_advances_217 rfl ?_
                refine pf_X8_97 ok dX8_advances_221 (fun S19 eS19 => ?_)
                replace h := h S19 eS19
                exact hret _ _ _ dX8_advances_224 h
      · replace h := h.2 hc10
        refine r_iconst (v := 3) ok dX8_advances_188 rfl ?_
        refine r_goto (tgt := 221) ok dX8_advances_189 rfl ?_
        refine pf_X8_97 ok dX8_advances_221 (fun S20 eS20 => ?_)
        replace h := h S20 eS20
        exact hret _ _ _ dX8_advances_224 h
    · replace h := h.2 hc7
      refine r_aload_n ok dX8_advances_66 0 rfl ?_
      refine r_iconst (v := 0) ok dX8_advances_67 rfl ?_
      refine pf_X8_100 ok dX8_advances_68 (fun S21 eS21 => ?_)
      replace h := h S21 eS21
      refine r_sub [(0, .ref (xad X 71))] [0] rfl ?_
      exact w_B_X8_advances_71 ok hret h
  · replace h := h.2 hc4
    refine r_aload_n ok dX8_advances_47 0 rfl ?_
    refine r_iconst (v := 0) ok dX8_advances_48 rfl ?_
    refine pf_X8_97 ok dX8_advances_49 (fun S22 eS22 => ?_)
    replace h := h S22 eS22
    refine r_goto (tgt := 224) ok dX8_advances_52 rfl ?_
    exact hret _ _ _ dX8_advances_224 h
theorem w_B_X8_advances_0 {X : Cx} (ok : Ok X cX8_advances 2 RX8 1 22) {post : St → Prop} (hret : RetV X cX8_advances 2 post) {S : St} (h : B_X8_advances_0 post S) : Wp X 2 0 [(0, .ref (xad X 71))] [] S := by
  obtain ⟨n, h⟩ := h
  induction n generalizing S with
  | zero => exact False.elim h
  | succ n ih =>
    have hk0 : ∀ S, L_X8_advances_0 post n S → Wp X 2 0 [(0, .ref (xad X 71))] [] S := by intros; apply ih; assumption
    replace h : BD_X8_advances_0 (L_X8_advances_0 post n) post S := h
    unfold BD_X8_advances_0 at h
    generalize L_X8_advances_0 post n = k0 at h hk0
    refine r_aload_n ok dX8_advances_0 0 rfl ?_
    refine r_aload_n ok dX8_advances_1 0 rfl ?_
    refine gf_X8_87 ok dX8_advances_2 ?_
    refine cl_X8_90 ok dX8_advances_5 (by decide) (Nat.le_of_ble_eq_true rfl) h (fun r2 S1 h => ?_)
    refine r_bipush (v := 32) ok dX8_advances_8 rfl ?_
    refine r_icmp_ne (tgt := 26) ok dX8_advances_10 rfl (fun hc3 => ?_) (fun hc3 => ?_)
    · replace h := h.1 hc3
      exact w_B_X8_advances_26 ok hret h
    · replace h := h.2 hc3
      refine r_aload_n ok dX8_advances_13 0 rfl ?_
      refine r_dup ok dX8_advances_14 rfl ?_
      refine gf_X8_87 ok dX8_advances_15 ?_
      refine r_iconst (v := 1) ok dX8_advances_18 rfl ?_
      refine r_iadd ok dX8_advances_19 ?_
      refine pf_X8_87 ok dX8_advances_20 (fun S4 eS4 => ?_)
      replace h := h S4 eS4
      refine r_goto (tgt := 0) ok dX8_advances_23 rfl ?_
      exact hk0 _ h
theorem w_wp_X8_advances {X : Cx} (ok : Ok X cX8_advances 2 RX8 1 22) {post : St → Prop} (hret : RetV X cX8_advances 2 post) {S : St} (h : wp_X8_advances S post) : Wp X 2 0 [(0, .ref (xad X 71))] [] S := w_B_X8_advances_0 ok hret h
theorem c_X8_advances (l : Launch) (G : Gx) {S : St} {post : St → Prop} (h : wp_X8_advances S post) : MtV l yX8_advances cX8_advances 2 1 22 G [.ref (G.2.2 71)] S post :=
  ctV (by decide) rfl (Nat.le_of_ble_eq_true rfl) (fun X _ hG ok hret => by subst hG; exact w_wp_X8_advances ok hret h)

/-! HasteRoadsModel.isWell()Z -/
theorem dX8_isWell_0 : decode cX8_isWell 0 = .ok (.aload_n 0, 1) := by decide +kernel
theorem dX8_isWell_1 : decode cX8_isWell 1 = .ok (.getfield 106, 3) := by decide +kernel
theorem dX8_isWell_4 : decode cX8_isWell 4 = .ok (.ifCond .ne 7, 3) := by decide +kernel
theorem dX8_isWell_7 : decode cX8_isWell 7 = .ok (.iconst 1, 1) := by decide +kernel
theorem dX8_isWell_8 : decode cX8_isWell 8 = .ok (.goto 4, 3) := by decide +kernel
theorem dX8_isWell_11 : decode cX8_isWell 11 = .ok (.iconst 0, 1) := by decide +kernel
theorem dX8_isWell_12 : decode cX8_isWell 12 = .ok (.ireturn, 1) := by decide +kernel
theorem gf_X8_106 {X : Cx} {cc : ByteArray} {nL pc fr lo : Nat} {L : List (Nat × Value)} {st : List Value} {S : St} (ok : Ok X cc nL RX8 fr lo) (d : decode cc pc = .ok (.getfield 106, 3)) (k : Wp X nL (pc + 3) L (.int (S 71 8) :: st) S) : Wp X nL pc L (.ref (xad X 71) :: st) S :=
  r_get (C := RX8) (T := TX8) ok ob_71 rfl i_X8 8 (by decide) tw_fl_X8_106 d (by rw [show fvl (xad X) S 71 8 = .int (S 71 8) from (fvl_int (by decide))]; exact k)
def wp_X8_isWell (S : St) (post : Int32 → St → Prop) : Prop :=
  ((¬ (S 71 8) = 0 → post 0 S) ∧ ((S 71 8) = 0 → post 1 S))
theorem w_wp_X8_isWell {X : Cx} (ok : Ok X cX8_isWell 1 RX8 0 0) {post : Int32 → St → Prop} (hret : RetZ X cX8_isWell 1 post) {S : St} (h : wp_X8_isWell S post) : Wp X 1 0 [(0, .ref (xad X 71))] [] S := by
  unfold wp_X8_isWell at h
  refine r_aload_n ok dX8_isWell_0 0 rfl ?_
  refine gf_X8_106 ok dX8_isWell_1 ?_
  refine r_if_ne (tgt := 11) ok dX8_isWell_4 rfl (fun hc1 => ?_) (fun hc1 => ?_)
  · replace h := h.1 hc1
    refine r_iconst (v := 0) ok dX8_isWell_11 rfl ?_
    exact hret _ _ _ _ dX8_isWell_12 (Or.inl rfl) h
  · replace h := h.2 hc1
    refine r_iconst (v := 1) ok dX8_isWell_7 rfl ?_
    refine r_goto (tgt := 12) ok dX8_isWell_8 rfl ?_
    exact hret _ _ _ _ dX8_isWell_12 (Or.inr rfl) h
theorem c_X8_isWell (l : Launch) (G : Gx) {S : St} {post : Int32 → St → Prop} (h : wp_X8_isWell S post) : MtI l yX8_isWell cX8_isWell 1 (some .boolean) 0 0 G [.ref (G.2.2 71)] S post :=
  ctZ (by decide) rfl (Nat.le_of_ble_eq_true rfl) (fun X _ hG ok hret => by subst hG; exact w_wp_X8_isWell ok hret h)

/-! HasteRoadsModel.fails(I)V -/
theorem dX8_fails_0 : decode cX8_fails 0 = .ok (.aload_n 0, 1) := by decide +kernel
theorem dX8_fails_1 : decode cX8_fails 1 = .ok (.invokevirtual 109, 3) := by decide +kernel
theorem dX8_fails_4 : decode cX8_fails 4 = .ok (.ifCond .eq 16, 3) := by decide +kernel
theorem dX8_fails_7 : decode cX8_fails 7 = .ok (.aload_n 0, 1) := by decide +kernel
theorem dX8_fails_8 : decode cX8_fails 8 = .ok (.iload_n 1, 1) := by decide +kernel
theorem dX8_fails_9 : decode cX8_fails 9 = .ok (.putfield 106, 3) := by decide +kernel
theorem dX8_fails_12 : decode cX8_fails 12 = .ok (.aload_n 0, 1) := by decide +kernel
theorem dX8_fails_13 : decode cX8_fails 13 = .ok (.aload_n 0, 1) := by decide +kernel
theorem dX8_fails_14 : decode cX8_fails 14 = .ok (.getfield 94, 3) := by decide +kernel
theorem dX8_fails_17 : decode cX8_fails 17 = .ok (.putfield 13, 3) := by decide +kernel
theorem dX8_fails_20 : decode cX8_fails 20 = .ok (.return_, 1) := by decide +kernel
theorem pf_X8_106 {X : Cx} {cc : ByteArray} {nL pc fr lo : Nat} {L : List (Nat × Value)} {st : List Value} {S : St} {v : Int32} (ok : Ok X cc nL RX8 fr lo) (d : decode cc pc = .ok (.putfield 106, 3)) (k : ∀ S1 : St, S1 = up S 71 8 v → Wp X nL (pc + 3) L st S1) : Wp X nL pc L (.int v :: .ref (xad X 71) :: st) S :=
  r_put (C := RX8) (T := TX8) ok ob_71 rfl i_X8 tyX8 tyX8_ok nmX8 8 (by decide) tw_fl_X8_106 rfl rfl (by decide) d (k _ rfl)
theorem pf_X8_13 {X : Cx} {cc : ByteArray} {nL pc fr lo : Nat} {L : List (Nat × Value)} {st : List Value} {S : St} {v : Int32} (ok : Ok X cc nL RX8 fr lo) (d : decode cc pc = .ok (.putfield 13, 3)) (k : ∀ S1 : St, S1 = up S 71 9 v → Wp X nL (pc + 3) L st S1) : Wp X nL pc L (.int v :: .ref (xad X 71) :: st) S :=
  r_put (C := RX8) (T := TX8) ok ob_71 rfl i_X8 tyX8 tyX8_ok nmX8 9 (by decide) tw_fl_X8_13 rfl rfl (by decide) d (k _ rfl)
theorem cl_X8_109 {X : Cx} {cc : ByteArray} {nL pc fr lo : Nat} {L : List (Nat × Value)} {st : List Value} {S : St} (ok : Ok X cc nL RX8 fr lo) (d : decode cc pc = .ok (.invokevirtual 109, 3)) (hroom : 1 ≤ fr ∧ 20 ≤ lo) (hst : (st.map fun v => v.category).sum ≤ 8) {post : Int32 → St → Prop} (h : wp_X8_isWell S post) (kk : ∀ (r : Int32) (S1 : St), post r S1 → Wp X nL (pc + 3) L (.int r :: st) S1) : Wp X nL pc L (.ref (xad X 71) :: st) S :=
  r_callVi (n := 1) (f := 0) (lo1 := 0) (N := 0) (As := []) ok tw_in_X8 tw_im_X8_isWell tw_se_X8_isWell tw_co_X8_isWell tw_ml_X8_109 (by decide +kernel) rfl ob_71 rfl hroom hst d rfl (c_X8_isWell (xl X) (xG X) h) kk
def wp_X8_fails (x1 : Int32) (S : St) (post : St → Prop) : Prop :=
  wp_X8_isWell S (fun r2 S1 => ((r2 = 0 → post S1) ∧ (¬ r2 = 0 → ∀ S4 : St, S4 = up S1 71 8 x1 → ∀ S5 : St, S5 = up S4 71 9 (S4 71 5) → post S5)))
theorem w_wp_X8_fails {X : Cx} (ok : Ok X cX8_fails 2 RX8 1 20) {post : St → Prop} (hret : RetV X cX8_fails 2 post) {x1 : Int32} {S : St} (h : wp_X8_fails x1 S post) : Wp X 2 0 [(0, .ref (xad X 71)), (1, .int x1)] [] S := by
  unfold wp_X8_fails at h
  refine r_aload_n ok dX8_fails_0 0 rfl ?_
  refine cl_X8_109 ok dX8_fails_1 (by decide) (Nat.le_of_ble_eq_true rfl) h (fun r2 S1 h => ?_)
  refine r_if_eq (tgt := 20) ok dX8_fails_4 rfl (fun hc3 => ?_) (fun hc3 => ?_)
  · replace h := h.1 hc3
    exact hret _ _ _ dX8_fails_20 h
  · replace h := h.2 hc3
    refine r_aload_n ok dX8_fails_7 0 rfl ?_
    refine r_iload_n ok dX8_fails_8 1 rfl ?_
    refine pf_X8_106 ok dX8_fails_9 (fun S4 eS4 => ?_)
    replace h := h S4 eS4
    refine r_aload_n ok dX8_fails_12 0 rfl ?_
    refine r_aload_n ok dX8_fails_13 0 rfl ?_
    refine gf_X8_94 ok dX8_fails_14 ?_
    refine pf_X8_13 ok dX8_fails_17 (fun S5 eS5 => ?_)
    replace h := h S5 eS5
    exact hret _ _ _ dX8_fails_20 h
theorem c_X8_fails (l : Launch) (G : Gx) {x1 : Int32} {S : St} {post : St → Prop} (h : wp_X8_fails x1 S post) : MtV l yX8_fails cX8_fails 2 1 20 G [.ref (G.2.2 71), .int x1] S post :=
  ctV (by decide) rfl (Nat.le_of_ble_eq_true rfl) (fun X _ hG ok hret => by subst hG; exact w_wp_X8_fails ok hret h)

/-! HasteRoadsModel.number(IIIZ)I -/
theorem dX8_number_0 : decode cX8_number 0 = .ok (.aload_n 0, 1) := by decide +kernel
theorem dX8_number_1 : decode cX8_number 1 = .ok (.getfield 97, 3) := by decide +kernel
theorem dX8_number_4 : decode cX8_number 4 = .ok (.iconst 2, 1) := by decide +kernel
theorem dX8_number_5 : decode cX8_number 5 = .ok (.if_icmp .eq 11, 3) := by decide +kernel
theorem dX8_number_8 : decode cX8_number 8 = .ok (.aload_n 0, 1) := by decide +kernel
theorem dX8_number_9 : decode cX8_number 9 = .ok (.iconst 1, 1) := by decide +kernel
theorem dX8_number_10 : decode cX8_number 10 = .ok (.invokevirtual 113, 3) := by decide +kernel
theorem dX8_number_13 : decode cX8_number 13 = .ok (.goto 49, 3) := by decide +kernel
theorem dX8_number_16 : decode cX8_number 16 = .ok (.aload_n 0, 1) := by decide +kernel
theorem dX8_number_17 : decode cX8_number 17 = .ok (.getfield 103, 3) := by decide +kernel
theorem dX8_number_20 : decode cX8_number 20 = .ok (.iconst 3, 1) := by decide +kernel
theorem dX8_number_21 : decode cX8_number 21 = .ok (.if_icmp .gt 15, 3) := by decide +kernel
theorem dX8_number_24 : decode cX8_number 24 = .ok (.aload_n 0, 1) := by decide +kernel
theorem dX8_number_25 : decode cX8_number 25 = .ok (.getfield 100, 3) := by decide +kernel
theorem dX8_number_28 : decode cX8_number 28 = .ok (.iload_n 1, 1) := by decide +kernel
theorem dX8_number_29 : decode cX8_number 29 = .ok (.iload_n 2, 1) := by decide +kernel
theorem dX8_number_30 : decode cX8_number 30 = .ok (.invokestatic 78, 3) := by decide +kernel
theorem dX8_number_33 : decode cX8_number 33 = .ok (.ifCond .ne 11, 3) := by decide +kernel
theorem dX8_number_36 : decode cX8_number 36 = .ok (.aload_n 0, 1) := by decide +kernel
theorem dX8_number_37 : decode cX8_number 37 = .ok (.iconst 2, 1) := by decide +kernel
theorem dX8_number_38 : decode cX8_number 38 = .ok (.invokevirtual 113, 3) := by decide +kernel
theorem dX8_number_41 : decode cX8_number 41 = .ok (.goto 21, 3) := by decide +kernel
theorem dX8_number_44 : decode cX8_number 44 = .ok (.aload_n 0, 1) := by decide +kernel
theorem dX8_number_45 : decode cX8_number 45 = .ok (.getfield 100, 3) := by decide +kernel
theorem dX8_number_48 : decode cX8_number 48 = .ok (.iload_n 3, 1) := by decide +kernel
theorem dX8_number_49 : decode cX8_number 49 = .ok (.if_icmp .eq 8, 3) := by decide +kernel
theorem dX8_number_52 : decode cX8_number 52 = .ok (.iload 4, 2) := by decide +kernel
theorem dX8_number_54 : decode cX8_number 54 = .ok (.ifCond .eq 8, 3) := by decide +kernel
theorem dX8_number_57 : decode cX8_number 57 = .ok (.aload_n 0, 1) := by decide +kernel
theorem dX8_number_58 : decode cX8_number 58 = .ok (.iconst 4, 1) := by decide +kernel
theorem dX8_number_59 : decode cX8_number 59 = .ok (.invokevirtual 113, 3) := by decide +kernel
theorem dX8_number_62 : decode cX8_number 62 = .ok (.aload_n 0, 1) := by decide +kernel
theorem dX8_number_63 : decode cX8_number 63 = .ok (.invokevirtual 109, 3) := by decide +kernel
theorem dX8_number_66 : decode cX8_number 66 = .ok (.ifCond .eq 10, 3) := by decide +kernel
theorem dX8_number_69 : decode cX8_number 69 = .ok (.aload_n 0, 1) := by decide +kernel
theorem dX8_number_70 : decode cX8_number 70 = .ok (.getfield 100, 3) := by decide +kernel
theorem dX8_number_73 : decode cX8_number 73 = .ok (.goto 4, 3) := by decide +kernel
theorem dX8_number_76 : decode cX8_number 76 = .ok (.iload_n 1, 1) := by decide +kernel
theorem dX8_number_77 : decode cX8_number 77 = .ok (.istore 5, 2) := by decide +kernel
theorem dX8_number_79 : decode cX8_number 79 = .ok (.aload_n 0, 1) := by decide +kernel
theorem dX8_number_80 : decode cX8_number 80 = .ok (.invokevirtual 109, 3) := by decide +kernel
theorem dX8_number_83 : decode cX8_number 83 = .ok (.ifCond .eq 7, 3) := by decide +kernel
theorem dX8_number_86 : decode cX8_number 86 = .ok (.aload_n 0, 1) := by decide +kernel
theorem dX8_number_87 : decode cX8_number 87 = .ok (.invokevirtual 117, 3) := by decide +kernel
theorem dX8_number_90 : decode cX8_number 90 = .ok (.iload 5, 2) := by decide +kernel
theorem dX8_number_92 : decode cX8_number 92 = .ok (.ireturn, 1) := by decide +kernel
theorem gf_X8_97 {X : Cx} {cc : ByteArray} {nL pc fr lo : Nat} {L : List (Nat × Value)} {st : List Value} {S : St} (ok : Ok X cc nL RX8 fr lo) (d : decode cc pc = .ok (.getfield 97, 3)) (k : Wp X nL (pc + 3) L (.int (S 71 4) :: st) S) : Wp X nL pc L (.ref (xad X 71) :: st) S :=
  r_get (C := RX8) (T := TX8) ok ob_71 rfl i_X8 4 (by decide) tw_fl_X8_97 d (by rw [show fvl (xad X) S 71 4 = .int (S 71 4) from (fvl_int (by decide))]; exact k)
theorem gf_X8_103 {X : Cx} {cc : ByteArray} {nL pc fr lo : Nat} {L : List (Nat × Value)} {st : List Value} {S : St} (ok : Ok X cc nL RX8 fr lo) (d : decode cc pc = .ok (.getfield 103, 3)) (k : Wp X nL (pc + 3) L (.int (S 71 7) :: st) S) : Wp X nL pc L (.ref (xad X 71) :: st) S :=
  r_get (C := RX8) (T := TX8) ok ob_71 rfl i_X8 7 (by decide) tw_fl_X8_103 d (by rw [show fvl (xad X) S 71 7 = .int (S 71 7) from (fvl_int (by decide))]; exact k)
theorem cl_X8_113 {X : Cx} {cc : ByteArray} {nL pc fr lo : Nat} {L : List (Nat × Value)} {st : List Value} {S : St} (ok : Ok X cc nL RX8 fr lo) {x1 : Int32} (d : decode cc pc = .ok (.invokevirtual 113, 3)) (hroom : 2 ≤ fr ∧ 41 ≤ lo) (hst : (st.map fun v => v.category).sum ≤ 8) {post : St → Prop} (h : wp_X8_fails x1 S post) (kk : ∀ S1 : St, post S1 → Wp X nL (pc + 3) L st S1) : Wp X nL pc L (.int x1 :: .ref (xad X 71) :: st) S :=
  r_callVv (n := 2) (f := 1) (lo1 := 20) (N := 1) (As := [.int x1]) ok tw_in_X8 tw_im_X8_fails tw_se_X8_fails tw_co_X8_fails tw_ml_X8_113 (by decide +kernel) rfl ob_71 rfl hroom hst d rfl (c_X8_fails (xl X) (xG X) h) kk
theorem cl_X8_117 {X : Cx} {cc : ByteArray} {nL pc fr lo : Nat} {L : List (Nat × Value)} {st : List Value} {S : St} (ok : Ok X cc nL RX8 fr lo) (d : decode cc pc = .ok (.invokevirtual 117, 3)) (hroom : 2 ≤ fr ∧ 43 ≤ lo) (hst : (st.map fun v => v.category).sum ≤ 8) {post : St → Prop} (h : wp_X8_advances S post) (kk : ∀ S1 : St, post S1 → Wp X nL (pc + 3) L st S1) : Wp X nL pc L (.ref (xad X 71) :: st) S :=
  r_callVv (n := 2) (f := 1) (lo1 := 22) (N := 0) (As := []) ok tw_in_X8 tw_im_X8_advances tw_se_X8_advances tw_co_X8_advances tw_ml_X8_117 (by decide +kernel) rfl ob_71 rfl hroom hst d rfl (c_X8_advances (xl X) (xG X) h) kk
def B_X8_number_77 (post : Int32 → St → Prop) (s0 : Int32) (S : St) : Prop :=
  wp_X8_isWell S (fun r2 S1 => ((r2 = 0 → post s0 S1) ∧ (¬ r2 = 0 → wp_X8_advances S1 (fun S4 => post s0 S4))))
def B_X8_number_57 (post : Int32 → St → Prop) (x1 : Int32) (S : St) : Prop :=
  wp_X8_fails 4 S (fun S1 => wp_X8_isWell S1 (fun r3 S2 => ((r3 = 0 → B_X8_number_77 post x1 S2) ∧ (¬ r3 = 0 → B_X8_number_77 post (S2 71 6) S2))))
def B_X8_number_36 (post : Int32 → St → Prop) (x1 : Int32) (S : St) : Prop :=
  wp_X8_fails 2 S (fun S1 => wp_X8_isWell S1 (fun r3 S2 => ((r3 = 0 → B_X8_number_77 post x1 S2) ∧ (¬ r3 = 0 → B_X8_number_77 post (S2 71 6) S2))))
def wp_X8_number (x1 : Int32) (x2 : Int32) (x3 : Int32) (x4 : Int32) (S : St) (post : Int32 → St → Prop) : Prop :=
  (((S 71 4) = 2 → ((3 < (S 71 7) → B_X8_number_36 post x1 S) ∧ (¬ 3 < (S 71 7) → wp_X8_in (S 71 6) x1 x2 S (fun r4 S3 => ((¬ r4 = 0 → (((S3 71 6) = x3 → B_X8_number_57 post x1 S3) ∧ (¬ (S3 71 6) = x3 → ((x4 = 0 → wp_X8_isWell S3 (fun r9 S8 => ((r9 = 0 → B_X8_number_77 post x1 S8) ∧ (¬ r9 = 0 → B_X8_number_77 post (S8 71 6) S8)))) ∧ (¬ x4 = 0 → B_X8_number_57 post x1 S3))))) ∧ (r4 = 0 → B_X8_number_36 post x1 S3)))))) ∧ (¬ (S 71 4) = 2 → wp_X8_fails 1 S (fun S11 => wp_X8_isWell S11 (fun r13 S12 => ((r13 = 0 → B_X8_number_77 post x1 S12) ∧ (¬ r13 = 0 → B_X8_number_77 post (S12 71 6) S12))))))
theorem w_B_X8_number_77 {X : Cx} (ok : Ok X cX8_number 6 RX8 2 43) {post : Int32 → St → Prop} (hret : RetI X cX8_number 6 post) {s0 : Int32} {S : St} (h : B_X8_number_77 post s0 S) : Wp X 6 77 [(0, .ref (xad X 71))] [.int s0] S := by
  unfold B_X8_number_77 at h
  refine r_istore ok dX8_number_77 (by decide) [(0, .ref (xad X 71)), (5, .int s0)] [1, 0] rfl ?_
  refine r_aload_n ok dX8_number_79 0 rfl ?_
  refine cl_X8_109 ok dX8_number_80 (by decide) (Nat.le_of_ble_eq_true rfl) h (fun r2 S1 h => ?_)
  refine r_if_eq (tgt := 90) ok dX8_number_83 rfl (fun hc3 => ?_) (fun hc3 => ?_)
  · replace h := h.1 hc3
    refine r_iload ok dX8_number_90 1 rfl ?_
    exact hret _ _ _ _ dX8_number_92 h
  · replace h := h.2 hc3
    refine r_aload_n ok dX8_number_86 0 rfl ?_
    refine cl_X8_117 ok dX8_number_87 (by decide) (Nat.le_of_ble_eq_true rfl) h (fun S4 h => ?_)
    refine r_iload ok dX8_number_90 1 rfl ?_
    exact hret _ _ _ _ dX8_number_92 h
theorem w_B_X8_number_57 {X : Cx} (ok : Ok X cX8_number 6 RX8 2 43) {post : Int32 → St → Prop} (hret : RetI X cX8_number 6 post) {x1 : Int32} {S : St} (h : B_X8_number_57 post x1 S) : Wp X 6 57 [(0, .ref (xad X 71)), (1, .int x1)] [] S := by
  unfold B_X8_number_57 at h
  refine r_aload_n ok dX8_number_57 0 rfl ?_
  refine r_iconst (v := 4) ok dX8_number_58 rfl ?_
  refine cl_X8_113 ok dX8_number_59 (by decide) (Nat.le_of_ble_eq_true rfl) h (fun S1 h => ?_)
  refine r_aload_n ok dX8_number_62 0 rfl ?_
  refine cl_X8_109 ok dX8_number_63 (by decide) (Nat.le_of_ble_eq_true rfl) h (fun r3 S2 h => ?_)
  refine r_if_eq (tgt := 76) ok dX8_number_66 rfl (fun hc4 => ?_) (fun hc4 => ?_)
  · replace h := h.1 hc4
    refine r_iload_n ok dX8_number_76 1 rfl ?_
    refine r_sub [(0, .ref (xad X 71))] [0] rfl ?_
    exact w_B_X8_number_77 ok hret h
  · replace h := h.2 hc4
    refine r_aload_n ok dX8_number_69 0 rfl ?_
    refine gf_X8_100 ok dX8_number_70 ?_
    refine r_goto (tgt := 77) ok dX8_number_73 rfl ?_
    refine r_sub [(0, .ref (xad X 71))] [0] rfl ?_
    exact w_B_X8_number_77 ok hret h
theorem w_B_X8_number_36 {X : Cx} (ok : Ok X cX8_number 6 RX8 2 43) {post : Int32 → St → Prop} (hret : RetI X cX8_number 6 post) {x1 : Int32} {S : St} (h : B_X8_number_36 post x1 S) : Wp X 6 36 [(0, .ref (xad X 71)), (1, .int x1)] [] S := by
  unfold B_X8_number_36 at h
  refine r_aload_n ok dX8_number_36 0 rfl ?_
  refine r_iconst (v := 2) ok dX8_number_37 rfl ?_
  refine cl_X8_113 ok dX8_number_38 (by decide) (Nat.le_of_ble_eq_true rfl) h (fun S1 h => ?_)
  refine r_goto (tgt := 62) ok dX8_number_41 rfl ?_
  refine r_aload_n ok dX8_number_62 0 rfl ?_
  refine cl_X8_109 ok dX8_number_63 (by decide) (Nat.le_of_ble_eq_true rfl) h (fun r3 S2 h => ?_)
  refine r_if_eq (tgt := 76) ok dX8_number_66 rfl (fun hc4 => ?_) (fun hc4 => ?_)
  · replace h := h.1 hc4
    refine r_iload_n ok dX8_number_76 1 rfl ?_
    refine r_sub [(0, .ref (xad X 71))] [0] rfl ?_
    exact w_B_X8_number_77 ok hret h
  · replace h := h.2 hc4
    refine r_aload_n ok dX8_number_69 0 rfl ?_
    refine gf_X8_100 ok dX8_number_70 ?_
    refine r_goto (tgt := 77) ok dX8_number_73 rfl ?_
    refine r_sub [(0, .ref (xad X 71))] [0] rfl ?_
    exact w_B_X8_number_77 ok hret h
theorem w_wp_X8_number {X : Cx} (ok : Ok X cX8_number 6 RX8 2 43) {post : Int32 → St → Prop} (hret : RetI X cX8_number 6 post) {x1 x2 x3 x4 : Int32} {S : St} (h : wp_X8_number x1 x2 x3 x4 S post) : Wp X 6 0 [(0, .ref (xad X 71)), (1, .int x1), (2, .int x2), (3, .int x3), (4, .int x4)] [] S := by
  unfold wp_X8_number at h
  refine r_aload_n ok dX8_number_0 0 rfl ?_
  refine gf_X8_97 ok dX8_number_1 ?_
  refine r_iconst (v := 2) ok dX8_number_4 rfl ?_
  refine r_icmp_eq (tgt := 16) ok dX8_number_5 rfl (fun hc1 => ?_) (fun hc1 => ?_)
  · replace h := h.1 hc1
    refine r_aload_n ok dX8_number_16 0 rfl ?_
    refine gf_X8_103 ok dX8_number_17 ?_
    refine r_iconst (v := 3) ok dX8_number_20 rfl ?_
    refine r_icmp_gt (tgt := 36) ok dX8_number_21 rfl (fun hc2 => ?_) (fun hc2 => ?_)
    · replace h := h.1 hc2
      refine r_sub [(0, .ref (xad X 71)), (1, .int x1)] [0, 1] rfl ?_
      exact w_B_X8_number_36 ok hret h
    · replace h := h.2 hc2
      refine r_aload_n ok dX8_number_24 0 rfl ?_
      refine gf_X8_100 ok dX8_number_25 ?_
      refine r_iload_n ok dX8_number_28 1 rfl ?_
      refine r_iload_n ok dX8_number_29 2 rfl ?_
      refine cl_X8_78 ok dX8_number_30 (by decide) (Nat.le_of_ble_eq_true rfl) h (fun r4 S3 h => ?_)
      refine r_if_ne (tgt := 44) ok dX8_number_33 rfl (fun hc5 => ?_) (fun hc5 => ?_)
      · replace h := h.1 hc5
        refine r_aload_n ok dX8_number_44 0 rfl ?_
        refine gf_X8_100 ok dX8_number_45 ?_
        refine r_iload_n ok dX8_number_48 3 rfl ?_
        refine r_icmp_eq (tgt := 57) ok dX8_number_49 rfl (fun hc6 => ?_) (fun hc6 => ?_)
        · replace h := h.1 hc6
          refine r_sub [(0, .ref (xad X 71)), (1, .int x1)] [0, 1] rfl ?_
          exact w_B_X8_number_57 ok hret h
        · replace h := h.2 hc6
          refine r_iload ok dX8_number_52 4 rfl ?_
          refine r_if_eq (tgt := 62) ok dX8_number_54 rfl (fun hc7 => ?_) (fun hc7 => ?_)
          · replace h := h.1 hc7
            refine r_aload_n ok dX8_number_62 0 rfl ?_
            refine cl_X8_109 ok dX8_number_63 (by decide) (Nat.le_of_ble_eq_true rfl) h (fun r9 S8 h => ?_)
            refine r_if_eq (tgt := 76) ok dX8_number_66 rfl (fun hc10 => ?_) (fun hc10 => ?_)
            · replace h := h.1 hc10
              refine r_iload_n ok dX8_number_76 1 rfl ?_
              refine r_sub [(0, .ref (xad X 71))] [0] rfl ?_
              exact w_B_X8_number_77 ok hret h
            · replace h := h.2 hc10
              refine r_aload_n ok dX8_number_69 0 rfl ?_
              refine gf_X8_100 ok dX8_number_70 ?_
              refine r_goto (tgt := 77) ok dX8_number_73 rfl ?_
              refine r_sub [(0, .ref (xad X 71))] [0] rfl ?_
              exact w_B_X8_number_77 ok hret h
          · replace h := h.2 hc7
            refine r_sub [(0, .ref (xad X 71)), (1, .int x1)] [0, 1] rfl ?_
            exact w_B_X8_number_57 ok hret h
      · replace h := h.2 hc5
        refine r_sub [(0, .ref (xad X 71)), (1, .int x1)] [0, 1] rfl ?_
        exact w_B_X8_number_36 ok hret h
  · replace h := h.2 hc1
    refine r_aload_n ok dX8_number_8 0 rfl ?_
    refine r_iconst (v := 1) ok dX8_number_9 rfl ?_
    refine cl_X8_113 ok dX8_number_10 (by decide) (Nat.le_of_ble_eq_true rfl) h (fun S11 h => ?_)
    refine r_goto (tgt := 62) ok dX8_number_13 rfl ?_
    refine r_aload_n ok dX8_number_62 0 rfl ?_
    refine cl_X8_109 ok dX8_number_63 (by decide) (Nat.le_of_ble_eq_true rfl) h (fun r13 S12 h => ?_)
    refine r_if_eq (tgt := 76) ok dX8_number_66 rfl (fun hc14 => ?_) (fun hc14 => ?_)
    · replace h := h.1 hc14
      refine r_iload_n ok dX8_number_76 1 rfl ?_
      refine r_sub [(0, .ref (xad X 71))] [0] rfl ?_
      exact w_B_X8_number_77 ok hret h
    · replace h := h.2 hc14
      refine r_aload_n ok dX8_number_69 0 rfl ?_
      refine gf_X8_100 ok dX8_number_70 ?_
      refine r_goto (tgt := 77) ok dX8_number_73 rfl ?_
      refine r_sub [(0, .ref (xad X 71))] [0] rfl ?_
      exact w_B_X8_number_77 ok hret h
theorem c_X8_number (l : Launch) (G : Gx) {x1 x2 x3 x4 : Int32} {S : St} {post : Int32 → St → Prop} (h : wp_X8_number x1 x2 x3 x4 S post) : MtI l yX8_number cX8_number 6 (some .int) 2 43 G [.ref (G.2.2 71), .int x1, .int x2, .int x3, .int x4] S post :=
  ctI (by decide) rfl (Nat.le_of_ble_eq_true rfl) (fun X _ hG ok hret => by subst hG; exact w_wp_X8_number ok hret h)

/-! HasteRoadsModel.spot()I -/
theorem dX8_spot_0 : decode cX8_spot 0 = .ok (.aload_n 0, 1) := by decide +kernel
theorem dX8_spot_1 : decode cX8_spot 1 = .ok (.iconst 0, 1) := by decide +kernel
theorem dX8_spot_2 : decode cX8_spot 2 = .ok (.aload_n 0, 1) := by decide +kernel
theorem dX8_spot_3 : decode cX8_spot 3 = .ok (.getfield 120, 3) := by decide +kernel
theorem dX8_spot_6 : decode cX8_spot 6 = .ok (.iconst 1, 1) := by decide +kernel
theorem dX8_spot_7 : decode cX8_spot 7 = .ok (.isub, 1) := by decide +kernel
theorem dX8_spot_8 : decode cX8_spot 8 = .ok (.iconst (-1), 1) := by decide +kernel
theorem dX8_spot_9 : decode cX8_spot 9 = .ok (.iconst 0, 1) := by decide +kernel
theorem dX8_spot_10 : decode cX8_spot 10 = .ok (.invokevirtual 123, 3) := by decide +kernel
theorem dX8_spot_13 : decode cX8_spot 13 = .ok (.ireturn, 1) := by decide +kernel
theorem gf_X8_120 {X : Cx} {cc : ByteArray} {nL pc fr lo : Nat} {L : List (Nat × Value)} {st : List Value} {S : St} (ok : Ok X cc nL RX8 fr lo) (d : decode cc pc = .ok (.getfield 120, 3)) (k : Wp X nL (pc + 3) L (.int (S 71 15) :: st) S) : Wp X nL pc L (.ref (xad X 71) :: st) S :=
  r_get (C := RX8) (T := TX8) ok ob_71 rfl i_X8 15 (by decide) tw_fl_X8_120 d (by rw [show fvl (xad X) S 71 15 = .int (S 71 15) from (fvl_int (by decide))]; exact k)
theorem cl_X8_123 {X : Cx} {cc : ByteArray} {nL pc fr lo : Nat} {L : List (Nat × Value)} {st : List Value} {S : St} (ok : Ok X cc nL RX8 fr lo) {x1 x2 x3 x4 : Int32} (d : decode cc pc = .ok (.invokevirtual 123, 3)) (hroom : 3 ≤ fr ∧ 68 ≤ lo) (hst : (st.map fun v => v.category).sum ≤ 8) {post : Int32 → St → Prop} (h : wp_X8_number x1 x2 x3 x4 S post) (kk : ∀ (r : Int32) (S1 : St), post r S1 → Wp X nL (pc + 3) L (.int r :: st) S1) : Wp X nL pc L (.int x4 :: .int x3 :: .int x2 :: .int x1 :: .ref (xad X 71) :: st) S :=
  r_callVi (n := 6) (f := 2) (lo1 := 43) (N := 4) (As := [.int x1, .int x2, .int x3, .int x4]) ok tw_in_X8 tw_im_X8_number tw_se_X8_number tw_co_X8_number tw_ml_X8_123 (by decide +kernel) rfl ob_71 rfl hroom hst d rfl (c_X8_number (xl X) (xG X) h) kk
def wp_X8_spot (S : St) (post : Int32 → St → Prop) : Prop :=
  wp_X8_number 0 ((S 71 15) - 1) (-1) 0 S (fun r2 S1 => post r2 S1)
theorem w_wp_X8_spot {X : Cx} (ok : Ok X cX8_spot 1 RX8 3 68) {post : Int32 → St → Prop} (hret : RetI X cX8_spot 1 post) {S : St} (h : wp_X8_spot S post) : Wp X 1 0 [(0, .ref (xad X 71))] [] S := by
  unfold wp_X8_spot at h
  refine r_aload_n ok dX8_spot_0 0 rfl ?_
  refine r_iconst (v := 0) ok dX8_spot_1 rfl ?_
  refine r_aload_n ok dX8_spot_2 0 rfl ?_
  refine gf_X8_120 ok dX8_spot_3 ?_
  refine r_iconst (v := 1) ok dX8_spot_6 rfl ?_
  refine r_isub ok dX8_spot_7 ?_
  refine r_iconst (v := (-1)) ok dX8_spot_8 rfl ?_
  refine r_iconst (v := 0) ok dX8_spot_9 rfl ?_
  refine cl_X8_123 ok dX8_spot_10 (by decide) (Nat.le_of_ble_eq_true rfl) h (fun r2 S1 h => ?_)
  exact hret _ _ _ _ dX8_spot_13 h
theorem c_X8_spot (l : Launch) (G : Gx) {S : St} {post : Int32 → St → Prop} (h : wp_X8_spot S post) : MtI l yX8_spot cX8_spot 1 (some .int) 3 68 G [.ref (G.2.2 71)] S post :=
  ctI (by decide) rfl (Nat.le_of_ble_eq_true rfl) (fun X _ hG ok hret => by subst hG; exact w_wp_X8_spot ok hret h)

/-! HasteRoadsModel.clause(I)V -/
theorem dX8_clause_0 : decode cX8_clause 0 = .ok (.iload_n 1, 1) := by decide +kernel
theorem dX8_clause_1 : decode cX8_clause 1 = .ok (.bipush 112, 2) := by decide +kernel
theorem dX8_clause_3 : decode cX8_clause 3 = .ok (.if_icmp .ne 38, 3) := by decide +kernel
theorem dX8_clause_6 : decode cX8_clause 6 = .ok (.aload_n 0, 1) := by decide +kernel
theorem dX8_clause_7 : decode cX8_clause 7 = .ok (.dup, 1) := by decide +kernel
theorem dX8_clause_8 : decode cX8_clause 8 = .ok (.getfield 127, 3) := by decide +kernel
theorem dX8_clause_11 : decode cX8_clause 11 = .ok (.aload_n 0, 1) := by decide +kernel
theorem dX8_clause_12 : decode cX8_clause 12 = .ok (.iconst 0, 1) := by decide +kernel
theorem dX8_clause_13 : decode cX8_clause 13 = .ok (.iconst 1, 1) := by decide +kernel
theorem dX8_clause_14 : decode cX8_clause 14 = .ok (.iconst (-1), 1) := by decide +kernel
theorem dX8_clause_15 : decode cX8_clause 15 = .ok (.iconst 0, 1) := by decide +kernel
theorem dX8_clause_16 : decode cX8_clause 16 = .ok (.invokevirtual 123, 3) := by decide +kernel
theorem dX8_clause_19 : decode cX8_clause 19 = .ok (.aload_n 0, 1) := by decide +kernel
theorem dX8_clause_20 : decode cX8_clause 20 = .ok (.getfield 120, 3) := by decide +kernel
theorem dX8_clause_23 : decode cX8_clause 23 = .ok (.ishl, 1) := by decide +kernel
theorem dX8_clause_24 : decode cX8_clause 24 = .ok (.ior, 1) := by decide +kernel
theorem dX8_clause_25 : decode cX8_clause 25 = .ok (.putfield 127, 3) := by decide +kernel
theorem dX8_clause_28 : decode cX8_clause 28 = .ok (.aload_n 0, 1) := by decide +kernel
theorem dX8_clause_29 : decode cX8_clause 29 = .ok (.dup, 1) := by decide +kernel
theorem dX8_clause_30 : decode cX8_clause 30 = .ok (.getfield 120, 3) := by decide +kernel
theorem dX8_clause_33 : decode cX8_clause 33 = .ok (.iconst 1, 1) := by decide +kernel
theorem dX8_clause_34 : decode cX8_clause 34 = .ok (.iadd, 1) := by decide +kernel
theorem dX8_clause_35 : decode cX8_clause 35 = .ok (.putfield 120, 3) := by decide +kernel
theorem dX8_clause_38 : decode cX8_clause 38 = .ok (.goto 262, 3) := by decide +kernel
theorem dX8_clause_41 : decode cX8_clause 41 = .ok (.iload_n 1, 1) := by decide +kernel
theorem dX8_clause_42 : decode cX8_clause 42 = .ok (.bipush 114, 2) := by decide +kernel
theorem dX8_clause_44 : decode cX8_clause 44 = .ok (.if_icmp .ne 79, 3) := by decide +kernel
theorem dX8_clause_47 : decode cX8_clause 47 = .ok (.bipush 27, 2) := by decide +kernel
theorem dX8_clause_49 : decode cX8_clause 49 = .ok (.iconst 3, 1) := by decide +kernel
theorem dX8_clause_50 : decode cX8_clause 50 = .ok (.aload_n 0, 1) := by decide +kernel
theorem dX8_clause_51 : decode cX8_clause 51 = .ok (.getfield 130, 3) := by decide +kernel
theorem dX8_clause_54 : decode cX8_clause 54 = .ok (.imul, 1) := by decide +kernel
theorem dX8_clause_55 : decode cX8_clause 55 = .ok (.iadd, 1) := by decide +kernel
theorem dX8_clause_56 : decode cX8_clause 56 = .ok (.istore_n 2, 1) := by decide +kernel
theorem dX8_clause_57 : decode cX8_clause 57 = .ok (.aload_n 0, 1) := by decide +kernel
theorem dX8_clause_58 : decode cX8_clause 58 = .ok (.getfield 17, 3) := by decide +kernel
theorem dX8_clause_61 : decode cX8_clause 61 = .ok (.iload_n 2, 1) := by decide +kernel
theorem dX8_clause_62 : decode cX8_clause 62 = .ok (.aload_n 0, 1) := by decide +kernel
theorem dX8_clause_63 : decode cX8_clause 63 = .ok (.invokevirtual 133, 3) := by decide +kernel
theorem dX8_clause_66 : decode cX8_clause 66 = .ok (.iastore, 1) := by decide +kernel
theorem dX8_clause_67 : decode cX8_clause 67 = .ok (.aload_n 0, 1) := by decide +kernel
theorem dX8_clause_68 : decode cX8_clause 68 = .ok (.getfield 17, 3) := by decide +kernel
theorem dX8_clause_71 : decode cX8_clause 71 = .ok (.iload_n 2, 1) := by decide +kernel
theorem dX8_clause_72 : decode cX8_clause 72 = .ok (.iconst 1, 1) := by decide +kernel
theorem dX8_clause_73 : decode cX8_clause 73 = .ok (.iadd, 1) := by decide +kernel
theorem dX8_clause_74 : decode cX8_clause 74 = .ok (.aload_n 0, 1) := by decide +kernel
theorem dX8_clause_75 : decode cX8_clause 75 = .ok (.iconst 0, 1) := by decide +kernel
theorem dX8_clause_76 : decode cX8_clause 76 = .ok (.aload_n 0, 1) := by decide +kernel
theorem dX8_clause_77 : decode cX8_clause 77 = .ok (.getfield 120, 3) := by decide +kernel
theorem dX8_clause_80 : decode cX8_clause 80 = .ok (.iconst 1, 1) := by decide +kernel
theorem dX8_clause_81 : decode cX8_clause 81 = .ok (.isub, 1) := by decide +kernel
theorem dX8_clause_82 : decode cX8_clause 82 = .ok (.aload_n 0, 1) := by decide +kernel
theorem dX8_clause_83 : decode cX8_clause 83 = .ok (.getfield 17, 3) := by decide +kernel
theorem dX8_clause_86 : decode cX8_clause 86 = .ok (.iload_n 2, 1) := by decide +kernel
theorem dX8_clause_87 : decode cX8_clause 87 = .ok (.iaload, 1) := by decide +kernel
theorem dX8_clause_88 : decode cX8_clause 88 = .ok (.iconst 0, 1) := by decide +kernel
theorem dX8_clause_89 : decode cX8_clause 89 = .ok (.invokevirtual 123, 3) := by decide +kernel
theorem dX8_clause_92 : decode cX8_clause 92 = .ok (.iastore, 1) := by decide +kernel
theorem dX8_clause_93 : decode cX8_clause 93 = .ok (.aload_n 0, 1) := by decide +kernel
theorem dX8_clause_94 : decode cX8_clause 94 = .ok (.getfield 17, 3) := by decide +kernel
theorem dX8_clause_97 : decode cX8_clause 97 = .ok (.iload_n 2, 1) := by decide +kernel
theorem dX8_clause_98 : decode cX8_clause 98 = .ok (.iconst 2, 1) := by decide +kernel
theorem dX8_clause_99 : decode cX8_clause 99 = .ok (.iadd, 1) := by decide +kernel
theorem dX8_clause_100 : decode cX8_clause 100 = .ok (.aload_n 0, 1) := by decide +kernel
theorem dX8_clause_101 : decode cX8_clause 101 = .ok (.iconst 1, 1) := by decide +kernel
theorem dX8_clause_102 : decode cX8_clause 102 = .ok (.bipush 20, 2) := by decide +kernel
theorem dX8_clause_104 : decode cX8_clause 104 = .ok (.iconst (-1), 1) := by decide +kernel
theorem dX8_clause_105 : decode cX8_clause 105 = .ok (.iconst 0, 1) := by decide +kernel
theorem dX8_clause_106 : decode cX8_clause 106 = .ok (.invokevirtual 123, 3) := by decide +kernel
theorem dX8_clause_109 : decode cX8_clause 109 = .ok (.iastore, 1) := by decide +kernel
theorem dX8_clause_110 : decode cX8_clause 110 = .ok (.aload_n 0, 1) := by decide +kernel
theorem dX8_clause_111 : decode cX8_clause 111 = .ok (.dup, 1) := by decide +kernel
theorem dX8_clause_112 : decode cX8_clause 112 = .ok (.getfield 130, 3) := by decide +kernel
theorem dX8_clause_115 : decode cX8_clause 115 = .ok (.iconst 1, 1) := by decide +kernel
theorem dX8_clause_116 : decode cX8_clause 116 = .ok (.iadd, 1) := by decide +kernel
theorem dX8_clause_117 : decode cX8_clause 117 = .ok (.putfield 130, 3) := by decide +kernel
theorem dX8_clause_120 : decode cX8_clause 120 = .ok (.goto 180, 3) := by decide +kernel
theorem dX8_clause_123 : decode cX8_clause 123 = .ok (.iload_n 1, 1) := by decide +kernel
theorem dX8_clause_124 : decode cX8_clause 124 = .ok (.bipush 109, 2) := by decide +kernel
theorem dX8_clause_126 : decode cX8_clause 126 = .ok (.if_icmp .ne 99, 3) := by decide +kernel
theorem dX8_clause_129 : decode cX8_clause 129 = .ok (.bipush 20, 2) := by decide +kernel
theorem dX8_clause_131 : decode cX8_clause 131 = .ok (.iconst 5, 1) := by decide +kernel
theorem dX8_clause_132 : decode cX8_clause 132 = .ok (.aload_n 0, 1) := by decide +kernel
theorem dX8_clause_133 : decode cX8_clause 133 = .ok (.getfield 137, 3) := by decide +kernel
theorem dX8_clause_136 : decode cX8_clause 136 = .ok (.imul, 1) := by decide +kernel
theorem dX8_clause_137 : decode cX8_clause 137 = .ok (.iadd, 1) := by decide +kernel
theorem dX8_clause_138 : decode cX8_clause 138 = .ok (.istore_n 2, 1) := by decide +kernel
theorem dX8_clause_139 : decode cX8_clause 139 = .ok (.aload_n 0, 1) := by decide +kernel
theorem dX8_clause_140 : decode cX8_clause 140 = .ok (.getfield 20, 3) := by decide +kernel
theorem dX8_clause_143 : decode cX8_clause 143 = .ok (.iload_n 2, 1) := by decide +kernel
theorem dX8_clause_144 : decode cX8_clause 144 = .ok (.aload_n 0, 1) := by decide +kernel
theorem dX8_clause_145 : decode cX8_clause 145 = .ok (.invokevirtual 133, 3) := by decide +kernel
theorem dX8_clause_148 : decode cX8_clause 148 = .ok (.iastore, 1) := by decide +kernel
theorem dX8_clause_149 : decode cX8_clause 149 = .ok (.aload_n 0, 1) := by decide +kernel
theorem dX8_clause_150 : decode cX8_clause 150 = .ok (.getfield 20, 3) := by decide +kernel
theorem dX8_clause_153 : decode cX8_clause 153 = .ok (.iload_n 2, 1) := by decide +kernel
theorem dX8_clause_154 : decode cX8_clause 154 = .ok (.iconst 1, 1) := by decide +kernel
theorem dX8_clause_155 : decode cX8_clause 155 = .ok (.iadd, 1) := by decide +kernel
theorem dX8_clause_156 : decode cX8_clause 156 = .ok (.aload_n 0, 1) := by decide +kernel
theorem dX8_clause_157 : decode cX8_clause 157 = .ok (.invokevirtual 133, 3) := by decide +kernel
theorem dX8_clause_160 : decode cX8_clause 160 = .ok (.iastore, 1) := by decide +kernel
theorem dX8_clause_161 : decode cX8_clause 161 = .ok (.aload_n 0, 1) := by decide +kernel
theorem dX8_clause_162 : decode cX8_clause 162 = .ok (.getfield 20, 3) := by decide +kernel
theorem dX8_clause_165 : decode cX8_clause 165 = .ok (.iload_n 2, 1) := by decide +kernel
theorem dX8_clause_166 : decode cX8_clause 166 = .ok (.iconst 2, 1) := by decide +kernel
theorem dX8_clause_167 : decode cX8_clause 167 = .ok (.iadd, 1) := by decide +kernel
theorem dX8_clause_168 : decode cX8_clause 168 = .ok (.aload_n 0, 1) := by decide +kernel
theorem dX8_clause_169 : decode cX8_clause 169 = .ok (.iconst 0, 1) := by decide +kernel
theorem dX8_clause_170 : decode cX8_clause 170 = .ok (.bipush 9, 2) := by decide +kernel
theorem dX8_clause_172 : decode cX8_clause 172 = .ok (.iconst (-1), 1) := by decide +kernel
theorem dX8_clause_173 : decode cX8_clause 173 = .ok (.iconst 0, 1) := by decide +kernel
theorem dX8_clause_174 : decode cX8_clause 174 = .ok (.invokevirtual 123, 3) := by decide +kernel
theorem dX8_clause_177 : decode cX8_clause 177 = .ok (.iastore, 1) := by decide +kernel
theorem dX8_clause_178 : decode cX8_clause 178 = .ok (.aload_n 0, 1) := by decide +kernel
theorem dX8_clause_179 : decode cX8_clause 179 = .ok (.getfield 20, 3) := by decide +kernel
theorem dX8_clause_182 : decode cX8_clause 182 = .ok (.iload_n 2, 1) := by decide +kernel
theorem dX8_clause_183 : decode cX8_clause 183 = .ok (.iconst 3, 1) := by decide +kernel
theorem dX8_clause_184 : decode cX8_clause 184 = .ok (.iadd, 1) := by decide +kernel
theorem dX8_clause_185 : decode cX8_clause 185 = .ok (.aload_n 0, 1) := by decide +kernel
theorem dX8_clause_186 : decode cX8_clause 186 = .ok (.iconst 0, 1) := by decide +kernel
theorem dX8_clause_187 : decode cX8_clause 187 = .ok (.iconst 5, 1) := by decide +kernel
theorem dX8_clause_188 : decode cX8_clause 188 = .ok (.iconst (-1), 1) := by decide +kernel
theorem dX8_clause_189 : decode cX8_clause 189 = .ok (.iconst 0, 1) := by decide +kernel
theorem dX8_clause_190 : decode cX8_clause 190 = .ok (.invokevirtual 123, 3) := by decide +kernel
theorem dX8_clause_193 : decode cX8_clause 193 = .ok (.iastore, 1) := by decide +kernel
theorem dX8_clause_194 : decode cX8_clause 194 = .ok (.aload_n 0, 1) := by decide +kernel
theorem dX8_clause_195 : decode cX8_clause 195 = .ok (.getfield 20, 3) := by decide +kernel
theorem dX8_clause_198 : decode cX8_clause 198 = .ok (.iload_n 2, 1) := by decide +kernel
theorem dX8_clause_199 : decode cX8_clause 199 = .ok (.iconst 4, 1) := by decide +kernel
theorem dX8_clause_200 : decode cX8_clause 200 = .ok (.iadd, 1) := by decide +kernel
theorem dX8_clause_201 : decode cX8_clause 201 = .ok (.aload_n 0, 1) := by decide +kernel
theorem dX8_clause_202 : decode cX8_clause 202 = .ok (.iconst 0, 1) := by decide +kernel
theorem dX8_clause_203 : decode cX8_clause 203 = .ok (.sipush 999, 3) := by decide +kernel
theorem dX8_clause_206 : decode cX8_clause 206 = .ok (.iconst (-1), 1) := by decide +kernel
theorem dX8_clause_207 : decode cX8_clause 207 = .ok (.iconst 0, 1) := by decide +kernel
theorem dX8_clause_208 : decode cX8_clause 208 = .ok (.invokevirtual 123, 3) := by decide +kernel
theorem dX8_clause_211 : decode cX8_clause 211 = .ok (.iastore, 1) := by decide +kernel
theorem dX8_clause_212 : decode cX8_clause 212 = .ok (.aload_n 0, 1) := by decide +kernel
theorem dX8_clause_213 : decode cX8_clause 213 = .ok (.dup, 1) := by decide +kernel
theorem dX8_clause_214 : decode cX8_clause 214 = .ok (.getfield 137, 3) := by decide +kernel
theorem dX8_clause_217 : decode cX8_clause 217 = .ok (.iconst 1, 1) := by decide +kernel
theorem dX8_clause_218 : decode cX8_clause 218 = .ok (.iadd, 1) := by decide +kernel
theorem dX8_clause_219 : decode cX8_clause 219 = .ok (.putfield 137, 3) := by decide +kernel
theorem dX8_clause_222 : decode cX8_clause 222 = .ok (.goto 78, 3) := by decide +kernel
theorem dX8_clause_225 : decode cX8_clause 225 = .ok (.aload_n 0, 1) := by decide +kernel
theorem dX8_clause_226 : decode cX8_clause 226 = .ok (.getfield 97, 3) := by decide +kernel
theorem dX8_clause_229 : decode cX8_clause 229 = .ok (.iconst 2, 1) := by decide +kernel
theorem dX8_clause_230 : decode cX8_clause 230 = .ok (.if_icmp .ne 31, 3) := by decide +kernel
theorem dX8_clause_233 : decode cX8_clause 233 = .ok (.aload_n 0, 1) := by decide +kernel
theorem dX8_clause_234 : decode cX8_clause 234 = .ok (.getfield 100, 3) := by decide +kernel
theorem dX8_clause_237 : decode cX8_clause 237 = .ok (.bipush 6, 2) := by decide +kernel
theorem dX8_clause_239 : decode cX8_clause 239 = .ok (.if_icmp .ge 22, 3) := by decide +kernel
theorem dX8_clause_242 : decode cX8_clause 242 = .ok (.aload_n 0, 1) := by decide +kernel
theorem dX8_clause_243 : decode cX8_clause 243 = .ok (.getfield 140, 3) := by decide +kernel
theorem dX8_clause_246 : decode cX8_clause 246 = .ok (.aload_n 0, 1) := by decide +kernel
theorem dX8_clause_247 : decode cX8_clause 247 = .ok (.getfield 100, 3) := by decide +kernel
theorem dX8_clause_250 : decode cX8_clause 250 = .ok (.ishr, 1) := by decide +kernel
theorem dX8_clause_251 : decode cX8_clause 251 = .ok (.iconst 1, 1) := by decide +kernel
theorem dX8_clause_252 : decode cX8_clause 252 = .ok (.iand, 1) := by decide +kernel
theorem dX8_clause_253 : decode cX8_clause 253 = .ok (.iconst 1, 1) := by decide +kernel
theorem dX8_clause_254 : decode cX8_clause 254 = .ok (.if_icmp .ne 7, 3) := by decide +kernel
theorem dX8_clause_257 : decode cX8_clause 257 = .ok (.iconst 1, 1) := by decide +kernel
theorem dX8_clause_258 : decode cX8_clause 258 = .ok (.goto 4, 3) := by decide +kernel
theorem dX8_clause_261 : decode cX8_clause 261 = .ok (.iconst 0, 1) := by decide +kernel
theorem dX8_clause_262 : decode cX8_clause 262 = .ok (.istore_n 2, 1) := by decide +kernel
theorem dX8_clause_263 : decode cX8_clause 263 = .ok (.aload_n 0, 1) := by decide +kernel
theorem dX8_clause_264 : decode cX8_clause 264 = .ok (.iconst 0, 1) := by decide +kernel
theorem dX8_clause_265 : decode cX8_clause 265 = .ok (.aload_n 0, 1) := by decide +kernel
theorem dX8_clause_266 : decode cX8_clause 266 = .ok (.getfield 120, 3) := by decide +kernel
theorem dX8_clause_269 : decode cX8_clause 269 = .ok (.iconst 1, 1) := by decide +kernel
theorem dX8_clause_270 : decode cX8_clause 270 = .ok (.isub, 1) := by decide +kernel
theorem dX8_clause_271 : decode cX8_clause 271 = .ok (.iconst (-1), 1) := by decide +kernel
theorem dX8_clause_272 : decode cX8_clause 272 = .ok (.iload_n 2, 1) := by decide +kernel
theorem dX8_clause_273 : decode cX8_clause 273 = .ok (.invokevirtual 123, 3) := by decide +kernel
theorem dX8_clause_276 : decode cX8_clause 276 = .ok (.istore_n 3, 1) := by decide +kernel
theorem dX8_clause_277 : decode cX8_clause 277 = .ok (.aload_n 0, 1) := by decide +kernel
theorem dX8_clause_278 : decode cX8_clause 278 = .ok (.dup, 1) := by decide +kernel
theorem dX8_clause_279 : decode cX8_clause 279 = .ok (.getfield 140, 3) := by decide +kernel
theorem dX8_clause_282 : decode cX8_clause 282 = .ok (.aload_n 0, 1) := by decide +kernel
theorem dX8_clause_283 : decode cX8_clause 283 = .ok (.invokevirtual 109, 3) := by decide +kernel
theorem dX8_clause_286 : decode cX8_clause 286 = .ok (.ifCond .eq 9, 3) := by decide +kernel
theorem dX8_clause_289 : decode cX8_clause 289 = .ok (.iconst 1, 1) := by decide +kernel
theorem dX8_clause_290 : decode cX8_clause 290 = .ok (.iload_n 3, 1) := by decide +kernel
theorem dX8_clause_291 : decode cX8_clause 291 = .ok (.ishl, 1) := by decide +kernel
theorem dX8_clause_292 : decode cX8_clause 292 = .ok (.goto 4, 3) := by decide +kernel
theorem dX8_clause_295 : decode cX8_clause 295 = .ok (.iconst 0, 1) := by decide +kernel
theorem dX8_clause_296 : decode cX8_clause 296 = .ok (.ior, 1) := by decide +kernel
theorem dX8_clause_297 : decode cX8_clause 297 = .ok (.putfield 140, 3) := by decide +kernel
theorem dX8_clause_300 : decode cX8_clause 300 = .ok (.return_, 1) := by decide +kernel
theorem gf_X8_140 {X : Cx} {cc : ByteArray} {nL pc fr lo : Nat} {L : List (Nat × Value)} {st : List Value} {S : St} (ok : Ok X cc nL RX8 fr lo) (d : decode cc pc = .ok (.getfield 140, 3)) (k : Wp X nL (pc + 3) L (.int (S 71 19) :: st) S) : Wp X nL pc L (.ref (xad X 71) :: st) S :=
  r_get (C := RX8) (T := TX8) ok ob_71 rfl i_X8 19 (by decide) tw_fl_X8_140 d (by rw [show fvl (xad X) S 71 19 = .int (S 71 19) from (fvl_int (by decide))]; exact k)
theorem gf_X8_137 {X : Cx} {cc : ByteArray} {nL pc fr lo : Nat} {L : List (Nat × Value)} {st : List Value} {S : St} (ok : Ok X cc nL RX8 fr lo) (d : decode cc pc = .ok (.getfield 137, 3)) (k : Wp X nL (pc + 3) L (.int (S 71 17) :: st) S) : Wp X nL pc L (.ref (xad X 71) :: st) S :=
  r_get (C := RX8) (T := TX8) ok ob_71 rfl i_X8 17 (by decide) tw_fl_X8_137 d (by rw [show fvl (xad X) S 71 17 = .int (S 71 17) from (fvl_int (by decide))]; exact k)
theorem gf_X8_20 {X : Cx} {cc : ByteArray} {nL pc fr lo : Nat} {L : List (Nat × Value)} {st : List Value} {S : St} (ok : Ok X cc nL RX8 fr lo) (d : decode cc pc = .ok (.getfield 20, 3)) (k : Wp X nL (pc + 3) L (.ref (xad X 74) :: st) S) : Wp X nL pc L (.ref (xad X 71) :: st) S :=
  r_get (C := RX8) (T := TX8) ok ob_71 rfl i_X8 14 (by decide) tw_fl_X8_20 d (by rw [show fvl (xad X) S 71 14 = .ref (xad X 74) from (fvl_ref (d := 74) (by decide))]; exact k)
theorem gf_X8_130 {X : Cx} {cc : ByteArray} {nL pc fr lo : Nat} {L : List (Nat × Value)} {st : List Value} {S : St} (ok : Ok X cc nL RX8 fr lo) (d : decode cc pc = .ok (.getfield 130, 3)) (k : Wp X nL (pc + 3) L (.int (S 71 16) :: st) S) : Wp X nL pc L (.ref (xad X 71) :: st) S :=
  r_get (C := RX8) (T := TX8) ok ob_71 rfl i_X8 16 (by decide) tw_fl_X8_130 d (by rw [show fvl (xad X) S 71 16 = .int (S 71 16) from (fvl_int (by decide))]; exact k)
theorem gf_X8_17 {X : Cx} {cc : ByteArray} {nL pc fr lo : Nat} {L : List (Nat × Value)} {st : List Value} {S : St} (ok : Ok X cc nL RX8 fr lo) (d : decode cc pc = .ok (.getfield 17, 3)) (k : Wp X nL (pc + 3) L (.ref (xad X 73) :: st) S) : Wp X nL pc L (.ref (xad X 71) :: st) S :=
  r_get (C := RX8) (T := TX8) ok ob_71 rfl i_X8 13 (by decide) tw_fl_X8_17 d (by rw [show fvl (xad X) S 71 13 = .ref (xad X 73) from (fvl_ref (d := 73) (by decide))]; exact k)
theorem gf_X8_127 {X : Cx} {cc : ByteArray} {nL pc fr lo : Nat} {L : List (Nat × Value)} {st : List Value} {S : St} (ok : Ok X cc nL RX8 fr lo) (d : decode cc pc = .ok (.getfield 127, 3)) (k : Wp X nL (pc + 3) L (.int (S 71 18) :: st) S) : Wp X nL pc L (.ref (xad X 71) :: st) S :=
  r_get (C := RX8) (T := TX8) ok ob_71 rfl i_X8 18 (by decide) tw_fl_X8_127 d (by rw [show fvl (xad X) S 71 18 = .int (S 71 18) from (fvl_int (by decide))]; exact k)
theorem pf_X8_137 {X : Cx} {cc : ByteArray} {nL pc fr lo : Nat} {L : List (Nat × Value)} {st : List Value} {S : St} {v : Int32} (ok : Ok X cc nL RX8 fr lo) (d : decode cc pc = .ok (.putfield 137, 3)) (k : ∀ S1 : St, S1 = up S 71 17 v → Wp X nL (pc + 3) L st S1) : Wp X nL pc L (.int v :: .ref (xad X 71) :: st) S :=
  r_put (C := RX8) (T := TX8) ok ob_71 rfl i_X8 tyX8 tyX8_ok nmX8 17 (by decide) tw_fl_X8_137 rfl rfl (by decide) d (k _ rfl)
theorem pf_X8_130 {X : Cx} {cc : ByteArray} {nL pc fr lo : Nat} {L : List (Nat × Value)} {st : List Value} {S : St} {v : Int32} (ok : Ok X cc nL RX8 fr lo) (d : decode cc pc = .ok (.putfield 130, 3)) (k : ∀ S1 : St, S1 = up S 71 16 v → Wp X nL (pc + 3) L st S1) : Wp X nL pc L (.int v :: .ref (xad X 71) :: st) S :=
  r_put (C := RX8) (T := TX8) ok ob_71 rfl i_X8 tyX8 tyX8_ok nmX8 16 (by decide) tw_fl_X8_130 rfl rfl (by decide) d (k _ rfl)
theorem pf_X8_127 {X : Cx} {cc : ByteArray} {nL pc fr lo : Nat} {L : List (Nat × Value)} {st : List Value} {S : St} {v : Int32} (ok : Ok X cc nL RX8 fr lo) (d : decode cc pc = .ok (.putfield 127, 3)) (k : ∀ S1 : St, S1 = up S 71 18 v → Wp X nL (pc + 3) L st S1) : Wp X nL pc L (.int v :: .ref (xad X 71) :: st) S :=
  r_put (C := RX8) (T := TX8) ok ob_71 rfl i_X8 tyX8 tyX8_ok nmX8 18 (by decide) tw_fl_X8_127 rfl rfl (by decide) d (k _ rfl)
theorem pf_X8_120 {X : Cx} {cc : ByteArray} {nL pc fr lo : Nat} {L : List (Nat × Value)} {st : List Value} {S : St} {v : Int32} (ok : Ok X cc nL RX8 fr lo) (d : decode cc pc = .ok (.putfield 120, 3)) (k : ∀ S1 : St, S1 = up S 71 15 v → Wp X nL (pc + 3) L st S1) : Wp X nL pc L (.int v :: .ref (xad X 71) :: st) S :=
  r_put (C := RX8) (T := TX8) ok ob_71 rfl i_X8 tyX8 tyX8_ok nmX8 15 (by decide) tw_fl_X8_120 rfl rfl (by decide) d (k _ rfl)
theorem pf_X8_140 {X : Cx} {cc : ByteArray} {nL pc fr lo : Nat} {L : List (Nat × Value)} {st : List Value} {S : St} {v : Int32} (ok : Ok X cc nL RX8 fr lo) (d : decode cc pc = .ok (.putfield 140, 3)) (k : ∀ S1 : St, S1 = up S 71 19 v → Wp X nL (pc + 3) L st S1) : Wp X nL pc L (.int v :: .ref (xad X 71) :: st) S :=
  r_put (C := RX8) (T := TX8) ok ob_71 rfl i_X8 tyX8 tyX8_ok nmX8 19 (by decide) tw_fl_X8_140 rfl rfl (by decide) d (k _ rfl)
theorem cl_X8_133 {X : Cx} {cc : ByteArray} {nL pc fr lo : Nat} {L : List (Nat × Value)} {st : List Value} {S : St} (ok : Ok X cc nL RX8 fr lo) (d : decode cc pc = .ok (.invokevirtual 133, 3)) (hroom : 4 ≤ fr ∧ 88 ≤ lo) (hst : (st.map fun v => v.category).sum ≤ 8) {post : Int32 → St → Prop} (h : wp_X8_spot S post) (kk : ∀ (r : Int32) (S1 : St), post r S1 → Wp X nL (pc + 3) L (.int r :: st) S1) : Wp X nL pc L (.ref (xad X 71) :: st) S :=
  r_callVi (n := 1) (f := 3) (lo1 := 68) (N := 0) (As := []) ok tw_in_X8 tw_im_X8_spot tw_se_X8_spot tw_co_X8_spot tw_ml_X8_133 (by decide +kernel) rfl ob_71 rfl hroom hst d rfl (c_X8_spot (xl X) (xG X) h) kk
def B_X8_clause_262 (post : St → Prop) (s0 : Int32) (S : St) : Prop :=
  wp_X8_number 0 ((S 71 15) - 1) (-1) s0 S (fun r2 S1 => wp_X8_isWell S1 (fun r4 S3 => ((r4 = 0 → ∀ S6 : St, S6 = up S3 71 19 ((S1 71 19) ||| 0) → post S6) ∧ (¬ r4 = 0 → ∀ S7 : St, S7 = up S3 71 19 ((S1 71 19) ||| ((1 : Int32) <<< (r2 &&& 31))) → post S7))))
def wp_X8_clause (x1 : Int32) (S : St) (post : St → Prop) : Prop :=
  ((¬ x1 = 112 → ((¬ x1 = 114 → ((¬ x1 = 109 → ((¬ (S 71 4) = 2 → B_X8_clause_262 post 0 S) ∧ ((S 71 4) = 2 → ((6 ≤ (S 71 6) → B_X8_clause_262 post 0 S) ∧ (¬ 6 ≤ (S 71 6) → ((¬ (((S 71 19) >>> ((S 71 6) &&& 31)) &&& 1) = 1 → B_X8_clause_262 post 0 S) ∧ ((((S 71 19) >>> ((S 71 6) &&& 31)) &&& 1) = 1 → B_X8_clause_262 post 1 S))))))) ∧ (x1 = 109 → ∀ v7 : Int32, v7 = ((20 : Int32) + ((5 : Int32) * (S 71 17))) → wp_X8_spot S (fun r9 S8 => vp_in v7 40 ∧ (∀ S10 : St, S10 = up S8 74 (ix v7) r9 → wp_X8_spot S10 (fun r13 S12 => vp_in (v7 + 1) 40 ∧ (∀ S14 : St, S14 = up S12 74 (ix (v7 + 1)) r13 → wp_X8_number 0 9 (-1) 0 S14 (fun r17 S16 => vp_in (v7 + 2) 40 ∧ (∀ S18 : St, S18 = up S16 74 (ix (v7 + 2)) r17 → wp_X8_number 0 5 (-1) 0 S18 (fun r21 S20 => vp_in (v7 + 3) 40 ∧ (∀ S22 : St, S22 = up S20 74 (ix (v7 + 3)) r21 → wp_X8_number 0 999 (-1) 0 S22 (fun r25 S24 => vp_in (v7 + 4) 40 ∧ (∀ S26 : St, S26 = up S24 74 (ix (v7 + 4)) r25 → ∀ S28 : St, S28 = up S26 71 17 ((S26 71 17) + 1) → post S28))))))))))))) ∧ (x1 = 114 → ∀ v29 : Int32, v29 = ((27 : Int32) + ((3 : Int32) * (S 71 16))) → wp_X8_spot S (fun r31 S30 => vp_in v29 54 ∧ (∀ S32 : St, S32 = up S30 73 (ix v29) r31 → vp_in v29 54 ∧ (wp_X8_number 0 ((S32 71 15) - 1) (S32 73 (ix v29)) 0 S32 (fun r35 S34 => vp_in (v29 + 1) 54 ∧ (∀ S36 : St, S36 = up S34 73 (ix (v29 + 1)) r35 → wp_X8_number 1 20 (-1) 0 S36 (fun r39 S38 => vp_in (v29 + 2) 54 ∧ (∀ S40 : St, S40 = up S38 73 (ix (v29 + 2)) r39 → ∀ S42 : St, S42 = up S40 71 16 ((S40 71 16) + 1) → post S42)))))))))) ∧ (x1 = 112 → wp_X8_number 0 1 (-1) 0 S (fun r44 S43 => ∀ S45 : St, S45 = up S43 71 18 ((S 71 18) ||| (r44 <<< ((S43 71 15) &&& 31))) → ∀ S46 : St, S46 = up S45 71 15 ((S45 71 15) + 1) → post S46)))
theorem w_B_X8_clause_262 {X : Cx} (ok : Ok X cX8_clause 4 RX8 4 88) {post : St → Prop} (hret : RetV X cX8_clause 4 post) {s0 : Int32} {S : St} (h : B_X8_clause_262 post s0 S) : Wp X 4 262 [(0, .ref (xad X 71))] [.int s0] S := by
  unfold B_X8_clause_262 at h
  refine r_istore_n ok dX8_clause_262 (by decide) [(0, .ref (xad X 71)), (2, .int s0)] [1, 0] rfl ?_
  refine r_aload_n ok dX8_clause_263 0 rfl ?_
  refine r_iconst (v := 0) ok dX8_clause_264 rfl ?_
  refine r_aload_n ok dX8_clause_265 0 rfl ?_
  refine gf_X8_120 ok dX8_clause_266 ?_
  refine r_iconst (v := 1) ok dX8_clause_269 rfl ?_
  refine r_isub ok dX8_clause_270 ?_
  refine r_iconst (v := (-1)) ok dX8_clause_271 rfl ?_
  refine r_iload_n ok dX8_clause_272 1 rfl ?_
  refine cl_X8_123 ok dX8_clause_273 (by decide) (Nat.le_of_ble_eq_true rfl) h (fun r2 S1 h => ?_)
  refine r_istore_n ok dX8_clause_276 (by decide) [(0, .ref (xad X 71)), (3, .int r2)] [1, 0] rfl ?_
  refine r_aload_n ok dX8_clause_277 0 rfl ?_
  refine r_dup ok dX8_clause_278 rfl ?_
  refine gf_X8_140 ok dX8_clause_279 ?_
  refine r_aload_n ok dX8_clause_282 0 rfl ?_
  refine cl_X8_109 ok dX8_clause_283 (by decide) (Nat.le_of_ble_eq_true rfl) h (fun r4 S3 h => ?_)
  refine r_if_eq (tgt := 295) ok dX8_clause_286 rfl (fun hc5 => ?_) (fun hc5 => ?_)
  · replace h := h.1 hc5
    refine r_iconst (v := 0) ok dX8_clause_295 rfl ?_
    refine r_ior ok dX8_clause_296 ?_
    refine pf_X8_140 ok dX8_clause_297 (fun S6 eS6 => ?_)
    replace h := h S6 eS6
    exact hret _ _ _ dX8_clause_300 h
  · replace h := h.2 hc5
    refine r_iconst (v := 1) ok dX8_clause_289 rfl ?_
    refine r_iload_n ok dX8_clause_290 1 rfl ?_
    refine r_ishl ok dX8_clause_291 ?_
    refine r_goto (tgt := 296) ok dX8_clause_292 rfl ?_
    refine r_ior ok dX8_clause_296 ?_
    refine pf_X8_140 ok dX8_clause_297 (fun S7 eS7 => ?_)
    replace h := h S7 eS7
    exact hret _ _ _ dX8_clause_300 h
theorem w_wp_X8_clause {X : Cx} (ok : Ok X cX8_clause 4 RX8 4 88) {post : St → Prop} (hret : RetV X cX8_clause 4 post) {x1 : Int32} {S : St} (h : wp_X8_clause x1 S post) : Wp X 4 0 [(0, .ref (xad X 71)), (1, .int x1)] [] S := by
  unfold wp_X8_clause at h
  refine r_iload_n ok dX8_clause_0 1 rfl ?_
  refine r_bipush (v := 112) ok dX8_clause_1 rfl ?_
  refine r_icmp_ne (tgt := 41) ok dX8_clause_3 rfl (fun hc1 => ?_) (fun hc1 => ?_)
  · replace h := h.1 hc1
    refine r_iload_n ok dX8_clause_41 1 rfl ?_
    refine r_bipush (v := 114) ok dX8_clause_42 rfl ?_
    refine r_icmp_ne (tgt := 123) ok dX8_clause_44 rfl (fun hc2 => ?_) (fun hc2 => ?_)
    · replace h := h.1 hc2
      refine r_iload_n ok dX8_clause_123 1 rfl ?_
      refine r_bipush (v := 109) ok dX8_clause_124 rfl ?_
      refine r_icmp_ne (tgt := 225) ok dX8_clause_126 rfl (fun hc3 => ?_) (fun hc3 => ?_)
      · replace h := h.1 hc3
        refine r_aload_n ok dX8_clause_225 0 rfl ?_
        refine gf_X8_97 ok dX8_clause_226 ?_
        refine r_iconst (v := 2) ok dX8_clause_229 rfl ?_
        refine r_icmp_ne (tgt := 261) ok dX8_clause_230 rfl (fun hc4 => ?_) (fun hc4 => ?_)
        · replace h := h.1 hc4
          refine r_iconst (v := 0) ok dX8_clause_261 rfl ?_
          refine r_sub [(0, .ref (xad X 71))] [0] rfl ?_
          exact w_B_X8_clause_262 ok hret h
        · replace h := h.2 hc4
          refine r_aload_n ok dX8_clause_233 0 rfl ?_
          refine gf_X8_100 ok dX8_clause_234 ?_
          refine r_bipush (v := 6) ok dX8_clause_237 rfl ?_
          refine r_icmp_ge (tgt := 261) ok dX8_clause_239 rfl (fun hc5 => ?_) (fun hc5 => ?_)
          · replace h := h.1 hc5
            refine r_iconst (v := 0) ok dX8_clause_261 rfl ?_
            refine r_sub [(0, .ref (xad X 71))] [0] rfl ?_
            exact w_B_X8_clause_262 ok hret h
          · replace h := h.2 hc5
            refine r_aload_n ok dX8_clause_242 0 rfl ?_
            refine gf_X8_140 ok dX8_clause_243 ?_
            refine r_aload_n ok dX8_clause_246 0 rfl ?_
            refine gf_X8_100 ok dX8_clause_247 ?_
            refine r_ishr ok dX8_clause_250 ?_
            refine r_iconst (v := 1) ok dX8_clause_251 rfl ?_
            refine r_iand ok dX8_clause_252 ?_
            refine r_iconst (v := 1) ok dX8_clause_253 rfl ?_
            refine r_icmp_ne (tgt := 261) ok dX8_clause_254 rfl (fun hc6 => ?_) (fun hc6 => ?_)
            · replace h := h.1 hc6
              refine r_iconst (v := 0) ok dX8_clause_261 rfl ?_
              refine r_sub [(0, .ref (xad X 71))] [0] rfl ?_
              exact w_B_X8_clause_262 ok hret h
            · replace h := h.2 hc6
              refine r_iconst (v := 1) ok dX8_clause_257 rfl ?_
              refine r_goto (tgt := 262) ok dX8_clause_258 rfl ?_
              refine r_sub [(0, .ref (xad X 71))] [0] rfl ?_
              exact w_B_X8_clause_262 ok hret h
      · replace h := h.2 hc3
        refine r_bipush (v := 20) ok dX8_clause_129 rfl ?_
        refine r_iconst (v := 5) ok dX8_clause_131 rfl ?_
        refine r_aload_n ok dX8_clause_132 0 rfl ?_
        refine gf_X8_137 ok dX8_clause_133 ?_
        refine r_imul ok dX8_clause_136 ?_
        refine r_iadd ok dX8_clause_137 ?_
        refine r_top (fun v7 ev7 => ?_)
        replace h := h v7 ev7
        refine r_istore_n ok dX8_clause_138 (by decide) [(0, .ref (xad X 71)), (2, .int v7)] [1, 0] rfl ?_
        refine r_aload_n ok dX8_clause_139 0 rfl ?_
        refine gf_X8_20 ok dX8_clause_140 ?_
        refine r_iload_n ok dX8_clause_143 1 rfl ?_
        refine r_aload_n ok dX8_clause_144 0 rfl ?_
        refine cl_X8_133 ok dX8_clause_145 (by decide) (Nat.le_of_ble_eq_true rfl) h (fun r9 S8 h => ?_)
        have hi11 := h.1
        replace h := h.2
        refine r_iast ok ai_74 hi11 rfl dX8_clause_148 (fun S10 eS10 => ?_)
        replace h := h S10 eS10
        refine r_aload_n ok dX8_clause_149 0 rfl ?_
        refine gf_X8_20 ok dX8_clause_150 ?_
        refine r_iload_n ok dX8_clause_153 1 rfl ?_
        refine r_iconst (v := 1) ok dX8_clause_154 rfl ?_
        refine r_iadd ok dX8_clause_155 ?_
        refine r_aload_n ok dX8_clause_156 0 rfl ?_
        refine cl_X8_133 ok dX8_clause_157 (by decide) (Nat.le_of_ble_eq_true rfl) h (fun r13 S12 h => ?_)
        have hi15 := h.1
        replace h := h.2
        refine r_iast ok ai_74 hi15 rfl dX8_clause_160 (fun S14 eS14 => ?_)
        replace h := h S14 eS14
        refine r_aload_n ok dX8_clause_161 0 rfl ?_
        refine gf_X8_20 ok dX8_clause_162 ?_
        refine r_iload_n ok dX8_clause_165 1 rfl ?_
        refine r_iconst (v := 2) ok dX8_clause_166 rfl ?_
        refine r_iadd ok dX8_clause_167 ?_
        refine r_aload_n ok dX8_clause_168 0 rfl ?_
        refine r_iconst (v := 0) ok dX8_clause_169 rfl ?_
        refine r_bipush (v := 9) ok dX8_clause_170 rfl ?_
        refine r_iconst (v := (-1)) ok dX8_clause_172 rfl ?_
        refine r_iconst (v := 0) ok dX8_clause_173 rfl ?_
        refine cl_X8_123 ok dX8_clause_174 (by decide) (Nat.le_of_ble_eq_true rfl) h (fun r17 S16 h => ?_)
        have hi19 := h.1
        replace h := h.2
        refine r_iast ok ai_74 hi19 rfl dX8_clause_177 (fun S18 eS18 => ?_)
        replace h := h S18 eS18
        refine r_aload_n ok dX8_clause_178 0 rfl ?_
        refine gf_X8_20 ok dX8_clause_179 ?_
        refine r_iload_n ok dX8_clause_182 1 rfl ?_
        refine r_iconst (v := 3) ok dX8_clause_183 rfl ?_
        refine r_iadd ok dX8_clause_184 ?_
        refine r_aload_n ok dX8_clause_185 0 rfl ?_
        refine r_iconst (v := 0) ok dX8_clause_186 rfl ?_
        refine r_iconst (v := 5) ok dX8_clause_187 rfl ?_
        refine r_iconst (v := (-1)) ok dX8_clause_188 rfl ?_
        refine r_iconst (v := 0) ok dX8_clause_189 rfl ?_
        refine cl_X8_123 ok dX8_clause_190 (by decide) (Nat.le_of_ble_eq_true rfl) h (fun r21 S20 h => ?_)
        have hi23 := h.1
        replace h := h.2
        refine r_iast ok ai_74 hi23 rfl dX8_clause_193 (fun S22 eS22 => ?_)
        replace h := h S22 eS22
        refine r_aload_n ok dX8_clause_194 0 rfl ?_
        refine gf_X8_20 ok dX8_clause_195 ?_
        refine r_iload_n ok dX8_clause_198 1 rfl ?_
        refine r_iconst (v := 4) ok dX8_clause_199 rfl ?_
        refine r_iadd ok dX8_clause_200 ?_
        refine r_aload_n ok dX8_clause_201 0 rfl ?_
        refine r_iconst (v := 0) ok dX8_clause_202 rfl ?_
        refine r_sipush (v := 999) ok dX8_clause_203 rfl ?_
        refine r_iconst (v := (-1)) ok dX8_clause_206 rfl ?_
        refine r_iconst (v := 0) ok dX8_clause_207 rfl ?_
        refine cl_X8_123 ok dX8_clause_208 (by decide) (Nat.le_of_ble_eq_true rfl) h (fun r25 S24 h => ?_)
        have hi27 := h.1
        replace h := h.2
        refine r_iast ok ai_74 hi27 rfl dX8_clause_211 (fun S26 eS26 => ?_)
        replace h := h S26 eS26
        refine r_aload_n ok dX8_clause_212 0 rfl ?_
        refine r_dup ok dX8_clause_213 rfl ?_
        refine gf_X8_137 ok dX8_clause_214 ?_
        refine r_iconst (v := 1) ok dX8_clause_217 rfl ?_
        refine r_iadd ok dX8_clause_218 ?_
        refine pf_X8_137 ok dX8_clause_219 (fun S28 eS28 => ?_)
        replace h := h S28 eS28
        refine r_goto (tgt := 300) ok dX8_clause_222 rfl ?_
        exact hret _ _ _ dX8_clause_300 h
    · replace h := h.2 hc2
      refine r_bipush (v := 27) ok dX8_clause_47 rfl ?_
      refine r_iconst (v := 3) ok dX8_clause_49 rfl ?_
      refine r_aload_n ok dX8_clause_50 0 rfl ?_
      refine gf_X8_130 ok dX8_clause_51 ?_
      refine r_imul ok dX8_clause_54 ?_
      refine r_iadd ok dX8_clause_55 ?_
      refine r_top (fun v29 ev29 => ?_)
      replace h := h v29 ev29
      refine r_istore_n ok dX8_clause_56 (by decide) [(0, .ref (xad X 71)), (2, .int v29)] [1, 0] rfl ?_
      refine r_aload_n ok dX8_clause_57 0 rfl ?_
      refine gf_X8_17 ok dX8_clause_58 ?_
      refine r_iload_n ok dX8_clause_61 1 rfl ?_
      refine r_aload_n ok dX8_clause_62 0 rfl ?_
      refine cl_X8_133 ok dX8_clause_63 (by decide) (Nat.le_of_ble_eq_true rfl) h (fun r31 S30 h => ?_)
      have hi33 := h.1
      replace h := h.2
      refine r_iast ok ai_73 hi33 rfl dX8_clause_66 (fun S32 eS32 => ?_)
      replace h := h S32 eS32
      refine r_aload_n ok dX8_clause_67 0 rfl ?_
      refine gf_X8_17 ok dX8_clause_68 ?_
      refine r_iload_n ok dX8_clause_71 1 rfl ?_
      refine r_iconst (v := 1) ok dX8_clause_72 rfl ?_
      refine r_iadd ok dX8_clause_73 ?_
      refine r_aload_n ok dX8_clause_74 0 rfl ?_
      refine r_iconst (v := 0) ok dX8_clause_75 rfl ?_
      refine r_aload_n ok dX8_clause_76 0 rfl ?_
      refine gf_X8_120 ok dX8_clause_77 ?_
      refine r_iconst (v := 1) ok dX8_clause_80 rfl ?_
      refine r_isub ok dX8_clause_81 ?_
      refine r_aload_n ok dX8_clause_82 0 rfl ?_
      refine gf_X8_17 ok dX8_clause_83 ?_
      refine r_iload_n ok dX8_clause_86 1 rfl ?_
      refine r_iald ok ai_73 h.1 rfl dX8_clause_87 ?_
      replace h := h.2
      refine r_iconst (v := 0) ok dX8_clause_88 rfl ?_
      refine cl_X8_123 ok dX8_clause_89 (by decide) (Nat.le_of_ble_eq_true rfl) h (fun r35 S34 h => ?_)
      have hi37 := h.1
      replace h := h.2
      refine r_iast ok ai_73 hi37 rfl dX8_clause_92 (fun S36 eS36 => ?_)
      replace h := h S36 eS36
      refine r_aload_n ok dX8_clause_93 0 rfl ?_
      refine gf_X8_17 ok dX8_clause_94 ?_
      refine r_iload_n ok dX8_clause_97 1 rfl ?_
      refine r_iconst (v := 2) ok dX8_clause_98 rfl ?_
      refine r_iadd ok dX8_clause_99 ?_
      refine r_aload_n ok dX8_clause_100 0 rfl ?_
      refine r_iconst (v := 1) ok dX8_clause_101 rfl ?_
      refine r_bipush (v := 20) ok dX8_clause_102 rfl ?_
      refine r_iconst (v := (-1)) ok dX8_clause_104 rfl ?_
      refine r_iconst (v := 0) ok dX8_clause_105 rfl ?_
      refine cl_X8_123 ok dX8_clause_106 (by decide) (Nat.le_of_ble_eq_true rfl) h (fun r39 S38 h => ?_)
      have hi41 := h.1
      replace h := h.2
      refine r_iast ok ai_73 hi41 rfl dX8_clause_109 (fun S40 eS40 => ?_)
      replace h := h S40 eS40
      refine r_aload_n ok dX8_clause_110 0 rfl ?_
      refine r_dup ok dX8_clause_111 rfl ?_
      refine gf_X8_130 ok dX8_clause_112 ?_
      refine r_iconst (v := 1) ok dX8_clause_115 rfl ?_
      refine r_iadd ok dX8_clause_116 ?_
      refine pf_X8_130 ok dX8_clause_117 (fun S42 eS42 => ?_)
      replace h := h S42 eS42
      refine r_goto (tgt := 300) ok dX8_clause_120 rfl ?_
      exact hret _ _ _ dX8_clause_300 h
  · replace h := h.2 hc1
    refine r_aload_n ok dX8_clause_6 0 rfl ?_
    refine r_dup ok dX8_clause_7 rfl ?_
    refine gf_X8_127 ok dX8_clause_8 ?_
    refine r_aload_n ok dX8_clause_11 0 rfl ?_
    refine r_iconst (v := 0) ok dX8_clause_12 rfl ?_
    refine r_iconst (v := 1) ok dX8_clause_13 rfl ?_
    refine r_iconst (v := (-1)) ok dX8_clause_14 rfl ?_
    refine r_iconst (v := 0) ok dX8_clause_15 rfl ?_
    refine cl_X8_123 ok dX8_clause_16 (by decide) (Nat.le_of_ble_eq_true rfl) h (fun r44 S43 h => ?_)
    refine r_aload_n ok dX8_clause_19 0 rfl ?_
    refine gf_X8_120 ok dX8_clause_20 ?_
    refine r_ishl ok dX8_clause_23 ?_
    refine r_ior ok dX8_clause_24 ?_
    refine pf_X8_127 ok dX8_clause_25 (fun S45 eS45 => ?_)
    replace h := h S45 eS45
    refine r_aload_n ok dX8_clause_28 0 rfl ?_
    refine r_dup ok dX8_clause_29 rfl ?_
    refine gf_X8_120 ok dX8_clause_30 ?_
    refine r_iconst (v := 1) ok dX8_clause_33 rfl ?_
    refine r_iadd ok dX8_clause_34 ?_
    refine pf_X8_120 ok dX8_clause_35 (fun S46 eS46 => ?_)
    replace h := h S46 eS46
    refine r_goto (tgt := 300) ok dX8_clause_38 rfl ?_
    exact hret _ _ _ dX8_clause_300 h
theorem c_X8_clause (l : Launch) (G : Gx) {x1 : Int32} {S : St} {post : St → Prop} (h : wp_X8_clause x1 S post) : MtV l yX8_clause cX8_clause 4 4 88 G [.ref (G.2.2 71), .int x1] S post :=
  ctV (by decide) rfl (Nat.le_of_ble_eq_true rfl) (fun X _ hG ok hret => by subst hG; exact w_wp_X8_clause ok hret h)

/-! HasteRoadsModel.isFull()Z -/
theorem dX8_isFull_0 : decode cX8_isFull 0 = .ok (.aload_n 0, 1) := by decide +kernel
theorem dX8_isFull_1 : decode cX8_isFull 1 = .ok (.getfield 100, 3) := by decide +kernel
theorem dX8_isFull_4 : decode cX8_isFull 4 = .ok (.bipush 112, 2) := by decide +kernel
theorem dX8_isFull_6 : decode cX8_isFull 6 = .ok (.if_icmp .ne 12, 3) := by decide +kernel
theorem dX8_isFull_9 : decode cX8_isFull 9 = .ok (.aload_n 0, 1) := by decide +kernel
theorem dX8_isFull_10 : decode cX8_isFull 10 = .ok (.getfield 120, 3) := by decide +kernel
theorem dX8_isFull_13 : decode cX8_isFull 13 = .ok (.bipush 6, 2) := by decide +kernel
theorem dX8_isFull_15 : decode cX8_isFull 15 = .ok (.if_icmp .eq 38, 3) := by decide +kernel
theorem dX8_isFull_18 : decode cX8_isFull 18 = .ok (.aload_n 0, 1) := by decide +kernel
theorem dX8_isFull_19 : decode cX8_isFull 19 = .ok (.getfield 100, 3) := by decide +kernel
theorem dX8_isFull_22 : decode cX8_isFull 22 = .ok (.bipush 114, 2) := by decide +kernel
theorem dX8_isFull_24 : decode cX8_isFull 24 = .ok (.if_icmp .ne 12, 3) := by decide +kernel
theorem dX8_isFull_27 : decode cX8_isFull 27 = .ok (.aload_n 0, 1) := by decide +kernel
theorem dX8_isFull_28 : decode cX8_isFull 28 = .ok (.getfield 130, 3) := by decide +kernel
theorem dX8_isFull_31 : decode cX8_isFull 31 = .ok (.bipush 9, 2) := by decide +kernel
theorem dX8_isFull_33 : decode cX8_isFull 33 = .ok (.if_icmp .eq 20, 3) := by decide +kernel
theorem dX8_isFull_36 : decode cX8_isFull 36 = .ok (.aload_n 0, 1) := by decide +kernel
theorem dX8_isFull_37 : decode cX8_isFull 37 = .ok (.getfield 100, 3) := by decide +kernel
theorem dX8_isFull_40 : decode cX8_isFull 40 = .ok (.bipush 109, 2) := by decide +kernel
theorem dX8_isFull_42 : decode cX8_isFull 42 = .ok (.if_icmp .ne 15, 3) := by decide +kernel
theorem dX8_isFull_45 : decode cX8_isFull 45 = .ok (.aload_n 0, 1) := by decide +kernel
theorem dX8_isFull_46 : decode cX8_isFull 46 = .ok (.getfield 137, 3) := by decide +kernel
theorem dX8_isFull_49 : decode cX8_isFull 49 = .ok (.iconst 4, 1) := by decide +kernel
theorem dX8_isFull_50 : decode cX8_isFull 50 = .ok (.if_icmp .ne 7, 3) := by decide +kernel
theorem dX8_isFull_53 : decode cX8_isFull 53 = .ok (.iconst 1, 1) := by decide +kernel
theorem dX8_isFull_54 : decode cX8_isFull 54 = .ok (.goto 4, 3) := by decide +kernel
theorem dX8_isFull_57 : decode cX8_isFull 57 = .ok (.iconst 0, 1) := by decide +kernel
theorem dX8_isFull_58 : decode cX8_isFull 58 = .ok (.ireturn, 1) := by decide +kernel

def B_X8_isFull_36 (post : Int32 → St → Prop) (S : St) : Prop :=
  ((¬ (S 71 6) = 109 → post 0 S) ∧ ((S 71 6) = 109 → ((¬ (S 71 17) = 4 → post 0 S) ∧ ((S 71 17) = 4 → post 1 S))))
def B_X8_isFull_18 (post : Int32 → St → Prop) (S : St) : Prop :=
  ((¬ (S 71 6) = 114 → B_X8_isFull_36 post S) ∧ ((S 71 6) = 114 → (((S 71 16) = 9 → post 1 S) ∧ (¬ (S 71 16) = 9 → B_X8_isFull_36 post S))))
def wp_X8_isFull (S : St) (post : Int32 → St → Prop) : Prop :=
  ((¬ (S 71 6) = 112 → B_X8_isFull_18 post S) ∧ ((S 71 6) = 112 → (((S 71 15) = 6 → post 1 S) ∧ (¬ (S 71 15) = 6 → B_X8_isFull_18 post S))))
theorem w_B_X8_isFull_36 {X : Cx} (ok : Ok X cX8_isFull 1 RX8 0 0) {post : Int32 → St → Prop} (hret : RetZ X cX8_isFull 1 post) {S : St} (h : B_X8_isFull_36 post S) : Wp X 1 36 [(0, .ref (xad X 71))] [] S := by
  unfold B_X8_isFull_36 at h
  refine r_aload_n ok dX8_isFull_36 0 rfl ?_
  refine gf_X8_100 ok dX8_isFull_37 ?_
  refine r_bipush (v := 109) ok dX8_isFull_40 rfl ?_
  refine r_icmp_ne (tgt := 57) ok dX8_isFull_42 rfl (fun hc1 => ?_) (fun hc1 => ?_)
  · replace h := h.1 hc1
    refine r_iconst (v := 0) ok dX8_isFull_57 rfl ?_
    exact hret _ _ _ _ dX8_isFull_58 (Or.inl rfl) h
  · replace h := h.2 hc1
    refine r_aload_n ok dX8_isFull_45 0 rfl ?_
    refine gf_X8_137 ok dX8_isFull_46 ?_
    refine r_iconst (v := 4) ok dX8_isFull_49 rfl ?_
    refine r_icmp_ne (tgt := 57) ok dX8_isFull_50 rfl (fun hc2 => ?_) (fun hc2 => ?_)
    · replace h := h.1 hc2
      refine r_iconst (v := 0) ok dX8_isFull_57 rfl ?_
      exact hret _ _ _ _ dX8_isFull_58 (Or.inl rfl) h
    · replace h := h.2 hc2
      refine r_iconst (v := 1) ok dX8_isFull_53 rfl ?_
      refine r_goto (tgt := 58) ok dX8_isFull_54 rfl ?_
      exact hret _ _ _ _ dX8_isFull_58 (Or.inr rfl) h
theorem w_B_X8_isFull_18 {X : Cx} (ok : Ok X cX8_isFull 1 RX8 0 0) {post : Int32 → St → Prop} (hret : RetZ X cX8_isFull 1 post) {S : St} (h : B_X8_isFull_18 post S) : Wp X 1 18 [(0, .ref (xad X 71))] [] S := by
  unfold B_X8_isFull_18 at h
  refine r_aload_n ok dX8_isFull_18 0 rfl ?_
  refine gf_X8_100 ok dX8_isFull_19 ?_
  refine r_bipush (v := 114) ok dX8_isFull_22 rfl ?_
  refine r_icmp_ne (tgt := 36) ok dX8_isFull_24 rfl (fun hc1 => ?_) (fun hc1 => ?_)
  · replace h := h.1 hc1
    exact w_B_X8_isFull_36 ok hret h
  · replace h := h.2 hc1
    refine r_aload_n ok dX8_isFull_27 0 rfl ?_
    refine gf_X8_130 ok dX8_isFull_28 ?_
    refine r_bipush (v := 9) ok dX8_isFull_31 rfl ?_
    refine r_icmp_eq (tgt := 53) ok dX8_isFull_33 rfl (fun hc2 => ?_) (fun hc2 => ?_)
    · replace h := h.1 hc2
      refine r_iconst (v := 1) ok dX8_isFull_53 rfl ?_
      refine r_goto (tgt := 58) ok dX8_isFull_54 rfl ?_
      exact hret _ _ _ _ dX8_isFull_58 (Or.inr rfl) h
    · replace h := h.2 hc2
      exact w_B_X8_isFull_36 ok hret h
theorem w_wp_X8_isFull {X : Cx} (ok : Ok X cX8_isFull 1 RX8 0 0) {post : Int32 → St → Prop} (hret : RetZ X cX8_isFull 1 post) {S : St} (h : wp_X8_isFull S post) : Wp X 1 0 [(0, .ref (xad X 71))] [] S := by
  unfold wp_X8_isFull at h
  refine r_aload_n ok dX8_isFull_0 0 rfl ?_
  refine gf_X8_100 ok dX8_isFull_1 ?_
  refine r_bipush (v := 112) ok dX8_isFull_4 rfl ?_
  refine r_icmp_ne (tgt := 18) ok dX8_isFull_6 rfl (fun hc1 => ?_) (fun hc1 => ?_)
  · replace h := h.1 hc1
    exact w_B_X8_isFull_18 ok hret h
  · replace h := h.2 hc1
    refine r_aload_n ok dX8_isFull_9 0 rfl ?_
    refine gf_X8_120 ok dX8_isFull_10 ?_
    refine r_bipush (v := 6) ok dX8_isFull_13 rfl ?_
    refine r_icmp_eq (tgt := 53) ok dX8_isFull_15 rfl (fun hc2 => ?_) (fun hc2 => ?_)
    · replace h := h.1 hc2
      refine r_iconst (v := 1) ok dX8_isFull_53 rfl ?_
      refine r_goto (tgt := 58) ok dX8_isFull_54 rfl ?_
      exact hret _ _ _ _ dX8_isFull_58 (Or.inr rfl) h
    · replace h := h.2 hc2
      exact w_B_X8_isFull_18 ok hret h
theorem c_X8_isFull (l : Launch) (G : Gx) {S : St} {post : Int32 → St → Prop} (h : wp_X8_isFull S post) : MtI l yX8_isFull cX8_isFull 1 (some .boolean) 0 0 G [.ref (G.2.2 71)] S post :=
  ctZ (by decide) rfl (Nat.le_of_ble_eq_true rfl) (fun X _ hG ok hret => by subst hG; exact w_wp_X8_isFull ok hret h)

/-! HasteRoadsModel.ends()V -/
theorem dX8_ends_0 : decode cX8_ends 0 = .ok (.aload_n 0, 1) := by decide +kernel
theorem dX8_ends_1 : decode cX8_ends 1 = .ok (.getfield 97, 3) := by decide +kernel
theorem dX8_ends_4 : decode cX8_ends 4 = .ok (.iconst 3, 1) := by decide +kernel
theorem dX8_ends_5 : decode cX8_ends 5 = .ok (.if_icmp .eq 11, 3) := by decide +kernel
theorem dX8_ends_8 : decode cX8_ends 8 = .ok (.aload_n 0, 1) := by decide +kernel
theorem dX8_ends_9 : decode cX8_ends 9 = .ok (.iconst 1, 1) := by decide +kernel
theorem dX8_ends_10 : decode cX8_ends 10 = .ok (.invokevirtual 113, 3) := by decide +kernel
theorem dX8_ends_13 : decode cX8_ends 13 = .ok (.goto 14, 3) := by decide +kernel
theorem dX8_ends_16 : decode cX8_ends 16 = .ok (.aload_n 0, 1) := by decide +kernel
theorem dX8_ends_17 : decode cX8_ends 17 = .ok (.invokevirtual 109, 3) := by decide +kernel
theorem dX8_ends_20 : decode cX8_ends 20 = .ok (.ifCond .eq 7, 3) := by decide +kernel
theorem dX8_ends_23 : decode cX8_ends 23 = .ok (.aload_n 0, 1) := by decide +kernel
theorem dX8_ends_24 : decode cX8_ends 24 = .ok (.invokevirtual 117, 3) := by decide +kernel
theorem dX8_ends_27 : decode cX8_ends 27 = .ok (.return_, 1) := by decide +kernel

def wp_X8_ends (S : St) (post : St → Prop) : Prop :=
  (((S 71 4) = 3 → wp_X8_isWell S (fun r3 S2 => ((r3 = 0 → post S2) ∧ (¬ r3 = 0 → wp_X8_advances S2 (fun S5 => post S5))))) ∧ (¬ (S 71 4) = 3 → wp_X8_fails 1 S (fun S6 => post S6)))
theorem w_wp_X8_ends {X : Cx} (ok : Ok X cX8_ends 1 RX8 2 43) {post : St → Prop} (hret : RetV X cX8_ends 1 post) {S : St} (h : wp_X8_ends S post) : Wp X 1 0 [(0, .ref (xad X 71))] [] S := by
  unfold wp_X8_ends at h
  refine r_aload_n ok dX8_ends_0 0 rfl ?_
  refine gf_X8_97 ok dX8_ends_1 ?_
  refine r_iconst (v := 3) ok dX8_ends_4 rfl ?_
  refine r_icmp_eq (tgt := 16) ok dX8_ends_5 rfl (fun hc1 => ?_) (fun hc1 => ?_)
  · replace h := h.1 hc1
    refine r_aload_n ok dX8_ends_16 0 rfl ?_
    refine cl_X8_109 ok dX8_ends_17 (by decide) (Nat.le_of_ble_eq_true rfl) h (fun r3 S2 h => ?_)
    refine r_if_eq (tgt := 27) ok dX8_ends_20 rfl (fun hc4 => ?_) (fun hc4 => ?_)
    · replace h := h.1 hc4
      exact hret _ _ _ dX8_ends_27 h
    · replace h := h.2 hc4
      refine r_aload_n ok dX8_ends_23 0 rfl ?_
      refine cl_X8_117 ok dX8_ends_24 (by decide) (Nat.le_of_ble_eq_true rfl) h (fun S5 h => ?_)
      exact hret _ _ _ dX8_ends_27 h
  · replace h := h.2 hc1
    refine r_aload_n ok dX8_ends_8 0 rfl ?_
    refine r_iconst (v := 1) ok dX8_ends_9 rfl ?_
    refine cl_X8_113 ok dX8_ends_10 (by decide) (Nat.le_of_ble_eq_true rfl) h (fun S6 h => ?_)
    refine r_goto (tgt := 27) ok dX8_ends_13 rfl ?_
    exact hret _ _ _ dX8_ends_27 h
theorem c_X8_ends (l : Launch) (G : Gx) {S : St} {post : St → Prop} (h : wp_X8_ends S post) : MtV l yX8_ends cX8_ends 1 2 43 G [.ref (G.2.2 71)] S post :=
  ctV (by decide) rfl (Nat.le_of_ble_eq_true rfl) (fun X _ hG ok hret => by subst hG; exact w_wp_X8_ends ok hret h)

/-! HasteRoadsModel.settles()V -/
theorem dX8_settles_0 : decode cX8_settles 0 = .ok (.aload_n 0, 1) := by decide +kernel
theorem dX8_settles_1 : decode cX8_settles 1 = .ok (.aload_n 0, 1) := by decide +kernel
theorem dX8_settles_2 : decode cX8_settles 2 = .ok (.getfield 120, 3) := by decide +kernel
theorem dX8_settles_5 : decode cX8_settles 5 = .ok (.putfield 155, 3) := by decide +kernel
theorem dX8_settles_8 : decode cX8_settles 8 = .ok (.aload_n 0, 1) := by decide +kernel
theorem dX8_settles_9 : decode cX8_settles 9 = .ok (.aload_n 0, 1) := by decide +kernel
theorem dX8_settles_10 : decode cX8_settles 10 = .ok (.getfield 130, 3) := by decide +kernel
theorem dX8_settles_13 : decode cX8_settles 13 = .ok (.putfield 158, 3) := by decide +kernel
theorem dX8_settles_16 : decode cX8_settles 16 = .ok (.aload_n 0, 1) := by decide +kernel
theorem dX8_settles_17 : decode cX8_settles 17 = .ok (.aload_n 0, 1) := by decide +kernel
theorem dX8_settles_18 : decode cX8_settles 18 = .ok (.getfield 137, 3) := by decide +kernel
theorem dX8_settles_21 : decode cX8_settles 21 = .ok (.putfield 161, 3) := by decide +kernel
theorem dX8_settles_24 : decode cX8_settles 24 = .ok (.iconst 0, 1) := by decide +kernel
theorem dX8_settles_25 : decode cX8_settles 25 = .ok (.istore_n 1, 1) := by decide +kernel
theorem dX8_settles_26 : decode cX8_settles 26 = .ok (.iload_n 1, 1) := by decide +kernel
theorem dX8_settles_27 : decode cX8_settles 27 = .ok (.bipush 27, 2) := by decide +kernel
theorem dX8_settles_29 : decode cX8_settles 29 = .ok (.if_icmp .ge 24, 3) := by decide +kernel
theorem dX8_settles_32 : decode cX8_settles 32 = .ok (.aload_n 0, 1) := by decide +kernel
theorem dX8_settles_33 : decode cX8_settles 33 = .ok (.getfield 17, 3) := by decide +kernel
theorem dX8_settles_36 : decode cX8_settles 36 = .ok (.iload_n 1, 1) := by decide +kernel
theorem dX8_settles_37 : decode cX8_settles 37 = .ok (.aload_n 0, 1) := by decide +kernel
theorem dX8_settles_38 : decode cX8_settles 38 = .ok (.getfield 17, 3) := by decide +kernel
theorem dX8_settles_41 : decode cX8_settles 41 = .ok (.bipush 27, 2) := by decide +kernel
theorem dX8_settles_43 : decode cX8_settles 43 = .ok (.iload_n 1, 1) := by decide +kernel
theorem dX8_settles_44 : decode cX8_settles 44 = .ok (.iadd, 1) := by decide +kernel
theorem dX8_settles_45 : decode cX8_settles 45 = .ok (.iaload, 1) := by decide +kernel
theorem dX8_settles_46 : decode cX8_settles 46 = .ok (.iastore, 1) := by decide +kernel
theorem dX8_settles_47 : decode cX8_settles 47 = .ok (.iinc 1 1, 3) := by decide +kernel
theorem dX8_settles_50 : decode cX8_settles 50 = .ok (.goto (-24), 3) := by decide +kernel
theorem dX8_settles_53 : decode cX8_settles 53 = .ok (.iconst 0, 1) := by decide +kernel
theorem dX8_settles_54 : decode cX8_settles 54 = .ok (.istore_n 1, 1) := by decide +kernel
theorem dX8_settles_55 : decode cX8_settles 55 = .ok (.iload_n 1, 1) := by decide +kernel
theorem dX8_settles_56 : decode cX8_settles 56 = .ok (.bipush 20, 2) := by decide +kernel
theorem dX8_settles_58 : decode cX8_settles 58 = .ok (.if_icmp .ge 24, 3) := by decide +kernel
theorem dX8_settles_61 : decode cX8_settles 61 = .ok (.aload_n 0, 1) := by decide +kernel
theorem dX8_settles_62 : decode cX8_settles 62 = .ok (.getfield 20, 3) := by decide +kernel
theorem dX8_settles_65 : decode cX8_settles 65 = .ok (.iload_n 1, 1) := by decide +kernel
theorem dX8_settles_66 : decode cX8_settles 66 = .ok (.aload_n 0, 1) := by decide +kernel
theorem dX8_settles_67 : decode cX8_settles 67 = .ok (.getfield 20, 3) := by decide +kernel
theorem dX8_settles_70 : decode cX8_settles 70 = .ok (.bipush 20, 2) := by decide +kernel
theorem dX8_settles_72 : decode cX8_settles 72 = .ok (.iload_n 1, 1) := by decide +kernel
theorem dX8_settles_73 : decode cX8_settles 73 = .ok (.iadd, 1) := by decide +kernel
theorem dX8_settles_74 : decode cX8_settles 74 = .ok (.iaload, 1) := by decide +kernel
theorem dX8_settles_75 : decode cX8_settles 75 = .ok (.iastore, 1) := by decide +kernel
theorem dX8_settles_76 : decode cX8_settles 76 = .ok (.iinc 1 1, 3) := by decide +kernel
theorem dX8_settles_79 : decode cX8_settles 79 = .ok (.goto (-24), 3) := by decide +kernel
theorem dX8_settles_82 : decode cX8_settles 82 = .ok (.iconst 0, 1) := by decide +kernel
theorem dX8_settles_83 : decode cX8_settles 83 = .ok (.istore_n 1, 1) := by decide +kernel
theorem dX8_settles_84 : decode cX8_settles 84 = .ok (.iload_n 1, 1) := by decide +kernel
theorem dX8_settles_85 : decode cX8_settles 85 = .ok (.aload_n 0, 1) := by decide +kernel
theorem dX8_settles_86 : decode cX8_settles 86 = .ok (.getfield 161, 3) := by decide +kernel
theorem dX8_settles_89 : decode cX8_settles 89 = .ok (.if_icmp .ge 67, 3) := by decide +kernel
theorem dX8_settles_92 : decode cX8_settles 92 = .ok (.aload_n 0, 1) := by decide +kernel
theorem dX8_settles_93 : decode cX8_settles 93 = .ok (.getfield 23, 3) := by decide +kernel
theorem dX8_settles_96 : decode cX8_settles 96 = .ok (.iconst 4, 1) := by decide +kernel
theorem dX8_settles_97 : decode cX8_settles 97 = .ok (.iload_n 1, 1) := by decide +kernel
theorem dX8_settles_98 : decode cX8_settles 98 = .ok (.imul, 1) := by decide +kernel
theorem dX8_settles_99 : decode cX8_settles 99 = .ok (.aload_n 0, 1) := by decide +kernel
theorem dX8_settles_100 : decode cX8_settles 100 = .ok (.getfield 20, 3) := by decide +kernel
theorem dX8_settles_103 : decode cX8_settles 103 = .ok (.iconst 5, 1) := by decide +kernel
theorem dX8_settles_104 : decode cX8_settles 104 = .ok (.iload_n 1, 1) := by decide +kernel
theorem dX8_settles_105 : decode cX8_settles 105 = .ok (.imul, 1) := by decide +kernel
theorem dX8_settles_106 : decode cX8_settles 106 = .ok (.iaload, 1) := by decide +kernel
theorem dX8_settles_107 : decode cX8_settles 107 = .ok (.iastore, 1) := by decide +kernel
theorem dX8_settles_108 : decode cX8_settles 108 = .ok (.aload_n 0, 1) := by decide +kernel
theorem dX8_settles_109 : decode cX8_settles 109 = .ok (.getfield 23, 3) := by decide +kernel
theorem dX8_settles_112 : decode cX8_settles 112 = .ok (.iconst 4, 1) := by decide +kernel
theorem dX8_settles_113 : decode cX8_settles 113 = .ok (.iload_n 1, 1) := by decide +kernel
theorem dX8_settles_114 : decode cX8_settles 114 = .ok (.imul, 1) := by decide +kernel
theorem dX8_settles_115 : decode cX8_settles 115 = .ok (.iconst 1, 1) := by decide +kernel
theorem dX8_settles_116 : decode cX8_settles 116 = .ok (.iadd, 1) := by decide +kernel
theorem dX8_settles_117 : decode cX8_settles 117 = .ok (.aload_n 0, 1) := by decide +kernel
theorem dX8_settles_118 : decode cX8_settles 118 = .ok (.getfield 20, 3) := by decide +kernel
theorem dX8_settles_121 : decode cX8_settles 121 = .ok (.iconst 5, 1) := by decide +kernel
theorem dX8_settles_122 : decode cX8_settles 122 = .ok (.iload_n 1, 1) := by decide +kernel
theorem dX8_settles_123 : decode cX8_settles 123 = .ok (.imul, 1) := by decide +kernel
theorem dX8_settles_124 : decode cX8_settles 124 = .ok (.iconst 3, 1) := by decide +kernel
theorem dX8_settles_125 : decode cX8_settles 125 = .ok (.iadd, 1) := by decide +kernel
theorem dX8_settles_126 : decode cX8_settles 126 = .ok (.iaload, 1) := by decide +kernel
theorem dX8_settles_127 : decode cX8_settles 127 = .ok (.iastore, 1) := by decide +kernel
theorem dX8_settles_128 : decode cX8_settles 128 = .ok (.aload_n 0, 1) := by decide +kernel
theorem dX8_settles_129 : decode cX8_settles 129 = .ok (.getfield 23, 3) := by decide +kernel
theorem dX8_settles_132 : decode cX8_settles 132 = .ok (.iconst 4, 1) := by decide +kernel
theorem dX8_settles_133 : decode cX8_settles 133 = .ok (.iload_n 1, 1) := by decide +kernel
theorem dX8_settles_134 : decode cX8_settles 134 = .ok (.imul, 1) := by decide +kernel
theorem dX8_settles_135 : decode cX8_settles 135 = .ok (.iconst 2, 1) := by decide +kernel
theorem dX8_settles_136 : decode cX8_settles 136 = .ok (.iadd, 1) := by decide +kernel
theorem dX8_settles_137 : decode cX8_settles 137 = .ok (.iconst 0, 1) := by decide +kernel
theorem dX8_settles_138 : decode cX8_settles 138 = .ok (.iastore, 1) := by decide +kernel
theorem dX8_settles_139 : decode cX8_settles 139 = .ok (.aload_n 0, 1) := by decide +kernel
theorem dX8_settles_140 : decode cX8_settles 140 = .ok (.getfield 23, 3) := by decide +kernel
theorem dX8_settles_143 : decode cX8_settles 143 = .ok (.iconst 4, 1) := by decide +kernel
theorem dX8_settles_144 : decode cX8_settles 144 = .ok (.iload_n 1, 1) := by decide +kernel
theorem dX8_settles_145 : decode cX8_settles 145 = .ok (.imul, 1) := by decide +kernel
theorem dX8_settles_146 : decode cX8_settles 146 = .ok (.iconst 3, 1) := by decide +kernel
theorem dX8_settles_147 : decode cX8_settles 147 = .ok (.iadd, 1) := by decide +kernel
theorem dX8_settles_148 : decode cX8_settles 148 = .ok (.iconst 0, 1) := by decide +kernel
theorem dX8_settles_149 : decode cX8_settles 149 = .ok (.iastore, 1) := by decide +kernel
theorem dX8_settles_150 : decode cX8_settles 150 = .ok (.iinc 1 1, 3) := by decide +kernel
theorem dX8_settles_153 : decode cX8_settles 153 = .ok (.goto (-69), 3) := by decide +kernel
theorem dX8_settles_156 : decode cX8_settles 156 = .ok (.aload_n 0, 1) := by decide +kernel
theorem dX8_settles_157 : decode cX8_settles 157 = .ok (.getfield 23, 3) := by decide +kernel
theorem dX8_settles_160 : decode cX8_settles 160 = .ok (.bipush 16, 2) := by decide +kernel
theorem dX8_settles_162 : decode cX8_settles 162 = .ok (.aload_n 0, 1) := by decide +kernel
theorem dX8_settles_163 : decode cX8_settles 163 = .ok (.getfield 127, 3) := by decide +kernel
theorem dX8_settles_166 : decode cX8_settles 166 = .ok (.iastore, 1) := by decide +kernel
theorem dX8_settles_167 : decode cX8_settles 167 = .ok (.aload_n 0, 1) := by decide +kernel
theorem dX8_settles_168 : decode cX8_settles 168 = .ok (.getfield 23, 3) := by decide +kernel
theorem dX8_settles_171 : decode cX8_settles 171 = .ok (.bipush 17, 2) := by decide +kernel
theorem dX8_settles_173 : decode cX8_settles 173 = .ok (.aload_n 0, 1) := by decide +kernel
theorem dX8_settles_174 : decode cX8_settles 174 = .ok (.getfield 140, 3) := by decide +kernel
theorem dX8_settles_177 : decode cX8_settles 177 = .ok (.iastore, 1) := by decide +kernel
theorem dX8_settles_178 : decode cX8_settles 178 = .ok (.iconst 0, 1) := by decide +kernel
theorem dX8_settles_179 : decode cX8_settles 179 = .ok (.istore_n 1, 1) := by decide +kernel
theorem dX8_settles_180 : decode cX8_settles 180 = .ok (.iload_n 1, 1) := by decide +kernel
theorem dX8_settles_181 : decode cX8_settles 181 = .ok (.aload_n 0, 1) := by decide +kernel
theorem dX8_settles_182 : decode cX8_settles 182 = .ok (.getfield 158, 3) := by decide +kernel
theorem dX8_settles_185 : decode cX8_settles 185 = .ok (.if_icmp .ge 28, 3) := by decide +kernel
theorem dX8_settles_188 : decode cX8_settles 188 = .ok (.aload_n 0, 1) := by decide +kernel
theorem dX8_settles_189 : decode cX8_settles 189 = .ok (.getfield 23, 3) := by decide +kernel
theorem dX8_settles_192 : decode cX8_settles 192 = .ok (.bipush 18, 2) := by decide +kernel
theorem dX8_settles_194 : decode cX8_settles 194 = .ok (.iload_n 1, 1) := by decide +kernel
theorem dX8_settles_195 : decode cX8_settles 195 = .ok (.iadd, 1) := by decide +kernel
theorem dX8_settles_196 : decode cX8_settles 196 = .ok (.aload_n 0, 1) := by decide +kernel
theorem dX8_settles_197 : decode cX8_settles 197 = .ok (.getfield 17, 3) := by decide +kernel
theorem dX8_settles_200 : decode cX8_settles 200 = .ok (.iconst 3, 1) := by decide +kernel
theorem dX8_settles_201 : decode cX8_settles 201 = .ok (.iload_n 1, 1) := by decide +kernel
theorem dX8_settles_202 : decode cX8_settles 202 = .ok (.imul, 1) := by decide +kernel
theorem dX8_settles_203 : decode cX8_settles 203 = .ok (.iconst 2, 1) := by decide +kernel
theorem dX8_settles_204 : decode cX8_settles 204 = .ok (.iadd, 1) := by decide +kernel
theorem dX8_settles_205 : decode cX8_settles 205 = .ok (.iaload, 1) := by decide +kernel
theorem dX8_settles_206 : decode cX8_settles 206 = .ok (.iastore, 1) := by decide +kernel
theorem dX8_settles_207 : decode cX8_settles 207 = .ok (.iinc 1 1, 3) := by decide +kernel
theorem dX8_settles_210 : decode cX8_settles 210 = .ok (.goto (-30), 3) := by decide +kernel
theorem dX8_settles_213 : decode cX8_settles 213 = .ok (.aload_n 0, 1) := by decide +kernel
theorem dX8_settles_214 : decode cX8_settles 214 = .ok (.iconst 0, 1) := by decide +kernel
theorem dX8_settles_215 : decode cX8_settles 215 = .ok (.putfield 164, 3) := by decide +kernel
theorem dX8_settles_218 : decode cX8_settles 218 = .ok (.aload_n 0, 1) := by decide +kernel
theorem dX8_settles_219 : decode cX8_settles 219 = .ok (.iconst 0, 1) := by decide +kernel
theorem dX8_settles_220 : decode cX8_settles 220 = .ok (.putfield 167, 3) := by decide +kernel
theorem dX8_settles_223 : decode cX8_settles 223 = .ok (.aload_n 0, 1) := by decide +kernel
theorem dX8_settles_224 : decode cX8_settles 224 = .ok (.getfield 32, 3) := by decide +kernel
theorem dX8_settles_227 : decode cX8_settles 227 = .ok (.iconst 0, 1) := by decide +kernel
theorem dX8_settles_228 : decode cX8_settles 228 = .ok (.iconst 0, 1) := by decide +kernel
theorem dX8_settles_229 : decode cX8_settles 229 = .ok (.bastore, 1) := by decide +kernel
theorem dX8_settles_230 : decode cX8_settles 230 = .ok (.aload_n 0, 1) := by decide +kernel
theorem dX8_settles_231 : decode cX8_settles 231 = .ok (.getfield 32, 3) := by decide +kernel
theorem dX8_settles_234 : decode cX8_settles 234 = .ok (.iconst 1, 1) := by decide +kernel
theorem dX8_settles_235 : decode cX8_settles 235 = .ok (.iconst 0, 1) := by decide +kernel
theorem dX8_settles_236 : decode cX8_settles 236 = .ok (.bastore, 1) := by decide +kernel
theorem dX8_settles_237 : decode cX8_settles 237 = .ok (.return_, 1) := by decide +kernel
theorem gf_X8_161 {X : Cx} {cc : ByteArray} {nL pc fr lo : Nat} {L : List (Nat × Value)} {st : List Value} {S : St} (ok : Ok X cc nL RX8 fr lo) (d : decode cc pc = .ok (.getfield 161, 3)) (k : Wp X nL (pc + 3) L (.int (S 71 12) :: st) S) : Wp X nL pc L (.ref (xad X 71) :: st) S :=
  r_get (C := RX8) (T := TX8) ok ob_71 rfl i_X8 12 (by decide) tw_fl_X8_161 d (by rw [show fvl (xad X) S 71 12 = .int (S 71 12) from (fvl_int (by decide))]; exact k)
theorem gf_X8_23 {X : Cx} {cc : ByteArray} {nL pc fr lo : Nat} {L : List (Nat × Value)} {st : List Value} {S : St} (ok : Ok X cc nL RX8 fr lo) (d : decode cc pc = .ok (.getfield 23, 3)) (k : Wp X nL (pc + 3) L (.ref (xad X 75) :: st) S) : Wp X nL pc L (.ref (xad X 71) :: st) S :=
  r_get (C := RX8) (T := TX8) ok ob_71 rfl i_X8 20 (by decide) tw_fl_X8_23 d (by rw [show fvl (xad X) S 71 20 = .ref (xad X 75) from (fvl_ref (d := 75) (by decide))]; exact k)
theorem gf_X8_158 {X : Cx} {cc : ByteArray} {nL pc fr lo : Nat} {L : List (Nat × Value)} {st : List Value} {S : St} (ok : Ok X cc nL RX8 fr lo) (d : decode cc pc = .ok (.getfield 158, 3)) (k : Wp X nL (pc + 3) L (.int (S 71 11) :: st) S) : Wp X nL pc L (.ref (xad X 71) :: st) S :=
  r_get (C := RX8) (T := TX8) ok ob_71 rfl i_X8 11 (by decide) tw_fl_X8_158 d (by rw [show fvl (xad X) S 71 11 = .int (S 71 11) from (fvl_int (by decide))]; exact k)
theorem gf_X8_32 {X : Cx} {cc : ByteArray} {nL pc fr lo : Nat} {L : List (Nat × Value)} {st : List Value} {S : St} (ok : Ok X cc nL RX8 fr lo) (d : decode cc pc = .ok (.getfield 32, 3)) (k : Wp X nL (pc + 3) L (.ref (xad X 78) :: st) S) : Wp X nL pc L (.ref (xad X 71) :: st) S :=
  r_get (C := RX8) (T := TX8) ok ob_71 rfl i_X8 23 (by decide) tw_fl_X8_32 d (by rw [show fvl (xad X) S 71 23 = .ref (xad X 78) from (fvl_ref (d := 78) (by decide))]; exact k)
theorem pf_X8_155 {X : Cx} {cc : ByteArray} {nL pc fr lo : Nat} {L : List (Nat × Value)} {st : List Value} {S : St} {v : Int32} (ok : Ok X cc nL RX8 fr lo) (d : decode cc pc = .ok (.putfield 155, 3)) (k : ∀ S1 : St, S1 = up S 71 10 v → Wp X nL (pc + 3) L st S1) : Wp X nL pc L (.int v :: .ref (xad X 71) :: st) S :=
  r_put (C := RX8) (T := TX8) ok ob_71 rfl i_X8 tyX8 tyX8_ok nmX8 10 (by decide) tw_fl_X8_155 rfl rfl (by decide) d (k _ rfl)
theorem pf_X8_158 {X : Cx} {cc : ByteArray} {nL pc fr lo : Nat} {L : List (Nat × Value)} {st : List Value} {S : St} {v : Int32} (ok : Ok X cc nL RX8 fr lo) (d : decode cc pc = .ok (.putfield 158, 3)) (k : ∀ S1 : St, S1 = up S 71 11 v → Wp X nL (pc + 3) L st S1) : Wp X nL pc L (.int v :: .ref (xad X 71) :: st) S :=
  r_put (C := RX8) (T := TX8) ok ob_71 rfl i_X8 tyX8 tyX8_ok nmX8 11 (by decide) tw_fl_X8_158 rfl rfl (by decide) d (k _ rfl)
theorem pf_X8_161 {X : Cx} {cc : ByteArray} {nL pc fr lo : Nat} {L : List (Nat × Value)} {st : List Value} {S : St} {v : Int32} (ok : Ok X cc nL RX8 fr lo) (d : decode cc pc = .ok (.putfield 161, 3)) (k : ∀ S1 : St, S1 = up S 71 12 v → Wp X nL (pc + 3) L st S1) : Wp X nL pc L (.int v :: .ref (xad X 71) :: st) S :=
  r_put (C := RX8) (T := TX8) ok ob_71 rfl i_X8 tyX8 tyX8_ok nmX8 12 (by decide) tw_fl_X8_161 rfl rfl (by decide) d (k _ rfl)
theorem pf_X8_164 {X : Cx} {cc : ByteArray} {nL pc fr lo : Nat} {L : List (Nat × Value)} {st : List Value} {S : St} {v : Int32} (ok : Ok X cc nL RX8 fr lo) (d : decode cc pc = .ok (.putfield 164, 3)) (k : ∀ S1 : St, S1 = up S 71 25 v → Wp X nL (pc + 3) L st S1) : Wp X nL pc L (.int v :: .ref (xad X 71) :: st) S :=
  r_put (C := RX8) (T := TX8) ok ob_71 rfl i_X8 tyX8 tyX8_ok nmX8 25 (by decide) tw_fl_X8_164 rfl rfl (by decide) d (k _ rfl)
theorem pf_X8_167 {X : Cx} {cc : ByteArray} {nL pc fr lo : Nat} {L : List (Nat × Value)} {st : List Value} {S : St} {v : Int32} (ok : Ok X cc nL RX8 fr lo) (d : decode cc pc = .ok (.putfield 167, 3)) (k : ∀ S1 : St, S1 = up S 71 27 v → Wp X nL (pc + 3) L st S1) : Wp X nL pc L (.int v :: .ref (xad X 71) :: st) S :=
  r_put (C := RX8) (T := TX8) ok ob_71 rfl i_X8 tyX8 tyX8_ok nmX8 27 (by decide) tw_fl_X8_167 rfl rfl (by decide) d (k _ rfl)
def B_X8_settles_213 (post : St → Prop) (S : St) : Prop :=
  ∀ S1 : St, S1 = up S 71 25 0 → ∀ S2 : St, S2 = up S1 71 27 0 → ∀ S3 : St, S3 = up S2 78 0 0 → ∀ S4 : St, S4 = up S3 78 1 0 → post S4
def BD_X8_settles_180 (k180 : Int32 → St → Prop) (post : St → Prop) (x1 : Int32) (S : St) : Prop :=
  (((S 71 11) ≤ x1 → B_X8_settles_213 post S) ∧ (¬ (S 71 11) ≤ x1 → vp_in (((3 : Int32) * x1) + 2) 54 ∧ (vp_in ((18 : Int32) + x1) 28 ∧ (∀ S2 : St, S2 = up S 75 (ix ((18 : Int32) + x1)) (S 73 (ix (((3 : Int32) * x1) + 2))) → k180 (x1 + 1) S2))))
def L_X8_settles_180 (post : St → Prop) (n : Nat) : Int32 → St → Prop := Nat.rec (motive := fun _ => Int32 → St → Prop) (fun _ _ => False) (fun _ ih => BD_X8_settles_180 ih post) n
def B_X8_settles_180 (post : St → Prop) (x1 : Int32) (S : St) : Prop := ∃ n, L_X8_settles_180 post n x1 S
def B_X8_settles_156 (post : St → Prop) (S : St) : Prop :=
  ∀ S1 : St, S1 = up S 75 16 (S 71 18) → ∀ S2 : St, S2 = up S1 75 17 (S1 71 19) → B_X8_settles_180 post 0 S2
def BD_X8_settles_84 (k84 : Int32 → St → Prop) (post : St → Prop) (x1 : Int32) (S : St) : Prop :=
  (((S 71 12) ≤ x1 → B_X8_settles_156 post S) ∧ (¬ (S 71 12) ≤ x1 → vp_in ((5 : Int32) * x1) 40 ∧ (vp_in ((4 : Int32) * x1) 28 ∧ (∀ S2 : St, S2 = up S 75 (ix ((4 : Int32) * x1)) (S 74 (ix ((5 : Int32) * x1))) → vp_in (((5 : Int32) * x1) + 3) 40 ∧ (vp_in (((4 : Int32) * x1) + 1) 28 ∧ (∀ S4 : St, S4 = up S2 75 (ix (((4 : Int32) * x1) + 1)) (S2 74 (ix (((5 : Int32) * x1) + 3))) → vp_in (((4 : Int32) * x1) + 2) 28 ∧ (∀ S6 : St, S6 = up S4 75 (ix (((4 : Int32) * x1) + 2)) 0 → vp_in (((4 : Int32) * x1) + 3) 28 ∧ (∀ S8 : St, S8 = up S6 75 (ix (((4 : Int32) * x1) + 3)) 0 → k84 (x1 + 1) S8))))))))
def L_X8_settles_84 (post : St → Prop) (n : Nat) : Int32 → St → Prop := Nat.rec (motive := fun _ => Int32 → St → Prop) (fun _ _ => False) (fun _ ih => BD_X8_settles_84 ih post) n
def B_X8_settles_84 (post : St → Prop) (x1 : Int32) (S : St) : Prop := ∃ n, L_X8_settles_84 post n x1 S
def BD_X8_settles_55 (k55 : Int32 → St → Prop) (post : St → Prop) (x1 : Int32) (S : St) : Prop :=
  ((20 ≤ x1 → B_X8_settles_84 post 0 S) ∧ (¬ 20 ≤ x1 → vp_in ((20 : Int32) + x1) 40 ∧ (vp_in x1 40 ∧ (∀ S2 : St, S2 = up S 74 (ix x1) (S 74 (ix ((20 : Int32) + x1))) → k55 (x1 + 1) S2))))
def L_X8_settles_55 (post : St → Prop) (n : Nat) : Int32 → St → Prop := Nat.rec (motive := fun _ => Int32 → St → Prop) (fun _ _ => False) (fun _ ih => BD_X8_settles_55 ih post) n
def B_X8_settles_55 (post : St → Prop) (x1 : Int32) (S : St) : Prop := ∃ n, L_X8_settles_55 post n x1 S
def BD_X8_settles_26 (k26 : Int32 → St → Prop) (post : St → Prop) (x1 : Int32) (S : St) : Prop :=
  ((27 ≤ x1 → B_X8_settles_55 post 0 S) ∧ (¬ 27 ≤ x1 → vp_in ((27 : Int32) + x1) 54 ∧ (vp_in x1 54 ∧ (∀ S2 : St, S2 = up S 73 (ix x1) (S 73 (ix ((27 : Int32) + x1))) → k26 (x1 + 1) S2))))
def L_X8_settles_26 (post : St → Prop) (n : Nat) : Int32 → St → Prop := Nat.rec (motive := fun _ => Int32 → St → Prop) (fun _ _ => False) (fun _ ih => BD_X8_settles_26 ih post) n
def B_X8_settles_26 (post : St → Prop) (x1 : Int32) (S : St) : Prop := ∃ n, L_X8_settles_26 post n x1 S
def wp_X8_settles (S : St) (post : St → Prop) : Prop :=
  ∀ S1 : St, S1 = up S 71 10 (S 71 15) → ∀ S2 : St, S2 = up S1 71 11 (S1 71 16) → ∀ S3 : St, S3 = up S2 71 12 (S2 71 17) → B_X8_settles_26 post 0 S3
theorem w_B_X8_settles_213 {X : Cx} (ok : Ok X cX8_settles 2 RX8 0 0) {post : St → Prop} (hret : RetV X cX8_settles 2 post) {S : St} (h : B_X8_settles_213 post S) : Wp X 2 213 [(0, .ref (xad X 71))] [] S := by
  unfold B_X8_settles_213 at h
  refine r_aload_n ok dX8_settles_213 0 rfl ?_
  refine r_iconst (v := 0) ok dX8_settles_214 rfl ?_
  refine pf_X8_164 ok dX8_settles_215 (fun S1 eS1 => ?_)
  replace h := h S1 eS1
  refine r_aload_n ok dX8_settles_218 0 rfl ?_
  refine r_iconst (v := 0) ok dX8_settles_219 rfl ?_
  refine pf_X8_167 ok dX8_settles_220 (fun S2 eS2 => ?_)
  replace h := h S2 eS2
  refine r_aload_n ok dX8_settles_223 0 rfl ?_
  refine gf_X8_32 ok dX8_settles_224 ?_
  refine r_iconst (v := 0) ok dX8_settles_227 rfl ?_
  refine r_iconst (v := 0) ok dX8_settles_228 rfl ?_
  refine r_zast (j := 0) ok az_78 (in_lit (by decide)) (by decide) (Or.inl rfl) dX8_settles_229 (fun S3 eS3 => ?_)
  replace h := h S3 eS3
  refine r_aload_n ok dX8_settles_230 0 rfl ?_
  refine gf_X8_32 ok dX8_settles_231 ?_
  refine r_iconst (v := 1) ok dX8_settles_234 rfl ?_
  refine r_iconst (v := 0) ok dX8_settles_235 rfl ?_
  refine r_zast (j := 1) ok az_78 (in_lit (by decide)) (by decide) (Or.inl rfl) dX8_settles_236 (fun S4 eS4 => ?_)
  replace h := h S4 eS4
  exact hret _ _ _ dX8_settles_237 h
theorem w_B_X8_settles_180 {X : Cx} (ok : Ok X cX8_settles 2 RX8 0 0) {post : St → Prop} (hret : RetV X cX8_settles 2 post) {x1 : Int32} {S : St} (h : B_X8_settles_180 post x1 S) : Wp X 2 180 [(0, .ref (xad X 71)), (1, .int x1)] [] S := by
  obtain ⟨n, h⟩ := h
  induction n generalizing x1 S with
  | zero => exact False.elim h
  | succ n ih =>
    have hk180 : ∀ x1 S, L_X8_settles_180 post n x1 S → Wp X 2 180 [(0, .ref (xad X 71)), (1, .int x1)] [] S := by intros; apply ih; assumption
    replace h : BD_X8_settles_180 (L_X8_settles_180 post n) post x1 S := h
    unfold BD_X8_settles_180 at h
    generalize L_X8_settles_180 post n = k180 at h hk180
    refine r_iload_n ok dX8_settles_180 1 rfl ?_
    refine r_aload_n ok dX8_settles_181 0 rfl ?_
    refine gf_X8_158 ok dX8_settles_182 ?_
    refine r_icmp_ge (tgt := 213) ok dX8_settles_185 rfl (fun hc1 => ?_) (fun hc1 => ?_)
    · replace h := h.1 hc1
      refine r_sub [(0, .ref (xad X 71))] [0] rfl ?_
      exact w_B_X8_settles_213 ok hret h
    · replace h := h.2 hc1
      refine r_aload_n ok dX8_settles_188 0 rfl ?_
      refine gf_X8_23 ok dX8_settles_189 ?_
      refine r_bipush (v := 18) ok dX8_settles_192 rfl ?_
      refine r_iload_n ok dX8_settles_194 1 rfl ?_
      refine r_iadd ok dX8_settles_195 ?_
      refine r_aload_n ok dX8_settles_196 0 rfl ?_
      refine gf_X8_17 ok dX8_settles_197 ?_
      refine r_iconst (v := 3) ok dX8_settles_200 rfl ?_
      refine r_iload_n ok dX8_settles_201 1 rfl ?_
      refine r_imul ok dX8_settles_202 ?_
      refine r_iconst (v := 2) ok dX8_settles_203 rfl ?_
      refine r_iadd ok dX8_settles_204 ?_
      refine r_iald ok ai_73 h.1 rfl dX8_settles_205 ?_
      replace h := h.2
      have hi3 := h.1
      replace h := h.2
      refine r_iast ok ai_75 hi3 rfl dX8_settles_206 (fun S2 eS2 => ?_)
      replace h := h S2 eS2
      refine r_iinc (v := x1 + 1) ok dX8_settles_207 1 rfl rfl (by decide) [(0, .ref (xad X 71)), (1, .int (x1 + 1))] [1, 0] rfl ?_
      refine r_goto (tgt := 180) ok dX8_settles_210 rfl ?_
      exact hk180 _ _ h
theorem w_B_X8_settles_156 {X : Cx} (ok : Ok X cX8_settles 2 RX8 0 0) {post : St → Prop} (hret : RetV X cX8_settles 2 post) {S : St} (h : B_X8_settles_156 post S) : Wp X 2 156 [(0, .ref (xad X 71))] [] S := by
  unfold B_X8_settles_156 at h
  refine r_aload_n ok dX8_settles_156 0 rfl ?_
  refine gf_X8_23 ok dX8_settles_157 ?_
  refine r_bipush (v := 16) ok dX8_settles_160 rfl ?_
  refine r_aload_n ok dX8_settles_162 0 rfl ?_
  refine gf_X8_127 ok dX8_settles_163 ?_
  refine r_iast (j := 16) ok ai_75 (in_lit (by decide)) (by decide) dX8_settles_166 (fun S1 eS1 => ?_)
  replace h := h S1 eS1
  refine r_aload_n ok dX8_settles_167 0 rfl ?_
  refine gf_X8_23 ok dX8_settles_168 ?_
  refine r_bipush (v := 17) ok dX8_settles_171 rfl ?_
  refine r_aload_n ok dX8_settles_173 0 rfl ?_
  refine gf_X8_140 ok dX8_settles_174 ?_
  refine r_iast (j := 17) ok ai_75 (in_lit (by decide)) (by decide) dX8_settles_177 (fun S2 eS2 => ?_)
  replace h := h S2 eS2
  refine r_iconst (v := 0) ok dX8_settles_178 rfl ?_
  refine r_istore_n ok dX8_settles_179 (by decide) [(0, .ref (xad X 71)), (1, .int 0)] [1, 0] rfl ?_
  exact w_B_X8_settles_180 ok hret h
theorem w_B_X8_settles_84 {X : Cx} (ok : Ok X cX8_settles 2 RX8 0 0) {post : St → Prop} (hret : RetV X cX8_settles 2 post) {x1 : Int32} {S : St} (h : B_X8_settles_84 post x1 S) : Wp X 2 84 [(0, .ref (xad X 71)), (1, .int x1)] [] S := by
  obtain ⟨n, h⟩ := h
  induction n generalizing x1 S with
  | zero => exact False.elim h
  | succ n ih =>
    have hk84 : ∀ x1 S, L_X8_settles_84 post n x1 S → Wp X 2 84 [(0, .ref (xad X 71)), (1, .int x1)] [] S := by intros; apply ih; assumption
    replace h : BD_X8_settles_84 (L_X8_settles_84 post n) post x1 S := h
    unfold BD_X8_settles_84 at h
    generalize L_X8_settles_84 post n = k84 at h hk84
    refine r_iload_n ok dX8_settles_84 1 rfl ?_
    refine r_aload_n ok dX8_settles_85 0 rfl ?_
    refine gf_X8_161 ok dX8_settles_86 ?_
    refine r_icmp_ge (tgt := 156) ok dX8_settles_89 rfl (fun hc1 => ?_) (fun hc1 => ?_)
    · replace h := h.1 hc1
      refine r_sub [(0, .ref (xad X 71))] [0] rfl ?_
      exact w_B_X8_settles_156 ok hret h
    · replace h := h.2 hc1
      refine r_aload_n ok dX8_settles_92 0 rfl ?_
      refine gf_X8_23 ok dX8_settles_93 ?_
      refine r_iconst (v := 4) ok dX8_settles_96 rfl ?_
      refine r_iload_n ok dX8_settles_97 1 rfl ?_
      refine r_imul ok dX8_settles_98 ?_
      refine r_aload_n ok dX8_settles_99 0 rfl ?_
      refine gf_X8_20 ok dX8_settles_100 ?_
      refine r_iconst (v := 5) ok dX8_settles_103 rfl ?_
      refine r_iload_n ok dX8_settles_104 1 rfl ?_
      refine r_imul ok dX8_settles_105 ?_
      refine r_iald ok ai_74 h.1 rfl dX8_settles_106 ?_
      replace h := h.2
      have hi3 := h.1
      replace h := h.2
      refine r_iast ok ai_75 hi3 rfl dX8_settles_107 (fun S2 eS2 => ?_)
      replace h := h S2 eS2
      refine r_aload_n ok dX8_settles_108 0 rfl ?_
      refine gf_X8_23 ok dX8_settles_109 ?_
      refine r_iconst (v := 4) ok dX8_settles_112 rfl ?_
      refine r_iload_n ok dX8_settles_113 1 rfl ?_
      refine r_imul ok dX8_settles_114 ?_
      refine r_iconst (v := 1) ok dX8_settles_115 rfl ?_
      refine r_iadd ok dX8_settles_116 ?_
      refine r_aload_n ok dX8_settles_117 0 rfl ?_
      refine gf_X8_20 ok dX8_settles_118 ?_
      refine r_iconst (v := 5) ok dX8_settles_121 rfl ?_
      refine r_iload_n ok dX8_settles_122 1 rfl ?_
      refine r_imul ok dX8_settles_123 ?_
      refine r_iconst (v := 3) ok dX8_settles_124 rfl ?_
      refine r_iadd ok dX8_settles_125 ?_
      refine r_iald ok ai_74 h.1 rfl dX8_settles_126 ?_
      replace h := h.2
      have hi5 := h.1
      replace h := h.2
      refine r_iast ok ai_75 hi5 rfl dX8_settles_127 (fun S4 eS4 => ?_)
      replace h := h S4 eS4
      refine r_aload_n ok dX8_settles_128 0 rfl ?_
      refine gf_X8_23 ok dX8_settles_129 ?_
      refine r_iconst (v := 4) ok dX8_settles_132 rfl ?_
      refine r_iload_n ok dX8_settles_133 1 rfl ?_
      refine r_imul ok dX8_settles_134 ?_
      refine r_iconst (v := 2) ok dX8_settles_135 rfl ?_
      refine r_iadd ok dX8_settles_136 ?_
      refine r_iconst (v := 0) ok dX8_settles_137 rfl ?_
      have hi7 := h.1
      replace h := h.2
      refine r_iast ok ai_75 hi7 rfl dX8_settles_138 (fun S6 eS6 => ?_)
      replace h := h S6 eS6
      refine r_aload_n ok dX8_settles_139 0 rfl ?_
      refine gf_X8_23 ok dX8_settles_140 ?_
      refine r_iconst (v := 4) ok dX8_settles_143 rfl ?_
      refine r_iload_n ok dX8_settles_144 1 rfl ?_
      refine r_imul ok dX8_settles_145 ?_
      refine r_iconst (v := 3) ok dX8_settles_146 rfl ?_
      refine r_iadd ok dX8_settles_147 ?_
      refine r_iconst (v := 0) ok dX8_settles_148 rfl ?_
      have hi9 := h.1
      replace h := h.2
      refine r_iast ok ai_75 hi9 rfl dX8_settles_149 (fun S8 eS8 => ?_)
      replace h := h S8 eS8
      refine r_iinc (v := x1 + 1) ok dX8_settles_150 1 rfl rfl (by decide) [(0, .ref (xad X 71)), (1, .int (x1 + 1))] [1, 0] rfl ?_
      refine r_goto (tgt := 84) ok dX8_settles_153 rfl ?_
      exact hk84 _ _ h
theorem w_B_X8_settles_55 {X : Cx} (ok : Ok X cX8_settles 2 RX8 0 0) {post : St → Prop} (hret : RetV X cX8_settles 2 post) {x1 : Int32} {S : St} (h : B_X8_settles_55 post x1 S) : Wp X 2 55 [(0, .ref (xad X 71)), (1, .int x1)] [] S := by
  obtain ⟨n, h⟩ := h
  induction n generalizing x1 S with
  | zero => exact False.elim h
  | succ n ih =>
    have hk55 : ∀ x1 S, L_X8_settles_55 post n x1 S → Wp X 2 55 [(0, .ref (xad X 71)), (1, .int x1)] [] S := by intros; apply ih; assumption
    replace h : BD_X8_settles_55 (L_X8_settles_55 post n) post x1 S := h
    unfold BD_X8_settles_55 at h
    generalize L_X8_settles_55 post n = k55 at h hk55
    refine r_iload_n ok dX8_settles_55 1 rfl ?_
    refine r_bipush (v := 20) ok dX8_settles_56 rfl ?_
    refine r_icmp_ge (tgt := 82) ok dX8_settles_58 rfl (fun hc1 => ?_) (fun hc1 => ?_)
    · replace h := h.1 hc1
      refine r_iconst (v := 0) ok dX8_settles_82 rfl ?_
      refine r_istore_n ok dX8_settles_83 (by decide) [(0, .ref (xad X 71)), (1, .int 0)] [1, 0] rfl ?_
      exact w_B_X8_settles_84 ok hret h
    · replace h := h.2 hc1
      refine r_aload_n ok dX8_settles_61 0 rfl ?_
      refine gf_X8_20 ok dX8_settles_62 ?_
      refine r_iload_n ok dX8_settles_65 1 rfl ?_
      refine r_aload_n ok dX8_settles_66 0 rfl ?_
      refine gf_X8_20 ok dX8_settles_67 ?_
      refine r_bipush (v := 20) ok dX8_settles_70 rfl ?_
      refine r_iload_n ok dX8_settles_72 1 rfl ?_
      refine r_iadd ok dX8_settles_73 ?_
      refine r_iald ok ai_74 h.1 rfl dX8_settles_74 ?_
      replace h := h.2
      have hi3 := h.1
      replace h := h.2
      refine r_iast ok ai_74 hi3 rfl dX8_settles_75 (fun S2 eS2 => ?_)
      replace h := h S2 eS2
      refine r_iinc (v := x1 + 1) ok dX8_settles_76 1 rfl rfl (by decide) [(0, .ref (xad X 71)), (1, .int (x1 + 1))] [1, 0] rfl ?_
      refine r_goto (tgt := 55) ok dX8_settles_79 rfl ?_
      exact hk55 _ _ h
theorem w_B_X8_settles_26 {X : Cx} (ok : Ok X cX8_settles 2 RX8 0 0) {post : St → Prop} (hret : RetV X cX8_settles 2 post) {x1 : Int32} {S : St} (h : B_X8_settles_26 post x1 S) : Wp X 2 26 [(0, .ref (xad X 71)), (1, .int x1)] [] S := by
  obtain ⟨n, h⟩ := h
  induction n generalizing x1 S with
  | zero => exact False.elim h
  | succ n ih =>
    have hk26 : ∀ x1 S, L_X8_settles_26 post n x1 S → Wp X 2 26 [(0, .ref (xad X 71)), (1, .int x1)] [] S := by intros; apply ih; assumption
    replace h : BD_X8_settles_26 (L_X8_settles_26 post n) post x1 S := h
    unfold BD_X8_settles_26 at h
    generalize L_X8_settles_26 post n = k26 at h hk26
    refine r_iload_n ok dX8_settles_26 1 rfl ?_
    refine r_bipush (v := 27) ok dX8_settles_27 rfl ?_
    refine r_icmp_ge (tgt := 53) ok dX8_settles_29 rfl (fun hc1 => ?_) (fun hc1 => ?_)
    · replace h := h.1 hc1
      refine r_iconst (v := 0) ok dX8_settles_53 rfl ?_
      refine r_istore_n ok dX8_settles_54 (by decide) [(0, .ref (xad X 71)), (1, .int 0)] [1, 0] rfl ?_
      exact w_B_X8_settles_55 ok hret h
    · replace h := h.2 hc1
      refine r_aload_n ok dX8_settles_32 0 rfl ?_
      refine gf_X8_17 ok dX8_settles_33 ?_
      refine r_iload_n ok dX8_settles_36 1 rfl ?_
      refine r_aload_n ok dX8_settles_37 0 rfl ?_
      refine gf_X8_17 ok dX8_settles_38 ?_
      refine r_bipush (v := 27) ok dX8_settles_41 rfl ?_
      refine r_iload_n ok dX8_settles_43 1 rfl ?_
      refine r_iadd ok dX8_settles_44 ?_
      refine r_iald ok ai_73 h.1 rfl dX8_settles_45 ?_
      replace h := h.2
      have hi3 := h.1
      replace h := h.2
      refine r_iast ok ai_73 hi3 rfl dX8_settles_46 (fun S2 eS2 => ?_)
      replace h := h S2 eS2
      refine r_iinc (v := x1 + 1) ok dX8_settles_47 1 rfl rfl (by decide) [(0, .ref (xad X 71)), (1, .int (x1 + 1))] [1, 0] rfl ?_
      refine r_goto (tgt := 26) ok dX8_settles_50 rfl ?_
      exact hk26 _ _ h
theorem w_wp_X8_settles {X : Cx} (ok : Ok X cX8_settles 2 RX8 0 0) {post : St → Prop} (hret : RetV X cX8_settles 2 post) {S : St} (h : wp_X8_settles S post) : Wp X 2 0 [(0, .ref (xad X 71))] [] S := by
  unfold wp_X8_settles at h
  refine r_aload_n ok dX8_settles_0 0 rfl ?_
  refine r_aload_n ok dX8_settles_1 0 rfl ?_
  refine gf_X8_120 ok dX8_settles_2 ?_
  refine pf_X8_155 ok dX8_settles_5 (fun S1 eS1 => ?_)
  replace h := h S1 eS1
  refine r_aload_n ok dX8_settles_8 0 rfl ?_
  refine r_aload_n ok dX8_settles_9 0 rfl ?_
  refine gf_X8_130 ok dX8_settles_10 ?_
  refine pf_X8_158 ok dX8_settles_13 (fun S2 eS2 => ?_)
  replace h := h S2 eS2
  refine r_aload_n ok dX8_settles_16 0 rfl ?_
  refine r_aload_n ok dX8_settles_17 0 rfl ?_
  refine gf_X8_137 ok dX8_settles_18 ?_
  refine pf_X8_161 ok dX8_settles_21 (fun S3 eS3 => ?_)
  replace h := h S3 eS3
  refine r_iconst (v := 0) ok dX8_settles_24 rfl ?_
  refine r_istore_n ok dX8_settles_25 (by decide) [(0, .ref (xad X 71)), (1, .int 0)] [1, 0] rfl ?_
  exact w_B_X8_settles_26 ok hret h
theorem c_X8_settles (l : Launch) (G : Gx) {S : St} {post : St → Prop} (h : wp_X8_settles S post) : MtV l yX8_settles cX8_settles 2 0 0 G [.ref (G.2.2 71)] S post :=
  ctV (by decide) rfl (Nat.le_of_ble_eq_true rfl) (fun X _ hG ok hret => by subst hG; exact w_wp_X8_settles ok hret h)

/-! HasteRoadsModel.land()I -/
theorem dX8_land_0 : decode cX8_land 0 = .ok (.aload_n 0, 1) := by decide +kernel
theorem dX8_land_1 : decode cX8_land 1 = .ok (.iconst 0, 1) := by decide +kernel
theorem dX8_land_2 : decode cX8_land 2 = .ok (.putfield 75, 3) := by decide +kernel
theorem dX8_land_5 : decode cX8_land 5 = .ok (.aload_n 0, 1) := by decide +kernel
theorem dX8_land_6 : decode cX8_land 6 = .ok (.iconst 0, 1) := by decide +kernel
theorem dX8_land_7 : decode cX8_land 7 = .ok (.putfield 106, 3) := by decide +kernel
theorem dX8_land_10 : decode cX8_land 10 = .ok (.aload_n 0, 1) := by decide +kernel
theorem dX8_land_11 : decode cX8_land 11 = .ok (.iconst (-1), 1) := by decide +kernel
theorem dX8_land_12 : decode cX8_land 12 = .ok (.putfield 13, 3) := by decide +kernel
theorem dX8_land_15 : decode cX8_land 15 = .ok (.aload_n 0, 1) := by decide +kernel
theorem dX8_land_16 : decode cX8_land 16 = .ok (.iconst 0, 1) := by decide +kernel
theorem dX8_land_17 : decode cX8_land 17 = .ok (.putfield 87, 3) := by decide +kernel
theorem dX8_land_20 : decode cX8_land 20 = .ok (.aload_n 0, 1) := by decide +kernel
theorem dX8_land_21 : decode cX8_land 21 = .ok (.iconst 0, 1) := by decide +kernel
theorem dX8_land_22 : decode cX8_land 22 = .ok (.putfield 120, 3) := by decide +kernel
theorem dX8_land_25 : decode cX8_land 25 = .ok (.aload_n 0, 1) := by decide +kernel
theorem dX8_land_26 : decode cX8_land 26 = .ok (.iconst 0, 1) := by decide +kernel
theorem dX8_land_27 : decode cX8_land 27 = .ok (.putfield 130, 3) := by decide +kernel
theorem dX8_land_30 : decode cX8_land 30 = .ok (.aload_n 0, 1) := by decide +kernel
theorem dX8_land_31 : decode cX8_land 31 = .ok (.iconst 0, 1) := by decide +kernel
theorem dX8_land_32 : decode cX8_land 32 = .ok (.putfield 137, 3) := by decide +kernel
theorem dX8_land_35 : decode cX8_land 35 = .ok (.aload_n 0, 1) := by decide +kernel
theorem dX8_land_36 : decode cX8_land 36 = .ok (.iconst 0, 1) := by decide +kernel
theorem dX8_land_37 : decode cX8_land 37 = .ok (.putfield 127, 3) := by decide +kernel
theorem dX8_land_40 : decode cX8_land 40 = .ok (.aload_n 0, 1) := by decide +kernel
theorem dX8_land_41 : decode cX8_land 41 = .ok (.iconst 0, 1) := by decide +kernel
theorem dX8_land_42 : decode cX8_land 42 = .ok (.putfield 140, 3) := by decide +kernel
theorem dX8_land_45 : decode cX8_land 45 = .ok (.aload_n 0, 1) := by decide +kernel
theorem dX8_land_46 : decode cX8_land 46 = .ok (.invokevirtual 117, 3) := by decide +kernel
theorem dX8_land_49 : decode cX8_land 49 = .ok (.aload_n 0, 1) := by decide +kernel
theorem dX8_land_50 : decode cX8_land 50 = .ok (.invokevirtual 109, 3) := by decide +kernel
theorem dX8_land_53 : decode cX8_land 53 = .ok (.ifCond .eq 62, 3) := by decide +kernel
theorem dX8_land_56 : decode cX8_land 56 = .ok (.aload_n 0, 1) := by decide +kernel
theorem dX8_land_57 : decode cX8_land 57 = .ok (.getfield 97, 3) := by decide +kernel
theorem dX8_land_60 : decode cX8_land 60 = .ok (.ifCond .eq 55, 3) := by decide +kernel
theorem dX8_land_63 : decode cX8_land 63 = .ok (.aload_n 0, 1) := by decide +kernel
theorem dX8_land_64 : decode cX8_land 64 = .ok (.getfield 97, 3) := by decide +kernel
theorem dX8_land_67 : decode cX8_land 67 = .ok (.iconst 1, 1) := by decide +kernel
theorem dX8_land_68 : decode cX8_land 68 = .ok (.if_icmp .eq 11, 3) := by decide +kernel
theorem dX8_land_71 : decode cX8_land 71 = .ok (.aload_n 0, 1) := by decide +kernel
theorem dX8_land_72 : decode cX8_land 72 = .ok (.iconst 1, 1) := by decide +kernel
theorem dX8_land_73 : decode cX8_land 73 = .ok (.invokevirtual 113, 3) := by decide +kernel
theorem dX8_land_76 : decode cX8_land 76 = .ok (.goto (-27), 3) := by decide +kernel
theorem dX8_land_79 : decode cX8_land 79 = .ok (.aload_n 0, 1) := by decide +kernel
theorem dX8_land_80 : decode cX8_land 80 = .ok (.invokevirtual 143, 3) := by decide +kernel
theorem dX8_land_83 : decode cX8_land 83 = .ok (.ifCond .eq 11, 3) := by decide +kernel
theorem dX8_land_86 : decode cX8_land 86 = .ok (.aload_n 0, 1) := by decide +kernel
theorem dX8_land_87 : decode cX8_land 87 = .ok (.iconst 3, 1) := by decide +kernel
theorem dX8_land_88 : decode cX8_land 88 = .ok (.invokevirtual 113, 3) := by decide +kernel
theorem dX8_land_91 : decode cX8_land 91 = .ok (.goto (-42), 3) := by decide +kernel
theorem dX8_land_94 : decode cX8_land 94 = .ok (.aload_n 0, 1) := by decide +kernel
theorem dX8_land_95 : decode cX8_land 95 = .ok (.getfield 100, 3) := by decide +kernel
theorem dX8_land_98 : decode cX8_land 98 = .ok (.istore_n 1, 1) := by decide +kernel
theorem dX8_land_99 : decode cX8_land 99 = .ok (.aload_n 0, 1) := by decide +kernel
theorem dX8_land_100 : decode cX8_land 100 = .ok (.invokevirtual 117, 3) := by decide +kernel
theorem dX8_land_103 : decode cX8_land 103 = .ok (.aload_n 0, 1) := by decide +kernel
theorem dX8_land_104 : decode cX8_land 104 = .ok (.iload_n 1, 1) := by decide +kernel
theorem dX8_land_105 : decode cX8_land 105 = .ok (.invokevirtual 146, 3) := by decide +kernel
theorem dX8_land_108 : decode cX8_land 108 = .ok (.aload_n 0, 1) := by decide +kernel
theorem dX8_land_109 : decode cX8_land 109 = .ok (.invokevirtual 149, 3) := by decide +kernel
theorem dX8_land_112 : decode cX8_land 112 = .ok (.goto (-63), 3) := by decide +kernel
theorem dX8_land_115 : decode cX8_land 115 = .ok (.aload_n 0, 1) := by decide +kernel
theorem dX8_land_116 : decode cX8_land 116 = .ok (.iconst 0, 1) := by decide +kernel
theorem dX8_land_117 : decode cX8_land 117 = .ok (.putfield 83, 3) := by decide +kernel
theorem dX8_land_120 : decode cX8_land 120 = .ok (.aload_n 0, 1) := by decide +kernel
theorem dX8_land_121 : decode cX8_land 121 = .ok (.invokevirtual 109, 3) := by decide +kernel
theorem dX8_land_124 : decode cX8_land 124 = .ok (.ifCond .ne 11, 3) := by decide +kernel
theorem dX8_land_127 : decode cX8_land 127 = .ok (.bipush (-10), 2) := by decide +kernel
theorem dX8_land_129 : decode cX8_land 129 = .ok (.aload_n 0, 1) := by decide +kernel
theorem dX8_land_130 : decode cX8_land 130 = .ok (.getfield 106, 3) := by decide +kernel
theorem dX8_land_133 : decode cX8_land 133 = .ok (.isub, 1) := by decide +kernel
theorem dX8_land_134 : decode cX8_land 134 = .ok (.ireturn, 1) := by decide +kernel
theorem dX8_land_135 : decode cX8_land 135 = .ok (.aload_n 0, 1) := by decide +kernel
theorem dX8_land_136 : decode cX8_land 136 = .ok (.invokevirtual 152, 3) := by decide +kernel
theorem dX8_land_139 : decode cX8_land 139 = .ok (.aload_n 0, 1) := by decide +kernel
theorem dX8_land_140 : decode cX8_land 140 = .ok (.getfield 155, 3) := by decide +kernel
theorem dX8_land_143 : decode cX8_land 143 = .ok (.ireturn, 1) := by decide +kernel
theorem gf_X8_155 {X : Cx} {cc : ByteArray} {nL pc fr lo : Nat} {L : List (Nat × Value)} {st : List Value} {S : St} (ok : Ok X cc nL RX8 fr lo) (d : decode cc pc = .ok (.getfield 155, 3)) (k : Wp X nL (pc + 3) L (.int (S 71 10) :: st) S) : Wp X nL pc L (.ref (xad X 71) :: st) S :=
  r_get (C := RX8) (T := TX8) ok ob_71 rfl i_X8 10 (by decide) tw_fl_X8_155 d (by rw [show fvl (xad X) S 71 10 = .int (S 71 10) from (fvl_int (by decide))]; exact k)
theorem cl_X8_143 {X : Cx} {cc : ByteArray} {nL pc fr lo : Nat} {L : List (Nat × Value)} {st : List Value} {S : St} (ok : Ok X cc nL RX8 fr lo) (d : decode cc pc = .ok (.invokevirtual 143, 3)) (hroom : 1 ≤ fr ∧ 20 ≤ lo) (hst : (st.map fun v => v.category).sum ≤ 8) {post : Int32 → St → Prop} (h : wp_X8_isFull S post) (kk : ∀ (r : Int32) (S1 : St), post r S1 → Wp X nL (pc + 3) L (.int r :: st) S1) : Wp X nL pc L (.ref (xad X 71) :: st) S :=
  r_callVi (n := 1) (f := 0) (lo1 := 0) (N := 0) (As := []) ok tw_in_X8 tw_im_X8_isFull tw_se_X8_isFull tw_co_X8_isFull tw_ml_X8_143 (by decide +kernel) rfl ob_71 rfl hroom hst d rfl (c_X8_isFull (xl X) (xG X) h) kk
theorem cl_X8_146 {X : Cx} {cc : ByteArray} {nL pc fr lo : Nat} {L : List (Nat × Value)} {st : List Value} {S : St} (ok : Ok X cc nL RX8 fr lo) {x1 : Int32} (d : decode cc pc = .ok (.invokevirtual 146, 3)) (hroom : 5 ≤ fr ∧ 111 ≤ lo) (hst : (st.map fun v => v.category).sum ≤ 8) {post : St → Prop} (h : wp_X8_clause x1 S post) (kk : ∀ S1 : St, post S1 → Wp X nL (pc + 3) L st S1) : Wp X nL pc L (.int x1 :: .ref (xad X 71) :: st) S :=
  r_callVv (n := 4) (f := 4) (lo1 := 88) (N := 1) (As := [.int x1]) ok tw_in_X8 tw_im_X8_clause tw_se_X8_clause tw_co_X8_clause tw_ml_X8_146 (by decide +kernel) rfl ob_71 rfl hroom hst d rfl (c_X8_clause (xl X) (xG X) h) kk
theorem cl_X8_149 {X : Cx} {cc : ByteArray} {nL pc fr lo : Nat} {L : List (Nat × Value)} {st : List Value} {S : St} (ok : Ok X cc nL RX8 fr lo) (d : decode cc pc = .ok (.invokevirtual 149, 3)) (hroom : 3 ≤ fr ∧ 63 ≤ lo) (hst : (st.map fun v => v.category).sum ≤ 8) {post : St → Prop} (h : wp_X8_ends S post) (kk : ∀ S1 : St, post S1 → Wp X nL (pc + 3) L st S1) : Wp X nL pc L (.ref (xad X 71) :: st) S :=
  r_callVv (n := 1) (f := 2) (lo1 := 43) (N := 0) (As := []) ok tw_in_X8 tw_im_X8_ends tw_se_X8_ends tw_co_X8_ends tw_ml_X8_149 (by decide +kernel) rfl ob_71 rfl hroom hst d rfl (c_X8_ends (xl X) (xG X) h) kk
theorem cl_X8_152 {X : Cx} {cc : ByteArray} {nL pc fr lo : Nat} {L : List (Nat × Value)} {st : List Value} {S : St} (ok : Ok X cc nL RX8 fr lo) (d : decode cc pc = .ok (.invokevirtual 152, 3)) (hroom : 1 ≤ fr ∧ 21 ≤ lo) (hst : (st.map fun v => v.category).sum ≤ 8) {post : St → Prop} (h : wp_X8_settles S post) (kk : ∀ S1 : St, post S1 → Wp X nL (pc + 3) L st S1) : Wp X nL pc L (.ref (xad X 71) :: st) S :=
  r_callVv (n := 2) (f := 0) (lo1 := 0) (N := 0) (As := []) ok tw_in_X8 tw_im_X8_settles tw_se_X8_settles tw_co_X8_settles tw_ml_X8_152 (by decide +kernel) rfl ob_71 rfl hroom hst d rfl (c_X8_settles (xl X) (xG X) h) kk
def B_X8_land_115 (post : Int32 → St → Prop) (S : St) : Prop :=
  ∀ S1 : St, S1 = up S 71 2 0 → wp_X8_isWell S1 (fun r3 S2 => ((¬ r3 = 0 → wp_X8_settles S2 (fun S5 => post (S5 71 10) S5)) ∧ (r3 = 0 → post ((-10 : Int32) - (S2 71 8)) S2)))
def BD_X8_land_49 (k49 : St → Prop) (post : Int32 → St → Prop) (S : St) : Prop :=
  wp_X8_isWell S (fun r2 S1 => ((r2 = 0 → B_X8_land_115 post S1) ∧ (¬ r2 = 0 → (((S1 71 4) = 0 → B_X8_land_115 post S1) ∧ (¬ (S1 71 4) = 0 → (((S1 71 4) = 1 → wp_X8_isFull S1 (fun r7 S6 => ((r7 = 0 → ∀ v9 : Int32, v9 = (S6 71 6) → wp_X8_advances S6 (fun S10 => wp_X8_clause v9 S10 (fun S11 => wp_X8_ends S11 (fun S12 => k49 S12)))) ∧ (¬ r7 = 0 → wp_X8_fails 3 S6 (fun S13 => k49 S13))))) ∧ (¬ (S1 71 4) = 1 → wp_X8_fails 1 S1 (fun S14 => k49 S14))))))))
def L_X8_land_49 (post : Int32 → St → Prop) (n : Nat) : St → Prop := Nat.rec (motive := fun _ => St → Prop) (fun _ => False) (fun _ ih => BD_X8_land_49 ih post) n
def B_X8_land_49 (post : Int32 → St → Prop) (S : St) : Prop := ∃ n, L_X8_land_49 post n S
def wp_X8_land (S : St) (post : Int32 → St → Prop) : Prop :=
  ∀ S1 : St, S1 = up S 71 0 0 → ∀ S2 : St, S2 = up S1 71 8 0 → ∀ S3 : St, S3 = up S2 71 9 (-1) → ∀ S4 : St, S4 = up S3 71 3 0 → ∀ S5 : St, S5 = up S4 71 15 0 → ∀ S6 : St, S6 = up S5 71 16 0 → ∀ S7 : St, S7 = up S6 71 17 0 → ∀ S8 : St, S8 = up S7 71 18 0 → ∀ S9 : St, S9 = up S8 71 19 0 → wp_X8_advances S9 (fun S10 => B_X8_land_49 post S10)
theorem w_B_X8_land_115 {X : Cx} (ok : Ok X cX8_land 2 RX8 5 111) {post : Int32 → St → Prop} (hret : RetI X cX8_land 2 post) {S : St} (h : B_X8_land_115 post S) : Wp X 2 115 [(0, .ref (xad X 71))] [] S := by
  unfold B_X8_land_115 at h
  refine r_aload_n ok dX8_land_115 0 rfl ?_
  refine r_iconst (v := 0) ok dX8_land_116 rfl ?_
  refine pf_X8_83 ok dX8_land_117 (fun S1 eS1 => ?_)
  replace h := h S1 eS1
  refine r_aload_n ok dX8_land_120 0 rfl ?_
  refine cl_X8_109 ok dX8_land_121 (by decide) (Nat.le_of_ble_eq_true rfl) h (fun r3 S2 h => ?_)
  refine r_if_ne (tgt := 135) ok dX8_land_124 rfl (fun hc4 => ?_) (fun hc4 => ?_)
  · replace h := h.1 hc4
    refine r_aload_n ok dX8_land_135 0 rfl ?_
    refine cl_X8_152 ok dX8_land_136 (by decide) (Nat.le_of_ble_eq_true rfl) h (fun S5 h => ?_)
    refine r_aload_n ok dX8_land_139 0 rfl ?_
    refine gf_X8_155 ok dX8_land_140 ?_
    exact hret _ _ _ _ dX8_land_143 h
  · replace h := h.2 hc4
    refine r_bipush (v := (-10)) ok dX8_land_127 rfl ?_
    refine r_aload_n ok dX8_land_129 0 rfl ?_
    refine gf_X8_106 ok dX8_land_130 ?_
    refine r_isub ok dX8_land_133 ?_
    exact hret _ _ _ _ dX8_land_134 h
theorem w_B_X8_land_49 {X : Cx} (ok : Ok X cX8_land 2 RX8 5 111) {post : Int32 → St → Prop} (hret : RetI X cX8_land 2 post) {S : St} (h : B_X8_land_49 post S) : Wp X 2 49 [(0, .ref (xad X 71))] [] S := by
  obtain ⟨n, h⟩ := h
  induction n generalizing S with
  | zero => exact False.elim h
  | succ n ih =>
    have hk49 : ∀ S, L_X8_land_49 post n S → Wp X 2 49 [(0, .ref (xad X 71))] [] S := by intros; apply ih; assumption
    replace h : BD_X8_land_49 (L_X8_land_49 post n) post S := h
    unfold BD_X8_land_49 at h
    generalize L_X8_land_49 post n = k49 at h hk49
    refine r_aload_n ok dX8_land_49 0 rfl ?_
    refine cl_X8_109 ok dX8_land_50 (by decide) (Nat.le_of_ble_eq_true rfl) h (fun r2 S1 h => ?_)
    refine r_if_eq (tgt := 115) ok dX8_land_53 rfl (fun hc3 => ?_) (fun hc3 => ?_)
    · replace h := h.1 hc3
      exact w_B_X8_land_115 ok hret h
    · replace h := h.2 hc3
      refine r_aload_n ok dX8_land_56 0 rfl ?_
      refine gf_X8_97 ok dX8_land_57 ?_
      refine r_if_eq (tgt := 115) ok dX8_land_60 rfl (fun hc4 => ?_) (fun hc4 => ?_)
      · replace h := h.1 hc4
        exact w_B_X8_land_115 ok hret h
      · replace h := h.2 hc4
        refine r_aload_n ok dX8_land_63 0 rfl ?_
        refine gf_X8_97 ok dX8_land_64 ?_
        refine r_iconst (v := 1) ok dX8_land_67 rfl ?_
        refine r_icmp_eq (tgt := 79) ok dX8_land_68 rfl (fun hc5 => ?_) (fun hc5 => ?_)
        · replace h := h.1 hc5
          refine r_aload_n ok dX8_land_79 0 rfl ?_
          refine cl_X8_143 ok dX8_land_80 (by decide) (Nat.le_of_ble_eq_true rfl) h (fun r7 S6 h => ?_)
          refine r_if_eq (tgt := 94) ok dX8_land_83 rfl (fun hc8 => ?_) (fun hc8 => ?_)
          · replace h := h.1 hc8
            refine r_aload_n ok dX8_land_94 0 rfl ?_
            refine gf_X8_100 ok dX8_land_95 ?_
            refine r_top (fun v9 ev9 => ?_)
            replace h := h v9 ev9
            refine r_istore_n ok dX8_land_98 (by decide) [(0, .ref (xad X 71)), (1, .int v9)] [1, 0] rfl ?_
            refine r_aload_n ok dX8_land_99 0 rfl ?_
            refine cl_X8_117 ok dX8_land_100 (by decide) (Nat.le_of_ble_eq_true rfl) h (fun S10 h => ?_)
            refine r_aload_n ok dX8_land_103 0 rfl ?_
            refine r_iload_n ok dX8_land_104 1 rfl ?_
            refine cl_X8_146 ok dX8_land_105 (by decide) (Nat.le_of_ble_eq_true rfl) h (fun S11 h => ?_)
            refine r_aload_n ok dX8_land_108 0 rfl ?_
            refine cl_X8_149 ok dX8_land_109 (by decide) (Nat.le_of_ble_eq_true rfl) h (fun S12 h => ?_)
            refine r_goto (tgt := 49) ok dX8_land_112 rfl ?_
            refine r_sub [(0, .ref (xad X 71))] [0] rfl ?_
            exact hk49 _ h
          · replace h := h.2 hc8
            refine r_aload_n ok dX8_land_86 0 rfl ?_
            refine r_iconst (v := 3) ok dX8_land_87 rfl ?_
            refine cl_X8_113 ok dX8_land_88 (by decide) (Nat.le_of_ble_eq_true rfl) h (fun S13 h => ?_)
            refine r_goto (tgt := 49) ok dX8_land_91 rfl ?_
            exact hk49 _ h
        · replace h := h.2 hc5
          refine r_aload_n ok dX8_land_71 0 rfl ?_
          refine r_iconst (v := 1) ok dX8_land_72 rfl ?_
          refine cl_X8_113 ok dX8_land_73 (by decide) (Nat.le_of_ble_eq_true rfl) h (fun S14 h => ?_)
          refine r_goto (tgt := 49) ok dX8_land_76 rfl ?_
          exact hk49 _ h
theorem w_wp_X8_land {X : Cx} (ok : Ok X cX8_land 2 RX8 5 111) {post : Int32 → St → Prop} (hret : RetI X cX8_land 2 post) {S : St} (h : wp_X8_land S post) : Wp X 2 0 [(0, .ref (xad X 71))] [] S := by
  unfold wp_X8_land at h
  refine r_aload_n ok dX8_land_0 0 rfl ?_
  refine r_iconst (v := 0) ok dX8_land_1 rfl ?_
  refine pf_X8_75 ok dX8_land_2 (fun S1 eS1 => ?_)
  replace h := h S1 eS1
  refine r_aload_n ok dX8_land_5 0 rfl ?_
  refine r_iconst (v := 0) ok dX8_land_6 rfl ?_
  refine pf_X8_106 ok dX8_land_7 (fun S2 eS2 => ?_)
  replace h := h S2 eS2
  refine r_aload_n ok dX8_land_10 0 rfl ?_
  refine r_iconst (v := (-1)) ok dX8_land_11 rfl ?_
  refine pf_X8_13 ok dX8_land_12 (fun S3 eS3 => ?_)
  replace h := h S3 eS3
  refine r_aload_n ok dX8_land_15 0 rfl ?_
  refine r_iconst (v := 0) ok dX8_land_16 rfl ?_
  refine pf_X8_87 ok dX8_land_17 (fun S4 eS4 => ?_)
  replace h := h S4 eS4
  refine r_aload_n ok dX8_land_20 0 rfl ?_
  refine r_iconst (v := 0) ok dX8_land_21 rfl ?_
  refine pf_X8_120 ok dX8_land_22 (fun S5 eS5 => ?_)
  replace h := h S5 eS5
  refine r_aload_n ok dX8_land_25 0 rfl ?_
  refine r_iconst (v := 0) ok dX8_land_26 rfl ?_
  refine pf_X8_130 ok dX8_land_27 (fun S6 eS6 => ?_)
  replace h := h S6 eS6
  refine r_aload_n ok dX8_land_30 0 rfl ?_
  refine r_iconst (v := 0) ok dX8_land_31 rfl ?_
  refine pf_X8_137 ok dX8_land_32 (fun S7 eS7 => ?_)
  replace h := h S7 eS7
  refine r_aload_n ok dX8_land_35 0 rfl ?_
  refine r_iconst (v := 0) ok dX8_land_36 rfl ?_
  refine pf_X8_127 ok dX8_land_37 (fun S8 eS8 => ?_)
  replace h := h S8 eS8
  refine r_aload_n ok dX8_land_40 0 rfl ?_
  refine r_iconst (v := 0) ok dX8_land_41 rfl ?_
  refine pf_X8_140 ok dX8_land_42 (fun S9 eS9 => ?_)
  replace h := h S9 eS9
  refine r_aload_n ok dX8_land_45 0 rfl ?_
  refine cl_X8_117 ok dX8_land_46 (by decide) (Nat.le_of_ble_eq_true rfl) h (fun S10 h => ?_)
  exact w_B_X8_land_49 ok hret h
theorem c_X8_land (l : Launch) (G : Gx) {S : St} {post : Int32 → St → Prop} (h : wp_X8_land S post) : MtI l yX8_land cX8_land 2 (some .int) 5 111 G [.ref (G.2.2 71)] S post :=
  ctI (by decide) rfl (Nat.le_of_ble_eq_true rfl) (fun X _ hG ok hret => by subst hG; exact w_wp_X8_land ok hret h)
