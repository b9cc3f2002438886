/-! HasteRoads.feed(I)I -/
theorem dX7_feed_0 : decode cX7_feed 0 = .ok (.iload_n 1, 1) := by decide +kernel
theorem dX7_feed_1 : decode cX7_feed 1 = .ok (.iconst 0, 1) := by decide +kernel
theorem dX7_feed_2 : decode cX7_feed 2 = .ok (.sipush 255, 3) := by decide +kernel
theorem dX7_feed_5 : decode cX7_feed 5 = .ok (.invokestatic 77, 3) := by decide +kernel
theorem dX7_feed_8 : decode cX7_feed 8 = .ok (.ifCond .eq 6, 3) := by decide +kernel
theorem dX7_feed_11 : decode cX7_feed 11 = .ok (.ldc 81, 2) := by decide +kernel
theorem dX7_feed_13 : decode cX7_feed 13 = .ok (.ireturn, 1) := by decide +kernel
theorem dX7_feed_14 : decode cX7_feed 14 = .ok (.aload_n 0, 1) := by decide +kernel
theorem dX7_feed_15 : decode cX7_feed 15 = .ok (.getfield 30, 3) := by decide +kernel
theorem dX7_feed_18 : decode cX7_feed 18 = .ok (.iload_n 1, 1) := by decide +kernel
theorem dX7_feed_19 : decode cX7_feed 19 = .ok (.invokevirtual 82, 3) := by decide +kernel
theorem dX7_feed_22 : decode cX7_feed 22 = .ok (.ireturn, 1) := by decide +kernel
theorem gf_X7_30 {X : Cx} {cc : ByteArray} {nL pc fr lo : Nat} {L : List (Nat × Value)} {st : List Value} {S : St} (ok : Ok X cc nL RX7 fr lo) (d : decode cc pc = .ok (.getfield 30, 3)) (k : Wp X nL (pc + 3) L (.ref (xad X 48) :: st) S) : Wp X nL pc L (.ref (xad X 44) :: st) S :=
  r_get (C := RX7) (T := TX7) ok ob_44 rfl i_X7 4 (by decide) tw_fl_X7_30 d (by rw [show fvl (xad X) S 44 4 = .ref (xad X 48) from (fvl_ref (d := 48) (by decide))]; exact k)
theorem cl_X7_77 {X : Cx} {cc : ByteArray} {nL pc fr lo : Nat} {L : List (Nat × Value)} {st : List Value} {S : St} (ok : Ok X cc nL RX7 fr lo) {x0 x1 x2 : Int32} (d : decode cc pc = .ok (.invokestatic 77, 3)) (hroom : 1 ≤ fr ∧ 22 ≤ lo) (hst : (st.map fun v => v.category).sum ≤ 8) {post : Int32 → St → Prop} (h : wp_X7_outside x0 x1 x2 S post) (kk : ∀ (r : Int32) (S1 : St), post r S1 → Wp X nL (pc + 3) L (.int r :: st) S1) : Wp X nL pc L (.int x2 :: .int x1 :: .int x0 :: st) S :=
  r_callSi (n := 3) (f := 0) (lo1 := 0) (N := 3) (As := [.int x0, .int x1, .int x2]) ok tw_in_X7 tw_st_X7_outside tw_co_X7_outside tw_ml_X7_77 (by decide +kernel) rfl hroom hst d rfl (c_X7_outside (xl X) (xG X) h) kk
theorem cl_X7_82 {X : Cx} {cc : ByteArray} {nL pc fr lo : Nat} {L : List (Nat × Value)} {st : List Value} {S : St} (ok : Ok X cc nL RX7 fr lo) {x1 : Int32} (d : decode cc pc = .ok (.invokevirtual 82, 3)) (hroom : 1 ≤ fr ∧ 21 ≤ lo) (hst : (st.map fun v => v.category).sum ≤ 8) {post : Int32 → St → Prop} (h : wp_X5_add x1 S post) (kk : ∀ (r : Int32) (S1 : St), post r S1 → Wp X nL (pc + 3) L (.int r :: st) S1) : Wp X nL pc L (.int x1 :: .ref (xad X 48) :: st) S :=
  r_callVi (n := 2) (f := 0) (lo1 := 0) (N := 1) (As := [.int x1]) ok tw_in_X5 tw_im_X5_add tw_se_X5_add tw_co_X5_add tw_ml_X7_82 (by decide +kernel) rfl ob_48 rfl hroom hst d rfl (c_X5_add (xl X) (xG X) h) kk
def wp_X7_feed (x1 : Int32) (S : St) (post : Int32 → St → Prop) : Prop :=
  wp_X7_outside x1 0 255 S (fun r2 S1 => ((r2 = 0 → wp_X5_add x1 S1 (fun r5 S4 => post r5 S4)) ∧ (¬ r2 = 0 → post (-1000000002) S1)))
theorem w_wp_X7_feed {X : Cx} (ok : Ok X cX7_feed 2 RX7 1 22) {post : Int32 → St → Prop} (hret : RetI X cX7_feed 2 post) {x1 : Int32} {S : St} (h : wp_X7_feed x1 S post) : Wp X 2 0 [(0, .ref (xad X 44)), (1, .int x1)] [] S := by
  unfold wp_X7_feed at h
  refine r_iload_n ok dX7_feed_0 1 rfl ?_
  refine r_iconst (v := 0) ok dX7_feed_1 rfl ?_
  refine r_sipush (v := 255) ok dX7_feed_2 rfl ?_
  refine cl_X7_77 ok dX7_feed_5 (by decide) (Nat.le_of_ble_eq_true rfl) h (fun r2 S1 h => ?_)
  refine r_if_eq (tgt := 14) ok dX7_feed_8 rfl (fun hc3 => ?_) (fun hc3 => ?_)
  · replace h := h.1 hc3
    refine r_aload_n ok dX7_feed_14 0 rfl ?_
    refine gf_X7_30 ok dX7_feed_15 ?_
    refine r_iload_n ok dX7_feed_18 1 rfl ?_
    refine cl_X7_82 ok dX7_feed_19 (by decide) (Nat.le_of_ble_eq_true rfl) h (fun r5 S4 h => ?_)
    exact hret _ _ _ _ dX7_feed_22 h
  · replace h := h.2 hc3
    refine r_ldc (v := (-1000000002)) ok dX7_feed_11 tw_k_X7_81 ?_
    exact hret _ _ _ _ dX7_feed_13 h
theorem c_X7_feed (l : Launch) (G : Gx) {x1 : Int32} {S : St} {post : Int32 → St → Prop} (h : wp_X7_feed x1 S post) : MtI l yX7_feed cX7_feed 2 (some .int) 1 22 G [.ref (G.2.2 44), .int x1] S post :=
  ctI (by decide) rfl (Nat.le_of_ble_eq_true rfl) (fun X _ hG ok hret => by subst hG; exact w_wp_X7_feed ok hret h)

/-! HasteRoads.land()I -/
theorem dX7_land_0 : decode cX7_land 0 = .ok (.aload_n 0, 1) := by decide +kernel
theorem dX7_land_1 : decode cX7_land 1 = .ok (.getfield 16, 3) := by decide +kernel
theorem dX7_land_4 : decode cX7_land 4 = .ok (.invokevirtual 86, 3) := by decide +kernel
theorem dX7_land_7 : decode cX7_land 7 = .ok (.aload_n 0, 1) := by decide +kernel
theorem dX7_land_8 : decode cX7_land 8 = .ok (.getfield 16, 3) := by decide +kernel
theorem dX7_land_11 : decode cX7_land 11 = .ok (.aload_n 0, 1) := by decide +kernel
theorem dX7_land_12 : decode cX7_land 12 = .ok (.getfield 12, 3) := by decide +kernel
theorem dX7_land_15 : decode cX7_land 15 = .ok (.getfield 89, 3) := by decide +kernel
theorem dX7_land_18 : decode cX7_land 18 = .ok (.putfield 89, 3) := by decide +kernel
theorem dX7_land_21 : decode cX7_land 21 = .ok (.aload_n 0, 1) := by decide +kernel
theorem dX7_land_22 : decode cX7_land 22 = .ok (.getfield 30, 3) := by decide +kernel
theorem dX7_land_25 : decode cX7_land 25 = .ok (.aload_n 0, 1) := by decide +kernel
theorem dX7_land_26 : decode cX7_land 26 = .ok (.getfield 16, 3) := by decide +kernel
theorem dX7_land_29 : decode cX7_land 29 = .ok (.invokevirtual 93, 3) := by decide +kernel
theorem dX7_land_32 : decode cX7_land 32 = .ok (.istore_n 1, 1) := by decide +kernel
theorem dX7_land_33 : decode cX7_land 33 = .ok (.iload_n 1, 1) := by decide +kernel
theorem dX7_land_34 : decode cX7_land 34 = .ok (.ifCond .eq 8, 3) := by decide +kernel
theorem dX7_land_37 : decode cX7_land 37 = .ok (.bipush (-10), 2) := by decide +kernel
theorem dX7_land_39 : decode cX7_land 39 = .ok (.iload_n 1, 1) := by decide +kernel
theorem dX7_land_40 : decode cX7_land 40 = .ok (.isub, 1) := by decide +kernel
theorem dX7_land_41 : decode cX7_land 41 = .ok (.ireturn, 1) := by decide +kernel
theorem dX7_land_42 : decode cX7_land 42 = .ok (.aload_n 0, 1) := by decide +kernel
theorem dX7_land_43 : decode cX7_land 43 = .ok (.getfield 12, 3) := by decide +kernel
theorem dX7_land_46 : decode cX7_land 46 = .ok (.aload_n 0, 1) := by decide +kernel
theorem dX7_land_47 : decode cX7_land 47 = .ok (.getfield 16, 3) := by decide +kernel
theorem dX7_land_50 : decode cX7_land 50 = .ok (.invokevirtual 97, 3) := by decide +kernel
theorem dX7_land_53 : decode cX7_land 53 = .ok (.aload_n 0, 1) := by decide +kernel
theorem dX7_land_54 : decode cX7_land 54 = .ok (.getfield 62, 3) := by decide +kernel
theorem dX7_land_57 : decode cX7_land 57 = .ok (.iconst 0, 1) := by decide +kernel
theorem dX7_land_58 : decode cX7_land 58 = .ok (.putfield 100, 3) := by decide +kernel
theorem dX7_land_61 : decode cX7_land 61 = .ok (.aload_n 0, 1) := by decide +kernel
theorem dX7_land_62 : decode cX7_land 62 = .ok (.getfield 69, 3) := by decide +kernel
theorem dX7_land_65 : decode cX7_land 65 = .ok (.iconst 0, 1) := by decide +kernel
theorem dX7_land_66 : decode cX7_land 66 = .ok (.putfield 103, 3) := by decide +kernel
theorem dX7_land_69 : decode cX7_land 69 = .ok (.iconst 0, 1) := by decide +kernel
theorem dX7_land_70 : decode cX7_land 70 = .ok (.istore_n 2, 1) := by decide +kernel
theorem dX7_land_71 : decode cX7_land 71 = .ok (.iload_n 2, 1) := by decide +kernel
theorem dX7_land_72 : decode cX7_land 72 = .ok (.iconst 2, 1) := by decide +kernel
theorem dX7_land_73 : decode cX7_land 73 = .ok (.if_icmp .ge 16, 3) := by decide +kernel
theorem dX7_land_76 : decode cX7_land 76 = .ok (.aload_n 0, 1) := by decide +kernel
theorem dX7_land_77 : decode cX7_land 77 = .ok (.getfield 23, 3) := by decide +kernel
theorem dX7_land_80 : decode cX7_land 80 = .ok (.iload_n 2, 1) := by decide +kernel
theorem dX7_land_81 : decode cX7_land 81 = .ok (.iconst 0, 1) := by decide +kernel
theorem dX7_land_82 : decode cX7_land 82 = .ok (.bastore, 1) := by decide +kernel
theorem dX7_land_83 : decode cX7_land 83 = .ok (.iinc 2 1, 3) := by decide +kernel
theorem dX7_land_86 : decode cX7_land 86 = .ok (.goto (-15), 3) := by decide +kernel
theorem dX7_land_89 : decode cX7_land 89 = .ok (.aload_n 0, 1) := by decide +kernel
theorem dX7_land_90 : decode cX7_land 90 = .ok (.getfield 12, 3) := by decide +kernel
theorem dX7_land_93 : decode cX7_land 93 = .ok (.getfield 104, 3) := by decide +kernel
theorem dX7_land_96 : decode cX7_land 96 = .ok (.ireturn, 1) := by decide +kernel
theorem gf_X7_16 {X : Cx} {cc : ByteArray} {nL pc fr lo : Nat} {L : List (Nat × Value)} {st : List Value} {S : St} (ok : Ok X cc nL RX7 fr lo) (d : decode cc pc = .ok (.getfield 16, 3)) (k : Wp X nL (pc + 3) L (.ref (xad X 11) :: st) S) : Wp X nL pc L (.ref (xad X 44) :: st) S :=
  r_get (C := RX7) (T := TX7) ok ob_44 rfl i_X7 1 (by decide) tw_fl_X7_16 d (by rw [show fvl (xad X) S 44 1 = .ref (xad X 11) from (fvl_ref (d := 11) (by decide))]; exact k)
theorem gf_X7_12 {X : Cx} {cc : ByteArray} {nL pc fr lo : Nat} {L : List (Nat × Value)} {st : List Value} {S : St} (ok : Ok X cc nL RX7 fr lo) (d : decode cc pc = .ok (.getfield 12, 3)) (k : Wp X nL (pc + 3) L (.ref (xad X 0) :: st) S) : Wp X nL pc L (.ref (xad X 44) :: st) S :=
  r_get (C := RX7) (T := TX7) ok ob_44 rfl i_X7 0 (by decide) tw_fl_X7_12 d (by rw [show fvl (xad X) S 44 0 = .ref (xad X 0) from (fvl_ref (d := 0) (by decide))]; exact k)
theorem gf_X7_89 {X : Cx} {cc : ByteArray} {nL pc fr lo : Nat} {L : List (Nat × Value)} {st : List Value} {S : St} (ok : Ok X cc nL RX7 fr lo) {o : Nat} (ho : isW o) (d : decode cc pc = .ok (.getfield 89, 3)) (k : Wp X nL (pc + 3) L (.int (S o 5) :: st) S) : Wp X nL pc L (.ref (xad X o) :: st) S :=
  r_get (C := RX6) (T := TX6) ok ho.ob rfl i_X6 5 (by decide) tw_fl_X7_89 d (by rw [show fvl (xad X) S o 5 = .int (S o 5) from (fvl_int (ho.ri 5 (by decide)))]; exact k)
theorem gf_X7_62 {X : Cx} {cc : ByteArray} {nL pc fr lo : Nat} {L : List (Nat × Value)} {st : List Value} {S : St} (ok : Ok X cc nL RX7 fr lo) (d : decode cc pc = .ok (.getfield 62, 3)) (k : Wp X nL (pc + 3) L (.ref (xad X 63) :: st) S) : Wp X nL pc L (.ref (xad X 44) :: st) S :=
  r_get (C := RX7) (T := TX7) ok ob_44 rfl i_X7 8 (by decide) tw_fl_X7_62 d (by rw [show fvl (xad X) S 44 8 = .ref (xad X 63) from (fvl_ref (d := 63) (by decide))]; exact k)
theorem gf_X7_69 {X : Cx} {cc : ByteArray} {nL pc fr lo : Nat} {L : List (Nat × Value)} {st : List Value} {S : St} (ok : Ok X cc nL RX7 fr lo) (d : decode cc pc = .ok (.getfield 69, 3)) (k : Wp X nL (pc + 3) L (.ref (xad X 69) :: st) S) : Wp X nL pc L (.ref (xad X 44) :: st) S :=
  r_get (C := RX7) (T := TX7) ok ob_44 rfl i_X7 9 (by decide) tw_fl_X7_69 d (by rw [show fvl (xad X) S 44 9 = .ref (xad X 69) from (fvl_ref (d := 69) (by decide))]; exact k)
theorem gf_X7_23 {X : Cx} {cc : ByteArray} {nL pc fr lo : Nat} {L : List (Nat × Value)} {st : List Value} {S : St} (ok : Ok X cc nL RX7 fr lo) (d : decode cc pc = .ok (.getfield 23, 3)) (k : Wp X nL (pc + 3) L (.ref (xad X 46) :: st) S) : Wp X nL pc L (.ref (xad X 44) :: st) S :=
  r_get (C := RX7) (T := TX7) ok ob_44 rfl i_X7 3 (by decide) tw_fl_X7_23 d (by rw [show fvl (xad X) S 44 3 = .ref (xad X 46) from (fvl_ref (d := 46) (by decide))]; exact k)
theorem gf_X7_104 {X : Cx} {cc : ByteArray} {nL pc fr lo : Nat} {L : List (Nat × Value)} {st : List Value} {S : St} (ok : Ok X cc nL RX7 fr lo) {o : Nat} (ho : isW o) (d : decode cc pc = .ok (.getfield 104, 3)) (k : Wp X nL (pc + 3) L (.int (S o 0) :: st) S) : Wp X nL pc L (.ref (xad X o) :: st) S :=
  r_get (C := RX6) (T := TX6) ok ho.ob rfl i_X6 0 (by decide) tw_fl_X7_104 d (by rw [show fvl (xad X) S o 0 = .int (S o 0) from (fvl_int (ho.ri 0 (by decide)))]; exact k)
theorem pf_X7_89 {X : Cx} {cc : ByteArray} {nL pc fr lo : Nat} {L : List (Nat × Value)} {st : List Value} {S : St} {v : Int32} (ok : Ok X cc nL RX7 fr lo) {o : Nat} (ho : isW o) (d : decode cc pc = .ok (.putfield 89, 3)) (k : ∀ S1 : St, S1 = up S o 5 v → Wp X nL (pc + 3) L st S1) : Wp X nL pc L (.int v :: .ref (xad X o) :: st) S :=
  r_put (C := RX6) (T := TX6) ok ho.ob rfl i_X6 tyX6 tyX6_ok nmX6 5 (by decide) tw_fl_X7_89 rfl rfl (ho.ri 5 (by decide)) d (k _ rfl)
theorem pf_X7_100 {X : Cx} {cc : ByteArray} {nL pc fr lo : Nat} {L : List (Nat × Value)} {st : List Value} {S : St} {v : Int32} (ok : Ok X cc nL RX7 fr lo) (d : decode cc pc = .ok (.putfield 100, 3)) (k : ∀ S1 : St, S1 = up S 63 0 v → Wp X nL (pc + 3) L st S1) : Wp X nL pc L (.int v :: .ref (xad X 63) :: st) S :=
  r_put (C := RX2) (T := TX2) ok ob_63 rfl i_X2 tyX2 tyX2_ok nmX2 0 (by decide) tw_fl_X7_100 rfl rfl (by decide) d (k _ rfl)
theorem pf_X7_103 {X : Cx} {cc : ByteArray} {nL pc fr lo : Nat} {L : List (Nat × Value)} {st : List Value} {S : St} {v : Int32} (ok : Ok X cc nL RX7 fr lo) (d : decode cc pc = .ok (.putfield 103, 3)) (k : ∀ S1 : St, S1 = up S 69 0 v → Wp X nL (pc + 3) L st S1) : Wp X nL pc L (.int v :: .ref (xad X 69) :: st) S :=
  r_put (C := RX0) (T := TX0) ok ob_69 rfl i_X0 tyX0 tyX0_ok nmX0 0 (by decide) tw_fl_X7_103 rfl rfl (by decide) d (k _ rfl)
theorem cl_X7_86 {X : Cx} {cc : ByteArray} {nL pc fr lo : Nat} {L : List (Nat × Value)} {st : List Value} {S : St} (ok : Ok X cc nL RX7 fr lo) {o : Nat} (ho : isW o) (d : decode cc pc = .ok (.invokevirtual 86, 3)) (hroom : 1 ≤ fr ∧ 20 ≤ lo) (hst : (st.map fun v => v.category).sum ≤ 8) {post : St → Prop} (h : wp_X6_clear o S post) (kk : ∀ S1 : St, post S1 → Wp X nL (pc + 3) L st S1) : Wp X nL pc L (.ref (xad X o) :: st) S :=
  r_callVv (n := 1) (f := 0) (lo1 := 0) (N := 0) (As := []) ok tw_in_X6 tw_im_X6_clear tw_se_X6_clear tw_co_X6_clear tw_ml_X7_86 (by decide +kernel) rfl ho.ob rfl hroom hst d rfl (c_X6_clear (xl X) (xG X) ho h) kk
theorem cl_X7_93 {X : Cx} {cc : ByteArray} {nL pc fr lo : Nat} {L : List (Nat × Value)} {st : List Value} {S : St} (ok : Ok X cc nL RX7 fr lo) (d : decode cc pc = .ok (.invokevirtual 93, 3)) (hroom : 5 ≤ fr ∧ 119 ≤ lo) (hst : (st.map fun v => v.category).sum ≤ 8) {post : Int32 → St → Prop} (h : wp_X5_tell S post) (kk : ∀ (r : Int32) (S1 : St), post r S1 → Wp X nL (pc + 3) L (.int r :: st) S1) : Wp X nL pc L (.ref (xad X 11) :: .ref (xad X 48) :: st) S :=
  r_callVi (n := 3) (f := 4) (lo1 := 97) (N := 1) (As := [.ref (xad X 11)]) ok tw_in_X5 tw_im_X5_tell tw_se_X5_tell tw_co_X5_tell tw_ml_X7_93 (by decide +kernel) rfl ob_48 rfl hroom hst d rfl (c_X5_tell (xl X) (xG X) h) kk
theorem cl_X7_97 {X : Cx} {cc : ByteArray} {nL pc fr lo : Nat} {L : List (Nat × Value)} {st : List Value} {S : St} (ok : Ok X cc nL RX7 fr lo) {o : Nat} (ho : isW o) {o2 : Nat} (ho2 : isW o2) (d : decode cc pc = .ok (.invokevirtual 97, 3)) (hroom : 2 ≤ fr ∧ 47 ≤ lo) (hst : (st.map fun v => v.category).sum ≤ 8) {post : St → Prop} (h : wp_X6_become o o2 S post) (kk : ∀ S1 : St, post S1 → Wp X nL (pc + 3) L st S1) : Wp X nL pc L (.ref (xad X o2) :: .ref (xad X o) :: st) S :=
  r_callVv (n := 2) (f := 1) (lo1 := 26) (N := 1) (As := [.ref (xad X o2)]) ok tw_in_X6 tw_im_X6_become tw_se_X6_become tw_co_X6_become tw_ml_X7_97 (by decide +kernel) rfl ho.ob rfl hroom hst d rfl (c_X6_become (xl X) (xG X) ho ho2 h) kk
def B_X7_land_89 (post : Int32 → St → Prop) (S : St) : Prop :=
  post (S 0 0) S
def BD_X7_land_71 (k71 : Int32 → St → Prop) (post : Int32 → St → Prop) (x2 : Int32) (S : St) : Prop :=
  ((2 ≤ x2 → B_X7_land_89 post S) ∧ (¬ 2 ≤ x2 → vp_in x2 2 ∧ (∀ S2 : St, S2 = up S 46 (ix x2) 0 → k71 (x2 + 1) S2)))
def L_X7_land_71 (post : Int32 → St → Prop) (n : Nat) : Int32 → St → Prop := Nat.rec (motive := fun _ => Int32 → St → Prop) (fun _ _ => False) (fun _ ih => BD_X7_land_71 ih post) n
def B_X7_land_71 (post : Int32 → St → Prop) (x2 : Int32) (S : St) : Prop := ∃ n, L_X7_land_71 post n x2 S
def wp_X7_land (S : St) (post : Int32 → St → Prop) : Prop :=
  wp_X6_clear 11 S (fun S1 => ∀ S2 : St, S2 = up S1 11 5 (S1 0 5) → wp_X5_tell S2 (fun r4 S3 => ((r4 = 0 → wp_X6_become 0 11 S3 (fun S6 => ∀ S7 : St, S7 = up S6 63 0 0 → ∀ S8 : St, S8 = up S7 69 0 0 → B_X7_land_71 post 0 S8)) ∧ (¬ r4 = 0 → post ((-10 : Int32) - r4) S3))))
theorem w_B_X7_land_89 {X : Cx} (ok : Ok X cX7_land 3 RX7 5 119) {post : Int32 → St → Prop} (hret : RetI X cX7_land 3 post) {S : St} (h : B_X7_land_89 post S) : Wp X 3 89 [(0, .ref (xad X 44))] [] S := by
  unfold B_X7_land_89 at h
  refine r_aload_n ok dX7_land_89 0 rfl ?_
  refine gf_X7_12 ok dX7_land_90 ?_
  refine gf_X7_104 ok isW_0 dX7_land_93 ?_
  exact hret _ _ _ _ dX7_land_96 h
theorem w_B_X7_land_71 {X : Cx} (ok : Ok X cX7_land 3 RX7 5 119) {post : Int32 → St → Prop} (hret : RetI X cX7_land 3 post) {x2 : Int32} {S : St} (h : B_X7_land_71 post x2 S) : Wp X 3 71 [(0, .ref (xad X 44)), (2, .int x2)] [] S := by
  obtain ⟨n, h⟩ := h
  induction n generalizing x2 S with
  | zero => exact False.elim h
  | succ n ih =>
    have hk71 : ∀ x2 S, L_X7_land_71 post n x2 S → Wp X 3 71 [(0, .ref (xad X 44)), (2, .int x2)] [] S := by intros; apply ih; assumption
    replace h : BD_X7_land_71 (L_X7_land_71 post n) post x2 S := h
    unfold BD_X7_land_71 at h
    generalize L_X7_land_71 post n = k71 at h hk71
    refine r_iload_n ok dX7_land_71 1 rfl ?_
    refine r_iconst (v := 2) ok dX7_land_72 rfl ?_
    refine r_icmp_ge (tgt := 89) ok dX7_land_73 rfl (fun hc1 => ?_) (fun hc1 => ?_)
    · replace h := h.1 hc1
      refine r_sub [(0, .ref (xad X 44))] [0] rfl ?_
      exact w_B_X7_land_89 ok hret h
    · replace h := h.2 hc1
      refine r_aload_n ok dX7_land_76 0 rfl ?_
      refine gf_X7_23 ok dX7_land_77 ?_
      refine r_iload_n ok dX7_land_80 1 rfl ?_
      refine r_iconst (v := 0) ok dX7_land_81 rfl ?_
      have hi3 := h.1
      replace h := h.2
      refine r_zast ok az_46 hi3 rfl (Or.inl rfl) dX7_land_82 (fun S2 eS2 => ?_)
      replace h := h S2 eS2
      refine r_iinc (v := x2 + 1) ok dX7_land_83 1 rfl rfl (by decide) [(0, .ref (xad X 44)), (2, .int (x2 + 1))] [1, 0] rfl ?_
      refine r_goto (tgt := 71) ok dX7_land_86 rfl ?_
      exact hk71 _ _ h
theorem w_wp_X7_land {X : Cx} (ok : Ok X cX7_land 3 RX7 5 119) {post : Int32 → St → Prop} (hret : RetI X cX7_land 3 post) {S : St} (h : wp_X7_land S post) : Wp X 3 0 [(0, .ref (xad X 44))] [] S := by
  unfold wp_X7_land at h
  refine r_aload_n ok dX7_land_0 0 rfl ?_
  refine gf_X7_16 ok dX7_land_1 ?_
  refine cl_X7_86 ok isW_11 dX7_land_4 (by decide) (Nat.le_of_ble_eq_true rfl) h (fun S1 h => ?_)
  refine r_aload_n ok dX7_land_7 0 rfl ?_
  refine gf_X7_16 ok dX7_land_8 ?_
  refine r_aload_n ok dX7_land_11 0 rfl ?_
  refine gf_X7_12 ok dX7_land_12 ?_
  refine gf_X7_89 ok isW_0 dX7_land_15 ?_
  refine pf_X7_89 ok isW_11 dX7_land_18 (fun S2 eS2 => ?_)
  replace h := h S2 eS2
  refine r_aload_n ok dX7_land_21 0 rfl ?_
  refine gf_X7_30 ok dX7_land_22 ?_
  refine r_aload_n ok dX7_land_25 0 rfl ?_
  refine gf_X7_16 ok dX7_land_26 ?_
  refine cl_X7_93 ok dX7_land_29 (by decide) (Nat.le_of_ble_eq_true rfl) h (fun r4 S3 h => ?_)
  refine r_istore_n ok dX7_land_32 (by decide) [(0, .ref (xad X 44)), (1, .int r4)] [1, 0] rfl ?_
  refine r_iload_n ok dX7_land_33 1 rfl ?_
  refine r_if_eq (tgt := 42) ok dX7_land_34 rfl (fun hc5 => ?_) (fun hc5 => ?_)
  · replace h := h.1 hc5
    refine r_aload_n ok dX7_land_42 0 rfl ?_
    refine gf_X7_12 ok dX7_land_43 ?_
    refine r_aload_n ok dX7_land_46 0 rfl ?_
    refine gf_X7_16 ok dX7_land_47 ?_
    refine cl_X7_97 ok isW_0 isW_11 dX7_land_50 (by decide) (Nat.le_of_ble_eq_true rfl) h (fun S6 h => ?_)
    refine r_aload_n ok dX7_land_53 0 rfl ?_
    refine gf_X7_62 ok dX7_land_54 ?_
    refine r_iconst (v := 0) ok dX7_land_57 rfl ?_
    refine pf_X7_100 ok dX7_land_58 (fun S7 eS7 => ?_)
    replace h := h S7 eS7
    refine r_aload_n ok dX7_land_61 0 rfl ?_
    refine gf_X7_69 ok dX7_land_62 ?_
    refine r_iconst (v := 0) ok dX7_land_65 rfl ?_
    refine pf_X7_103 ok dX7_land_66 (fun S8 eS8 => ?_)
    replace h := h S8 eS8
    refine r_iconst (v := 0) ok dX7_land_69 rfl ?_
    refine r_istore_n ok dX7_land_70 (by decide) [(0, .ref (xad X 44)), (2, .int 0)] [1, 0] rfl ?_
    exact w_B_X7_land_71 ok hret h
  · replace h := h.2 hc5
    refine r_bipush (v := (-10)) ok dX7_land_37 rfl ?_
    refine r_iload_n ok dX7_land_39 1 rfl ?_
    refine r_isub ok dX7_land_40 ?_
    exact hret _ _ _ _ dX7_land_41 h
theorem c_X7_land (l : Launch) (G : Gx) {S : St} {post : Int32 → St → Prop} (h : wp_X7_land S post) : MtI l yX7_land cX7_land 3 (some .int) 5 119 G [.ref (G.2.2 44)] S post :=
  ctI (by decide) rfl (Nat.le_of_ble_eq_true rfl) (fun X _ hG ok hret => by subst hG; exact w_wp_X7_land ok hret h)

/-! HasteRoads.fault()I -/
theorem dX7_fault_0 : decode cX7_fault 0 = .ok (.aload_n 0, 1) := by decide +kernel
theorem dX7_fault_1 : decode cX7_fault 1 = .ok (.getfield 30, 3) := by decide +kernel
theorem dX7_fault_4 : decode cX7_fault 4 = .ok (.getfield 107, 3) := by decide +kernel
theorem dX7_fault_7 : decode cX7_fault 7 = .ok (.ireturn, 1) := by decide +kernel
theorem gf_X7_107 {X : Cx} {cc : ByteArray} {nL pc fr lo : Nat} {L : List (Nat × Value)} {st : List Value} {S : St} (ok : Ok X cc nL RX7 fr lo) (d : decode cc pc = .ok (.getfield 107, 3)) (k : Wp X nL (pc + 3) L (.int (S 48 2) :: st) S) : Wp X nL pc L (.ref (xad X 48) :: st) S :=
  r_get (C := RX5) (T := TX5) ok ob_48 rfl i_X5 2 (by decide) tw_fl_X7_107 d (by rw [show fvl (xad X) S 48 2 = .int (S 48 2) from (fvl_int (by decide))]; exact k)
def wp_X7_fault (S : St) (post : Int32 → St → Prop) : Prop :=
  post (S 48 2) S
theorem w_wp_X7_fault {X : Cx} (ok : Ok X cX7_fault 1 RX7 0 0) {post : Int32 → St → Prop} (hret : RetI X cX7_fault 1 post) {S : St} (h : wp_X7_fault S post) : Wp X 1 0 [(0, .ref (xad X 44))] [] S := by
  unfold wp_X7_fault at h
  refine r_aload_n ok dX7_fault_0 0 rfl ?_
  refine gf_X7_30 ok dX7_fault_1 ?_
  refine gf_X7_107 ok dX7_fault_4 ?_
  exact hret _ _ _ _ dX7_fault_7 h
theorem c_X7_fault (l : Launch) (G : Gx) {S : St} {post : Int32 → St → Prop} (h : wp_X7_fault S post) : MtI l yX7_fault cX7_fault 1 (some .int) 0 0 G [.ref (G.2.2 44)] S post :=
  ctI (by decide) rfl (Nat.le_of_ble_eq_true rfl) (fun X _ hG ok hret => by subst hG; exact w_wp_X7_fault ok hret h)

/-! HasteRoads.told(I)I -/
theorem dX7_told_0 : decode cX7_told 0 = .ok (.iload_n 1, 1) := by decide +kernel
theorem dX7_told_1 : decode cX7_told 1 = .ok (.tableswitch 111 0 7 #[47, 55, 63, 71, 79, 87, 95, 103], 47) := by decide +kernel
theorem dX7_told_48 : decode cX7_told 48 = .ok (.aload_n 0, 1) := by decide +kernel
theorem dX7_told_49 : decode cX7_told 49 = .ok (.getfield 12, 3) := by decide +kernel
theorem dX7_told_52 : decode cX7_told 52 = .ok (.getfield 104, 3) := by decide +kernel
theorem dX7_told_55 : decode cX7_told 55 = .ok (.ireturn, 1) := by decide +kernel
theorem dX7_told_56 : decode cX7_told 56 = .ok (.aload_n 0, 1) := by decide +kernel
theorem dX7_told_57 : decode cX7_told 57 = .ok (.getfield 12, 3) := by decide +kernel
theorem dX7_told_60 : decode cX7_told 60 = .ok (.getfield 110, 3) := by decide +kernel
theorem dX7_told_63 : decode cX7_told 63 = .ok (.ireturn, 1) := by decide +kernel
theorem dX7_told_64 : decode cX7_told 64 = .ok (.aload_n 0, 1) := by decide +kernel
theorem dX7_told_65 : decode cX7_told 65 = .ok (.getfield 12, 3) := by decide +kernel
theorem dX7_told_68 : decode cX7_told 68 = .ok (.getfield 113, 3) := by decide +kernel
theorem dX7_told_71 : decode cX7_told 71 = .ok (.ireturn, 1) := by decide +kernel
theorem dX7_told_72 : decode cX7_told 72 = .ok (.aload_n 0, 1) := by decide +kernel
theorem dX7_told_73 : decode cX7_told 73 = .ok (.getfield 30, 3) := by decide +kernel
theorem dX7_told_76 : decode cX7_told 76 = .ok (.getfield 116, 3) := by decide +kernel
theorem dX7_told_79 : decode cX7_told 79 = .ok (.ireturn, 1) := by decide +kernel
theorem dX7_told_80 : decode cX7_told 80 = .ok (.aload_n 0, 1) := by decide +kernel
theorem dX7_told_81 : decode cX7_told 81 = .ok (.getfield 12, 3) := by decide +kernel
theorem dX7_told_84 : decode cX7_told 84 = .ok (.getfield 119, 3) := by decide +kernel
theorem dX7_told_87 : decode cX7_told 87 = .ok (.ireturn, 1) := by decide +kernel
theorem dX7_told_88 : decode cX7_told 88 = .ok (.aload_n 0, 1) := by decide +kernel
theorem dX7_told_89 : decode cX7_told 89 = .ok (.getfield 12, 3) := by decide +kernel
theorem dX7_told_92 : decode cX7_told 92 = .ok (.getfield 122, 3) := by decide +kernel
theorem dX7_told_95 : decode cX7_told 95 = .ok (.ireturn, 1) := by decide +kernel
theorem dX7_told_96 : decode cX7_told 96 = .ok (.aload_n 0, 1) := by decide +kernel
theorem dX7_told_97 : decode cX7_told 97 = .ok (.getfield 62, 3) := by decide +kernel
theorem dX7_told_100 : decode cX7_told 100 = .ok (.getfield 100, 3) := by decide +kernel
theorem dX7_told_103 : decode cX7_told 103 = .ok (.ireturn, 1) := by decide +kernel
theorem dX7_told_104 : decode cX7_told 104 = .ok (.aload_n 0, 1) := by decide +kernel
theorem dX7_told_105 : decode cX7_told 105 = .ok (.getfield 69, 3) := by decide +kernel
theorem dX7_told_108 : decode cX7_told 108 = .ok (.getfield 103, 3) := by decide +kernel
theorem dX7_told_111 : decode cX7_told 111 = .ok (.ireturn, 1) := by decide +kernel
theorem dX7_told_112 : decode cX7_told 112 = .ok (.ldc 81, 2) := by decide +kernel
theorem dX7_told_114 : decode cX7_told 114 = .ok (.ireturn, 1) := by decide +kernel
theorem gf_X7_110 {X : Cx} {cc : ByteArray} {nL pc fr lo : Nat} {L : List (Nat × Value)} {st : List Value} {S : St} (ok : Ok X cc nL RX7 fr lo) {o : Nat} (ho : isW o) (d : decode cc pc = .ok (.getfield 110, 3)) (k : Wp X nL (pc + 3) L (.int (S o 1) :: st) S) : Wp X nL pc L (.ref (xad X o) :: st) S :=
  r_get (C := RX6) (T := TX6) ok ho.ob rfl i_X6 1 (by decide) tw_fl_X7_110 d (by rw [show fvl (xad X) S o 1 = .int (S o 1) from (fvl_int (ho.ri 1 (by decide)))]; exact k)
theorem gf_X7_113 {X : Cx} {cc : ByteArray} {nL pc fr lo : Nat} {L : List (Nat × Value)} {st : List Value} {S : St} (ok : Ok X cc nL RX7 fr lo) {o : Nat} (ho : isW o) (d : decode cc pc = .ok (.getfield 113, 3)) (k : Wp X nL (pc + 3) L (.int (S o 2) :: st) S) : Wp X nL pc L (.ref (xad X o) :: st) S :=
  r_get (C := RX6) (T := TX6) ok ho.ob rfl i_X6 2 (by decide) tw_fl_X7_113 d (by rw [show fvl (xad X) S o 2 = .int (S o 2) from (fvl_int (ho.ri 2 (by decide)))]; exact k)
theorem gf_X7_116 {X : Cx} {cc : ByteArray} {nL pc fr lo : Nat} {L : List (Nat × Value)} {st : List Value} {S : St} (ok : Ok X cc nL RX7 fr lo) (d : decode cc pc = .ok (.getfield 116, 3)) (k : Wp X nL (pc + 3) L (.int (S 48 1) :: st) S) : Wp X nL pc L (.ref (xad X 48) :: st) S :=
  r_get (C := RX5) (T := TX5) ok ob_48 rfl i_X5 1 (by decide) tw_fl_X7_116 d (by rw [show fvl (xad X) S 48 1 = .int (S 48 1) from (fvl_int (by decide))]; exact k)
theorem gf_X7_119 {X : Cx} {cc : ByteArray} {nL pc fr lo : Nat} {L : List (Nat × Value)} {st : List Value} {S : St} (ok : Ok X cc nL RX7 fr lo) {o : Nat} (ho : isW o) (d : decode cc pc = .ok (.getfield 119, 3)) (k : Wp X nL (pc + 3) L (.int (S o 3) :: st) S) : Wp X nL pc L (.ref (xad X o) :: st) S :=
  r_get (C := RX6) (T := TX6) ok ho.ob rfl i_X6 3 (by decide) tw_fl_X7_119 d (by rw [show fvl (xad X) S o 3 = .int (S o 3) from (fvl_int (ho.ri 3 (by decide)))]; exact k)
theorem gf_X7_122 {X : Cx} {cc : ByteArray} {nL pc fr lo : Nat} {L : List (Nat × Value)} {st : List Value} {S : St} (ok : Ok X cc nL RX7 fr lo) {o : Nat} (ho : isW o) (d : decode cc pc = .ok (.getfield 122, 3)) (k : Wp X nL (pc + 3) L (.int (S o 4) :: st) S) : Wp X nL pc L (.ref (xad X o) :: st) S :=
  r_get (C := RX6) (T := TX6) ok ho.ob rfl i_X6 4 (by decide) tw_fl_X7_122 d (by rw [show fvl (xad X) S o 4 = .int (S o 4) from (fvl_int (ho.ri 4 (by decide)))]; exact k)
theorem gf_X7_100 {X : Cx} {cc : ByteArray} {nL pc fr lo : Nat} {L : List (Nat × Value)} {st : List Value} {S : St} (ok : Ok X cc nL RX7 fr lo) (d : decode cc pc = .ok (.getfield 100, 3)) (k : Wp X nL (pc + 3) L (.int (S 63 0) :: st) S) : Wp X nL pc L (.ref (xad X 63) :: st) S :=
  r_get (C := RX2) (T := TX2) ok ob_63 rfl i_X2 0 (by decide) tw_fl_X7_100 d (by rw [show fvl (xad X) S 63 0 = .int (S 63 0) from (fvl_int (by decide))]; exact k)
theorem gf_X7_103 {X : Cx} {cc : ByteArray} {nL pc fr lo : Nat} {L : List (Nat × Value)} {st : List Value} {S : St} (ok : Ok X cc nL RX7 fr lo) (d : decode cc pc = .ok (.getfield 103, 3)) (k : Wp X nL (pc + 3) L (.int (S 69 0) :: st) S) : Wp X nL pc L (.ref (xad X 69) :: st) S :=
  r_get (C := RX0) (T := TX0) ok ob_69 rfl i_X0 0 (by decide) tw_fl_X7_103 d (by rw [show fvl (xad X) S 69 0 = .int (S 69 0) from (fvl_int (by decide))]; exact k)
def wp_X7_told (x1 : Int32) (S : St) (post : Int32 → St → Prop) : Prop :=
  (((x1.toInt < 0 ∨ 7 < x1.toInt) → post (-1000000002) S) ∧ ((x1 = 0 → post (S 0 0) S) ∧ (x1 = 1 → post (S 0 1) S) ∧ (x1 = 2 → post (S 0 2) S) ∧ (x1 = 3 → post (S 48 1) S) ∧ (x1 = 4 → post (S 0 3) S) ∧ (x1 = 5 → post (S 0 4) S) ∧ (x1 = 6 → post (S 63 0) S) ∧ (x1 = 7 → post (S 69 0) S)))
theorem w_wp_X7_told {X : Cx} (ok : Ok X cX7_told 2 RX7 0 0) {post : Int32 → St → Prop} (hret : RetI X cX7_told 2 post) {x1 : Int32} {S : St} (h : wp_X7_told x1 S post) : Wp X 2 0 [(0, .ref (xad X 44)), (1, .int x1)] [] S := by
  unfold wp_X7_told at h
  refine r_iload_n ok dX7_told_0 1 rfl ?_
  by_cases hc1 : x1.toInt < 0 ∨ 7 < x1.toInt
  · refine r_tout (tgt := 112) ok dX7_told_1 hc1 rfl ?_
    replace h := h.1 hc1
    refine r_ldc (v := (-1000000002)) ok dX7_told_112 tw_k_X7_81 ?_
    exact hret _ _ _ _ dX7_told_114 h
  · replace h := h.2
    rcases sw_7 hc1 with hq0 | hq1 | hq2 | hq3 | hq4 | hq5 | hq6 | hq7
    · replace h := h.1 hq0
      refine r_tin (tgt := 48) ok dX7_told_1 (by rw [hq0]; decide) (by rw [hq0]; decide) (by rw [hq0]; rfl) rfl ?_
      refine r_aload_n ok dX7_told_48 0 rfl ?_
      refine gf_X7_12 ok dX7_told_49 ?_
      refine gf_X7_104 ok isW_0 dX7_told_52 ?_
      exact hret _ _ _ _ dX7_told_55 h
    · replace h := h.2.1 hq1
      refine r_tin (tgt := 56) ok dX7_told_1 (by rw [hq1]; decide) (by rw [hq1]; decide) (by rw [hq1]; rfl) rfl ?_
      refine r_aload_n ok dX7_told_56 0 rfl ?_
      refine gf_X7_12 ok dX7_told_57 ?_
      refine gf_X7_110 ok isW_0 dX7_told_60 ?_
      exact hret _ _ _ _ dX7_told_63 h
    · replace h := h.2.2.1 hq2
      refine r_tin (tgt := 64) ok dX7_told_1 (by rw [hq2]; decide) (by rw [hq2]; decide) (by rw [hq2]; rfl) rfl ?_
      refine r_aload_n ok dX7_told_64 0 rfl ?_
      refine gf_X7_12 ok dX7_told_65 ?_
      refine gf_X7_113 ok isW_0 dX7_told_68 ?_
      exact hret _ _ _ _ dX7_told_71 h
    · replace h := h.2.2.2.1 hq3
      refine r_tin (tgt := 72) ok dX7_told_1 (by rw [hq3]; decide) (by rw [hq3]; decide) (by rw [hq3]; rfl) rfl ?_
      refine r_aload_n ok dX7_told_72 0 rfl ?_
      refine gf_X7_30 ok dX7_told_73 ?_
      refine gf_X7_116 ok dX7_told_76 ?_
      exact hret _ _ _ _ dX7_told_79 h
    · replace h := h.2.2.2.2.1 hq4
      refine r_tin (tgt := 80) ok dX7_told_1 (by rw [hq4]; decide) (by rw [hq4]; decide) (by rw [hq4]; rfl) rfl ?_
      refine r_aload_n ok dX7_told_80 0 rfl ?_
      refine gf_X7_12 ok dX7_told_81 ?_
      refine gf_X7_119 ok isW_0 dX7_told_84 ?_
      exact hret _ _ _ _ dX7_told_87 h
    · replace h := h.2.2.2.2.2.1 hq5
      refine r_tin (tgt := 88) ok dX7_told_1 (by rw [hq5]; decide) (by rw [hq5]; decide) (by rw [hq5]; rfl) rfl ?_
      refine r_aload_n ok dX7_told_88 0 rfl ?_
      refine gf_X7_12 ok dX7_told_89 ?_
      refine gf_X7_122 ok isW_0 dX7_told_92 ?_
      exact hret _ _ _ _ dX7_told_95 h
    · replace h := h.2.2.2.2.2.2.1 hq6
      refine r_tin (tgt := 96) ok dX7_told_1 (by rw [hq6]; decide) (by rw [hq6]; decide) (by rw [hq6]; rfl) rfl ?_
      refine r_aload_n ok dX7_told_96 0 rfl ?_
      refine gf_X7_62 ok dX7_told_97 ?_
      refine gf_X7_100 ok dX7_told_100 ?_
      exact hret _ _ _ _ dX7_told_103 h
    · replace h := h.2.2.2.2.2.2.2 hq7
      refine r_tin (tgt := 104) ok dX7_told_1 (by rw [hq7]; decide) (by rw [hq7]; decide) (by rw [hq7]; rfl) rfl ?_
      refine r_aload_n ok dX7_told_104 0 rfl ?_
      refine gf_X7_69 ok dX7_told_105 ?_
      refine gf_X7_103 ok dX7_told_108 ?_
      exact hret _ _ _ _ dX7_told_111 h
theorem c_X7_told (l : Launch) (G : Gx) {x1 : Int32} {S : St} {post : Int32 → St → Prop} (h : wp_X7_told x1 S post) : MtI l yX7_told cX7_told 2 (some .int) 0 0 G [.ref (G.2.2 44), .int x1] S post :=
  ctI (by decide) rfl (Nat.le_of_ble_eq_true rfl) (fun X _ hG ok hret => by subst hG; exact w_wp_X7_told ok hret h)

/-! HasteRoads.road(II)I -/
theorem dX7_road_0 : decode cX7_road 0 = .ok (.aload_n 0, 1) := by decide +kernel
theorem dX7_road_1 : decode cX7_road 1 = .ok (.getfield 12, 3) := by decide +kernel
theorem dX7_road_4 : decode cX7_road 4 = .ok (.iload_n 1, 1) := by decide +kernel
theorem dX7_road_5 : decode cX7_road 5 = .ok (.invokevirtual 125, 3) := by decide +kernel
theorem dX7_road_8 : decode cX7_road 8 = .ok (.ifCond .ne 6, 3) := by decide +kernel
theorem dX7_road_11 : decode cX7_road 11 = .ok (.ldc 129, 2) := by decide +kernel
theorem dX7_road_13 : decode cX7_road 13 = .ok (.ireturn, 1) := by decide +kernel
theorem dX7_road_14 : decode cX7_road 14 = .ok (.iload_n 2, 1) := by decide +kernel
theorem dX7_road_15 : decode cX7_road 15 = .ok (.tableswitch 55 0 2 #[25, 35, 45], 25) := by decide +kernel
theorem dX7_road_40 : decode cX7_road 40 = .ok (.aload_n 0, 1) := by decide +kernel
theorem dX7_road_41 : decode cX7_road 41 = .ok (.getfield 12, 3) := by decide +kernel
theorem dX7_road_44 : decode cX7_road 44 = .ok (.getfield 130, 3) := by decide +kernel
theorem dX7_road_47 : decode cX7_road 47 = .ok (.iload_n 1, 1) := by decide +kernel
theorem dX7_road_48 : decode cX7_road 48 = .ok (.iaload, 1) := by decide +kernel
theorem dX7_road_49 : decode cX7_road 49 = .ok (.ireturn, 1) := by decide +kernel
theorem dX7_road_50 : decode cX7_road 50 = .ok (.aload_n 0, 1) := by decide +kernel
theorem dX7_road_51 : decode cX7_road 51 = .ok (.getfield 12, 3) := by decide +kernel
theorem dX7_road_54 : decode cX7_road 54 = .ok (.getfield 133, 3) := by decide +kernel
theorem dX7_road_57 : decode cX7_road 57 = .ok (.iload_n 1, 1) := by decide +kernel
theorem dX7_road_58 : decode cX7_road 58 = .ok (.iaload, 1) := by decide +kernel
theorem dX7_road_59 : decode cX7_road 59 = .ok (.ireturn, 1) := by decide +kernel
theorem dX7_road_60 : decode cX7_road 60 = .ok (.aload_n 0, 1) := by decide +kernel
theorem dX7_road_61 : decode cX7_road 61 = .ok (.getfield 12, 3) := by decide +kernel
theorem dX7_road_64 : decode cX7_road 64 = .ok (.getfield 136, 3) := by decide +kernel
theorem dX7_road_67 : decode cX7_road 67 = .ok (.iload_n 1, 1) := by decide +kernel
theorem dX7_road_68 : decode cX7_road 68 = .ok (.iaload, 1) := by decide +kernel
theorem dX7_road_69 : decode cX7_road 69 = .ok (.ireturn, 1) := by decide +kernel
theorem dX7_road_70 : decode cX7_road 70 = .ok (.ldc 81, 2) := by decide +kernel
theorem dX7_road_72 : decode cX7_road 72 = .ok (.ireturn, 1) := by decide +kernel
theorem gf_X7_130 {X : Cx} {cc : ByteArray} {nL pc fr lo : Nat} {L : List (Nat × Value)} {st : List Value} {S : St} (ok : Ok X cc nL RX7 fr lo) {o : Nat} (ho : isW o) (d : decode cc pc = .ok (.getfield 130, 3)) (k : Wp X nL (pc + 3) L (.ref (xad X (o + 1)) :: st) S) : Wp X nL pc L (.ref (xad X o) :: st) S :=
  r_get (C := RX6) (T := TX6) ok ho.ob rfl i_X6 6 (by decide) tw_fl_X7_130 d (by rw [show fvl (xad X) S o 6 = .ref (xad X (o + 1)) from (fvl_ref (d := o + 1) (ho.rr 0 (by decide)))]; exact k)
theorem gf_X7_133 {X : Cx} {cc : ByteArray} {nL pc fr lo : Nat} {L : List (Nat × Value)} {st : List Value} {S : St} (ok : Ok X cc nL RX7 fr lo) {o : Nat} (ho : isW o) (d : decode cc pc = .ok (.getfield 133, 3)) (k : Wp X nL (pc + 3) L (.ref (xad X (o + 2)) :: st) S) : Wp X nL pc L (.ref (xad X o) :: st) S :=
  r_get (C := RX6) (T := TX6) ok ho.ob rfl i_X6 7 (by decide) tw_fl_X7_133 d (by rw [show fvl (xad X) S o 7 = .ref (xad X (o + 2)) from (fvl_ref (d := o + 2) (ho.rr 1 (by decide)))]; exact k)
theorem gf_X7_136 {X : Cx} {cc : ByteArray} {nL pc fr lo : Nat} {L : List (Nat × Value)} {st : List Value} {S : St} (ok : Ok X cc nL RX7 fr lo) {o : Nat} (ho : isW o) (d : decode cc pc = .ok (.getfield 136, 3)) (k : Wp X nL (pc + 3) L (.ref (xad X (o + 3)) :: st) S) : Wp X nL pc L (.ref (xad X o) :: st) S :=
  r_get (C := RX6) (T := TX6) ok ho.ob rfl i_X6 8 (by decide) tw_fl_X7_136 d (by rw [show fvl (xad X) S o 8 = .ref (xad X (o + 3)) from (fvl_ref (d := o + 3) (ho.rr 2 (by decide)))]; exact k)
theorem cl_X7_125 {X : Cx} {cc : ByteArray} {nL pc fr lo : Nat} {L : List (Nat × Value)} {st : List Value} {S : St} (ok : Ok X cc nL RX7 fr lo) {o : Nat} (ho : isW o) {x1 : Int32} (d : decode cc pc = .ok (.invokevirtual 125, 3)) (hroom : 1 ≤ fr ∧ 21 ≤ lo) (hst : (st.map fun v => v.category).sum ≤ 8) {post : Int32 → St → Prop} (h : wp_X6_hasRoad o x1 S post) (kk : ∀ (r : Int32) (S1 : St), post r S1 → Wp X nL (pc + 3) L (.int r :: st) S1) : Wp X nL pc L (.int x1 :: .ref (xad X o) :: st) S :=
  r_callVi (n := 2) (f := 0) (lo1 := 0) (N := 1) (As := [.int x1]) ok tw_in_X6 tw_im_X6_hasRoad tw_se_X6_hasRoad tw_co_X6_hasRoad tw_ml_X7_125 (by decide +kernel) rfl ho.ob rfl hroom hst d rfl (c_X6_hasRoad (xl X) (xG X) ho h) kk
def wp_X7_road (x1 : Int32) (x2 : Int32) (S : St) (post : Int32 → St → Prop) : Prop :=
  wp_X6_hasRoad 0 x1 S (fun r2 S1 => ((¬ r2 = 0 → (((x2.toInt < 0 ∨ 2 < x2.toInt) → post (-1000000002) S1) ∧ ((x2 = 0 → vp_in x1 9 ∧ (post (S1 1 (ix x1)) S1)) ∧ (x2 = 1 → vp_in x1 9 ∧ (post (S1 2 (ix x1)) S1)) ∧ (x2 = 2 → vp_in x1 9 ∧ (post (S1 3 (ix x1)) S1))))) ∧ (r2 = 0 → post (-1000000001) S1)))
theorem w_wp_X7_road {X : Cx} (ok : Ok X cX7_road 3 RX7 1 21) {post : Int32 → St → Prop} (hret : RetI X cX7_road 3 post) {x1 x2 : Int32} {S : St} (h : wp_X7_road x1 x2 S post) : Wp X 3 0 [(0, .ref (xad X 44)), (1, .int x1), (2, .int x2)] [] S := by
  unfold wp_X7_road at h
  refine r_aload_n ok dX7_road_0 0 rfl ?_
  refine gf_X7_12 ok dX7_road_1 ?_
  refine r_iload_n ok dX7_road_4 1 rfl ?_
  refine cl_X7_125 ok isW_0 dX7_road_5 (by decide) (Nat.le_of_ble_eq_true rfl) h (fun r2 S1 h => ?_)
  refine r_if_ne (tgt := 14) ok dX7_road_8 rfl (fun hc3 => ?_) (fun hc3 => ?_)
  · replace h := h.1 hc3
    refine r_iload_n ok dX7_road_14 2 rfl ?_
    by_cases hc4 : x2.toInt < 0 ∨ 2 < x2.toInt
    · refine r_tout (tgt := 70) ok dX7_road_15 hc4 rfl ?_
      replace h := h.1 hc4
      refine r_ldc (v := (-1000000002)) ok dX7_road_70 tw_k_X7_81 ?_
      exact hret _ _ _ _ dX7_road_72 h
    · replace h := h.2
      rcases sw_2 hc4 with hq0 | hq1 | hq2
      · replace h := h.1 hq0
        refine r_tin (tgt := 40) ok dX7_road_15 (by rw [hq0]; decide) (by rw [hq0]; decide) (by rw [hq0]; rfl) rfl ?_
        refine r_aload_n ok dX7_road_40 0 rfl ?_
        refine gf_X7_12 ok dX7_road_41 ?_
        refine gf_X7_130 ok isW_0 dX7_road_44 ?_
        refine r_iload_n ok dX7_road_47 1 rfl ?_
        refine r_iald ok ai_1 h.1 rfl dX7_road_48 ?_
        replace h := h.2
        exact hret _ _ _ _ dX7_road_49 h
      · replace h := h.2.1 hq1
        refine r_tin (tgt := 50) ok dX7_road_15 (by rw [hq1]; decide) (by rw [hq1]; decide) (by rw [hq1]; rfl) rfl ?_
        refine r_aload_n ok dX7_road_50 0 rfl ?_
        refine gf_X7_12 ok dX7_road_51 ?_
        refine gf_X7_133 ok isW_0 dX7_road_54 ?_
        refine r_iload_n ok dX7_road_57 1 rfl ?_
        refine r_iald ok ai_2 h.1 rfl dX7_road_58 ?_
        replace h := h.2
        exact hret _ _ _ _ dX7_road_59 h
      · replace h := h.2.2 hq2
        refine r_tin (tgt := 60) ok dX7_road_15 (by rw [hq2]; decide) (by rw [hq2]; decide) (by rw [hq2]; rfl) rfl ?_
        refine r_aload_n ok dX7_road_60 0 rfl ?_
        refine gf_X7_12 ok dX7_road_61 ?_
        refine gf_X7_136 ok isW_0 dX7_road_64 ?_
        refine r_iload_n ok dX7_road_67 1 rfl ?_
        refine r_iald ok ai_3 h.1 rfl dX7_road_68 ?_
        replace h := h.2
        exact hret _ _ _ _ dX7_road_69 h
  · replace h := h.2 hc3
    refine r_ldc (v := (-1000000001)) ok dX7_road_11 tw_k_X7_129 ?_
    exact hret _ _ _ _ dX7_road_13 h
theorem c_X7_road (l : Launch) (G : Gx) {x1 x2 : Int32} {S : St} {post : Int32 → St → Prop} (h : wp_X7_road x1 x2 S post) : MtI l yX7_road cX7_road 3 (some .int) 1 21 G [.ref (G.2.2 44), .int x1, .int x2] S post :=
  ctI (by decide) rfl (Nat.le_of_ble_eq_true rfl) (fun X _ hG ok hret => by subst hG; exact w_wp_X7_road ok hret h)

/-! HasteRoads.person(II)I -/
theorem dX7_person_0 : decode cX7_person 0 = .ok (.aload_n 0, 1) := by decide +kernel
theorem dX7_person_1 : decode cX7_person 1 = .ok (.getfield 12, 3) := by decide +kernel
theorem dX7_person_4 : decode cX7_person 4 = .ok (.iload_n 1, 1) := by decide +kernel
theorem dX7_person_5 : decode cX7_person 5 = .ok (.invokevirtual 139, 3) := by decide +kernel
theorem dX7_person_8 : decode cX7_person 8 = .ok (.ifCond .ne 6, 3) := by decide +kernel
theorem dX7_person_11 : decode cX7_person 11 = .ok (.ldc 129, 2) := by decide +kernel
theorem dX7_person_13 : decode cX7_person 13 = .ok (.ireturn, 1) := by decide +kernel
theorem dX7_person_14 : decode cX7_person 14 = .ok (.iload_n 2, 1) := by decide +kernel
theorem dX7_person_15 : decode cX7_person 15 = .ok (.tableswitch 142 0 7 #[45, 55, 65, 75, 85, 95, 105, 115], 45) := by decide +kernel
theorem dX7_person_60 : decode cX7_person 60 = .ok (.aload_n 0, 1) := by decide +kernel
theorem dX7_person_61 : decode cX7_person 61 = .ok (.getfield 12, 3) := by decide +kernel
theorem dX7_person_64 : decode cX7_person 64 = .ok (.getfield 142, 3) := by decide +kernel
theorem dX7_person_67 : decode cX7_person 67 = .ok (.iload_n 1, 1) := by decide +kernel
theorem dX7_person_68 : decode cX7_person 68 = .ok (.iaload, 1) := by decide +kernel
theorem dX7_person_69 : decode cX7_person 69 = .ok (.ireturn, 1) := by decide +kernel
theorem dX7_person_70 : decode cX7_person 70 = .ok (.aload_n 0, 1) := by decide +kernel
theorem dX7_person_71 : decode cX7_person 71 = .ok (.getfield 12, 3) := by decide +kernel
theorem dX7_person_74 : decode cX7_person 74 = .ok (.getfield 145, 3) := by decide +kernel
theorem dX7_person_77 : decode cX7_person 77 = .ok (.iload_n 1, 1) := by decide +kernel
theorem dX7_person_78 : decode cX7_person 78 = .ok (.iaload, 1) := by decide +kernel
theorem dX7_person_79 : decode cX7_person 79 = .ok (.ireturn, 1) := by decide +kernel
theorem dX7_person_80 : decode cX7_person 80 = .ok (.aload_n 0, 1) := by decide +kernel
theorem dX7_person_81 : decode cX7_person 81 = .ok (.getfield 12, 3) := by decide +kernel
theorem dX7_person_84 : decode cX7_person 84 = .ok (.getfield 148, 3) := by decide +kernel
theorem dX7_person_87 : decode cX7_person 87 = .ok (.iload_n 1, 1) := by decide +kernel
theorem dX7_person_88 : decode cX7_person 88 = .ok (.iaload, 1) := by decide +kernel
theorem dX7_person_89 : decode cX7_person 89 = .ok (.ireturn, 1) := by decide +kernel
theorem dX7_person_90 : decode cX7_person 90 = .ok (.aload_n 0, 1) := by decide +kernel
theorem dX7_person_91 : decode cX7_person 91 = .ok (.getfield 12, 3) := by decide +kernel
theorem dX7_person_94 : decode cX7_person 94 = .ok (.getfield 151, 3) := by decide +kernel
theorem dX7_person_97 : decode cX7_person 97 = .ok (.iload_n 1, 1) := by decide +kernel
theorem dX7_person_98 : decode cX7_person 98 = .ok (.iaload, 1) := by decide +kernel
theorem dX7_person_99 : decode cX7_person 99 = .ok (.ireturn, 1) := by decide +kernel
theorem dX7_person_100 : decode cX7_person 100 = .ok (.aload_n 0, 1) := by decide +kernel
theorem dX7_person_101 : decode cX7_person 101 = .ok (.getfield 12, 3) := by decide +kernel
theorem dX7_person_104 : decode cX7_person 104 = .ok (.getfield 154, 3) := by decide +kernel
theorem dX7_person_107 : decode cX7_person 107 = .ok (.iload_n 1, 1) := by decide +kernel
theorem dX7_person_108 : decode cX7_person 108 = .ok (.iaload, 1) := by decide +kernel
theorem dX7_person_109 : decode cX7_person 109 = .ok (.ireturn, 1) := by decide +kernel
theorem dX7_person_110 : decode cX7_person 110 = .ok (.aload_n 0, 1) := by decide +kernel
theorem dX7_person_111 : decode cX7_person 111 = .ok (.getfield 12, 3) := by decide +kernel
theorem dX7_person_114 : decode cX7_person 114 = .ok (.getfield 157, 3) := by decide +kernel
theorem dX7_person_117 : decode cX7_person 117 = .ok (.iload_n 1, 1) := by decide +kernel
theorem dX7_person_118 : decode cX7_person 118 = .ok (.iaload, 1) := by decide +kernel
theorem dX7_person_119 : decode cX7_person 119 = .ok (.ireturn, 1) := by decide +kernel
theorem dX7_person_120 : decode cX7_person 120 = .ok (.aload_n 0, 1) := by decide +kernel
theorem dX7_person_121 : decode cX7_person 121 = .ok (.getfield 12, 3) := by decide +kernel
theorem dX7_person_124 : decode cX7_person 124 = .ok (.getfield 160, 3) := by decide +kernel
theorem dX7_person_127 : decode cX7_person 127 = .ok (.iload_n 1, 1) := by decide +kernel
theorem dX7_person_128 : decode cX7_person 128 = .ok (.iaload, 1) := by decide +kernel
theorem dX7_person_129 : decode cX7_person 129 = .ok (.ireturn, 1) := by decide +kernel
theorem dX7_person_130 : decode cX7_person 130 = .ok (.aload_n 0, 1) := by decide +kernel
theorem dX7_person_131 : decode cX7_person 131 = .ok (.getfield 12, 3) := by decide +kernel
theorem dX7_person_134 : decode cX7_person 134 = .ok (.iload_n 1, 1) := by decide +kernel
theorem dX7_person_135 : decode cX7_person 135 = .ok (.aload_n 0, 1) := by decide +kernel
theorem dX7_person_136 : decode cX7_person 136 = .ok (.getfield 12, 3) := by decide +kernel
theorem dX7_person_139 : decode cX7_person 139 = .ok (.getfield 142, 3) := by decide +kernel
theorem dX7_person_142 : decode cX7_person 142 = .ok (.iload_n 1, 1) := by decide +kernel
theorem dX7_person_143 : decode cX7_person 143 = .ok (.iaload, 1) := by decide +kernel
theorem dX7_person_144 : decode cX7_person 144 = .ok (.aload_n 0, 1) := by decide +kernel
theorem dX7_person_145 : decode cX7_person 145 = .ok (.getfield 12, 3) := by decide +kernel
theorem dX7_person_148 : decode cX7_person 148 = .ok (.getfield 160, 3) := by decide +kernel
theorem dX7_person_151 : decode cX7_person 151 = .ok (.iload_n 1, 1) := by decide +kernel
theorem dX7_person_152 : decode cX7_person 152 = .ok (.iaload, 1) := by decide +kernel
theorem dX7_person_153 : decode cX7_person 153 = .ok (.invokevirtual 163, 3) := by decide +kernel
theorem dX7_person_156 : decode cX7_person 156 = .ok (.ireturn, 1) := by decide +kernel
theorem dX7_person_157 : decode cX7_person 157 = .ok (.ldc 81, 2) := by decide +kernel
theorem dX7_person_159 : decode cX7_person 159 = .ok (.ireturn, 1) := by decide +kernel
theorem gf_X7_142 {X : Cx} {cc : ByteArray} {nL pc fr lo : Nat} {L : List (Nat × Value)} {st : List Value} {S : St} (ok : Ok X cc nL RX7 fr lo) {o : Nat} (ho : isW o) (d : decode cc pc = .ok (.getfield 142, 3)) (k : Wp X nL (pc + 3) L (.ref (xad X (o + 7)) :: st) S) : Wp X nL pc L (.ref (xad X o) :: st) S :=
  r_get (C := RX6) (T := TX6) ok ho.ob rfl i_X6 12 (by decide) tw_fl_X7_142 d (by rw [show fvl (xad X) S o 12 = .ref (xad X (o + 7)) from (fvl_ref (d := o + 7) (ho.rr 6 (by decide)))]; exact k)
theorem gf_X7_145 {X : Cx} {cc : ByteArray} {nL pc fr lo : Nat} {L : List (Nat × Value)} {st : List Value} {S : St} (ok : Ok X cc nL RX7 fr lo) {o : Nat} (ho : isW o) (d : decode cc pc = .ok (.getfield 145, 3)) (k : Wp X nL (pc + 3) L (.ref (xad X (o + 4)) :: st) S) : Wp X nL pc L (.ref (xad X o) :: st) S :=
  r_get (C := RX6) (T := TX6) ok ho.ob rfl i_X6 9 (by decide) tw_fl_X7_145 d (by rw [show fvl (xad X) S o 9 = .ref (xad X (o + 4)) from (fvl_ref (d := o + 4) (ho.rr 3 (by decide)))]; exact k)
theorem gf_X7_148 {X : Cx} {cc : ByteArray} {nL pc fr lo : Nat} {L : List (Nat × Value)} {st : List Value} {S : St} (ok : Ok X cc nL RX7 fr lo) {o : Nat} (ho : isW o) (d : decode cc pc = .ok (.getfield 148, 3)) (k : Wp X nL (pc + 3) L (.ref (xad X (o + 5)) :: st) S) : Wp X nL pc L (.ref (xad X o) :: st) S :=
  r_get (C := RX6) (T := TX6) ok ho.ob rfl i_X6 10 (by decide) tw_fl_X7_148 d (by rw [show fvl (xad X) S o 10 = .ref (xad X (o + 5)) from (fvl_ref (d := o + 5) (ho.rr 4 (by decide)))]; exact k)
theorem gf_X7_151 {X : Cx} {cc : ByteArray} {nL pc fr lo : Nat} {L : List (Nat × Value)} {st : List Value} {S : St} (ok : Ok X cc nL RX7 fr lo) {o : Nat} (ho : isW o) (d : decode cc pc = .ok (.getfield 151, 3)) (k : Wp X nL (pc + 3) L (.ref (xad X (o + 8)) :: st) S) : Wp X nL pc L (.ref (xad X o) :: st) S :=
  r_get (C := RX6) (T := TX6) ok ho.ob rfl i_X6 13 (by decide) tw_fl_X7_151 d (by rw [show fvl (xad X) S o 13 = .ref (xad X (o + 8)) from (fvl_ref (d := o + 8) (ho.rr 7 (by decide)))]; exact k)
theorem gf_X7_154 {X : Cx} {cc : ByteArray} {nL pc fr lo : Nat} {L : List (Nat × Value)} {st : List Value} {S : St} (ok : Ok X cc nL RX7 fr lo) {o : Nat} (ho : isW o) (d : decode cc pc = .ok (.getfield 154, 3)) (k : Wp X nL (pc + 3) L (.ref (xad X (o + 6)) :: st) S) : Wp X nL pc L (.ref (xad X o) :: st) S :=
  r_get (C := RX6) (T := TX6) ok ho.ob rfl i_X6 11 (by decide) tw_fl_X7_154 d (by rw [show fvl (xad X) S o 11 = .ref (xad X (o + 6)) from (fvl_ref (d := o + 6) (ho.rr 5 (by decide)))]; exact k)
theorem gf_X7_157 {X : Cx} {cc : ByteArray} {nL pc fr lo : Nat} {L : List (Nat × Value)} {st : List Value} {S : St} (ok : Ok X cc nL RX7 fr lo) {o : Nat} (ho : isW o) (d : decode cc pc = .ok (.getfield 157, 3)) (k : Wp X nL (pc + 3) L (.ref (xad X (o + 9)) :: st) S) : Wp X nL pc L (.ref (xad X o) :: st) S :=
  r_get (C := RX6) (T := TX6) ok ho.ob rfl i_X6 14 (by decide) tw_fl_X7_157 d (by rw [show fvl (xad X) S o 14 = .ref (xad X (o + 9)) from (fvl_ref (d := o + 9) (ho.rr 8 (by decide)))]; exact k)
theorem gf_X7_160 {X : Cx} {cc : ByteArray} {nL pc fr lo : Nat} {L : List (Nat × Value)} {st : List Value} {S : St} (ok : Ok X cc nL RX7 fr lo) {o : Nat} (ho : isW o) (d : decode cc pc = .ok (.getfield 160, 3)) (k : Wp X nL (pc + 3) L (.ref (xad X (o + 10)) :: st) S) : Wp X nL pc L (.ref (xad X o) :: st) S :=
  r_get (C := RX6) (T := TX6) ok ho.ob rfl i_X6 15 (by decide) tw_fl_X7_160 d (by rw [show fvl (xad X) S o 15 = .ref (xad X (o + 10)) from (fvl_ref (d := o + 10) (ho.rr 9 (by decide)))]; exact k)
theorem cl_X7_139 {X : Cx} {cc : ByteArray} {nL pc fr lo : Nat} {L : List (Nat × Value)} {st : List Value} {S : St} (ok : Ok X cc nL RX7 fr lo) {o : Nat} (ho : isW o) {x1 : Int32} (d : decode cc pc = .ok (.invokevirtual 139, 3)) (hroom : 1 ≤ fr ∧ 21 ≤ lo) (hst : (st.map fun v => v.category).sum ≤ 8) {post : Int32 → St → Prop} (h : wp_X6_hasPerson o x1 S post) (kk : ∀ (r : Int32) (S1 : St), post r S1 → Wp X nL (pc + 3) L (.int r :: st) S1) : Wp X nL pc L (.int x1 :: .ref (xad X o) :: st) S :=
  r_callVi (n := 2) (f := 0) (lo1 := 0) (N := 1) (As := [.int x1]) ok tw_in_X6 tw_im_X6_hasPerson tw_se_X6_hasPerson tw_co_X6_hasPerson tw_ml_X7_139 (by decide +kernel) rfl ho.ob rfl hroom hst d rfl (c_X6_hasPerson (xl X) (xG X) ho h) kk
theorem cl_X7_163 {X : Cx} {cc : ByteArray} {nL pc fr lo : Nat} {L : List (Nat × Value)} {st : List Value} {S : St} (ok : Ok X cc nL RX7 fr lo) {o : Nat} (ho : isW o) {x1 x2 x3 : Int32} (d : decode cc pc = .ok (.invokevirtual 163, 3)) (hroom : 1 ≤ fr ∧ 25 ≤ lo) (hst : (st.map fun v => v.category).sum ≤ 8) {post : Int32 → St → Prop} (h : wp_X6_hurry o x1 x2 x3 S post) (kk : ∀ (r : Int32) (S1 : St), post r S1 → Wp X nL (pc + 3) L (.int r :: st) S1) : Wp X nL pc L (.int x3 :: .int x2 :: .int x1 :: .ref (xad X o) :: st) S :=
  r_callVi (n := 6) (f := 0) (lo1 := 0) (N := 3) (As := [.int x1, .int x2, .int x3]) ok tw_in_X6 tw_im_X6_hurry tw_se_X6_hurry tw_co_X6_hurry tw_ml_X7_163 (by decide +kernel) rfl ho.ob rfl hroom hst d rfl (c_X6_hurry (xl X) (xG X) ho h) kk
def wp_X7_person (x1 : Int32) (x2 : Int32) (S : St) (post : Int32 → St → Prop) : Prop :=
  wp_X6_hasPerson 0 x1 S (fun r2 S1 => ((¬ r2 = 0 → (((x2.toInt < 0 ∨ 7 < x2.toInt) → post (-1000000002) S1) ∧ ((x2 = 0 → vp_in x1 4 ∧ (post (S1 7 (ix x1)) S1)) ∧ (x2 = 1 → vp_in x1 4 ∧ (post (S1 4 (ix x1)) S1)) ∧ (x2 = 2 → vp_in x1 4 ∧ (post (S1 5 (ix x1)) S1)) ∧ (x2 = 3 → vp_in x1 4 ∧ (post (S1 8 (ix x1)) S1)) ∧ (x2 = 4 → vp_in x1 4 ∧ (post (S1 6 (ix x1)) S1)) ∧ (x2 = 5 → vp_in x1 4 ∧ (post (S1 9 (ix x1)) S1)) ∧ (x2 = 6 → vp_in x1 4 ∧ (post (S1 10 (ix x1)) S1)) ∧ (x2 = 7 → vp_in x1 4 ∧ (vp_in x1 4 ∧ (wp_X6_hurry 0 x1 (S1 7 (ix x1)) (S1 10 (ix x1)) S1 (fun r6 S5 => post r6 S5))))))) ∧ (r2 = 0 → post (-1000000001) S1)))
theorem w_wp_X7_person {X : Cx} (ok : Ok X cX7_person 3 RX7 1 25) {post : Int32 → St → Prop} (hret : RetI X cX7_person 3 post) {x1 x2 : Int32} {S : St} (h : wp_X7_person x1 x2 S post) : Wp X 3 0 [(0, .ref (xad X 44)), (1, .int x1), (2, .int x2)] [] S := by
  unfold wp_X7_person at h
  refine r_aload_n ok dX7_person_0 0 rfl ?_
  refine gf_X7_12 ok dX7_person_1 ?_
  refine r_iload_n ok dX7_person_4 1 rfl ?_
  refine cl_X7_139 ok isW_0 dX7_person_5 (by decide) (Nat.le_of_ble_eq_true rfl) h (fun r2 S1 h => ?_)
  refine r_if_ne (tgt := 14) ok dX7_person_8 rfl (fun hc3 => ?_) (fun hc3 => ?_)
  · replace h := h.1 hc3
    refine r_iload_n ok dX7_person_14 2 rfl ?_
    by_cases hc4 : x2.toInt < 0 ∨ 7 < x2.toInt
    · refine r_tout (tgt := 157) ok dX7_person_15 hc4 rfl ?_
      replace h := h.1 hc4
      refine r_ldc (v := (-1000000002)) ok dX7_person_157 tw_k_X7_81 ?_
      exact hret _ _ _ _ dX7_person_159 h
    · replace h := h.2
      rcases sw_7 hc4 with hq0 | hq1 | hq2 | hq3 | hq4 | hq5 | hq6 | hq7
      · replace h := h.1 hq0
        refine r_tin (tgt := 60) ok dX7_person_15 (by rw [hq0]; decide) (by rw [hq0]; decide) (by rw [hq0]; rfl) rfl ?_
        refine r_aload_n ok dX7_person_60 0 rfl ?_
        refine gf_X7_12 ok dX7_person_61 ?_
        refine gf_X7_142 ok isW_0 dX7_person_64 ?_
        refine r_iload_n ok dX7_person_67 1 rfl ?_
        refine r_iald ok ai_7 h.1 rfl dX7_person_68 ?_
        replace h := h.2
        exact hret _ _ _ _ dX7_person_69 h
      · replace h := h.2.1 hq1
        refine r_tin (tgt := 70) ok dX7_person_15 (by rw [hq1]; decide) (by rw [hq1]; decide) (by rw [hq1]; rfl) rfl ?_
        refine r_aload_n ok dX7_person_70 0 rfl ?_
        refine gf_X7_12 ok dX7_person_71 ?_
        refine gf_X7_145 ok isW_0 dX7_person_74 ?_
        refine r_iload_n ok dX7_person_77 1 rfl ?_
        refine r_iald ok ai_4 h.1 rfl dX7_person_78 ?_
        replace h := h.2
        exact hret _ _ _ _ dX7_person_79 h
      · replace h := h.2.2.1 hq2
        refine r_tin (tgt := 80) ok dX7_person_15 (by rw [hq2]; decide) (by rw [hq2]; decide) (by rw [hq2]; rfl) rfl ?_
        refine r_aload_n ok dX7_person_80 0 rfl ?_
        refine gf_X7_12 ok dX7_person_81 ?_
        refine gf_X7_148 ok isW_0 dX7_person_84 ?_
        refine r_iload_n ok dX7_person_87 1 rfl ?_
        refine r_iald ok ai_5 h.1 rfl dX7_person_88 ?_
        replace h := h.2
        exact hret _ _ _ _ dX7_person_89 h
      · replace h := h.2.2.2.1 hq3
        refine r_tin (tgt := 90) ok dX7_person_15 (by rw [hq3]; decide) (by rw [hq3]; decide) (by rw [hq3]; rfl) rfl ?_
        refine r_aload_n ok dX7_person_90 0 rfl ?_
        refine gf_X7_12 ok dX7_person_91 ?_
        refine gf_X7_151 ok isW_0 dX7_person_94 ?_
        refine r_iload_n ok dX7_person_97 1 rfl ?_
        refine r_iald ok ai_8 h.1 rfl dX7_person_98 ?_
        replace h := h.2
        exact hret _ _ _ _ dX7_person_99 h
      · replace h := h.2.2.2.2.1 hq4
        refine r_tin (tgt := 100) ok dX7_person_15 (by rw [hq4]; decide) (by rw [hq4]; decide) (by rw [hq4]; rfl) rfl ?_
        refine r_aload_n ok dX7_person_100 0 rfl ?_
        refine gf_X7_12 ok dX7_person_101 ?_
        refine gf_X7_154 ok isW_0 dX7_person_104 ?_
        refine r_iload_n ok dX7_person_107 1 rfl ?_
        refine r_iald ok ai_6 h.1 rfl dX7_person_108 ?_
        replace h := h.2
        exact hret _ _ _ _ dX7_person_109 h
      · replace h := h.2.2.2.2.2.1 hq5
        refine r_tin (tgt := 110) ok dX7_person_15 (by rw [hq5]; decide) (by rw [hq5]; decide) (by rw [hq5]; rfl) rfl ?_
        refine r_aload_n ok dX7_person_110 0 rfl ?_
        refine gf_X7_12 ok dX7_person_111 ?_
        refine gf_X7_157 ok isW_0 dX7_person_114 ?_
        refine r_iload_n ok dX7_person_117 1 rfl ?_
        refine r_iald ok ai_9 h.1 rfl dX7_person_118 ?_
        replace h := h.2
        exact hret _ _ _ _ dX7_person_119 h
      · replace h := h.2.2.2.2.2.2.1 hq6
        refine r_tin (tgt := 120) ok dX7_person_15 (by rw [hq6]; decide) (by rw [hq6]; decide) (by rw [hq6]; rfl) rfl ?_
        refine r_aload_n ok dX7_person_120 0 rfl ?_
        refine gf_X7_12 ok dX7_person_121 ?_
        refine gf_X7_160 ok isW_0 dX7_person_124 ?_
        refine r_iload_n ok dX7_person_127 1 rfl ?_
        refine r_iald ok ai_10 h.1 rfl dX7_person_128 ?_
        replace h := h.2
        exact hret _ _ _ _ dX7_person_129 h
      · replace h := h.2.2.2.2.2.2.2 hq7
        refine r_tin (tgt := 130) ok dX7_person_15 (by rw [hq7]; decide) (by rw [hq7]; decide) (by rw [hq7]; rfl) rfl ?_
        refine r_aload_n ok dX7_person_130 0 rfl ?_
        refine gf_X7_12 ok dX7_person_131 ?_
        refine r_iload_n ok dX7_person_134 1 rfl ?_
        refine r_aload_n ok dX7_person_135 0 rfl ?_
        refine gf_X7_12 ok dX7_person_136 ?_
        refine gf_X7_142 ok isW_0 dX7_person_139 ?_
        refine r_iload_n ok dX7_person_142 1 rfl ?_
        refine r_iald ok ai_7 h.1 rfl dX7_person_143 ?_
        replace h := h.2
        refine r_aload_n ok dX7_person_144 0 rfl ?_
        refine gf_X7_12 ok dX7_person_145 ?_
        refine gf_X7_160 ok isW_0 dX7_person_148 ?_
        refine r_iload_n ok dX7_person_151 1 rfl ?_
        refine r_iald ok ai_10 h.1 rfl dX7_person_152 ?_
        replace h := h.2
        refine cl_X7_163 ok isW_0 dX7_person_153 (by decide) (Nat.le_of_ble_eq_true rfl) h (fun r6 S5 h => ?_)
        exact hret _ _ _ _ dX7_person_156 h
  · replace h := h.2 hc3
    refine r_ldc (v := (-1000000001)) ok dX7_person_11 tw_k_X7_129 ?_
    exact hret _ _ _ _ dX7_person_13 h
theorem c_X7_person (l : Launch) (G : Gx) {x1 x2 : Int32} {S : St} {post : Int32 → St → Prop} (h : wp_X7_person x1 x2 S post) : MtI l yX7_person cX7_person 3 (some .int) 1 25 G [.ref (G.2.2 44), .int x1, .int x2] S post :=
  ctI (by decide) rfl (Nat.le_of_ble_eq_true rfl) (fun X _ hG ok hret => by subst hG; exact w_wp_X7_person ok hret h)

/-! HasteRoads.takes(IIIII)I -/
theorem dX7_takes_0 : decode cX7_takes 0 = .ok (.aload_n 0, 1) := by decide +kernel
theorem dX7_takes_1 : decode cX7_takes 1 = .ok (.getfield 12, 3) := by decide +kernel
theorem dX7_takes_4 : decode cX7_takes 4 = .ok (.iload_n 1, 1) := by decide +kernel
theorem dX7_takes_5 : decode cX7_takes 5 = .ok (.invokevirtual 139, 3) := by decide +kernel
theorem dX7_takes_8 : decode cX7_takes 8 = .ok (.ifCond .eq 25, 3) := by decide +kernel
theorem dX7_takes_11 : decode cX7_takes 11 = .ok (.aload_n 0, 1) := by decide +kernel
theorem dX7_takes_12 : decode cX7_takes 12 = .ok (.getfield 12, 3) := by decide +kernel
theorem dX7_takes_15 : decode cX7_takes 15 = .ok (.iload_n 2, 1) := by decide +kernel
theorem dX7_takes_16 : decode cX7_takes 16 = .ok (.invokevirtual 125, 3) := by decide +kernel
theorem dX7_takes_19 : decode cX7_takes 19 = .ok (.ifCond .eq 14, 3) := by decide +kernel
theorem dX7_takes_22 : decode cX7_takes 22 = .ok (.aload_n 0, 1) := by decide +kernel
theorem dX7_takes_23 : decode cX7_takes 23 = .ok (.getfield 12, 3) := by decide +kernel
theorem dX7_takes_26 : decode cX7_takes 26 = .ok (.iload_n 3, 1) := by decide +kernel
theorem dX7_takes_27 : decode cX7_takes 27 = .ok (.invokevirtual 167, 3) := by decide +kernel
theorem dX7_takes_30 : decode cX7_takes 30 = .ok (.ifCond .ne 6, 3) := by decide +kernel
theorem dX7_takes_33 : decode cX7_takes 33 = .ok (.ldc 129, 2) := by decide +kernel
theorem dX7_takes_35 : decode cX7_takes 35 = .ok (.ireturn, 1) := by decide +kernel
theorem dX7_takes_36 : decode cX7_takes 36 = .ok (.iload 4, 2) := by decide +kernel
theorem dX7_takes_38 : decode cX7_takes 38 = .ok (.iconst 0, 1) := by decide +kernel
theorem dX7_takes_39 : decode cX7_takes 39 = .ok (.ldc 170, 2) := by decide +kernel
theorem dX7_takes_41 : decode cX7_takes 41 = .ok (.invokestatic 77, 3) := by decide +kernel
theorem dX7_takes_44 : decode cX7_takes 44 = .ok (.ifCond .ne 13, 3) := by decide +kernel
theorem dX7_takes_47 : decode cX7_takes 47 = .ok (.iload 5, 2) := by decide +kernel
theorem dX7_takes_49 : decode cX7_takes 49 = .ok (.iconst 0, 1) := by decide +kernel
theorem dX7_takes_50 : decode cX7_takes 50 = .ok (.iconst 5, 1) := by decide +kernel
theorem dX7_takes_51 : decode cX7_takes 51 = .ok (.invokestatic 77, 3) := by decide +kernel
theorem dX7_takes_54 : decode cX7_takes 54 = .ok (.ifCond .eq 6, 3) := by decide +kernel
theorem dX7_takes_57 : decode cX7_takes 57 = .ok (.ldc 81, 2) := by decide +kernel
theorem dX7_takes_59 : decode cX7_takes 59 = .ok (.ireturn, 1) := by decide +kernel
theorem dX7_takes_60 : decode cX7_takes 60 = .ok (.aload_n 0, 1) := by decide +kernel
theorem dX7_takes_61 : decode cX7_takes 61 = .ok (.getfield 12, 3) := by decide +kernel
theorem dX7_takes_64 : decode cX7_takes 64 = .ok (.iload_n 2, 1) := by decide +kernel
theorem dX7_takes_65 : decode cX7_takes 65 = .ok (.iload_n 3, 1) := by decide +kernel
theorem dX7_takes_66 : decode cX7_takes 66 = .ok (.invokevirtual 171, 3) := by decide +kernel
theorem dX7_takes_69 : decode cX7_takes 69 = .ok (.iconst (-1), 1) := by decide +kernel
theorem dX7_takes_70 : decode cX7_takes 70 = .ok (.if_icmp .ne 6, 3) := by decide +kernel
theorem dX7_takes_73 : decode cX7_takes 73 = .ok (.ldc 175, 2) := by decide +kernel
theorem dX7_takes_75 : decode cX7_takes 75 = .ok (.ireturn, 1) := by decide +kernel
theorem dX7_takes_76 : decode cX7_takes 76 = .ok (.aload_n 0, 1) := by decide +kernel
theorem dX7_takes_77 : decode cX7_takes 77 = .ok (.getfield 12, 3) := by decide +kernel
theorem dX7_takes_80 : decode cX7_takes 80 = .ok (.iload_n 1, 1) := by decide +kernel
theorem dX7_takes_81 : decode cX7_takes 81 = .ok (.iload_n 2, 1) := by decide +kernel
theorem dX7_takes_82 : decode cX7_takes 82 = .ok (.iload_n 3, 1) := by decide +kernel
theorem dX7_takes_83 : decode cX7_takes 83 = .ok (.iload 4, 2) := by decide +kernel
theorem dX7_takes_85 : decode cX7_takes 85 = .ok (.iload 5, 2) := by decide +kernel
theorem dX7_takes_87 : decode cX7_takes 87 = .ok (.invokevirtual 176, 3) := by decide +kernel
theorem dX7_takes_90 : decode cX7_takes 90 = .ok (.ireturn, 1) := by decide +kernel
theorem cl_X7_167 {X : Cx} {cc : ByteArray} {nL pc fr lo : Nat} {L : List (Nat × Value)} {st : List Value} {S : St} (ok : Ok X cc nL RX7 fr lo) {o : Nat} (ho : isW o) {x1 : Int32} (d : decode cc pc = .ok (.invokevirtual 167, 3)) (hroom : 1 ≤ fr ∧ 21 ≤ lo) (hst : (st.map fun v => v.category).sum ≤ 8) {post : Int32 → St → Prop} (h : wp_X6_hasPlace o x1 S post) (kk : ∀ (r : Int32) (S1 : St), post r S1 → Wp X nL (pc + 3) L (.int r :: st) S1) : Wp X nL pc L (.int x1 :: .ref (xad X o) :: st) S :=
  r_callVi (n := 2) (f := 0) (lo1 := 0) (N := 1) (As := [.int x1]) ok tw_in_X6 tw_im_X6_hasPlace tw_se_X6_hasPlace tw_co_X6_hasPlace tw_ml_X7_167 (by decide +kernel) rfl ho.ob rfl hroom hst d rfl (c_X6_hasPlace (xl X) (xG X) ho h) kk
theorem cl_X7_171 {X : Cx} {cc : ByteArray} {nL pc fr lo : Nat} {L : List (Nat × Value)} {st : List Value} {S : St} (ok : Ok X cc nL RX7 fr lo) {o : Nat} (ho : isW o) {x1 x2 : Int32} (d : decode cc pc = .ok (.invokevirtual 171, 3)) (hroom : 1 ≤ fr ∧ 22 ≤ lo) (hst : (st.map fun v => v.category).sum ≤ 8) {post : Int32 → St → Prop} (h : wp_X6_otherEnd o x1 x2 S post) (kk : ∀ (r : Int32) (S1 : St), post r S1 → Wp X nL (pc + 3) L (.int r :: st) S1) : Wp X nL pc L (.int x2 :: .int x1 :: .ref (xad X o) :: st) S :=
  r_callVi (n := 3) (f := 0) (lo1 := 0) (N := 2) (As := [.int x1, .int x2]) ok tw_in_X6 tw_im_X6_otherEnd tw_se_X6_otherEnd tw_co_X6_otherEnd tw_ml_X7_171 (by decide +kernel) rfl ho.ob rfl hroom hst d rfl (c_X6_otherEnd (xl X) (xG X) ho h) kk
theorem cl_X7_176 {X : Cx} {cc : ByteArray} {nL pc fr lo : Nat} {L : List (Nat × Value)} {st : List Value} {S : St} (ok : Ok X cc nL RX7 fr lo) {o : Nat} (ho : isW o) {x1 x2 x3 x4 x5 : Int32} (d : decode cc pc = .ok (.invokevirtual 176, 3)) (hroom : 2 ≤ fr ∧ 50 ≤ lo) (hst : (st.map fun v => v.category).sum ≤ 8) {post : Int32 → St → Prop} (h : wp_X6_lasts o x1 x2 x3 x4 x5 S post) (kk : ∀ (r : Int32) (S1 : St), post r S1 → Wp X nL (pc + 3) L (.int r :: st) S1) : Wp X nL pc L (.int x5 :: .int x4 :: .int x3 :: .int x2 :: .int x1 :: .ref (xad X o) :: st) S :=
  r_callVi (n := 6) (f := 1) (lo1 := 25) (N := 5) (As := [.int x1, .int x2, .int x3, .int x4, .int x5]) ok tw_in_X6 tw_im_X6_lasts tw_se_X6_lasts tw_co_X6_lasts tw_ml_X7_176 (by decide +kernel) rfl ho.ob rfl hroom hst d rfl (c_X6_lasts (xl X) (xG X) ho h) kk
def wp_X7_takes (x1 : Int32) (x2 : Int32) (x3 : Int32) (x4 : Int32) (x5 : Int32) (S : St) (post : Int32 → St → Prop) : Prop :=
  wp_X6_hasPerson 0 x1 S (fun r2 S1 => ((r2 = 0 → post (-1000000001) S1) ∧ (¬ r2 = 0 → wp_X6_hasRoad 0 x2 S1 (fun r5 S4 => ((r5 = 0 → post (-1000000001) S4) ∧ (¬ r5 = 0 → wp_X6_hasPlace 0 x3 S4 (fun r8 S7 => ((¬ r8 = 0 → wp_X7_outside x4 0 99999 S7 (fun r11 S10 => ((¬ r11 = 0 → post (-1000000002) S10) ∧ (r11 = 0 → wp_X7_outside x5 0 5 S10 (fun r14 S13 => ((r14 = 0 → wp_X6_otherEnd 0 x2 x3 S13 (fun r17 S16 => ((¬ r17 = (-1) → wp_X6_lasts 0 x1 x2 x3 x4 x5 S16 (fun r20 S19 => post r20 S19)) ∧ (r17 = (-1) → post (-1000000003) S16)))) ∧ (¬ r14 = 0 → post (-1000000002) S13))))))) ∧ (r8 = 0 → post (-1000000001) S7)))))))))
theorem w_wp_X7_takes {X : Cx} (ok : Ok X cX7_takes 6 RX7 2 50) {post : Int32 → St → Prop} (hret : RetI X cX7_takes 6 post) {x1 x2 x3 x4 x5 : Int32} {S : St} (h : wp_X7_takes x1 x2 x3 x4 x5 S post) : Wp X 6 0 [(0, .ref (xad X 44)), (1, .int x1), (2, .int x2), (3, .int x3), (4, .int x4), (5, .int x5)] [] S := by
  unfold wp_X7_takes at h
  refine r_aload_n ok dX7_takes_0 0 rfl ?_
  refine gf_X7_12 ok dX7_takes_1 ?_
  refine r_iload_n ok dX7_takes_4 1 rfl ?_
  refine cl_X7_139 ok isW_0 dX7_takes_5 (by decide) (Nat.le_of_ble_eq_true rfl) h (fun r2 S1 h => ?_)
  refine r_if_eq (tgt := 33) ok dX7_takes_8 rfl (fun hc3 => ?_) (fun hc3 => ?_)
  · replace h := h.1 hc3
    refine r_ldc (v := (-1000000001)) ok dX7_takes_33 tw_k_X7_129 ?_
    exact hret _ _ _ _ dX7_takes_35 h
  · replace h := h.2 hc3
    refine r_aload_n ok dX7_takes_11 0 rfl ?_
    refine gf_X7_12 ok dX7_takes_12 ?_
    refine r_iload_n ok dX7_takes_15 2 rfl ?_
    refine cl_X7_125 ok isW_0 dX7_takes_16 (by decide) (Nat.le_of_ble_eq_true rfl) h (fun r5 S4 h => ?_)
    refine r_if_eq (tgt := 33) ok dX7_takes_19 rfl (fun hc6 => ?_) (fun hc6 => ?_)
    · replace h := h.1 hc6
      refine r_ldc (v := (-1000000001)) ok dX7_takes_33 tw_k_X7_129 ?_
      exact hret _ _ _ _ dX7_takes_35 h
    · replace h := h.2 hc6
      refine r_aload_n ok dX7_takes_22 0 rfl ?_
      refine gf_X7_12 ok dX7_takes_23 ?_
      refine r_iload_n ok dX7_takes_26 3 rfl ?_
      refine cl_X7_167 ok isW_0 dX7_takes_27 (by decide) (Nat.le_of_ble_eq_true rfl) h (fun r8 S7 h => ?_)
      refine r_if_ne (tgt := 36) ok dX7_takes_30 rfl (fun hc9 => ?_) (fun hc9 => ?_)
      · replace h := h.1 hc9
        refine r_iload ok dX7_takes_36 4 rfl ?_
        refine r_iconst (v := 0) ok dX7_takes_38 rfl ?_
        refine r_ldc (v := 99999) ok dX7_takes_39 tw_k_X7_170 ?_
        refine cl_X7_77 ok dX7_takes_41 (by decide) (Nat.le_of_ble_eq_true rfl) h (fun r11 S10 h => ?_)
        refine r_if_ne (tgt := 57) ok dX7_takes_44 rfl (fun hc12 => ?_) (fun hc12 => ?_)
        · replace h := h.1 hc12
          refine r_ldc (v := (-1000000002)) ok dX7_takes_57 tw_k_X7_81 ?_
          exact hret _ _ _ _ dX7_takes_59 h
        · replace h := h.2 hc12
          refine r_iload ok dX7_takes_47 5 rfl ?_
          refine r_iconst (v := 0) ok dX7_takes_49 rfl ?_
          refine r_iconst (v := 5) ok dX7_takes_50 rfl ?_
          refine cl_X7_77 ok dX7_takes_51 (by decide) (Nat.le_of_ble_eq_true rfl) h (fun r14 S13 h => ?_)
          refine r_if_eq (tgt := 60) ok dX7_takes_54 rfl (fun hc15 => ?_) (fun hc15 => ?_)
          · replace h := h.1 hc15
            refine r_aload_n ok dX7_takes_60 0 rfl ?_
            refine gf_X7_12 ok dX7_takes_61 ?_
            refine r_iload_n ok dX7_takes_64 2 rfl ?_
            refine r_iload_n ok dX7_takes_65 3 rfl ?_
            refine cl_X7_171 ok isW_0 dX7_takes_66 (by decide) (Nat.le_of_ble_eq_true rfl) h (fun r17 S16 h => ?_)
            refine r_iconst (v := (-1)) ok dX7_takes_69 rfl ?_
            refine r_icmp_ne (tgt := 76) ok dX7_takes_70 rfl (fun hc18 => ?_) (fun hc18 => ?_)
            · replace h := h.1 hc18
              refine r_aload_n ok dX7_takes_76 0 rfl ?_
              refine gf_X7_12 ok dX7_takes_77 ?_
              refine r_iload_n ok dX7_takes_80 1 rfl ?_
              refine r_iload_n ok dX7_takes_81 2 rfl ?_
              refine r_iload_n ok dX7_takes_82 3 rfl ?_
              refine r_iload ok dX7_takes_83 4 rfl ?_
              refine r_iload ok dX7_takes_85 5 rfl ?_
              refine cl_X7_176 ok isW_0 dX7_takes_87 (by decide) (Nat.le_of_ble_eq_true rfl) h (fun r20 S19 h => ?_)
              exact hret _ _ _ _ dX7_takes_90 h
            · replace h := h.2 hc18
              refine r_ldc (v := (-1000000003)) ok dX7_takes_73 tw_k_X7_175 ?_
              exact hret _ _ _ _ dX7_takes_75 h
          · replace h := h.2 hc15
            refine r_ldc (v := (-1000000002)) ok dX7_takes_57 tw_k_X7_81 ?_
            exact hret _ _ _ _ dX7_takes_59 h
      · replace h := h.2 hc9
        refine r_ldc (v := (-1000000001)) ok dX7_takes_33 tw_k_X7_129 ?_
        exact hret _ _ _ _ dX7_takes_35 h
theorem c_X7_takes (l : Launch) (G : Gx) {x1 x2 x3 x4 x5 : Int32} {S : St} {post : Int32 → St → Prop} (h : wp_X7_takes x1 x2 x3 x4 x5 S post) : MtI l yX7_takes cX7_takes 6 (some .int) 2 50 G [.ref (G.2.2 44), .int x1, .int x2, .int x3, .int x4, .int x5] S post :=
  ctI (by decide) rfl (Nat.le_of_ble_eq_true rfl) (fun X _ hG ok hret => by subst hG; exact w_wp_X7_takes ok hret h)

/-! HasteRoads.go(III)I -/
theorem dX7_go_0 : decode cX7_go 0 = .ok (.aload_n 0, 1) := by decide +kernel
theorem dX7_go_1 : decode cX7_go 1 = .ok (.getfield 12, 3) := by decide +kernel
theorem dX7_go_4 : decode cX7_go 4 = .ok (.iload_n 1, 1) := by decide +kernel
theorem dX7_go_5 : decode cX7_go 5 = .ok (.invokevirtual 139, 3) := by decide +kernel
theorem dX7_go_8 : decode cX7_go 8 = .ok (.ifCond .eq 14, 3) := by decide +kernel
theorem dX7_go_11 : decode cX7_go 11 = .ok (.aload_n 0, 1) := by decide +kernel
theorem dX7_go_12 : decode cX7_go 12 = .ok (.getfield 12, 3) := by decide +kernel
theorem dX7_go_15 : decode cX7_go 15 = .ok (.iload_n 2, 1) := by decide +kernel
theorem dX7_go_16 : decode cX7_go 16 = .ok (.invokevirtual 125, 3) := by decide +kernel
theorem dX7_go_19 : decode cX7_go 19 = .ok (.ifCond .ne 6, 3) := by decide +kernel
theorem dX7_go_22 : decode cX7_go 22 = .ok (.ldc 129, 2) := by decide +kernel
theorem dX7_go_24 : decode cX7_go 24 = .ok (.ireturn, 1) := by decide +kernel
theorem dX7_go_25 : decode cX7_go 25 = .ok (.iload_n 3, 1) := by decide +kernel
theorem dX7_go_26 : decode cX7_go 26 = .ok (.iconst 0, 1) := by decide +kernel
theorem dX7_go_27 : decode cX7_go 27 = .ok (.iconst 5, 1) := by decide +kernel
theorem dX7_go_28 : decode cX7_go 28 = .ok (.invokestatic 77, 3) := by decide +kernel
theorem dX7_go_31 : decode cX7_go 31 = .ok (.ifCond .eq 6, 3) := by decide +kernel
theorem dX7_go_34 : decode cX7_go 34 = .ok (.ldc 81, 2) := by decide +kernel
theorem dX7_go_36 : decode cX7_go 36 = .ok (.ireturn, 1) := by decide +kernel
theorem dX7_go_37 : decode cX7_go 37 = .ok (.aload_n 0, 1) := by decide +kernel
theorem dX7_go_38 : decode cX7_go 38 = .ok (.getfield 12, 3) := by decide +kernel
theorem dX7_go_41 : decode cX7_go 41 = .ok (.iload_n 1, 1) := by decide +kernel
theorem dX7_go_42 : decode cX7_go 42 = .ok (.iload_n 2, 1) := by decide +kernel
theorem dX7_go_43 : decode cX7_go 43 = .ok (.iload_n 3, 1) := by decide +kernel
theorem dX7_go_44 : decode cX7_go 44 = .ok (.invokevirtual 180, 3) := by decide +kernel
theorem dX7_go_47 : decode cX7_go 47 = .ok (.ifCond .ne 6, 3) := by decide +kernel
theorem dX7_go_50 : decode cX7_go 50 = .ok (.ldc 175, 2) := by decide +kernel
theorem dX7_go_52 : decode cX7_go 52 = .ok (.ireturn, 1) := by decide +kernel
theorem dX7_go_53 : decode cX7_go 53 = .ok (.aload_n 0, 1) := by decide +kernel
theorem dX7_go_54 : decode cX7_go 54 = .ok (.getfield 12, 3) := by decide +kernel
theorem dX7_go_57 : decode cX7_go 57 = .ok (.getfield 160, 3) := by decide +kernel
theorem dX7_go_60 : decode cX7_go 60 = .ok (.iload_n 1, 1) := by decide +kernel
theorem dX7_go_61 : decode cX7_go 61 = .ok (.iaload, 1) := by decide +kernel
theorem dX7_go_62 : decode cX7_go 62 = .ok (.ldc 183, 2) := by decide +kernel
theorem dX7_go_64 : decode cX7_go 64 = .ok (.if_icmp .le 6, 3) := by decide +kernel
theorem dX7_go_67 : decode cX7_go 67 = .ok (.ldc 184, 2) := by decide +kernel
theorem dX7_go_69 : decode cX7_go 69 = .ok (.ireturn, 1) := by decide +kernel
theorem dX7_go_70 : decode cX7_go 70 = .ok (.aload_n 0, 1) := by decide +kernel
theorem dX7_go_71 : decode cX7_go 71 = .ok (.getfield 12, 3) := by decide +kernel
theorem dX7_go_74 : decode cX7_go 74 = .ok (.iload_n 1, 1) := by decide +kernel
theorem dX7_go_75 : decode cX7_go 75 = .ok (.iload_n 2, 1) := by decide +kernel
theorem dX7_go_76 : decode cX7_go 76 = .ok (.iload_n 3, 1) := by decide +kernel
theorem dX7_go_77 : decode cX7_go 77 = .ok (.invokevirtual 185, 3) := by decide +kernel
theorem dX7_go_80 : decode cX7_go 80 = .ok (.aload_n 0, 1) := by decide +kernel
theorem dX7_go_81 : decode cX7_go 81 = .ok (.getfield 12, 3) := by decide +kernel
theorem dX7_go_84 : decode cX7_go 84 = .ok (.getfield 160, 3) := by decide +kernel
theorem dX7_go_87 : decode cX7_go 87 = .ok (.iload_n 1, 1) := by decide +kernel
theorem dX7_go_88 : decode cX7_go 88 = .ok (.iaload, 1) := by decide +kernel
theorem dX7_go_89 : decode cX7_go 89 = .ok (.ireturn, 1) := by decide +kernel
theorem cl_X7_180 {X : Cx} {cc : ByteArray} {nL pc fr lo : Nat} {L : List (Nat × Value)} {st : List Value} {S : St} (ok : Ok X cc nL RX7 fr lo) {o : Nat} (ho : isW o) {x1 x2 x3 : Int32} (d : decode cc pc = .ok (.invokevirtual 180, 3)) (hroom : 2 ≤ fr ∧ 45 ≤ lo) (hst : (st.map fun v => v.category).sum ≤ 8) {post : Int32 → St → Prop} (h : wp_X6_canMove o x1 x2 x3 S post) (kk : ∀ (r : Int32) (S1 : St), post r S1 → Wp X nL (pc + 3) L (.int r :: st) S1) : Wp X nL pc L (.int x3 :: .int x2 :: .int x1 :: .ref (xad X o) :: st) S :=
  r_callVi (n := 4) (f := 1) (lo1 := 22) (N := 3) (As := [.int x1, .int x2, .int x3]) ok tw_in_X6 tw_im_X6_canMove tw_se_X6_canMove tw_co_X6_canMove tw_ml_X7_180 (by decide +kernel) rfl ho.ob rfl hroom hst d rfl (c_X6_canMove (xl X) (xG X) ho h) kk
theorem cl_X7_185 {X : Cx} {cc : ByteArray} {nL pc fr lo : Nat} {L : List (Nat × Value)} {st : List Value} {S : St} (ok : Ok X cc nL RX7 fr lo) {o : Nat} (ho : isW o) {x1 x2 x3 : Int32} (d : decode cc pc = .ok (.invokevirtual 185, 3)) (hroom : 3 ≤ fr ∧ 73 ≤ lo) (hst : (st.map fun v => v.category).sum ≤ 8) {post : St → Prop} (h : wp_X6_move o x1 x2 x3 S post) (kk : ∀ S1 : St, post S1 → Wp X nL (pc + 3) L st S1) : Wp X nL pc L (.int x3 :: .int x2 :: .int x1 :: .ref (xad X o) :: st) S :=
  r_callVv (n := 4) (f := 2) (lo1 := 50) (N := 3) (As := [.int x1, .int x2, .int x3]) ok tw_in_X6 tw_im_X6_move tw_se_X6_move tw_co_X6_move tw_ml_X7_185 (by decide +kernel) rfl ho.ob rfl hroom hst d rfl (c_X6_move (xl X) (xG X) ho h) kk
def wp_X7_go (x1 : Int32) (x2 : Int32) (x3 : Int32) (S : St) (post : Int32 → St → Prop) : Prop :=
  wp_X6_hasPerson 0 x1 S (fun r2 S1 => ((r2 = 0 → post (-1000000001) S1) ∧ (¬ r2 = 0 → wp_X6_hasRoad 0 x2 S1 (fun r5 S4 => ((¬ r5 = 0 → wp_X7_outside x3 0 5 S4 (fun r8 S7 => ((r8 = 0 → wp_X6_canMove 0 x1 x2 x3 S7 (fun r11 S10 => ((¬ r11 = 0 → vp_in x1 4 ∧ ((((S10 10 (ix x1)) ≤ 90000 → wp_X6_move 0 x1 x2 x3 S10 (fun S14 => vp_in x1 4 ∧ (post (S14 10 (ix x1)) S14))) ∧ (¬ (S10 10 (ix x1)) ≤ 90000 → post (-1000000004) S10)))) ∧ (r11 = 0 → post (-1000000003) S10)))) ∧ (¬ r8 = 0 → post (-1000000002) S7)))) ∧ (r5 = 0 → post (-1000000001) S4))))))
theorem w_wp_X7_go {X : Cx} (ok : Ok X cX7_go 4 RX7 3 73) {post : Int32 → St → Prop} (hret : RetI X cX7_go 4 post) {x1 x2 x3 : Int32} {S : St} (h : wp_X7_go x1 x2 x3 S post) : Wp X 4 0 [(0, .ref (xad X 44)), (1, .int x1), (2, .int x2), (3, .int x3)] [] S := by
  unfold wp_X7_go at h
  refine r_aload_n ok dX7_go_0 0 rfl ?_
  refine gf_X7_12 ok dX7_go_1 ?_
  refine r_iload_n ok dX7_go_4 1 rfl ?_
  refine cl_X7_139 ok isW_0 dX7_go_5 (by decide) (Nat.le_of_ble_eq_true rfl) h (fun r2 S1 h => ?_)
  refine r_if_eq (tgt := 22) ok dX7_go_8 rfl (fun hc3 => ?_) (fun hc3 => ?_)
  · replace h := h.1 hc3
    refine r_ldc (v := (-1000000001)) ok dX7_go_22 tw_k_X7_129 ?_
    exact hret _ _ _ _ dX7_go_24 h
  · replace h := h.2 hc3
    refine r_aload_n ok dX7_go_11 0 rfl ?_
    refine gf_X7_12 ok dX7_go_12 ?_
    refine r_iload_n ok dX7_go_15 2 rfl ?_
    refine cl_X7_125 ok isW_0 dX7_go_16 (by decide) (Nat.le_of_ble_eq_true rfl) h (fun r5 S4 h => ?_)
    refine r_if_ne (tgt := 25) ok dX7_go_19 rfl (fun hc6 => ?_) (fun hc6 => ?_)
    · replace h := h.1 hc6
      refine r_iload_n ok dX7_go_25 3 rfl ?_
      refine r_iconst (v := 0) ok dX7_go_26 rfl ?_
      refine r_iconst (v := 5) ok dX7_go_27 rfl ?_
      refine cl_X7_77 ok dX7_go_28 (by decide) (Nat.le_of_ble_eq_true rfl) h (fun r8 S7 h => ?_)
      refine r_if_eq (tgt := 37) ok dX7_go_31 rfl (fun hc9 => ?_) (fun hc9 => ?_)
      · replace h := h.1 hc9
        refine r_aload_n ok dX7_go_37 0 rfl ?_
        refine gf_X7_12 ok dX7_go_38 ?_
        refine r_iload_n ok dX7_go_41 1 rfl ?_
        refine r_iload_n ok dX7_go_42 2 rfl ?_
        refine r_iload_n ok dX7_go_43 3 rfl ?_
        refine cl_X7_180 ok isW_0 dX7_go_44 (by decide) (Nat.le_of_ble_eq_true rfl) h (fun r11 S10 h => ?_)
        refine r_if_ne (tgt := 53) ok dX7_go_47 rfl (fun hc12 => ?_) (fun hc12 => ?_)
        · replace h := h.1 hc12
          refine r_aload_n ok dX7_go_53 0 rfl ?_
          refine gf_X7_12 ok dX7_go_54 ?_
          refine gf_X7_160 ok isW_0 dX7_go_57 ?_
          refine r_iload_n ok dX7_go_60 1 rfl ?_
          refine r_iald ok ai_10 h.1 rfl dX7_go_61 ?_
          replace h := h.2
          refine r_ldc (v := 90000) ok dX7_go_62 tw_k_X7_183 ?_
          refine r_icmp_le (tgt := 70) ok dX7_go_64 rfl (fun hc13 => ?_) (fun hc13 => ?_)
          · replace h := h.1 hc13
            refine r_aload_n ok dX7_go_70 0 rfl ?_
            refine gf_X7_12 ok dX7_go_71 ?_
            refine r_iload_n ok dX7_go_74 1 rfl ?_
            refine r_iload_n ok dX7_go_75 2 rfl ?_
            refine r_iload_n ok dX7_go_76 3 rfl ?_
            refine cl_X7_185 ok isW_0 dX7_go_77 (by decide) (Nat.le_of_ble_eq_true rfl) h (fun S14 h => ?_)
            refine r_aload_n ok dX7_go_80 0 rfl ?_
            refine gf_X7_12 ok dX7_go_81 ?_
            refine gf_X7_160 ok isW_0 dX7_go_84 ?_
            refine r_iload_n ok dX7_go_87 1 rfl ?_
            refine r_iald ok ai_10 h.1 rfl dX7_go_88 ?_
            replace h := h.2
            exact hret _ _ _ _ dX7_go_89 h
          · replace h := h.2 hc13
            refine r_ldc (v := (-1000000004)) ok dX7_go_67 tw_k_X7_184 ?_
            exact hret _ _ _ _ dX7_go_69 h
        · replace h := h.2 hc12
          refine r_ldc (v := (-1000000003)) ok dX7_go_50 tw_k_X7_175 ?_
          exact hret _ _ _ _ dX7_go_52 h
      · replace h := h.2 hc9
        refine r_ldc (v := (-1000000002)) ok dX7_go_34 tw_k_X7_81 ?_
        exact hret _ _ _ _ dX7_go_36 h
    · replace h := h.2 hc6
      refine r_ldc (v := (-1000000001)) ok dX7_go_22 tw_k_X7_129 ?_
      exact hret _ _ _ _ dX7_go_24 h
theorem c_X7_go (l : Launch) (G : Gx) {x1 x2 x3 : Int32} {S : St} {post : Int32 → St → Prop} (h : wp_X7_go x1 x2 x3 S post) : MtI l yX7_go cX7_go 4 (some .int) 3 73 G [.ref (G.2.2 44), .int x1, .int x2, .int x3] S post :=
  ctI (by decide) rfl (Nat.le_of_ble_eq_true rfl) (fun X _ hG ok hret => by subst hG; exact w_wp_X7_go ok hret h)

/-! HasteRoads.await(II)I -/
theorem dX7_await_0 : decode cX7_await 0 = .ok (.aload_n 0, 1) := by decide +kernel
theorem dX7_await_1 : decode cX7_await 1 = .ok (.getfield 12, 3) := by decide +kernel
theorem dX7_await_4 : decode cX7_await 4 = .ok (.iload_n 1, 1) := by decide +kernel
theorem dX7_await_5 : decode cX7_await 5 = .ok (.invokevirtual 139, 3) := by decide +kernel
theorem dX7_await_8 : decode cX7_await 8 = .ok (.ifCond .ne 6, 3) := by decide +kernel
theorem dX7_await_11 : decode cX7_await 11 = .ok (.ldc 129, 2) := by decide +kernel
theorem dX7_await_13 : decode cX7_await 13 = .ok (.ireturn, 1) := by decide +kernel
theorem dX7_await_14 : decode cX7_await 14 = .ok (.iload_n 2, 1) := by decide +kernel
theorem dX7_await_15 : decode cX7_await 15 = .ok (.iconst 1, 1) := by decide +kernel
theorem dX7_await_16 : decode cX7_await 16 = .ok (.sipush 999, 3) := by decide +kernel
theorem dX7_await_19 : decode cX7_await 19 = .ok (.invokestatic 77, 3) := by decide +kernel
theorem dX7_await_22 : decode cX7_await 22 = .ok (.ifCond .eq 6, 3) := by decide +kernel
theorem dX7_await_25 : decode cX7_await 25 = .ok (.ldc 81, 2) := by decide +kernel
theorem dX7_await_27 : decode cX7_await 27 = .ok (.ireturn, 1) := by decide +kernel
theorem dX7_await_28 : decode cX7_await 28 = .ok (.aload_n 0, 1) := by decide +kernel
theorem dX7_await_29 : decode cX7_await 29 = .ok (.getfield 12, 3) := by decide +kernel
theorem dX7_await_32 : decode cX7_await 32 = .ok (.getfield 160, 3) := by decide +kernel
theorem dX7_await_35 : decode cX7_await 35 = .ok (.iload_n 1, 1) := by decide +kernel
theorem dX7_await_36 : decode cX7_await 36 = .ok (.iaload, 1) := by decide +kernel
theorem dX7_await_37 : decode cX7_await 37 = .ok (.ldc 183, 2) := by decide +kernel
theorem dX7_await_39 : decode cX7_await 39 = .ok (.if_icmp .le 6, 3) := by decide +kernel
theorem dX7_await_42 : decode cX7_await 42 = .ok (.ldc 184, 2) := by decide +kernel
theorem dX7_await_44 : decode cX7_await 44 = .ok (.ireturn, 1) := by decide +kernel
theorem dX7_await_45 : decode cX7_await 45 = .ok (.aload_n 0, 1) := by decide +kernel
theorem dX7_await_46 : decode cX7_await 46 = .ok (.getfield 12, 3) := by decide +kernel
theorem dX7_await_49 : decode cX7_await 49 = .ok (.iload_n 1, 1) := by decide +kernel
theorem dX7_await_50 : decode cX7_await 50 = .ok (.iload_n 2, 1) := by decide +kernel
theorem dX7_await_51 : decode cX7_await 51 = .ok (.invokevirtual 189, 3) := by decide +kernel
theorem dX7_await_54 : decode cX7_await 54 = .ok (.aload_n 0, 1) := by decide +kernel
theorem dX7_await_55 : decode cX7_await 55 = .ok (.getfield 12, 3) := by decide +kernel
theorem dX7_await_58 : decode cX7_await 58 = .ok (.getfield 160, 3) := by decide +kernel
theorem dX7_await_61 : decode cX7_await 61 = .ok (.iload_n 1, 1) := by decide +kernel
theorem dX7_await_62 : decode cX7_await 62 = .ok (.iaload, 1) := by decide +kernel
theorem dX7_await_63 : decode cX7_await 63 = .ok (.ireturn, 1) := by decide +kernel
theorem cl_X7_189 {X : Cx} {cc : ByteArray} {nL pc fr lo : Nat} {L : List (Nat × Value)} {st : List Value} {S : St} (ok : Ok X cc nL RX7 fr lo) {o : Nat} (ho : isW o) {x1 x2 : Int32} (d : decode cc pc = .ok (.invokevirtual 189, 3)) (hroom : 3 ≤ fr ∧ 66 ≤ lo) (hst : (st.map fun v => v.category).sum ≤ 8) {post : St → Prop} (h : wp_X6_rest o x1 x2 S post) (kk : ∀ S1 : St, post S1 → Wp X nL (pc + 3) L st S1) : Wp X nL pc L (.int x2 :: .int x1 :: .ref (xad X o) :: st) S :=
  r_callVv (n := 3) (f := 2) (lo1 := 44) (N := 2) (As := [.int x1, .int x2]) ok tw_in_X6 tw_im_X6_rest tw_se_X6_rest tw_co_X6_rest tw_ml_X7_189 (by decide +kernel) rfl ho.ob rfl hroom hst d rfl (c_X6_rest (xl X) (xG X) ho h) kk
def wp_X7_await (x1 : Int32) (x2 : Int32) (S : St) (post : Int32 → St → Prop) : Prop :=
  wp_X6_hasPerson 0 x1 S (fun r2 S1 => ((¬ r2 = 0 → wp_X7_outside x2 1 999 S1 (fun r5 S4 => ((r5 = 0 → vp_in x1 4 ∧ ((((S4 10 (ix x1)) ≤ 90000 → wp_X6_rest 0 x1 x2 S4 (fun S8 => vp_in x1 4 ∧ (post (S8 10 (ix x1)) S8))) ∧ (¬ (S4 10 (ix x1)) ≤ 90000 → post (-1000000004) S4)))) ∧ (¬ r5 = 0 → post (-1000000002) S4)))) ∧ (r2 = 0 → post (-1000000001) S1)))
theorem w_wp_X7_await {X : Cx} (ok : Ok X cX7_await 3 RX7 3 66) {post : Int32 → St → Prop} (hret : RetI X cX7_await 3 post) {x1 x2 : Int32} {S : St} (h : wp_X7_await x1 x2 S post) : Wp X 3 0 [(0, .ref (xad X 44)), (1, .int x1), (2, .int x2)] [] S := by
  unfold wp_X7_await at h
  refine r_aload_n ok dX7_await_0 0 rfl ?_
  refine gf_X7_12 ok dX7_await_1 ?_
  refine r_iload_n ok dX7_await_4 1 rfl ?_
  refine cl_X7_139 ok isW_0 dX7_await_5 (by decide) (Nat.le_of_ble_eq_true rfl) h (fun r2 S1 h => ?_)
  refine r_if_ne (tgt := 14) ok dX7_await_8 rfl (fun hc3 => ?_) (fun hc3 => ?_)
  · replace h := h.1 hc3
    refine r_iload_n ok dX7_await_14 2 rfl ?_
    refine r_iconst (v := 1) ok dX7_await_15 rfl ?_
    refine r_sipush (v := 999) ok dX7_await_16 rfl ?_
    refine cl_X7_77 ok dX7_await_19 (by decide) (Nat.le_of_ble_eq_true rfl) h (fun r5 S4 h => ?_)
    refine r_if_eq (tgt := 28) ok dX7_await_22 rfl (fun hc6 => ?_) (fun hc6 => ?_)
    · replace h := h.1 hc6
      refine r_aload_n ok dX7_await_28 0 rfl ?_
      refine gf_X7_12 ok dX7_await_29 ?_
      refine gf_X7_160 ok isW_0 dX7_await_32 ?_
      refine r_iload_n ok dX7_await_35 1 rfl ?_
      refine r_iald ok ai_10 h.1 rfl dX7_await_36 ?_
      replace h := h.2
      refine r_ldc (v := 90000) ok dX7_await_37 tw_k_X7_183 ?_
      refine r_icmp_le (tgt := 45) ok dX7_await_39 rfl (fun hc7 => ?_) (fun hc7 => ?_)
      · replace h := h.1 hc7
        refine r_aload_n ok dX7_await_45 0 rfl ?_
        refine gf_X7_12 ok dX7_await_46 ?_
        refine r_iload_n ok dX7_await_49 1 rfl ?_
        refine r_iload_n ok dX7_await_50 2 rfl ?_
        refine cl_X7_189 ok isW_0 dX7_await_51 (by decide) (Nat.le_of_ble_eq_true rfl) h (fun S8 h => ?_)
        refine r_aload_n ok dX7_await_54 0 rfl ?_
        refine gf_X7_12 ok dX7_await_55 ?_
        refine gf_X7_160 ok isW_0 dX7_await_58 ?_
        refine r_iload_n ok dX7_await_61 1 rfl ?_
        refine r_iald ok ai_10 h.1 rfl dX7_await_62 ?_
        replace h := h.2
        exact hret _ _ _ _ dX7_await_63 h
      · replace h := h.2 hc7
        refine r_ldc (v := (-1000000004)) ok dX7_await_42 tw_k_X7_184 ?_
        exact hret _ _ _ _ dX7_await_44 h
    · replace h := h.2 hc6
      refine r_ldc (v := (-1000000002)) ok dX7_await_25 tw_k_X7_81 ?_
      exact hret _ _ _ _ dX7_await_27 h
  · replace h := h.2 hc3
    refine r_ldc (v := (-1000000001)) ok dX7_await_11 tw_k_X7_129 ?_
    exact hret _ _ _ _ dX7_await_13 h
theorem c_X7_await (l : Launch) (G : Gx) {x1 x2 : Int32} {S : St} {post : Int32 → St → Prop} (h : wp_X7_await x1 x2 S post) : MtI l yX7_await cX7_await 3 (some .int) 3 66 G [.ref (G.2.2 44), .int x1, .int x2] S post :=
  ctI (by decide) rfl (Nat.le_of_ble_eq_true rfl) (fun X _ hG ok hret => by subst hG; exact w_wp_X7_await ok hret h)

/-! HasteRoads.load(II)I -/
theorem dX7_load_0 : decode cX7_load 0 = .ok (.aload_n 0, 1) := by decide +kernel
theorem dX7_load_1 : decode cX7_load 1 = .ok (.getfield 12, 3) := by decide +kernel
theorem dX7_load_4 : decode cX7_load 4 = .ok (.iload_n 1, 1) := by decide +kernel
theorem dX7_load_5 : decode cX7_load 5 = .ok (.invokevirtual 139, 3) := by decide +kernel
theorem dX7_load_8 : decode cX7_load 8 = .ok (.ifCond .ne 6, 3) := by decide +kernel
theorem dX7_load_11 : decode cX7_load 11 = .ok (.ldc 129, 2) := by decide +kernel
theorem dX7_load_13 : decode cX7_load 13 = .ok (.ireturn, 1) := by decide +kernel
theorem dX7_load_14 : decode cX7_load 14 = .ok (.iload_n 2, 1) := by decide +kernel
theorem dX7_load_15 : decode cX7_load 15 = .ok (.iconst 0, 1) := by decide +kernel
theorem dX7_load_16 : decode cX7_load 16 = .ok (.bipush 9, 2) := by decide +kernel
theorem dX7_load_18 : decode cX7_load 18 = .ok (.invokestatic 77, 3) := by decide +kernel
theorem dX7_load_21 : decode cX7_load 21 = .ok (.ifCond .eq 6, 3) := by decide +kernel
theorem dX7_load_24 : decode cX7_load 24 = .ok (.ldc 81, 2) := by decide +kernel
theorem dX7_load_26 : decode cX7_load 26 = .ok (.ireturn, 1) := by decide +kernel
theorem dX7_load_27 : decode cX7_load 27 = .ok (.aload_n 0, 1) := by decide +kernel
theorem dX7_load_28 : decode cX7_load 28 = .ok (.getfield 12, 3) := by decide +kernel
theorem dX7_load_31 : decode cX7_load 31 = .ok (.getfield 157, 3) := by decide +kernel
theorem dX7_load_34 : decode cX7_load 34 = .ok (.iload_n 1, 1) := by decide +kernel
theorem dX7_load_35 : decode cX7_load 35 = .ok (.iaload, 1) := by decide +kernel
theorem dX7_load_36 : decode cX7_load 36 = .ok (.istore_n 3, 1) := by decide +kernel
theorem dX7_load_37 : decode cX7_load 37 = .ok (.aload_n 0, 1) := by decide +kernel
theorem dX7_load_38 : decode cX7_load 38 = .ok (.getfield 12, 3) := by decide +kernel
theorem dX7_load_41 : decode cX7_load 41 = .ok (.getfield 157, 3) := by decide +kernel
theorem dX7_load_44 : decode cX7_load 44 = .ok (.iload_n 1, 1) := by decide +kernel
theorem dX7_load_45 : decode cX7_load 45 = .ok (.iload_n 2, 1) := by decide +kernel
theorem dX7_load_46 : decode cX7_load 46 = .ok (.iastore, 1) := by decide +kernel
theorem dX7_load_47 : decode cX7_load 47 = .ok (.iload_n 3, 1) := by decide +kernel
theorem dX7_load_48 : decode cX7_load 48 = .ok (.ireturn, 1) := by decide +kernel

def wp_X7_load (x1 : Int32) (x2 : Int32) (S : St) (post : Int32 → St → Prop) : Prop :=
  wp_X6_hasPerson 0 x1 S (fun r2 S1 => ((¬ r2 = 0 → wp_X7_outside x2 0 9 S1 (fun r5 S4 => ((r5 = 0 → vp_in x1 4 ∧ (∀ v7 : Int32, v7 = (S4 9 (ix x1)) → vp_in x1 4 ∧ (∀ S8 : St, S8 = up S4 9 (ix x1) x2 → post v7 S8))) ∧ (¬ r5 = 0 → post (-1000000002) S4)))) ∧ (r2 = 0 → post (-1000000001) S1)))
theorem w_wp_X7_load {X : Cx} (ok : Ok X cX7_load 4 RX7 1 22) {post : Int32 → St → Prop} (hret : RetI X cX7_load 4 post) {x1 x2 : Int32} {S : St} (h : wp_X7_load x1 x2 S post) : Wp X 4 0 [(0, .ref (xad X 44)), (1, .int x1), (2, .int x2)] [] S := by
  unfold wp_X7_load at h
  refine r_aload_n ok dX7_load_0 0 rfl ?_
  refine gf_X7_12 ok dX7_load_1 ?_
  refine r_iload_n ok dX7_load_4 1 rfl ?_
  refine cl_X7_139 ok isW_0 dX7_load_5 (by decide) (Nat.le_of_ble_eq_true rfl) h (fun r2 S1 h => ?_)
  refine r_if_ne (tgt := 14) ok dX7_load_8 rfl (fun hc3 => ?_) (fun hc3 => ?_)
  · replace h := h.1 hc3
    refine r_iload_n ok dX7_load_14 2 rfl ?_
    refine r_iconst (v := 0) ok dX7_load_15 rfl ?_
    refine r_bipush (v := 9) ok dX7_load_16 rfl ?_
    refine cl_X7_77 ok dX7_load_18 (by decide) (Nat.le_of_ble_eq_true rfl) h (fun r5 S4 h => ?_)
    refine r_if_eq (tgt := 27) ok dX7_load_21 rfl (fun hc6 => ?_) (fun hc6 => ?_)
    · replace h := h.1 hc6
      refine r_aload_n ok dX7_load_27 0 rfl ?_
      refine gf_X7_12 ok dX7_load_28 ?_
      refine gf_X7_157 ok isW_0 dX7_load_31 ?_
      refine r_iload_n ok dX7_load_34 1 rfl ?_
      refine r_iald ok ai_9 h.1 rfl dX7_load_35 ?_
      replace h := h.2
      refine r_top (fun v7 ev7 => ?_)
      replace h := h v7 ev7
      refine r_istore_n ok dX7_load_36 (by decide) [(0, .ref (xad X 44)), (1, .int x1), (2, .int x2), (3, .int v7)] [1, 2, 3, 0] rfl ?_
      refine r_aload_n ok dX7_load_37 0 rfl ?_
      refine gf_X7_12 ok dX7_load_38 ?_
      refine gf_X7_157 ok isW_0 dX7_load_41 ?_
      refine r_iload_n ok dX7_load_44 1 rfl ?_
      refine r_iload_n ok dX7_load_45 2 rfl ?_
      have hi9 := h.1
      replace h := h.2
      refine r_iast ok ai_9 hi9 rfl dX7_load_46 (fun S8 eS8 => ?_)
      replace h := h S8 eS8
      refine r_iload_n ok dX7_load_47 3 rfl ?_
      exact hret _ _ _ _ dX7_load_48 h
    · replace h := h.2 hc6
      refine r_ldc (v := (-1000000002)) ok dX7_load_24 tw_k_X7_81 ?_
      exact hret _ _ _ _ dX7_load_26 h
  · replace h := h.2 hc3
    refine r_ldc (v := (-1000000001)) ok dX7_load_11 tw_k_X7_129 ?_
    exact hret _ _ _ _ dX7_load_13 h
theorem c_X7_load (l : Launch) (G : Gx) {x1 x2 : Int32} {S : St} {post : Int32 → St → Prop} (h : wp_X7_load x1 x2 S post) : MtI l yX7_load cX7_load 4 (some .int) 1 22 G [.ref (G.2.2 44), .int x1, .int x2] S post :=
  ctI (by decide) rfl (Nat.le_of_ble_eq_true rfl) (fun X _ hG ok hret => by subst hG; exact w_wp_X7_load ok hret h)

/-! HasteRoads.inn(IZ)I -/
theorem dX7_inn_0 : decode cX7_inn 0 = .ok (.aload_n 0, 1) := by decide +kernel
theorem dX7_inn_1 : decode cX7_inn 1 = .ok (.getfield 12, 3) := by decide +kernel
theorem dX7_inn_4 : decode cX7_inn 4 = .ok (.iload_n 1, 1) := by decide +kernel
theorem dX7_inn_5 : decode cX7_inn 5 = .ok (.invokevirtual 167, 3) := by decide +kernel
theorem dX7_inn_8 : decode cX7_inn 8 = .ok (.ifCond .ne 6, 3) := by decide +kernel
theorem dX7_inn_11 : decode cX7_inn 11 = .ok (.ldc 129, 2) := by decide +kernel
theorem dX7_inn_13 : decode cX7_inn 13 = .ok (.ireturn, 1) := by decide +kernel
theorem dX7_inn_14 : decode cX7_inn 14 = .ok (.aload_n 0, 1) := by decide +kernel
theorem dX7_inn_15 : decode cX7_inn 15 = .ok (.getfield 12, 3) := by decide +kernel
theorem dX7_inn_18 : decode cX7_inn 18 = .ok (.getfield 119, 3) := by decide +kernel
theorem dX7_inn_21 : decode cX7_inn 21 = .ok (.iload_n 1, 1) := by decide +kernel
theorem dX7_inn_22 : decode cX7_inn 22 = .ok (.ishr, 1) := by decide +kernel
theorem dX7_inn_23 : decode cX7_inn 23 = .ok (.iconst 1, 1) := by decide +kernel
theorem dX7_inn_24 : decode cX7_inn 24 = .ok (.iand, 1) := by decide +kernel
theorem dX7_inn_25 : decode cX7_inn 25 = .ok (.istore_n 3, 1) := by decide +kernel
theorem dX7_inn_26 : decode cX7_inn 26 = .ok (.aload_n 0, 1) := by decide +kernel
theorem dX7_inn_27 : decode cX7_inn 27 = .ok (.getfield 12, 3) := by decide +kernel
theorem dX7_inn_30 : decode cX7_inn 30 = .ok (.aload_n 0, 1) := by decide +kernel
theorem dX7_inn_31 : decode cX7_inn 31 = .ok (.getfield 12, 3) := by decide +kernel
theorem dX7_inn_34 : decode cX7_inn 34 = .ok (.getfield 119, 3) := by decide +kernel
theorem dX7_inn_37 : decode cX7_inn 37 = .ok (.iload_n 1, 1) := by decide +kernel
theorem dX7_inn_38 : decode cX7_inn 38 = .ok (.iload_n 2, 1) := by decide +kernel
theorem dX7_inn_39 : decode cX7_inn 39 = .ok (.invokestatic 193, 3) := by decide +kernel
theorem dX7_inn_42 : decode cX7_inn 42 = .ok (.putfield 119, 3) := by decide +kernel
theorem dX7_inn_45 : decode cX7_inn 45 = .ok (.iload_n 3, 1) := by decide +kernel
theorem dX7_inn_46 : decode cX7_inn 46 = .ok (.ireturn, 1) := by decide +kernel
theorem pf_X7_119 {X : Cx} {cc : ByteArray} {nL pc fr lo : Nat} {L : List (Nat × Value)} {st : List Value} {S : St} {v : Int32} (ok : Ok X cc nL RX7 fr lo) {o : Nat} (ho : isW o) (d : decode cc pc = .ok (.putfield 119, 3)) (k : ∀ S1 : St, S1 = up S o 3 v → Wp X nL (pc + 3) L st S1) : Wp X nL pc L (.int v :: .ref (xad X o) :: st) S :=
  r_put (C := RX6) (T := TX6) ok ho.ob rfl i_X6 tyX6 tyX6_ok nmX6 3 (by decide) tw_fl_X7_119 rfl rfl (ho.ri 3 (by decide)) d (k _ rfl)
theorem cl_X7_193 {X : Cx} {cc : ByteArray} {nL pc fr lo : Nat} {L : List (Nat × Value)} {st : List Value} {S : St} (ok : Ok X cc nL RX7 fr lo) {x0 x1 x2 : Int32} (d : decode cc pc = .ok (.invokestatic 193, 3)) (hroom : 1 ≤ fr ∧ 22 ≤ lo) (hst : (st.map fun v => v.category).sum ≤ 8) {post : Int32 → St → Prop} (h : wp_X7_withBit x0 x1 x2 S post) (kk : ∀ (r : Int32) (S1 : St), post r S1 → Wp X nL (pc + 3) L (.int r :: st) S1) : Wp X nL pc L (.int x2 :: .int x1 :: .int x0 :: st) S :=
  r_callSi (n := 3) (f := 0) (lo1 := 0) (N := 3) (As := [.int x0, .int x1, .int x2]) ok tw_in_X7 tw_st_X7_withBit tw_co_X7_withBit tw_ml_X7_193 (by decide +kernel) rfl hroom hst d rfl (c_X7_withBit (xl X) (xG X) h) kk
def wp_X7_inn (x1 : Int32) (x2 : Int32) (S : St) (post : Int32 → St → Prop) : Prop :=
  wp_X6_hasPlace 0 x1 S (fun r2 S1 => ((¬ r2 = 0 → ∀ v4 : Int32, v4 = (((S1 0 3) >>> (x1 &&& 31)) &&& 1) → wp_X7_withBit (S1 0 3) x1 x2 S1 (fun r6 S5 => ∀ S7 : St, S7 = up S5 0 3 r6 → post v4 S7)) ∧ (r2 = 0 → post (-1000000001) S1)))
theorem w_wp_X7_inn {X : Cx} (ok : Ok X cX7_inn 4 RX7 1 22) {post : Int32 → St → Prop} (hret : RetI X cX7_inn 4 post) {x1 x2 : Int32} {S : St} (h : wp_X7_inn x1 x2 S post) : Wp X 4 0 [(0, .ref (xad X 44)), (1, .int x1), (2, .int x2)] [] S := by
  unfold wp_X7_inn at h
  refine r_aload_n ok dX7_inn_0 0 rfl ?_
  refine gf_X7_12 ok dX7_inn_1 ?_
  refine r_iload_n ok dX7_inn_4 1 rfl ?_
  refine cl_X7_167 ok isW_0 dX7_inn_5 (by decide) (Nat.le_of_ble_eq_true rfl) h (fun r2 S1 h => ?_)
  refine r_if_ne (tgt := 14) ok dX7_inn_8 rfl (fun hc3 => ?_) (fun hc3 => ?_)
  · replace h := h.1 hc3
    refine r_aload_n ok dX7_inn_14 0 rfl ?_
    refine gf_X7_12 ok dX7_inn_15 ?_
    refine gf_X7_119 ok isW_0 dX7_inn_18 ?_
    refine r_iload_n ok dX7_inn_21 1 rfl ?_
    refine r_ishr ok dX7_inn_22 ?_
    refine r_iconst (v := 1) ok dX7_inn_23 rfl ?_
    refine r_iand ok dX7_inn_24 ?_
    refine r_top (fun v4 ev4 => ?_)
    replace h := h v4 ev4
    refine r_istore_n ok dX7_inn_25 (by decide) [(0, .ref (xad X 44)), (1, .int x1), (2, .int x2), (3, .int v4)] [1, 2, 3, 0] rfl ?_
    refine r_aload_n ok dX7_inn_26 0 rfl ?_
    refine gf_X7_12 ok dX7_inn_27 ?_
    refine r_aload_n ok dX7_inn_30 0 rfl ?_
    refine gf_X7_12 ok dX7_inn_31 ?_
    refine gf_X7_119 ok isW_0 dX7_inn_34 ?_
    refine r_iload_n ok dX7_inn_37 1 rfl ?_
    refine r_iload_n ok dX7_inn_38 2 rfl ?_
    refine cl_X7_193 ok dX7_inn_39 (by decide) (Nat.le_of_ble_eq_true rfl) h (fun r6 S5 h => ?_)
    refine pf_X7_119 ok isW_0 dX7_inn_42 (fun S7 eS7 => ?_)
    replace h := h S7 eS7
    refine r_iload_n ok dX7_inn_45 3 rfl ?_
    exact hret _ _ _ _ dX7_inn_46 h
  · replace h := h.2 hc3
    refine r_ldc (v := (-1000000001)) ok dX7_inn_11 tw_k_X7_129 ?_
    exact hret _ _ _ _ dX7_inn_13 h
theorem c_X7_inn (l : Launch) (G : Gx) {x1 x2 : Int32} {S : St} {post : Int32 → St → Prop} (h : wp_X7_inn x1 x2 S post) : MtI l yX7_inn cX7_inn 4 (some .int) 1 22 G [.ref (G.2.2 44), .int x1, .int x2] S post :=
  ctI (by decide) rfl (Nat.le_of_ble_eq_true rfl) (fun X _ hG ok hret => by subst hG; exact w_wp_X7_inn ok hret h)

/-! HasteRoads.clock(IZ)I -/
theorem dX7_clock_0 : decode cX7_clock 0 = .ok (.aload_n 0, 1) := by decide +kernel
theorem dX7_clock_1 : decode cX7_clock 1 = .ok (.getfield 12, 3) := by decide +kernel
theorem dX7_clock_4 : decode cX7_clock 4 = .ok (.iload_n 1, 1) := by decide +kernel
theorem dX7_clock_5 : decode cX7_clock 5 = .ok (.invokevirtual 167, 3) := by decide +kernel
theorem dX7_clock_8 : decode cX7_clock 8 = .ok (.ifCond .ne 6, 3) := by decide +kernel
theorem dX7_clock_11 : decode cX7_clock 11 = .ok (.ldc 129, 2) := by decide +kernel
theorem dX7_clock_13 : decode cX7_clock 13 = .ok (.ireturn, 1) := by decide +kernel
theorem dX7_clock_14 : decode cX7_clock 14 = .ok (.aload_n 0, 1) := by decide +kernel
theorem dX7_clock_15 : decode cX7_clock 15 = .ok (.getfield 12, 3) := by decide +kernel
theorem dX7_clock_18 : decode cX7_clock 18 = .ok (.getfield 122, 3) := by decide +kernel
theorem dX7_clock_21 : decode cX7_clock 21 = .ok (.iload_n 1, 1) := by decide +kernel
theorem dX7_clock_22 : decode cX7_clock 22 = .ok (.ishr, 1) := by decide +kernel
theorem dX7_clock_23 : decode cX7_clock 23 = .ok (.iconst 1, 1) := by decide +kernel
theorem dX7_clock_24 : decode cX7_clock 24 = .ok (.iand, 1) := by decide +kernel
theorem dX7_clock_25 : decode cX7_clock 25 = .ok (.istore_n 3, 1) := by decide +kernel
theorem dX7_clock_26 : decode cX7_clock 26 = .ok (.aload_n 0, 1) := by decide +kernel
theorem dX7_clock_27 : decode cX7_clock 27 = .ok (.getfield 12, 3) := by decide +kernel
theorem dX7_clock_30 : decode cX7_clock 30 = .ok (.aload_n 0, 1) := by decide +kernel
theorem dX7_clock_31 : decode cX7_clock 31 = .ok (.getfield 12, 3) := by decide +kernel
theorem dX7_clock_34 : decode cX7_clock 34 = .ok (.getfield 122, 3) := by decide +kernel
theorem dX7_clock_37 : decode cX7_clock 37 = .ok (.iload_n 1, 1) := by decide +kernel
theorem dX7_clock_38 : decode cX7_clock 38 = .ok (.iload_n 2, 1) := by decide +kernel
theorem dX7_clock_39 : decode cX7_clock 39 = .ok (.invokestatic 193, 3) := by decide +kernel
theorem dX7_clock_42 : decode cX7_clock 42 = .ok (.putfield 122, 3) := by decide +kernel
theorem dX7_clock_45 : decode cX7_clock 45 = .ok (.iload_n 3, 1) := by decide +kernel
theorem dX7_clock_46 : decode cX7_clock 46 = .ok (.ireturn, 1) := by decide +kernel
theorem pf_X7_122 {X : Cx} {cc : ByteArray} {nL pc fr lo : Nat} {L : List (Nat × Value)} {st : List Value} {S : St} {v : Int32} (ok : Ok X cc nL RX7 fr lo) {o : Nat} (ho : isW o) (d : decode cc pc = .ok (.putfield 122, 3)) (k : ∀ S1 : St, S1 = up S o 4 v → Wp X nL (pc + 3) L st S1) : Wp X nL pc L (.int v :: .ref (xad X o) :: st) S :=
  r_put (C := RX6) (T := TX6) ok ho.ob rfl i_X6 tyX6 tyX6_ok nmX6 4 (by decide) tw_fl_X7_122 rfl rfl (ho.ri 4 (by decide)) d (k _ rfl)
def wp_X7_clock (x1 : Int32) (x2 : Int32) (S : St) (post : Int32 → St → Prop) : Prop :=
  wp_X6_hasPlace 0 x1 S (fun r2 S1 => ((¬ r2 = 0 → ∀ v4 : Int32, v4 = (((S1 0 4) >>> (x1 &&& 31)) &&& 1) → wp_X7_withBit (S1 0 4) x1 x2 S1 (fun r6 S5 => ∀ S7 : St, S7 = up S5 0 4 r6 → post v4 S7)) ∧ (r2 = 0 → post (-1000000001) S1)))
theorem w_wp_X7_clock {X : Cx} (ok : Ok X cX7_clock 4 RX7 1 22) {post : Int32 → St → Prop} (hret : RetI X cX7_clock 4 post) {x1 x2 : Int32} {S : St} (h : wp_X7_clock x1 x2 S post) : Wp X 4 0 [(0, .ref (xad X 44)), (1, .int x1), (2, .int x2)] [] S := by
  unfold wp_X7_clock at h
  refine r_aload_n ok dX7_clock_0 0 rfl ?_
  refine gf_X7_12 ok dX7_clock_1 ?_
  refine r_iload_n ok dX7_clock_4 1 rfl ?_
  refine cl_X7_167 ok isW_0 dX7_clock_5 (by decide) (Nat.le_of_ble_eq_true rfl) h (fun r2 S1 h => ?_)
  refine r_if_ne (tgt := 14) ok dX7_clock_8 rfl (fun hc3 => ?_) (fun hc3 => ?_)
  · replace h := h.1 hc3
    refine r_aload_n ok dX7_clock_14 0 rfl ?_
    refine gf_X7_12 ok dX7_clock_15 ?_
    refine gf_X7_122 ok isW_0 dX7_clock_18 ?_
    refine r_iload_n ok dX7_clock_21 1 rfl ?_
    refine r_ishr ok dX7_clock_22 ?_
    refine r_iconst (v := 1) ok dX7_clock_23 rfl ?_
    refine r_iand ok dX7_clock_24 ?_
    refine r_top (fun v4 ev4 => ?_)
    replace h := h v4 ev4
    refine r_istore_n ok dX7_clock_25 (by decide) [(0, .ref (xad X 44)), (1, .int x1), (2, .int x2), (3, .int v4)] [1, 2, 3, 0] rfl ?_
    refine r_aload_n ok dX7_clock_26 0 rfl ?_
    refine gf_X7_12 ok dX7_clock_27 ?_
    refine r_aload_n ok dX7_clock_30 0 rfl ?_
    refine gf_X7_12 ok dX7_clock_31 ?_
    refine gf_X7_122 ok isW_0 dX7_clock_34 ?_
    refine r_iload_n ok dX7_clock_37 1 rfl ?_
    refine r_iload_n ok dX7_clock_38 2 rfl ?_
    refine cl_X7_193 ok dX7_clock_39 (by decide) (Nat.le_of_ble_eq_true rfl) h (fun r6 S5 h => ?_)
    refine pf_X7_122 ok isW_0 dX7_clock_42 (fun S7 eS7 => ?_)
    replace h := h S7 eS7
    refine r_iload_n ok dX7_clock_45 3 rfl ?_
    exact hret _ _ _ _ dX7_clock_46 h
  · replace h := h.2 hc3
    refine r_ldc (v := (-1000000001)) ok dX7_clock_11 tw_k_X7_129 ?_
    exact hret _ _ _ _ dX7_clock_13 h
theorem c_X7_clock (l : Launch) (G : Gx) {x1 x2 : Int32} {S : St} {post : Int32 → St → Prop} (h : wp_X7_clock x1 x2 S post) : MtI l yX7_clock cX7_clock 4 (some .int) 1 22 G [.ref (G.2.2 44), .int x1, .int x2] S post :=
  ctI (by decide) rfl (Nat.le_of_ble_eq_true rfl) (fun X _ hG ok hret => by subst hG; exact w_wp_X7_clock ok hret h)

/-! HasteRoads.miles(II)I -/
theorem dX7_miles_0 : decode cX7_miles 0 = .ok (.aload_n 0, 1) := by decide +kernel
theorem dX7_miles_1 : decode cX7_miles 1 = .ok (.getfield 12, 3) := by decide +kernel
theorem dX7_miles_4 : decode cX7_miles 4 = .ok (.iload_n 1, 1) := by decide +kernel
theorem dX7_miles_5 : decode cX7_miles 5 = .ok (.invokevirtual 125, 3) := by decide +kernel
theorem dX7_miles_8 : decode cX7_miles 8 = .ok (.ifCond .ne 6, 3) := by decide +kernel
theorem dX7_miles_11 : decode cX7_miles 11 = .ok (.ldc 129, 2) := by decide +kernel
theorem dX7_miles_13 : decode cX7_miles 13 = .ok (.ireturn, 1) := by decide +kernel
theorem dX7_miles_14 : decode cX7_miles 14 = .ok (.iload_n 2, 1) := by decide +kernel
theorem dX7_miles_15 : decode cX7_miles 15 = .ok (.iconst 1, 1) := by decide +kernel
theorem dX7_miles_16 : decode cX7_miles 16 = .ok (.bipush 20, 2) := by decide +kernel
theorem dX7_miles_18 : decode cX7_miles 18 = .ok (.invokestatic 77, 3) := by decide +kernel
theorem dX7_miles_21 : decode cX7_miles 21 = .ok (.ifCond .eq 6, 3) := by decide +kernel
theorem dX7_miles_24 : decode cX7_miles 24 = .ok (.ldc 81, 2) := by decide +kernel
theorem dX7_miles_26 : decode cX7_miles 26 = .ok (.ireturn, 1) := by decide +kernel
theorem dX7_miles_27 : decode cX7_miles 27 = .ok (.aload_n 0, 1) := by decide +kernel
theorem dX7_miles_28 : decode cX7_miles 28 = .ok (.getfield 12, 3) := by decide +kernel
theorem dX7_miles_31 : decode cX7_miles 31 = .ok (.getfield 136, 3) := by decide +kernel
theorem dX7_miles_34 : decode cX7_miles 34 = .ok (.iload_n 1, 1) := by decide +kernel
theorem dX7_miles_35 : decode cX7_miles 35 = .ok (.iaload, 1) := by decide +kernel
theorem dX7_miles_36 : decode cX7_miles 36 = .ok (.istore_n 3, 1) := by decide +kernel
theorem dX7_miles_37 : decode cX7_miles 37 = .ok (.aload_n 0, 1) := by decide +kernel
theorem dX7_miles_38 : decode cX7_miles 38 = .ok (.getfield 12, 3) := by decide +kernel
theorem dX7_miles_41 : decode cX7_miles 41 = .ok (.getfield 136, 3) := by decide +kernel
theorem dX7_miles_44 : decode cX7_miles 44 = .ok (.iload_n 1, 1) := by decide +kernel
theorem dX7_miles_45 : decode cX7_miles 45 = .ok (.iload_n 2, 1) := by decide +kernel
theorem dX7_miles_46 : decode cX7_miles 46 = .ok (.iastore, 1) := by decide +kernel
theorem dX7_miles_47 : decode cX7_miles 47 = .ok (.iload_n 3, 1) := by decide +kernel
theorem dX7_miles_48 : decode cX7_miles 48 = .ok (.ireturn, 1) := by decide +kernel

def wp_X7_miles (x1 : Int32) (x2 : Int32) (S : St) (post : Int32 → St → Prop) : Prop :=
  wp_X6_hasRoad 0 x1 S (fun r2 S1 => ((¬ r2 = 0 → wp_X7_outside x2 1 20 S1 (fun r5 S4 => ((r5 = 0 → vp_in x1 9 ∧ (∀ v7 : Int32, v7 = (S4 3 (ix x1)) → vp_in x1 9 ∧ (∀ S8 : St, S8 = up S4 3 (ix x1) x2 → post v7 S8))) ∧ (¬ r5 = 0 → post (-1000000002) S4)))) ∧ (r2 = 0 → post (-1000000001) S1)))
theorem w_wp_X7_miles {X : Cx} (ok : Ok X cX7_miles 4 RX7 1 22) {post : Int32 → St → Prop} (hret : RetI X cX7_miles 4 post) {x1 x2 : Int32} {S : St} (h : wp_X7_miles x1 x2 S post) : Wp X 4 0 [(0, .ref (xad X 44)), (1, .int x1), (2, .int x2)] [] S := by
  unfold wp_X7_miles at h
  refine r_aload_n ok dX7_miles_0 0 rfl ?_
  refine gf_X7_12 ok dX7_miles_1 ?_
  refine r_iload_n ok dX7_miles_4 1 rfl ?_
  refine cl_X7_125 ok isW_0 dX7_miles_5 (by decide) (Nat.le_of_ble_eq_true rfl) h (fun r2 S1 h => ?_)
  refine r_if_ne (tgt := 14) ok dX7_miles_8 rfl (fun hc3 => ?_) (fun hc3 => ?_)
  · replace h := h.1 hc3
    refine r_iload_n ok dX7_miles_14 2 rfl ?_
    refine r_iconst (v := 1) ok dX7_miles_15 rfl ?_
    refine r_bipush (v := 20) ok dX7_miles_16 rfl ?_
    refine cl_X7_77 ok dX7_miles_18 (by decide) (Nat.le_of_ble_eq_true rfl) h (fun r5 S4 h => ?_)
    refine r_if_eq (tgt := 27) ok dX7_miles_21 rfl (fun hc6 => ?_) (fun hc6 => ?_)
    · replace h := h.1 hc6
      refine r_aload_n ok dX7_miles_27 0 rfl ?_
      refine gf_X7_12 ok dX7_miles_28 ?_
      refine gf_X7_136 ok isW_0 dX7_miles_31 ?_
      refine r_iload_n ok dX7_miles_34 1 rfl ?_
      refine r_iald ok ai_3 h.1 rfl dX7_miles_35 ?_
      replace h := h.2
      refine r_top (fun v7 ev7 => ?_)
      replace h := h v7 ev7
      refine r_istore_n ok dX7_miles_36 (by decide) [(0, .ref (xad X 44)), (1, .int x1), (2, .int x2), (3, .int v7)] [1, 2, 3, 0] rfl ?_
      refine r_aload_n ok dX7_miles_37 0 rfl ?_
      refine gf_X7_12 ok dX7_miles_38 ?_
      refine gf_X7_136 ok isW_0 dX7_miles_41 ?_
      refine r_iload_n ok dX7_miles_44 1 rfl ?_
      refine r_iload_n ok dX7_miles_45 2 rfl ?_
      have hi9 := h.1
      replace h := h.2
      refine r_iast ok ai_3 hi9 rfl dX7_miles_46 (fun S8 eS8 => ?_)
      replace h := h S8 eS8
      refine r_iload_n ok dX7_miles_47 3 rfl ?_
      exact hret _ _ _ _ dX7_miles_48 h
    · replace h := h.2 hc6
      refine r_ldc (v := (-1000000002)) ok dX7_miles_24 tw_k_X7_81 ?_
      exact hret _ _ _ _ dX7_miles_26 h
  · replace h := h.2 hc3
    refine r_ldc (v := (-1000000001)) ok dX7_miles_11 tw_k_X7_129 ?_
    exact hret _ _ _ _ dX7_miles_13 h
theorem c_X7_miles (l : Launch) (G : Gx) {x1 x2 : Int32} {S : St} {post : Int32 → St → Prop} (h : wp_X7_miles x1 x2 S post) : MtI l yX7_miles cX7_miles 4 (some .int) 1 22 G [.ref (G.2.2 44), .int x1, .int x2] S post :=
  ctI (by decide) rfl (Nat.le_of_ble_eq_true rfl) (fun X _ hG ok hret => by subst hG; exact w_wp_X7_miles ok hret h)

/-! HasteRoads.drift(I)I -/
theorem dX7_drift_0 : decode cX7_drift 0 = .ok (.iload_n 1, 1) := by decide +kernel
theorem dX7_drift_1 : decode cX7_drift 1 = .ok (.iconst 1, 1) := by decide +kernel
theorem dX7_drift_2 : decode cX7_drift 2 = .ok (.bipush 99, 2) := by decide +kernel
theorem dX7_drift_4 : decode cX7_drift 4 = .ok (.invokestatic 77, 3) := by decide +kernel
theorem dX7_drift_7 : decode cX7_drift 7 = .ok (.ifCond .eq 6, 3) := by decide +kernel
theorem dX7_drift_10 : decode cX7_drift 10 = .ok (.ldc 81, 2) := by decide +kernel
theorem dX7_drift_12 : decode cX7_drift 12 = .ok (.ireturn, 1) := by decide +kernel
theorem dX7_drift_13 : decode cX7_drift 13 = .ok (.aload_n 0, 1) := by decide +kernel
theorem dX7_drift_14 : decode cX7_drift 14 = .ok (.getfield 12, 3) := by decide +kernel
theorem dX7_drift_17 : decode cX7_drift 17 = .ok (.getfield 113, 3) := by decide +kernel
theorem dX7_drift_20 : decode cX7_drift 20 = .ok (.ifCond .ne 6, 3) := by decide +kernel
theorem dX7_drift_23 : decode cX7_drift 23 = .ok (.ldc 175, 2) := by decide +kernel
theorem dX7_drift_25 : decode cX7_drift 25 = .ok (.ireturn, 1) := by decide +kernel
theorem dX7_drift_26 : decode cX7_drift 26 = .ok (.iconst 0, 1) := by decide +kernel
theorem dX7_drift_27 : decode cX7_drift 27 = .ok (.istore_n 2, 1) := by decide +kernel
theorem dX7_drift_28 : decode cX7_drift 28 = .ok (.iload_n 2, 1) := by decide +kernel
theorem dX7_drift_29 : decode cX7_drift 29 = .ok (.iload_n 1, 1) := by decide +kernel
theorem dX7_drift_30 : decode cX7_drift 30 = .ok (.if_icmp .ge 16, 3) := by decide +kernel
theorem dX7_drift_33 : decode cX7_drift 33 = .ok (.aload_n 0, 1) := by decide +kernel
theorem dX7_drift_34 : decode cX7_drift 34 = .ok (.getfield 12, 3) := by decide +kernel
theorem dX7_drift_37 : decode cX7_drift 37 = .ok (.invokevirtual 197, 3) := by decide +kernel
theorem dX7_drift_40 : decode cX7_drift 40 = .ok (.iinc 2 1, 3) := by decide +kernel
theorem dX7_drift_43 : decode cX7_drift 43 = .ok (.goto (-15), 3) := by decide +kernel
theorem dX7_drift_46 : decode cX7_drift 46 = .ok (.aload_n 0, 1) := by decide +kernel
theorem dX7_drift_47 : decode cX7_drift 47 = .ok (.getfield 12, 3) := by decide +kernel
theorem dX7_drift_50 : decode cX7_drift 50 = .ok (.invokevirtual 200, 3) := by decide +kernel
theorem dX7_drift_53 : decode cX7_drift 53 = .ok (.ireturn, 1) := by decide +kernel
theorem cl_X7_197 {X : Cx} {cc : ByteArray} {nL pc fr lo : Nat} {L : List (Nat × Value)} {st : List Value} {S : St} (ok : Ok X cc nL RX7 fr lo) {o : Nat} (ho : isW o) (d : decode cc pc = .ok (.invokevirtual 197, 3)) (hroom : 4 ≤ fr ∧ 97 ≤ lo) (hst : (st.map fun v => v.category).sum ≤ 8) {post : St → Prop} (h : wp_X6_wander o S post) (kk : ∀ S1 : St, post S1 → Wp X nL (pc + 3) L st S1) : Wp X nL pc L (.ref (xad X o) :: st) S :=
  r_callVv (n := 5) (f := 3) (lo1 := 73) (N := 0) (As := []) ok tw_in_X6 tw_im_X6_wander tw_se_X6_wander tw_co_X6_wander tw_ml_X7_197 (by decide +kernel) rfl ho.ob rfl hroom hst d rfl (c_X6_wander (xl X) (xG X) ho h) kk
theorem cl_X7_200 {X : Cx} {cc : ByteArray} {nL pc fr lo : Nat} {L : List (Nat × Value)} {st : List Value} {S : St} (ok : Ok X cc nL RX7 fr lo) {o : Nat} (ho : isW o) (d : decode cc pc = .ok (.invokevirtual 200, 3)) (hroom : 2 ≤ fr ∧ 43 ≤ lo) (hst : (st.map fun v => v.category).sum ≤ 8) {post : Int32 → St → Prop} (h : wp_X6_greatestMinute o S post) (kk : ∀ (r : Int32) (S1 : St), post r S1 → Wp X nL (pc + 3) L (.int r :: st) S1) : Wp X nL pc L (.ref (xad X o) :: st) S :=
  r_callVi (n := 3) (f := 1) (lo1 := 21) (N := 0) (As := []) ok tw_in_X6 tw_im_X6_greatestMinute tw_se_X6_greatestMinute tw_co_X6_greatestMinute tw_ml_X7_200 (by decide +kernel) rfl ho.ob rfl hroom hst d rfl (c_X6_greatestMinute (xl X) (xG X) ho h) kk
def B_X7_drift_46 (post : Int32 → St → Prop) (S : St) : Prop :=
  wp_X6_greatestMinute 0 S (fun r2 S1 => post r2 S1)
def BD_X7_drift_28 (k28 : Int32 → Int32 → St → Prop) (post : Int32 → St → Prop) (x1 : Int32) (x2 : Int32) (S : St) : Prop :=
  ((x1 ≤ x2 → B_X7_drift_46 post S) ∧ (¬ x1 ≤ x2 → wp_X6_wander 0 S (fun S2 => k28 x1 (x2 + 1) S2)))
def L_X7_drift_28 (post : Int32 → St → Prop) (n : Nat) : Int32 → Int32 → St → Prop := Nat.rec (motive := fun _ => Int32 → Int32 → St → Prop) (fun _ _ _ => False) (fun _ ih => BD_X7_drift_28 ih post) n
def B_X7_drift_28 (post : Int32 → St → Prop) (x1 : Int32) (x2 : Int32) (S : St) : Prop := ∃ n, L_X7_drift_28 post n x1 x2 S
def wp_X7_drift (x1 : Int32) (S : St) (post : Int32 → St → Prop) : Prop :=
  wp_X7_outside x1 1 99 S (fun r2 S1 => ((r2 = 0 → ((¬ (S1 0 2) = 0 → B_X7_drift_28 post x1 0 S1) ∧ ((S1 0 2) = 0 → post (-1000000003) S1))) ∧ (¬ r2 = 0 → post (-1000000002) S1)))
theorem w_B_X7_drift_46 {X : Cx} (ok : Ok X cX7_drift 3 RX7 4 97) {post : Int32 → St → Prop} (hret : RetI X cX7_drift 3 post) {S : St} (h : B_X7_drift_46 post S) : Wp X 3 46 [(0, .ref (xad X 44))] [] S := by
  unfold B_X7_drift_46 at h
  refine r_aload_n ok dX7_drift_46 0 rfl ?_
  refine gf_X7_12 ok dX7_drift_47 ?_
  refine cl_X7_200 ok isW_0 dX7_drift_50 (by decide) (Nat.le_of_ble_eq_true rfl) h (fun r2 S1 h => ?_)
  exact hret _ _ _ _ dX7_drift_53 h
theorem w_B_X7_drift_28 {X : Cx} (ok : Ok X cX7_drift 3 RX7 4 97) {post : Int32 → St → Prop} (hret : RetI X cX7_drift 3 post) {x1 x2 : Int32} {S : St} (h : B_X7_drift_28 post x1 x2 S) : Wp X 3 28 [(0, .ref (xad X 44)), (1, .int x1), (2, .int x2)] [] S := by
  obtain ⟨n, h⟩ := h
  induction n generalizing x1 x2 S with
  | zero => exact False.elim h
  | succ n ih =>
    have hk28 : ∀ x1 x2 S, L_X7_drift_28 post n x1 x2 S → Wp X 3 28 [(0, .ref (xad X 44)), (1, .int x1), (2, .int x2)] [] S := by intros; apply ih; assumption
    replace h : BD_X7_drift_28 (L_X7_drift_28 post n) post x1 x2 S := h
    unfold BD_X7_drift_28 at h
    generalize L_X7_drift_28 post n = k28 at h hk28
    refine r_iload_n ok dX7_drift_28 2 rfl ?_
    refine r_iload_n ok dX7_drift_29 1 rfl ?_
    refine r_icmp_ge (tgt := 46) ok dX7_drift_30 rfl (fun hc1 => ?_) (fun hc1 => ?_)
    · replace h := h.1 hc1
      refine r_sub [(0, .ref (xad X 44))] [0] rfl ?_
      exact w_B_X7_drift_46 ok hret h
    · replace h := h.2 hc1
      refine r_aload_n ok dX7_drift_33 0 rfl ?_
      refine gf_X7_12 ok dX7_drift_34 ?_
      refine cl_X7_197 ok isW_0 dX7_drift_37 (by decide) (Nat.le_of_ble_eq_true rfl) h (fun S2 h => ?_)
      refine r_iinc (v := x2 + 1) ok dX7_drift_40 2 rfl rfl (by decide) [(0, .ref (xad X 44)), (1, .int x1), (2, .int (x2 + 1))] [1, 2, 0] rfl ?_
      refine r_goto (tgt := 28) ok dX7_drift_43 rfl ?_
      exact hk28 _ _ _ h
theorem w_wp_X7_drift {X : Cx} (ok : Ok X cX7_drift 3 RX7 4 97) {post : Int32 → St → Prop} (hret : RetI X cX7_drift 3 post) {x1 : Int32} {S : St} (h : wp_X7_drift x1 S post) : Wp X 3 0 [(0, .ref (xad X 44)), (1, .int x1)] [] S := by
  unfold wp_X7_drift at h
  refine r_iload_n ok dX7_drift_0 1 rfl ?_
  refine r_iconst (v := 1) ok dX7_drift_1 rfl ?_
  refine r_bipush (v := 99) ok dX7_drift_2 rfl ?_
  refine cl_X7_77 ok dX7_drift_4 (by decide) (Nat.le_of_ble_eq_true rfl) h (fun r2 S1 h => ?_)
  refine r_if_eq (tgt := 13) ok dX7_drift_7 rfl (fun hc3 => ?_) (fun hc3 => ?_)
  · replace h := h.1 hc3
    refine r_aload_n ok dX7_drift_13 0 rfl ?_
    refine gf_X7_12 ok dX7_drift_14 ?_
    refine gf_X7_113 ok isW_0 dX7_drift_17 ?_
    refine r_if_ne (tgt := 26) ok dX7_drift_20 rfl (fun hc4 => ?_) (fun hc4 => ?_)
    · replace h := h.1 hc4
      refine r_iconst (v := 0) ok dX7_drift_26 rfl ?_
      refine r_istore_n ok dX7_drift_27 (by decide) [(0, .ref (xad X 44)), (1, .int x1), (2, .int 0)] [1, 2, 0] rfl ?_
      exact w_B_X7_drift_28 ok hret h
    · replace h := h.2 hc4
      refine r_ldc (v := (-1000000003)) ok dX7_drift_23 tw_k_X7_175 ?_
      exact hret _ _ _ _ dX7_drift_25 h
  · replace h := h.2 hc3
    refine r_ldc (v := (-1000000002)) ok dX7_drift_10 tw_k_X7_81 ?_
    exact hret _ _ _ _ dX7_drift_12 h
theorem c_X7_drift (l : Launch) (G : Gx) {x1 : Int32} {S : St} {post : Int32 → St → Prop} (h : wp_X7_drift x1 S post) : MtI l yX7_drift cX7_drift 3 (some .int) 4 97 G [.ref (G.2.2 44), .int x1] S post :=
  ctI (by decide) rfl (Nat.le_of_ble_eq_true rfl) (fun X _ hG ok hret => by subst hG; exact w_wp_X7_drift ok hret h)
