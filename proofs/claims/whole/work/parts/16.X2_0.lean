/-! HasteRoads$Ledger.add(IIIII)I -/
theorem dX2_add_0 : decode cX2_add 0 = .ok (.aload_n 0, 1) := by decide +kernel
theorem dX2_add_1 : decode cX2_add 1 = .ok (.getfield 27, 3) := by decide +kernel
theorem dX2_add_4 : decode cX2_add 4 = .ok (.bipush 20, 2) := by decide +kernel
theorem dX2_add_6 : decode cX2_add 6 = .ok (.if_icmp .lt 6, 3) := by decide +kernel
theorem dX2_add_9 : decode cX2_add 9 = .ok (.ldc 31, 2) := by decide +kernel
theorem dX2_add_11 : decode cX2_add 11 = .ok (.ireturn, 1) := by decide +kernel
theorem dX2_add_12 : decode cX2_add 12 = .ok (.aload_n 0, 1) := by decide +kernel
theorem dX2_add_13 : decode cX2_add 13 = .ok (.getfield 9, 3) := by decide +kernel
theorem dX2_add_16 : decode cX2_add 16 = .ok (.aload_n 0, 1) := by decide +kernel
theorem dX2_add_17 : decode cX2_add 17 = .ok (.getfield 27, 3) := by decide +kernel
theorem dX2_add_20 : decode cX2_add 20 = .ok (.iload_n 1, 1) := by decide +kernel
theorem dX2_add_21 : decode cX2_add 21 = .ok (.iastore, 1) := by decide +kernel
theorem dX2_add_22 : decode cX2_add 22 = .ok (.aload_n 0, 1) := by decide +kernel
theorem dX2_add_23 : decode cX2_add 23 = .ok (.getfield 15, 3) := by decide +kernel
theorem dX2_add_26 : decode cX2_add 26 = .ok (.aload_n 0, 1) := by decide +kernel
theorem dX2_add_27 : decode cX2_add 27 = .ok (.getfield 27, 3) := by decide +kernel
theorem dX2_add_30 : decode cX2_add 30 = .ok (.iload_n 2, 1) := by decide +kernel
theorem dX2_add_31 : decode cX2_add 31 = .ok (.iastore, 1) := by decide +kernel
theorem dX2_add_32 : decode cX2_add 32 = .ok (.aload_n 0, 1) := by decide +kernel
theorem dX2_add_33 : decode cX2_add 33 = .ok (.getfield 18, 3) := by decide +kernel
theorem dX2_add_36 : decode cX2_add 36 = .ok (.aload_n 0, 1) := by decide +kernel
theorem dX2_add_37 : decode cX2_add 37 = .ok (.getfield 27, 3) := by decide +kernel
theorem dX2_add_40 : decode cX2_add 40 = .ok (.iload_n 3, 1) := by decide +kernel
theorem dX2_add_41 : decode cX2_add 41 = .ok (.iastore, 1) := by decide +kernel
theorem dX2_add_42 : decode cX2_add 42 = .ok (.aload_n 0, 1) := by decide +kernel
theorem dX2_add_43 : decode cX2_add 43 = .ok (.getfield 21, 3) := by decide +kernel
theorem dX2_add_46 : decode cX2_add 46 = .ok (.aload_n 0, 1) := by decide +kernel
theorem dX2_add_47 : decode cX2_add 47 = .ok (.getfield 27, 3) := by decide +kernel
theorem dX2_add_50 : decode cX2_add 50 = .ok (.iload 4, 2) := by decide +kernel
theorem dX2_add_52 : decode cX2_add 52 = .ok (.iastore, 1) := by decide +kernel
theorem dX2_add_53 : decode cX2_add 53 = .ok (.aload_n 0, 1) := by decide +kernel
theorem dX2_add_54 : decode cX2_add 54 = .ok (.getfield 24, 3) := by decide +kernel
theorem dX2_add_57 : decode cX2_add 57 = .ok (.aload_n 0, 1) := by decide +kernel
theorem dX2_add_58 : decode cX2_add 58 = .ok (.getfield 27, 3) := by decide +kernel
theorem dX2_add_61 : decode cX2_add 61 = .ok (.iload 5, 2) := by decide +kernel
theorem dX2_add_63 : decode cX2_add 63 = .ok (.iastore, 1) := by decide +kernel
theorem dX2_add_64 : decode cX2_add 64 = .ok (.aload_n 0, 1) := by decide +kernel
theorem dX2_add_65 : decode cX2_add 65 = .ok (.dup, 1) := by decide +kernel
theorem dX2_add_66 : decode cX2_add 66 = .ok (.getfield 27, 3) := by decide +kernel
theorem dX2_add_69 : decode cX2_add 69 = .ok (.iconst 1, 1) := by decide +kernel
theorem dX2_add_70 : decode cX2_add 70 = .ok (.iadd, 1) := by decide +kernel
theorem dX2_add_71 : decode cX2_add 71 = .ok (.putfield 27, 3) := by decide +kernel
theorem dX2_add_74 : decode cX2_add 74 = .ok (.aload_n 0, 1) := by decide +kernel
theorem dX2_add_75 : decode cX2_add 75 = .ok (.getfield 27, 3) := by decide +kernel
theorem dX2_add_78 : decode cX2_add 78 = .ok (.ireturn, 1) := by decide +kernel
theorem gf_X2_27 {X : Cx} {cc : ByteArray} {nL pc fr lo : Nat} {L : List (Nat × Value)} {st : List Value} {S : St} (ok : Ok X cc nL RX2 fr lo) (d : decode cc pc = .ok (.getfield 27, 3)) (k : Wp X nL (pc + 3) L (.int (S 63 0) :: st) S) : Wp X nL pc L (.ref (xad X 63) :: st) S :=
  r_get (C := RX2) (T := TX2) ok ob_63 rfl i_X2 0 (by decide) tw_fl_X2_27 d (by rw [show fvl (xad X) S 63 0 = .int (S 63 0) from (fvl_int (by decide))]; exact k)
theorem gf_X2_9 {X : Cx} {cc : ByteArray} {nL pc fr lo : Nat} {L : List (Nat × Value)} {st : List Value} {S : St} (ok : Ok X cc nL RX2 fr lo) (d : decode cc pc = .ok (.getfield 9, 3)) (k : Wp X nL (pc + 3) L (.ref (xad X 64) :: st) S) : Wp X nL pc L (.ref (xad X 63) :: st) S :=
  r_get (C := RX2) (T := TX2) ok ob_63 rfl i_X2 1 (by decide) tw_fl_X2_9 d (by rw [show fvl (xad X) S 63 1 = .ref (xad X 64) from (fvl_ref (d := 64) (by decide))]; exact k)
theorem gf_X2_15 {X : Cx} {cc : ByteArray} {nL pc fr lo : Nat} {L : List (Nat × Value)} {st : List Value} {S : St} (ok : Ok X cc nL RX2 fr lo) (d : decode cc pc = .ok (.getfield 15, 3)) (k : Wp X nL (pc + 3) L (.ref (xad X 65) :: st) S) : Wp X nL pc L (.ref (xad X 63) :: st) S :=
  r_get (C := RX2) (T := TX2) ok ob_63 rfl i_X2 2 (by decide) tw_fl_X2_15 d (by rw [show fvl (xad X) S 63 2 = .ref (xad X 65) from (fvl_ref (d := 65) (by decide))]; exact k)
theorem gf_X2_18 {X : Cx} {cc : ByteArray} {nL pc fr lo : Nat} {L : List (Nat × Value)} {st : List Value} {S : St} (ok : Ok X cc nL RX2 fr lo) (d : decode cc pc = .ok (.getfield 18, 3)) (k : Wp X nL (pc + 3) L (.ref (xad X 66) :: st) S) : Wp X nL pc L (.ref (xad X 63) :: st) S :=
  r_get (C := RX2) (T := TX2) ok ob_63 rfl i_X2 3 (by decide) tw_fl_X2_18 d (by rw [show fvl (xad X) S 63 3 = .ref (xad X 66) from (fvl_ref (d := 66) (by decide))]; exact k)
theorem gf_X2_21 {X : Cx} {cc : ByteArray} {nL pc fr lo : Nat} {L : List (Nat × Value)} {st : List Value} {S : St} (ok : Ok X cc nL RX2 fr lo) (d : decode cc pc = .ok (.getfield 21, 3)) (k : Wp X nL (pc + 3) L (.ref (xad X 67) :: st) S) : Wp X nL pc L (.ref (xad X 63) :: st) S :=
  r_get (C := RX2) (T := TX2) ok ob_63 rfl i_X2 4 (by decide) tw_fl_X2_21 d (by rw [show fvl (xad X) S 63 4 = .ref (xad X 67) from (fvl_ref (d := 67) (by decide))]; exact k)
theorem gf_X2_24 {X : Cx} {cc : ByteArray} {nL pc fr lo : Nat} {L : List (Nat × Value)} {st : List Value} {S : St} (ok : Ok X cc nL RX2 fr lo) (d : decode cc pc = .ok (.getfield 24, 3)) (k : Wp X nL (pc + 3) L (.ref (xad X 68) :: st) S) : Wp X nL pc L (.ref (xad X 63) :: st) S :=
  r_get (C := RX2) (T := TX2) ok ob_63 rfl i_X2 5 (by decide) tw_fl_X2_24 d (by rw [show fvl (xad X) S 63 5 = .ref (xad X 68) from (fvl_ref (d := 68) (by decide))]; exact k)
theorem pf_X2_27 {X : Cx} {cc : ByteArray} {nL pc fr lo : Nat} {L : List (Nat × Value)} {st : List Value} {S : St} {v : Int32} (ok : Ok X cc nL RX2 fr lo) (d : decode cc pc = .ok (.putfield 27, 3)) (k : ∀ S1 : St, S1 = up S 63 0 v → Wp X nL (pc + 3) L st S1) : Wp X nL pc L (.int v :: .ref (xad X 63) :: st) S :=
  r_put (C := RX2) (T := TX2) ok ob_63 rfl i_X2 tyX2 tyX2_ok nmX2 0 (by decide) tw_fl_X2_27 rfl rfl (by decide) d (k _ rfl)
def wp_X2_add (x1 : Int32) (x2 : Int32) (x3 : Int32) (x4 : Int32) (x5 : Int32) (S : St) (post : Int32 → St → Prop) : Prop :=
  (((S 63 0) < 20 → vp_in (S 63 0) 20 ∧ (∀ S2 : St, S2 = up S 64 (ix (S 63 0)) x1 → vp_in (S2 63 0) 20 ∧ (∀ S4 : St, S4 = up S2 65 (ix (S2 63 0)) x2 → vp_in (S4 63 0) 20 ∧ (∀ S6 : St, S6 = up S4 66 (ix (S4 63 0)) x3 → vp_in (S6 63 0) 20 ∧ (∀ S8 : St, S8 = up S6 67 (ix (S6 63 0)) x4 → vp_in (S8 63 0) 20 ∧ (∀ S10 : St, S10 = up S8 68 (ix (S8 63 0)) x5 → ∀ S12 : St, S12 = up S10 63 0 ((S10 63 0) + 1) → post (S12 63 0) S12)))))) ∧ (¬ (S 63 0) < 20 → post (-1000000004) S))
theorem w_wp_X2_add {X : Cx} (ok : Ok X cX2_add 6 RX2 0 0) {post : Int32 → St → Prop} (hret : RetI X cX2_add 6 post) {x1 x2 x3 x4 x5 : Int32} {S : St} (h : wp_X2_add x1 x2 x3 x4 x5 S post) : Wp X 6 0 [(0, .ref (xad X 63)), (1, .int x1), (2, .int x2), (3, .int x3), (4, .int x4), (5, .int x5)] [] S := by
  unfold wp_X2_add at h
  refine r_aload_n ok dX2_add_0 0 rfl ?_
  refine gf_X2_27 ok dX2_add_1 ?_
  refine r_bipush (v := 20) ok dX2_add_4 rfl ?_
  refine r_icmp_lt (tgt := 12) ok dX2_add_6 rfl (fun hc1 => ?_) (fun hc1 => ?_)
  · replace h := h.1 hc1
    refine r_aload_n ok dX2_add_12 0 rfl ?_
    refine gf_X2_9 ok dX2_add_13 ?_
    refine r_aload_n ok dX2_add_16 0 rfl ?_
    refine gf_X2_27 ok dX2_add_17 ?_
    refine r_iload_n ok dX2_add_20 1 rfl ?_
    have hi3 := h.1
    replace h := h.2
    refine r_iast ok ai_64 hi3 rfl dX2_add_21 (fun S2 eS2 => ?_)
    replace h := h S2 eS2
    refine r_aload_n ok dX2_add_22 0 rfl ?_
    refine gf_X2_15 ok dX2_add_23 ?_
    refine r_aload_n ok dX2_add_26 0 rfl ?_
    refine gf_X2_27 ok dX2_add_27 ?_
    refine r_iload_n ok dX2_add_30 2 rfl ?_
    have hi5 := h.1
    replace h := h.2
    refine r_iast ok ai_65 hi5 rfl dX2_add_31 (fun S4 eS4 => ?_)
    replace h := h S4 eS4
    refine r_aload_n ok dX2_add_32 0 rfl ?_
    refine gf_X2_18 ok dX2_add_33 ?_
    refine r_aload_n ok dX2_add_36 0 rfl ?_
    refine gf_X2_27 ok dX2_add_37 ?_
    refine r_iload_n ok dX2_add_40 3 rfl ?_
    have hi7 := h.1
    replace h := h.2
    refine r_iast ok ai_66 hi7 rfl dX2_add_41 (fun S6 eS6 => ?_)
    replace h := h S6 eS6
    refine r_aload_n ok dX2_add_42 0 rfl ?_
    refine gf_X2_21 ok dX2_add_43 ?_
    refine r_aload_n ok dX2_add_46 0 rfl ?_
    refine gf_X2_27 ok dX2_add_47 ?_
    refine r_iload ok dX2_add_50 4 rfl ?_
    have hi9 := h.1
    replace h := h.2
    refine r_iast ok ai_67 hi9 rfl dX2_add_52 (fun S8 eS8 => ?_)
    replace h := h S8 eS8
    refine r_aload_n ok dX2_add_53 0 rfl ?_
    refine gf_X2_24 ok dX2_add_54 ?_
    refine r_aload_n ok dX2_add_57 0 rfl ?_
    refine gf_X2_27 ok dX2_add_58 ?_
    refine r_iload ok dX2_add_61 5 rfl ?_
    have hi11 := h.1
    replace h := h.2
    refine r_iast ok ai_68 hi11 rfl dX2_add_63 (fun S10 eS10 => ?_)
    replace h := h S10 eS10
    refine r_aload_n ok dX2_add_64 0 rfl ?_
    refine r_dup ok dX2_add_65 rfl ?_
    refine gf_X2_27 ok dX2_add_66 ?_
    refine r_iconst (v := 1) ok dX2_add_69 rfl ?_
    refine r_iadd ok dX2_add_70 ?_
    refine pf_X2_27 ok dX2_add_71 (fun S12 eS12 => ?_)
    replace h := h S12 eS12
    refine r_aload_n ok dX2_add_74 0 rfl ?_
    refine gf_X2_27 ok dX2_add_75 ?_
    exact hret _ _ _ _ dX2_add_78 h
  · replace h := h.2 hc1
    refine r_ldc (v := (-1000000004)) ok dX2_add_9 tw_k_X2_31 ?_
    exact hret _ _ _ _ dX2_add_11 h
theorem c_X2_add (l : Launch) (G : Gx) {x1 x2 x3 x4 x5 : Int32} {S : St} {post : Int32 → St → Prop} (h : wp_X2_add x1 x2 x3 x4 x5 S post) : MtI l yX2_add cX2_add 6 (some .int) 0 0 G [.ref (G.2.2 63), .int x1, .int x2, .int x3, .int x4, .int x5] S post :=
  ctI (by decide) rfl (Nat.le_of_ble_eq_true rfl) (fun X _ hG ok hret => by subst hG; exact w_wp_X2_add ok hret h)

/-! HasteRoads$Ledger.spentIn(LHasteRoads$World;I)I -/
theorem dX2_spentIn_0 : decode cX2_spentIn 0 = .ok (.iconst 0, 1) := by decide +kernel
theorem dX2_spentIn_1 : decode cX2_spentIn 1 = .ok (.istore_n 3, 1) := by decide +kernel
theorem dX2_spentIn_2 : decode cX2_spentIn 2 = .ok (.iconst 0, 1) := by decide +kernel
theorem dX2_spentIn_3 : decode cX2_spentIn 3 = .ok (.istore 4, 2) := by decide +kernel
theorem dX2_spentIn_5 : decode cX2_spentIn 5 = .ok (.iload 4, 2) := by decide +kernel
theorem dX2_spentIn_7 : decode cX2_spentIn 7 = .ok (.iconst 5, 1) := by decide +kernel
theorem dX2_spentIn_8 : decode cX2_spentIn 8 = .ok (.if_icmp .gt 55, 3) := by decide +kernel
theorem dX2_spentIn_11 : decode cX2_spentIn 11 = .ok (.aload_n 1, 1) := by decide +kernel
theorem dX2_spentIn_12 : decode cX2_spentIn 12 = .ok (.aload_n 0, 1) := by decide +kernel
theorem dX2_spentIn_13 : decode cX2_spentIn 13 = .ok (.getfield 9, 3) := by decide +kernel
theorem dX2_spentIn_16 : decode cX2_spentIn 16 = .ok (.iload_n 2, 1) := by decide +kernel
theorem dX2_spentIn_17 : decode cX2_spentIn 17 = .ok (.iaload, 1) := by decide +kernel
theorem dX2_spentIn_18 : decode cX2_spentIn 18 = .ok (.aload_n 0, 1) := by decide +kernel
theorem dX2_spentIn_19 : decode cX2_spentIn 19 = .ok (.getfield 15, 3) := by decide +kernel
theorem dX2_spentIn_22 : decode cX2_spentIn 22 = .ok (.iload_n 2, 1) := by decide +kernel
theorem dX2_spentIn_23 : decode cX2_spentIn 23 = .ok (.iaload, 1) := by decide +kernel
theorem dX2_spentIn_24 : decode cX2_spentIn 24 = .ok (.aload_n 0, 1) := by decide +kernel
theorem dX2_spentIn_25 : decode cX2_spentIn 25 = .ok (.getfield 18, 3) := by decide +kernel
theorem dX2_spentIn_28 : decode cX2_spentIn 28 = .ok (.iload_n 2, 1) := by decide +kernel
theorem dX2_spentIn_29 : decode cX2_spentIn 29 = .ok (.iaload, 1) := by decide +kernel
theorem dX2_spentIn_30 : decode cX2_spentIn 30 = .ok (.aload_n 0, 1) := by decide +kernel
theorem dX2_spentIn_31 : decode cX2_spentIn 31 = .ok (.getfield 21, 3) := by decide +kernel
theorem dX2_spentIn_34 : decode cX2_spentIn 34 = .ok (.iload_n 2, 1) := by decide +kernel
theorem dX2_spentIn_35 : decode cX2_spentIn 35 = .ok (.iaload, 1) := by decide +kernel
theorem dX2_spentIn_36 : decode cX2_spentIn 36 = .ok (.iload 4, 2) := by decide +kernel
theorem dX2_spentIn_38 : decode cX2_spentIn 38 = .ok (.invokevirtual 32, 3) := by decide +kernel
theorem dX2_spentIn_41 : decode cX2_spentIn 41 = .ok (.aload_n 0, 1) := by decide +kernel
theorem dX2_spentIn_42 : decode cX2_spentIn 42 = .ok (.getfield 24, 3) := by decide +kernel
theorem dX2_spentIn_45 : decode cX2_spentIn 45 = .ok (.iload_n 2, 1) := by decide +kernel
theorem dX2_spentIn_46 : decode cX2_spentIn 46 = .ok (.iaload, 1) := by decide +kernel
theorem dX2_spentIn_47 : decode cX2_spentIn 47 = .ok (.if_icmp .ne 10, 3) := by decide +kernel
theorem dX2_spentIn_50 : decode cX2_spentIn 50 = .ok (.iload_n 3, 1) := by decide +kernel
theorem dX2_spentIn_51 : decode cX2_spentIn 51 = .ok (.iconst 1, 1) := by decide +kernel
theorem dX2_spentIn_52 : decode cX2_spentIn 52 = .ok (.iload 4, 2) := by decide +kernel
theorem dX2_spentIn_54 : decode cX2_spentIn 54 = .ok (.ishl, 1) := by decide +kernel
theorem dX2_spentIn_55 : decode cX2_spentIn 55 = .ok (.ior, 1) := by decide +kernel
theorem dX2_spentIn_56 : decode cX2_spentIn 56 = .ok (.istore_n 3, 1) := by decide +kernel
theorem dX2_spentIn_57 : decode cX2_spentIn 57 = .ok (.iinc 4 1, 3) := by decide +kernel
theorem dX2_spentIn_60 : decode cX2_spentIn 60 = .ok (.goto (-55), 3) := by decide +kernel
theorem dX2_spentIn_63 : decode cX2_spentIn 63 = .ok (.iload_n 3, 1) := by decide +kernel
theorem dX2_spentIn_64 : decode cX2_spentIn 64 = .ok (.ireturn, 1) := by decide +kernel
theorem cl_X2_32 {X : Cx} {cc : ByteArray} {nL pc fr lo : Nat} {L : List (Nat × Value)} {st : List Value} {S : St} (ok : Ok X cc nL RX2 fr lo) {o : Nat} (ho : isW o) {x1 x2 x3 x4 x5 : Int32} (d : decode cc pc = .ok (.invokevirtual 32, 3)) (hroom : 2 ≤ fr ∧ 50 ≤ lo) (hst : (st.map fun v => v.category).sum ≤ 8) {post : Int32 → St → Prop} (h : wp_X6_lasts o x1 x2 x3 x4 x5 S post) (kk : ∀ (r : Int32) (S1 : St), post r S1 → Wp X nL (pc + 3) L (.int r :: st) S1) : Wp X nL pc L (.int x5 :: .int x4 :: .int x3 :: .int x2 :: .int x1 :: .ref (xad X o) :: st) S :=
  r_callVi (n := 6) (f := 1) (lo1 := 25) (N := 5) (As := [.int x1, .int x2, .int x3, .int x4, .int x5]) ok tw_in_X6 tw_im_X6_lasts tw_se_X6_lasts tw_co_X6_lasts tw_ml_X2_32 (by decide +kernel) rfl ho.ob rfl hroom hst d rfl (c_X6_lasts (xl X) (xG X) ho h) kk
def BD_X2_spentIn_5 (k5 : Int32 → Int32 → Int32 → St → Prop) (post : Int32 → St → Prop) (x2 : Int32) (x3 : Int32) (x4 : Int32) (S : St) : Prop :=
  ((5 < x4 → post x3 S) ∧ (¬ 5 < x4 → vp_in x2 20 ∧ (vp_in x2 20 ∧ (vp_in x2 20 ∧ (vp_in x2 20 ∧ (wp_X6_lasts 0 (S 64 (ix x2)) (S 65 (ix x2)) (S 66 (ix x2)) (S 67 (ix x2)) x4 S (fun r3 S2 => vp_in x2 20 ∧ (((¬ r3 = (S2 68 (ix x2)) → k5 x2 x3 (x4 + 1) S2) ∧ (r3 = (S2 68 (ix x2)) → ∀ v5 : Int32, v5 = (x3 ||| ((1 : Int32) <<< (x4 &&& 31))) → k5 x2 v5 (x4 + 1) S2))))))))))
def L_X2_spentIn_5 (post : Int32 → St → Prop) (n : Nat) : Int32 → Int32 → Int32 → St → Prop := Nat.rec (motive := fun _ => Int32 → Int32 → Int32 → St → Prop) (fun _ _ _ _ => False) (fun _ ih => BD_X2_spentIn_5 ih post) n
def B_X2_spentIn_5 (post : Int32 → St → Prop) (x2 : Int32) (x3 : Int32) (x4 : Int32) (S : St) : Prop := ∃ n, L_X2_spentIn_5 post n x2 x3 x4 S
def wp_X2_spentIn (x2 : Int32) (S : St) (post : Int32 → St → Prop) : Prop :=
  B_X2_spentIn_5 post x2 0 0 S
theorem w_B_X2_spentIn_5 {X : Cx} (ok : Ok X cX2_spentIn 5 RX2 2 50) {post : Int32 → St → Prop} (hret : RetI X cX2_spentIn 5 post) {x2 x3 x4 : Int32} {S : St} (h : B_X2_spentIn_5 post x2 x3 x4 S) : Wp X 5 5 [(0, .ref (xad X 63)), (1, .ref (xad X 0)), (2, .int x2), (3, .int x3), (4, .int x4)] [] S := by
  obtain ⟨n, h⟩ := h
  induction n generalizing x2 x3 x4 S with
  | zero => exact False.elim h
  | succ n ih =>
    have hk5 : ∀ x2 x3 x4 S, L_X2_spentIn_5 post n x2 x3 x4 S → Wp X 5 5 [(0, .ref (xad X 63)), (1, .ref (xad X 0)), (2, .int x2), (3, .int x3), (4, .int x4)] [] S := by intros; apply ih; assumption
    replace h : BD_X2_spentIn_5 (L_X2_spentIn_5 post n) post x2 x3 x4 S := h
    unfold BD_X2_spentIn_5 at h
    generalize L_X2_spentIn_5 post n = k5 at h hk5
    refine r_iload ok dX2_spentIn_5 4 rfl ?_
    refine r_iconst (v := 5) ok dX2_spentIn_7 rfl ?_
    refine r_icmp_gt (tgt := 63) ok dX2_spentIn_8 rfl (fun hc1 => ?_) (fun hc1 => ?_)
    · replace h := h.1 hc1
      refine r_iload_n ok dX2_spentIn_63 3 rfl ?_
      exact hret _ _ _ _ dX2_spentIn_64 h
    · replace h := h.2 hc1
      refine r_aload_n ok dX2_spentIn_11 1 rfl ?_
      refine r_aload_n ok dX2_spentIn_12 0 rfl ?_
      refine gf_X2_9 ok dX2_spentIn_13 ?_
      refine r_iload_n ok dX2_spentIn_16 2 rfl ?_
      refine r_iald ok ai_64 h.1 rfl dX2_spentIn_17 ?_
      replace h := h.2
      refine r_aload_n ok dX2_spentIn_18 0 rfl ?_
      refine gf_X2_15 ok dX2_spentIn_19 ?_
      refine r_iload_n ok dX2_spentIn_22 2 rfl ?_
      refine r_iald ok ai_65 h.1 rfl dX2_spentIn_23 ?_
      replace h := h.2
      refine r_aload_n ok dX2_spentIn_24 0 rfl ?_
      refine gf_X2_18 ok dX2_spentIn_25 ?_
      refine r_iload_n ok dX2_spentIn_28 2 rfl ?_
      refine r_iald ok ai_66 h.1 rfl dX2_spentIn_29 ?_
      replace h := h.2
      refine r_aload_n ok dX2_spentIn_30 0 rfl ?_
      refine gf_X2_21 ok dX2_spentIn_31 ?_
      refine r_iload_n ok dX2_spentIn_34 2 rfl ?_
      refine r_iald ok ai_67 h.1 rfl dX2_spentIn_35 ?_
      replace h := h.2
      refine r_iload ok dX2_spentIn_36 4 rfl ?_
      refine cl_X2_32 ok isW_0 dX2_spentIn_38 (by decide) (Nat.le_of_ble_eq_true rfl) h (fun r3 S2 h => ?_)
      refine r_aload_n ok dX2_spentIn_41 0 rfl ?_
      refine gf_X2_24 ok dX2_spentIn_42 ?_
      refine r_iload_n ok dX2_spentIn_45 2 rfl ?_
      refine r_iald ok ai_68 h.1 rfl dX2_spentIn_46 ?_
      replace h := h.2
      refine r_icmp_ne (tgt := 57) ok dX2_spentIn_47 rfl (fun hc4 => ?_) (fun hc4 => ?_)
      · replace h := h.1 hc4
        refine r_iinc (v := x4 + 1) ok dX2_spentIn_57 4 rfl rfl (by decide) [(0, .ref (xad X 63)), (1, .ref (xad X 0)), (2, .int x2), (3, .int x3), (4, .int (x4 + 1))] [1, 2, 3, 4, 0] rfl ?_
        refine r_goto (tgt := 5) ok dX2_spentIn_60 rfl ?_
        exact hk5 _ _ _ _ h
      · replace h := h.2 hc4
        refine r_iload_n ok dX2_spentIn_50 3 rfl ?_
        refine r_iconst (v := 1) ok dX2_spentIn_51 rfl ?_
        refine r_iload ok dX2_spentIn_52 4 rfl ?_
        refine r_ishl ok dX2_spentIn_54 ?_
        refine r_ior ok dX2_spentIn_55 ?_
        refine r_top (fun v5 ev5 => ?_)
        replace h := h v5 ev5
        refine r_istore_n ok dX2_spentIn_56 (by decide) [(0, .ref (xad X 63)), (1, .ref (xad X 0)), (2, .int x2), (3, .int v5), (4, .int x4)] [1, 2, 3, 0, 4] rfl ?_
        refine r_iinc (v := x4 + 1) ok dX2_spentIn_57 4 rfl rfl (by decide) [(0, .ref (xad X 63)), (1, .ref (xad X 0)), (2, .int x2), (3, .int v5), (4, .int (x4 + 1))] [1, 2, 3, 4, 0] rfl ?_
        refine r_goto (tgt := 5) ok dX2_spentIn_60 rfl ?_
        exact hk5 _ _ _ _ h
theorem w_wp_X2_spentIn {X : Cx} (ok : Ok X cX2_spentIn 5 RX2 2 50) {post : Int32 → St → Prop} (hret : RetI X cX2_spentIn 5 post) {x2 : Int32} {S : St} (h : wp_X2_spentIn x2 S post) : Wp X 5 0 [(0, .ref (xad X 63)), (1, .ref (xad X 0)), (2, .int x2)] [] S := by
  unfold wp_X2_spentIn at h
  refine r_iconst (v := 0) ok dX2_spentIn_0 rfl ?_
  refine r_istore_n ok dX2_spentIn_1 (by decide) [(0, .ref (xad X 63)), (1, .ref (xad X 0)), (2, .int x2), (3, .int 0)] [1, 2, 3, 0] rfl ?_
  refine r_iconst (v := 0) ok dX2_spentIn_2 rfl ?_
  refine r_istore ok dX2_spentIn_3 (by decide) [(0, .ref (xad X 63)), (1, .ref (xad X 0)), (2, .int x2), (3, .int 0), (4, .int 0)] [1, 2, 3, 4, 0] rfl ?_
  exact w_B_X2_spentIn_5 ok hret h
theorem c_X2_spentIn (l : Launch) (G : Gx) {x2 : Int32} {S : St} {post : Int32 → St → Prop} (h : wp_X2_spentIn x2 S post) : MtI l yX2_spentIn cX2_spentIn 5 (some .int) 2 50 G [.ref (G.2.2 63), .ref (G.2.2 0), .int x2] S post :=
  ctI (by decide) rfl (Nat.le_of_ble_eq_true rfl) (fun X _ hG ok hret => by subst hG; exact w_wp_X2_spentIn ok hret h)
