/-! HasteRoadsModel.waits([II)V -/
theorem dX8_waits_0 : decode cX8_waits 0 = .ok (.aload_n 0, 1) := by decide +kernel
theorem dX8_waits_1 : decode cX8_waits 1 = .ok (.bipush 16, 2) := by decide +kernel
theorem dX8_waits_3 : decode cX8_waits 3 = .ok (.iaload, 1) := by decide +kernel
theorem dX8_waits_4 : decode cX8_waits 4 = .ok (.aload_n 0, 1) := by decide +kernel
theorem dX8_waits_5 : decode cX8_waits 5 = .ok (.iconst 4, 1) := by decide +kernel
theorem dX8_waits_6 : decode cX8_waits 6 = .ok (.iload_n 1, 1) := by decide +kernel
theorem dX8_waits_7 : decode cX8_waits 7 = .ok (.imul, 1) := by decide +kernel
theorem dX8_waits_8 : decode cX8_waits 8 = .ok (.iaload, 1) := by decide +kernel
theorem dX8_waits_9 : decode cX8_waits 9 = .ok (.ishr, 1) := by decide +kernel
theorem dX8_waits_10 : decode cX8_waits 10 = .ok (.iconst 1, 1) := by decide +kernel
theorem dX8_waits_11 : decode cX8_waits 11 = .ok (.iand, 1) := by decide +kernel
theorem dX8_waits_12 : decode cX8_waits 12 = .ok (.iconst 1, 1) := by decide +kernel
theorem dX8_waits_13 : decode cX8_waits 13 = .ok (.if_icmp .ne 7, 3) := by decide +kernel
theorem dX8_waits_16 : decode cX8_waits 16 = .ok (.iconst 1, 1) := by decide +kernel
theorem dX8_waits_17 : decode cX8_waits 17 = .ok (.goto 4, 3) := by decide +kernel
theorem dX8_waits_20 : decode cX8_waits 20 = .ok (.iconst 0, 1) := by decide +kernel
theorem dX8_waits_21 : decode cX8_waits 21 = .ok (.istore_n 2, 1) := by decide +kernel
theorem dX8_waits_22 : decode cX8_waits 22 = .ok (.aload_n 0, 1) := by decide +kernel
theorem dX8_waits_23 : decode cX8_waits 23 = .ok (.iconst 4, 1) := by decide +kernel
theorem dX8_waits_24 : decode cX8_waits 24 = .ok (.iload_n 1, 1) := by decide +kernel
theorem dX8_waits_25 : decode cX8_waits 25 = .ok (.imul, 1) := by decide +kernel
theorem dX8_waits_26 : decode cX8_waits 26 = .ok (.iconst 3, 1) := by decide +kernel
theorem dX8_waits_27 : decode cX8_waits 27 = .ok (.iadd, 1) := by decide +kernel
theorem dX8_waits_28 : decode cX8_waits 28 = .ok (.dup2, 1) := by decide +kernel
theorem dX8_waits_29 : decode cX8_waits 29 = .ok (.iaload, 1) := by decide +kernel
theorem dX8_waits_30 : decode cX8_waits 30 = .ok (.iconst 1, 1) := by decide +kernel
theorem dX8_waits_31 : decode cX8_waits 31 = .ok (.iadd, 1) := by decide +kernel
theorem dX8_waits_32 : decode cX8_waits 32 = .ok (.iastore, 1) := by decide +kernel
theorem dX8_waits_33 : decode cX8_waits 33 = .ok (.aload_n 0, 1) := by decide +kernel
theorem dX8_waits_34 : decode cX8_waits 34 = .ok (.iconst 4, 1) := by decide +kernel
theorem dX8_waits_35 : decode cX8_waits 35 = .ok (.iload_n 1, 1) := by decide +kernel
theorem dX8_waits_36 : decode cX8_waits 36 = .ok (.imul, 1) := by decide +kernel
theorem dX8_waits_37 : decode cX8_waits 37 = .ok (.iconst 1, 1) := by decide +kernel
theorem dX8_waits_38 : decode cX8_waits 38 = .ok (.iadd, 1) := by decide +kernel
theorem dX8_waits_39 : decode cX8_waits 39 = .ok (.dup2, 1) := by decide +kernel
theorem dX8_waits_40 : decode cX8_waits 40 = .ok (.iaload, 1) := by decide +kernel
theorem dX8_waits_41 : decode cX8_waits 41 = .ok (.iload_n 2, 1) := by decide +kernel
theorem dX8_waits_42 : decode cX8_waits 42 = .ok (.ifCond .eq 18, 3) := by decide +kernel
theorem dX8_waits_45 : decode cX8_waits 45 = .ok (.aload_n 0, 1) := by decide +kernel
theorem dX8_waits_46 : decode cX8_waits 46 = .ok (.iconst 4, 1) := by decide +kernel
theorem dX8_waits_47 : decode cX8_waits 47 = .ok (.iload_n 1, 1) := by decide +kernel
theorem dX8_waits_48 : decode cX8_waits 48 = .ok (.imul, 1) := by decide +kernel
theorem dX8_waits_49 : decode cX8_waits 49 = .ok (.iconst 1, 1) := by decide +kernel
theorem dX8_waits_50 : decode cX8_waits 50 = .ok (.iadd, 1) := by decide +kernel
theorem dX8_waits_51 : decode cX8_waits 51 = .ok (.iaload, 1) := by decide +kernel
theorem dX8_waits_52 : decode cX8_waits 52 = .ok (.iconst 5, 1) := by decide +kernel
theorem dX8_waits_53 : decode cX8_waits 53 = .ok (.if_icmp .ge 7, 3) := by decide +kernel
theorem dX8_waits_56 : decode cX8_waits 56 = .ok (.iconst 1, 1) := by decide +kernel
theorem dX8_waits_57 : decode cX8_waits 57 = .ok (.goto 4, 3) := by decide +kernel
theorem dX8_waits_60 : decode cX8_waits 60 = .ok (.iconst 0, 1) := by decide +kernel
theorem dX8_waits_61 : decode cX8_waits 61 = .ok (.iadd, 1) := by decide +kernel
theorem dX8_waits_62 : decode cX8_waits 62 = .ok (.iastore, 1) := by decide +kernel
theorem dX8_waits_63 : decode cX8_waits 63 = .ok (.return_, 1) := by decide +kernel

def B_X8_waits_21 (post : St → Prop) (a : Nat) (x1 : Int32) (s0 : Int32) (S : St) : Prop :=
  vp_in (((4 : Int32) * x1) + 3) 28 ∧ (vp_in (((4 : Int32) * x1) + 3) 28 ∧ (∀ S1 : St, S1 = up S a (ix (((4 : Int32) * x1) + 3)) ((S a (ix (((4 : Int32) * x1) + 3))) + 1) → vp_in (((4 : Int32) * x1) + 1) 28 ∧ (((s0 = 0 → vp_in (((4 : Int32) * x1) + 1) 28 ∧ (∀ S4 : St, S4 = up S1 a (ix (((4 : Int32) * x1) + 1)) ((S1 a (ix (((4 : Int32) * x1) + 1))) + 0) → post S4)) ∧ (¬ s0 = 0 → vp_in (((4 : Int32) * x1) + 1) 28 ∧ (((5 ≤ (S1 a (ix (((4 : Int32) * x1) + 1))) → vp_in (((4 : Int32) * x1) + 1) 28 ∧ (∀ S7 : St, S7 = up S1 a (ix (((4 : Int32) * x1) + 1)) ((S1 a (ix (((4 : Int32) * x1) + 1))) + 0) → post S7)) ∧ (¬ 5 ≤ (S1 a (ix (((4 : Int32) * x1) + 1))) → vp_in (((4 : Int32) * x1) + 1) 28 ∧ (∀ S9 : St, S9 = up S1 a (ix (((4 : Int32) * x1) + 1)) ((S1 a (ix (((4 : Int32) * x1) + 1))) + 1) → post S9)))))))))
def wp_X8_waits (a : Nat) (x1 : Int32) (S : St) (post : St → Prop) : Prop :=
  vp_in ((4 : Int32) * x1) 28 ∧ (((¬ (((S a 16) >>> ((S a (ix ((4 : Int32) * x1))) &&& 31)) &&& 1) = 1 → B_X8_waits_21 post a x1 0 S) ∧ ((((S a 16) >>> ((S a (ix ((4 : Int32) * x1))) &&& 31)) &&& 1) = 1 → B_X8_waits_21 post a x1 1 S)))
theorem w_B_X8_waits_21 {X : Cx} (ok : Ok X cX8_waits 3 RX8 0 0) {post : St → Prop} (hret : RetV X cX8_waits 3 post) {a : Nat} (ha : AI a 28) {x1 s0 : Int32} {S : St} (h : B_X8_waits_21 post a x1 s0 S) : Wp X 3 21 [(0, .ref (xad X a)), (1, .int x1)] [.int s0] S := by
  unfold B_X8_waits_21 at h
  refine r_istore_n ok dX8_waits_21 (by decide) [(0, .ref (xad X a)), (1, .int x1), (2, .int s0)] [1, 2, 0] rfl ?_
  refine r_aload_n ok dX8_waits_22 0 rfl ?_
  refine r_iconst (v := 4) ok dX8_waits_23 rfl ?_
  refine r_iload_n ok dX8_waits_24 1 rfl ?_
  refine r_imul ok dX8_waits_25 ?_
  refine r_iconst (v := 3) ok dX8_waits_26 rfl ?_
  refine r_iadd ok dX8_waits_27 ?_
  refine r_dup2 ok dX8_waits_28 rfl rfl ?_
  refine r_iald ok ha h.1 rfl dX8_waits_29 ?_
  replace h := h.2
  refine r_iconst (v := 1) ok dX8_waits_30 rfl ?_
  refine r_iadd ok dX8_waits_31 ?_
  have hi2 := h.1
  replace h := h.2
  refine r_iast ok ha hi2 rfl dX8_waits_32 (fun S1 eS1 => ?_)
  replace h := h S1 eS1
  refine r_aload_n ok dX8_waits_33 0 rfl ?_
  refine r_iconst (v := 4) ok dX8_waits_34 rfl ?_
  refine r_iload_n ok dX8_waits_35 1 rfl ?_
  refine r_imul ok dX8_waits_36 ?_
  refine r_iconst (v := 1) ok dX8_waits_37 rfl ?_
  refine r_iadd ok dX8_waits_38 ?_
  refine r_dup2 ok dX8_waits_39 rfl rfl ?_
  refine r_iald ok ha h.1 rfl dX8_waits_40 ?_
  replace h := h.2
  refine r_iload_n ok dX8_waits_41 2 rfl ?_
  refine r_if_eq (tgt := 60) ok dX8_waits_42 rfl (fun hc3 => ?_) (fun hc3 => ?_)
  · replace h := h.1 hc3
    refine r_iconst (v := 0) ok dX8_waits_60 rfl ?_
    refine r_iadd ok dX8_waits_61 ?_
    have hi5 := h.1
    replace h := h.2
    refine r_iast ok ha hi5 rfl dX8_waits_62 (fun S4 eS4 => ?_)
    replace h := h S4 eS4
    exact hret _ _ _ dX8_waits_63 h
  · replace h := h.2 hc3
    refine r_aload_n ok dX8_waits_45 0 rfl ?_
    refine r_iconst (v := 4) ok dX8_waits_46 rfl ?_
    refine r_iload_n ok dX8_waits_47 1 rfl ?_
    refine r_imul ok dX8_waits_48 ?_
    refine r_iconst (v := 1) ok dX8_waits_49 rfl ?_
    refine r_iadd ok dX8_waits_50 ?_
    refine r_iald ok ha h.1 rfl dX8_waits_51 ?_
    replace h := h.2
    refine r_iconst (v := 5) ok dX8_waits_52 rfl ?_
    refine r_icmp_ge (tgt := 60) ok dX8_waits_53 rfl (fun hc6 => ?_) (fun hc6 => ?_)
    · replace h := h.1 hc6
      refine r_iconst (v := 0) ok dX8_waits_60 rfl ?_
      refine r_iadd ok dX8_waits_61 ?_
      have hi8 := h.1
      replace h := h.2
      refine r_iast ok ha hi8 rfl dX8_waits_62 (fun S7 eS7 => ?_)
      replace h := h S7 eS7
      exact hret _ _ _ dX8_waits_63 h
    · replace h := h.2 hc6
      refine r_iconst (v := 1) ok dX8_waits_56 rfl ?_
      refine r_goto (tgt := 61) ok dX8_waits_57 rfl ?_
      refine r_iadd ok dX8_waits_61 ?_
      have hi10 := h.1
      replace h := h.2
      refine r_iast ok ha hi10 rfl dX8_waits_62 (fun S9 eS9 => ?_)
      replace h := h S9 eS9
      exact hret _ _ _ dX8_waits_63 h
theorem w_wp_X8_waits {X : Cx} (ok : Ok X cX8_waits 3 RX8 0 0) {post : St → Prop} (hret : RetV X cX8_waits 3 post) {a : Nat} (ha : AI a 28) {x1 : Int32} {S : St} (h : wp_X8_waits a x1 S post) : Wp X 3 0 [(0, .ref (xad X a)), (1, .int x1)] [] S := by
  unfold wp_X8_waits at h
  refine r_aload_n ok dX8_waits_0 0 rfl ?_
  refine r_bipush (v := 16) ok dX8_waits_1 rfl ?_
  refine r_iald (j := 16) ok ha (in_lit (by decide)) (by decide) dX8_waits_3 ?_
  refine r_aload_n ok dX8_waits_4 0 rfl ?_
  refine r_iconst (v := 4) ok dX8_waits_5 rfl ?_
  refine r_iload_n ok dX8_waits_6 1 rfl ?_
  refine r_imul ok dX8_waits_7 ?_
  refine r_iald ok ha h.1 rfl dX8_waits_8 ?_
  replace h := h.2
  refine r_ishr ok dX8_waits_9 ?_
  refine r_iconst (v := 1) ok dX8_waits_10 rfl ?_
  refine r_iand ok dX8_waits_11 ?_
  refine r_iconst (v := 1) ok dX8_waits_12 rfl ?_
  refine r_icmp_ne (tgt := 20) ok dX8_waits_13 rfl (fun hc1 => ?_) (fun hc1 => ?_)
  · replace h := h.1 hc1
    refine r_iconst (v := 0) ok dX8_waits_20 rfl ?_
    exact w_B_X8_waits_21 ok hret ha h
  · replace h := h.2 hc1
    refine r_iconst (v := 1) ok dX8_waits_16 rfl ?_
    refine r_goto (tgt := 21) ok dX8_waits_17 rfl ?_
    exact w_B_X8_waits_21 ok hret ha h
theorem c_X8_waits (l : Launch) (G : Gx) {a : Nat} (ha : AI a 28) {x1 : Int32} {S : St} {post : St → Prop} (h : wp_X8_waits a x1 S post) : MtV l yX8_waits cX8_waits 3 0 0 G [.ref (G.2.2 a), .int x1] S post :=
  ctV (by decide) rfl (Nat.le_of_ble_eq_true rfl) (fun X _ hG ok hret => by subst hG; exact w_wp_X8_waits ok hret ha h)

/-! HasteRoadsModel.go(III)I -/
theorem dX8_go_0 : decode cX8_go 0 = .ok (.aload_n 0, 1) := by decide +kernel
theorem dX8_go_1 : decode cX8_go 1 = .ok (.iconst 0, 1) := by decide +kernel
theorem dX8_go_2 : decode cX8_go 2 = .ok (.putfield 75, 3) := by decide +kernel
theorem dX8_go_5 : decode cX8_go 5 = .ok (.aload_n 0, 1) := by decide +kernel
theorem dX8_go_6 : decode cX8_go 6 = .ok (.iload_n 1, 1) := by decide +kernel
theorem dX8_go_7 : decode cX8_go 7 = .ok (.invokevirtual 182, 3) := by decide +kernel
theorem dX8_go_10 : decode cX8_go 10 = .ok (.ifCond .eq 11, 3) := by decide +kernel
theorem dX8_go_13 : decode cX8_go 13 = .ok (.aload_n 0, 1) := by decide +kernel
theorem dX8_go_14 : decode cX8_go 14 = .ok (.iload_n 2, 1) := by decide +kernel
theorem dX8_go_15 : decode cX8_go 15 = .ok (.invokevirtual 170, 3) := by decide +kernel
theorem dX8_go_18 : decode cX8_go 18 = .ok (.ifCond .ne 6, 3) := by decide +kernel
theorem dX8_go_21 : decode cX8_go 21 = .ok (.ldc 174, 2) := by decide +kernel
theorem dX8_go_23 : decode cX8_go 23 = .ok (.ireturn, 1) := by decide +kernel
theorem dX8_go_24 : decode cX8_go 24 = .ok (.iload_n 3, 1) := by decide +kernel
theorem dX8_go_25 : decode cX8_go 25 = .ok (.iconst 0, 1) := by decide +kernel
theorem dX8_go_26 : decode cX8_go 26 = .ok (.iconst 5, 1) := by decide +kernel
theorem dX8_go_27 : decode cX8_go 27 = .ok (.invokestatic 78, 3) := by decide +kernel
theorem dX8_go_30 : decode cX8_go 30 = .ok (.ifCond .ne 6, 3) := by decide +kernel
theorem dX8_go_33 : decode cX8_go 33 = .ok (.ldc 82, 2) := by decide +kernel
theorem dX8_go_35 : decode cX8_go 35 = .ok (.ireturn, 1) := by decide +kernel
theorem dX8_go_36 : decode cX8_go 36 = .ok (.aload_n 0, 1) := by decide +kernel
theorem dX8_go_37 : decode cX8_go 37 = .ok (.iload_n 2, 1) := by decide +kernel
theorem dX8_go_38 : decode cX8_go 38 = .ok (.aload_n 0, 1) := by decide +kernel
theorem dX8_go_39 : decode cX8_go 39 = .ok (.getfield 23, 3) := by decide +kernel
theorem dX8_go_42 : decode cX8_go 42 = .ok (.iconst 4, 1) := by decide +kernel
theorem dX8_go_43 : decode cX8_go 43 = .ok (.iload_n 1, 1) := by decide +kernel
theorem dX8_go_44 : decode cX8_go 44 = .ok (.imul, 1) := by decide +kernel
theorem dX8_go_45 : decode cX8_go 45 = .ok (.iaload, 1) := by decide +kernel
theorem dX8_go_46 : decode cX8_go 46 = .ok (.invokevirtual 189, 3) := by decide +kernel
theorem dX8_go_49 : decode cX8_go 49 = .ok (.iconst (-1), 1) := by decide +kernel
theorem dX8_go_50 : decode cX8_go 50 = .ok (.if_icmp .eq 17, 3) := by decide +kernel
theorem dX8_go_53 : decode cX8_go 53 = .ok (.aload_n 0, 1) := by decide +kernel
theorem dX8_go_54 : decode cX8_go 54 = .ok (.getfield 23, 3) := by decide +kernel
theorem dX8_go_57 : decode cX8_go 57 = .ok (.iconst 4, 1) := by decide +kernel
theorem dX8_go_58 : decode cX8_go 58 = .ok (.iload_n 1, 1) := by decide +kernel
theorem dX8_go_59 : decode cX8_go 59 = .ok (.imul, 1) := by decide +kernel
theorem dX8_go_60 : decode cX8_go 60 = .ok (.iconst 1, 1) := by decide +kernel
theorem dX8_go_61 : decode cX8_go 61 = .ok (.iadd, 1) := by decide +kernel
theorem dX8_go_62 : decode cX8_go 62 = .ok (.iaload, 1) := by decide +kernel
theorem dX8_go_63 : decode cX8_go 63 = .ok (.iload_n 3, 1) := by decide +kernel
theorem dX8_go_64 : decode cX8_go 64 = .ok (.if_icmp .ge 6, 3) := by decide +kernel
theorem dX8_go_67 : decode cX8_go 67 = .ok (.ldc 193, 2) := by decide +kernel
theorem dX8_go_69 : decode cX8_go 69 = .ok (.ireturn, 1) := by decide +kernel
theorem dX8_go_70 : decode cX8_go 70 = .ok (.aload_n 0, 1) := by decide +kernel
theorem dX8_go_71 : decode cX8_go 71 = .ok (.getfield 23, 3) := by decide +kernel
theorem dX8_go_74 : decode cX8_go 74 = .ok (.iconst 4, 1) := by decide +kernel
theorem dX8_go_75 : decode cX8_go 75 = .ok (.iload_n 1, 1) := by decide +kernel
theorem dX8_go_76 : decode cX8_go 76 = .ok (.imul, 1) := by decide +kernel
theorem dX8_go_77 : decode cX8_go 77 = .ok (.iconst 3, 1) := by decide +kernel
theorem dX8_go_78 : decode cX8_go 78 = .ok (.iadd, 1) := by decide +kernel
theorem dX8_go_79 : decode cX8_go 79 = .ok (.iaload, 1) := by decide +kernel
theorem dX8_go_80 : decode cX8_go 80 = .ok (.ldc 198, 2) := by decide +kernel
theorem dX8_go_82 : decode cX8_go 82 = .ok (.if_icmp .le 6, 3) := by decide +kernel
theorem dX8_go_85 : decode cX8_go 85 = .ok (.ldc 86, 2) := by decide +kernel
theorem dX8_go_87 : decode cX8_go 87 = .ok (.ireturn, 1) := by decide +kernel
theorem dX8_go_88 : decode cX8_go 88 = .ok (.aload_n 0, 1) := by decide +kernel
theorem dX8_go_89 : decode cX8_go 89 = .ok (.aload_n 0, 1) := by decide +kernel
theorem dX8_go_90 : decode cX8_go 90 = .ok (.getfield 23, 3) := by decide +kernel
theorem dX8_go_93 : decode cX8_go 93 = .ok (.iload_n 1, 1) := by decide +kernel
theorem dX8_go_94 : decode cX8_go 94 = .ok (.iload_n 2, 1) := by decide +kernel
theorem dX8_go_95 : decode cX8_go 95 = .ok (.iload_n 3, 1) := by decide +kernel
theorem dX8_go_96 : decode cX8_go 96 = .ok (.invokevirtual 199, 3) := by decide +kernel
theorem dX8_go_99 : decode cX8_go 99 = .ok (.aload_n 0, 1) := by decide +kernel
theorem dX8_go_100 : decode cX8_go 100 = .ok (.getfield 23, 3) := by decide +kernel
theorem dX8_go_103 : decode cX8_go 103 = .ok (.iconst 4, 1) := by decide +kernel
theorem dX8_go_104 : decode cX8_go 104 = .ok (.iload_n 1, 1) := by decide +kernel
theorem dX8_go_105 : decode cX8_go 105 = .ok (.imul, 1) := by decide +kernel
theorem dX8_go_106 : decode cX8_go 106 = .ok (.iconst 3, 1) := by decide +kernel
theorem dX8_go_107 : decode cX8_go 107 = .ok (.iadd, 1) := by decide +kernel
theorem dX8_go_108 : decode cX8_go 108 = .ok (.iaload, 1) := by decide +kernel
theorem dX8_go_109 : decode cX8_go 109 = .ok (.ireturn, 1) := by decide +kernel
theorem cl_X8_199 {X : Cx} {cc : ByteArray} {nL pc fr lo : Nat} {L : List (Nat × Value)} {st : List Value} {S : St} (ok : Ok X cc nL RX8 fr lo) {a : Nat} (ha : AI a 28) {x2 x3 x4 : Int32} (d : decode cc pc = .ok (.invokevirtual 199, 3)) (hroom : 4 ≤ fr ∧ 98 ≤ lo) (hst : (st.map fun v => v.category).sum ≤ 8) {post : St → Prop} (h : wp_X8_goes a x2 x3 x4 S post) (kk : ∀ S1 : St, post S1 → Wp X nL (pc + 3) L st S1) : Wp X nL pc L (.int x4 :: .int x3 :: .int x2 :: .ref (xad X a) :: .ref (xad X 71) :: st) S :=
  r_callVv (n := 6) (f := 3) (lo1 := 73) (N := 4) (As := [.ref (xad X a), .int x2, .int x3, .int x4]) ok tw_in_X8 tw_im_X8_goes tw_se_X8_goes tw_co_X8_goes tw_ml_X8_199 (by decide +kernel) rfl ob_71 rfl hroom hst d rfl (c_X8_goes (xl X) (xG X) ha h) kk
def wp_X8_go (x1 : Int32) (x2 : Int32) (x3 : Int32) (S : St) (post : Int32 → St → Prop) : Prop :=
  ∀ S1 : St, S1 = up S 71 0 0 → wp_X8_isPerson x1 S1 (fun r3 S2 => ((r3 = 0 → post (-1000000001) S2) ∧ (¬ r3 = 0 → wp_X8_isRoad x2 S2 (fun r6 S5 => ((¬ r6 = 0 → wp_X8_in x3 0 5 S5 (fun r9 S8 => ((¬ r9 = 0 → vp_in ((4 : Int32) * x1) 28 ∧ (wp_X8_otherEnd x2 (S8 75 (ix ((4 : Int32) * x1))) S8 (fun r12 S11 => ((r12 = (-1) → post (-1000000003) S11) ∧ (¬ r12 = (-1) → vp_in (((4 : Int32) * x1) + 1) 28 ∧ (((x3 ≤ (S11 75 (ix (((4 : Int32) * x1) + 1))) → vp_in (((4 : Int32) * x1) + 3) 28 ∧ ((((S11 75 (ix (((4 : Int32) * x1) + 3))) ≤ 90000 → wp_X8_goes 75 x1 x2 x3 S11 (fun S16 => vp_in (((4 : Int32) * x1) + 3) 28 ∧ (post (S16 75 (ix (((4 : Int32) * x1) + 3))) S16))) ∧ (¬ (S11 75 (ix (((4 : Int32) * x1) + 3))) ≤ 90000 → post (-1000000004) S11)))) ∧ (¬ x3 ≤ (S11 75 (ix (((4 : Int32) * x1) + 1))) → post (-1000000003) S11)))))))) ∧ (r9 = 0 → post (-1000000002) S8)))) ∧ (r6 = 0 → post (-1000000001) S5))))))
theorem w_wp_X8_go {X : Cx} (ok : Ok X cX8_go 4 RX8 4 98) {post : Int32 → St → Prop} (hret : RetI X cX8_go 4 post) {x1 x2 x3 : Int32} {S : St} (h : wp_X8_go x1 x2 x3 S post) : Wp X 4 0 [(0, .ref (xad X 71)), (1, .int x1), (2, .int x2), (3, .int x3)] [] S := by
  unfold wp_X8_go at h
  refine r_aload_n ok dX8_go_0 0 rfl ?_
  refine r_iconst (v := 0) ok dX8_go_1 rfl ?_
  refine pf_X8_75 ok dX8_go_2 (fun S1 eS1 => ?_)
  replace h := h S1 eS1
  refine r_aload_n ok dX8_go_5 0 rfl ?_
  refine r_iload_n ok dX8_go_6 1 rfl ?_
  refine cl_X8_182 ok dX8_go_7 (by decide) (Nat.le_of_ble_eq_true rfl) h (fun r3 S2 h => ?_)
  refine r_if_eq (tgt := 21) ok dX8_go_10 rfl (fun hc4 => ?_) (fun hc4 => ?_)
  · replace h := h.1 hc4
    refine r_ldc (v := (-1000000001)) ok dX8_go_21 tw_k_X8_174 ?_
    exact hret _ _ _ _ dX8_go_23 h
  · replace h := h.2 hc4
    refine r_aload_n ok dX8_go_13 0 rfl ?_
    refine r_iload_n ok dX8_go_14 2 rfl ?_
    refine cl_X8_170 ok dX8_go_15 (by decide) (Nat.le_of_ble_eq_true rfl) h (fun r6 S5 h => ?_)
    refine r_if_ne (tgt := 24) ok dX8_go_18 rfl (fun hc7 => ?_) (fun hc7 => ?_)
    · replace h := h.1 hc7
      refine r_iload_n ok dX8_go_24 3 rfl ?_
      refine r_iconst (v := 0) ok dX8_go_25 rfl ?_
      refine r_iconst (v := 5) ok dX8_go_26 rfl ?_
      refine cl_X8_78 ok dX8_go_27 (by decide) (Nat.le_of_ble_eq_true rfl) h (fun r9 S8 h => ?_)
      refine r_if_ne (tgt := 36) ok dX8_go_30 rfl (fun hc10 => ?_) (fun hc10 => ?_)
      · replace h := h.1 hc10
        refine r_aload_n ok dX8_go_36 0 rfl ?_
        refine r_iload_n ok dX8_go_37 2 rfl ?_
        refine r_aload_n ok dX8_go_38 0 rfl ?_
        refine gf_X8_23 ok dX8_go_39 ?_
        refine r_iconst (v := 4) ok dX8_go_42 rfl ?_
        refine r_iload_n ok dX8_go_43 1 rfl ?_
        refine r_imul ok dX8_go_44 ?_
        refine r_iald ok ai_75 h.1 rfl dX8_go_45 ?_
        replace h := h.2
        refine cl_X8_189 ok dX8_go_46 (by decide) (Nat.le_of_ble_eq_true rfl) h (fun r12 S11 h => ?_)
        refine r_iconst (v := (-1)) ok dX8_go_49 rfl ?_
        refine r_icmp_eq (tgt := 67) ok dX8_go_50 rfl (fun hc13 => ?_) (fun hc13 => ?_)
        · replace h := h.1 hc13
          refine r_ldc (v := (-1000000003)) ok dX8_go_67 tw_k_X8_193 ?_
          exact hret _ _ _ _ dX8_go_69 h
        · replace h := h.2 hc13
          refine r_aload_n ok dX8_go_53 0 rfl ?_
          refine gf_X8_23 ok dX8_go_54 ?_
          refine r_iconst (v := 4) ok dX8_go_57 rfl ?_
          refine r_iload_n ok dX8_go_58 1 rfl ?_
          refine r_imul ok dX8_go_59 ?_
          refine r_iconst (v := 1) ok dX8_go_60 rfl ?_
          refine r_iadd ok dX8_go_61 ?_
          refine r_iald ok ai_75 h.1 rfl dX8_go_62 ?_
          replace h := h.2
          refine r_iload_n ok dX8_go_63 3 rfl ?_
          refine r_icmp_ge (tgt := 70) ok dX8_go_64 rfl (fun hc14 => ?_) (fun hc14 => ?_)
          · replace h := h.1 hc14
            refine r_aload_n ok dX8_go_70 0 rfl ?_
            refine gf_X8_23 ok dX8_go_71 ?_
            refine r_iconst (v := 4) ok dX8_go_74 rfl ?_
            refine r_iload_n ok dX8_go_75 1 rfl ?_
            refine r_imul ok dX8_go_76 ?_
            refine r_iconst (v := 3) ok dX8_go_77 rfl ?_
            refine r_iadd ok dX8_go_78 ?_
            refine r_iald ok ai_75 h.1 rfl dX8_go_79 ?_
            replace h := h.2
            refine r_ldc (v := 90000) ok dX8_go_80 tw_k_X8_198 ?_
            refine r_icmp_le (tgt := 88) ok dX8_go_82 rfl (fun hc15 => ?_) (fun hc15 => ?_)
            · replace h := h.1 hc15
              refine r_aload_n ok dX8_go_88 0 rfl ?_
              refine r_aload_n ok dX8_go_89 0 rfl ?_
              refine gf_X8_23 ok dX8_go_90 ?_
              refine r_iload_n ok dX8_go_93 1 rfl ?_
              refine r_iload_n ok dX8_go_94 2 rfl ?_
              refine r_iload_n ok dX8_go_95 3 rfl ?_
              refine cl_X8_199 ok ai_75 dX8_go_96 (by decide) (Nat.le_of_ble_eq_true rfl) h (fun S16 h => ?_)
              refine r_aload_n ok dX8_go_99 0 rfl ?_
              refine gf_X8_23 ok dX8_go_100 ?_
              refine r_iconst (v := 4) ok dX8_go_103 rfl ?_
              refine r_iload_n ok dX8_go_104 1 rfl ?_
              refine r_imul ok dX8_go_105 ?_
              refine r_iconst (v := 3) ok dX8_go_106 rfl ?_
              refine r_iadd ok dX8_go_107 ?_
              refine r_iald ok ai_75 h.1 rfl dX8_go_108 ?_
              replace h := h.2
              exact hret _ _ _ _ dX8_go_109 h
            · replace h := h.2 hc15
              refine r_ldc (v := (-1000000004)) ok dX8_go_85 tw_k_X8_86 ?_
              exact hret _ _ _ _ dX8_go_87 h
          · replace h := h.2 hc14
            refine r_ldc (v := (-1000000003)) ok dX8_go_67 tw_k_X8_193 ?_
            exact hret _ _ _ _ dX8_go_69 h
      · replace h := h.2 hc10
        refine r_ldc (v := (-1000000002)) ok dX8_go_33 tw_k_X8_82 ?_
        exact hret _ _ _ _ dX8_go_35 h
    · replace h := h.2 hc7
      refine r_ldc (v := (-1000000001)) ok dX8_go_21 tw_k_X8_174 ?_
      exact hret _ _ _ _ dX8_go_23 h
theorem c_X8_go (l : Launch) (G : Gx) {x1 x2 x3 : Int32} {S : St} {post : Int32 → St → Prop} (h : wp_X8_go x1 x2 x3 S post) : MtI l yX8_go cX8_go 4 (some .int) 4 98 G [.ref (G.2.2 71), .int x1, .int x2, .int x3] S post :=
  ctI (by decide) rfl (Nat.le_of_ble_eq_true rfl) (fun X _ hG ok hret => by subst hG; exact w_wp_X8_go ok hret h)

/-! HasteRoadsModel.await(II)I -/
theorem dX8_await_0 : decode cX8_await 0 = .ok (.aload_n 0, 1) := by decide +kernel
theorem dX8_await_1 : decode cX8_await 1 = .ok (.iconst 0, 1) := by decide +kernel
theorem dX8_await_2 : decode cX8_await 2 = .ok (.putfield 75, 3) := by decide +kernel
theorem dX8_await_5 : decode cX8_await 5 = .ok (.aload_n 0, 1) := by decide +kernel
theorem dX8_await_6 : decode cX8_await 6 = .ok (.iload_n 1, 1) := by decide +kernel
theorem dX8_await_7 : decode cX8_await 7 = .ok (.invokevirtual 182, 3) := by decide +kernel
theorem dX8_await_10 : decode cX8_await 10 = .ok (.ifCond .ne 6, 3) := by decide +kernel
theorem dX8_await_13 : decode cX8_await 13 = .ok (.ldc 174, 2) := by decide +kernel
theorem dX8_await_15 : decode cX8_await 15 = .ok (.ireturn, 1) := by decide +kernel
theorem dX8_await_16 : decode cX8_await 16 = .ok (.iload_n 2, 1) := by decide +kernel
theorem dX8_await_17 : decode cX8_await 17 = .ok (.iconst 1, 1) := by decide +kernel
theorem dX8_await_18 : decode cX8_await 18 = .ok (.sipush 999, 3) := by decide +kernel
theorem dX8_await_21 : decode cX8_await 21 = .ok (.invokestatic 78, 3) := by decide +kernel
theorem dX8_await_24 : decode cX8_await 24 = .ok (.ifCond .ne 6, 3) := by decide +kernel
theorem dX8_await_27 : decode cX8_await 27 = .ok (.ldc 82, 2) := by decide +kernel
theorem dX8_await_29 : decode cX8_await 29 = .ok (.ireturn, 1) := by decide +kernel
theorem dX8_await_30 : decode cX8_await 30 = .ok (.aload_n 0, 1) := by decide +kernel
theorem dX8_await_31 : decode cX8_await 31 = .ok (.getfield 23, 3) := by decide +kernel
theorem dX8_await_34 : decode cX8_await 34 = .ok (.iconst 4, 1) := by decide +kernel
theorem dX8_await_35 : decode cX8_await 35 = .ok (.iload_n 1, 1) := by decide +kernel
theorem dX8_await_36 : decode cX8_await 36 = .ok (.imul, 1) := by decide +kernel
theorem dX8_await_37 : decode cX8_await 37 = .ok (.iconst 3, 1) := by decide +kernel
theorem dX8_await_38 : decode cX8_await 38 = .ok (.iadd, 1) := by decide +kernel
theorem dX8_await_39 : decode cX8_await 39 = .ok (.iaload, 1) := by decide +kernel
theorem dX8_await_40 : decode cX8_await 40 = .ok (.ldc 198, 2) := by decide +kernel
theorem dX8_await_42 : decode cX8_await 42 = .ok (.if_icmp .le 6, 3) := by decide +kernel
theorem dX8_await_45 : decode cX8_await 45 = .ok (.ldc 86, 2) := by decide +kernel
theorem dX8_await_47 : decode cX8_await 47 = .ok (.ireturn, 1) := by decide +kernel
theorem dX8_await_48 : decode cX8_await 48 = .ok (.iconst 0, 1) := by decide +kernel
theorem dX8_await_49 : decode cX8_await 49 = .ok (.istore_n 3, 1) := by decide +kernel
theorem dX8_await_50 : decode cX8_await 50 = .ok (.iload_n 3, 1) := by decide +kernel
theorem dX8_await_51 : decode cX8_await 51 = .ok (.iload_n 2, 1) := by decide +kernel
theorem dX8_await_52 : decode cX8_await 52 = .ok (.if_icmp .ge 17, 3) := by decide +kernel
theorem dX8_await_55 : decode cX8_await 55 = .ok (.aload_n 0, 1) := by decide +kernel
theorem dX8_await_56 : decode cX8_await 56 = .ok (.getfield 23, 3) := by decide +kernel
theorem dX8_await_59 : decode cX8_await 59 = .ok (.iload_n 1, 1) := by decide +kernel
theorem dX8_await_60 : decode cX8_await 60 = .ok (.invokestatic 203, 3) := by decide +kernel
theorem dX8_await_63 : decode cX8_await 63 = .ok (.iinc 3 1, 3) := by decide +kernel
theorem dX8_await_66 : decode cX8_await 66 = .ok (.goto (-16), 3) := by decide +kernel
theorem dX8_await_69 : decode cX8_await 69 = .ok (.aload_n 0, 1) := by decide +kernel
theorem dX8_await_70 : decode cX8_await 70 = .ok (.getfield 23, 3) := by decide +kernel
theorem dX8_await_73 : decode cX8_await 73 = .ok (.iconst 4, 1) := by decide +kernel
theorem dX8_await_74 : decode cX8_await 74 = .ok (.iload_n 1, 1) := by decide +kernel
theorem dX8_await_75 : decode cX8_await 75 = .ok (.imul, 1) := by decide +kernel
theorem dX8_await_76 : decode cX8_await 76 = .ok (.iconst 3, 1) := by decide +kernel
theorem dX8_await_77 : decode cX8_await 77 = .ok (.iadd, 1) := by decide +kernel
theorem dX8_await_78 : decode cX8_await 78 = .ok (.iaload, 1) := by decide +kernel
theorem dX8_await_79 : decode cX8_await 79 = .ok (.ireturn, 1) := by decide +kernel
theorem cl_X8_203 {X : Cx} {cc : ByteArray} {nL pc fr lo : Nat} {L : List (Nat × Value)} {st : List Value} {S : St} (ok : Ok X cc nL RX8 fr lo) {a : Nat} (ha : AI a 28) {x1 : Int32} (d : decode cc pc = .ok (.invokestatic 203, 3)) (hroom : 1 ≤ fr ∧ 22 ≤ lo) (hst : (st.map fun v => v.category).sum ≤ 8) {post : St → Prop} (h : wp_X8_waits a x1 S post) (kk : ∀ S1 : St, post S1 → Wp X nL (pc + 3) L st S1) : Wp X nL pc L (.int x1 :: .ref (xad X a) :: st) S :=
  r_callSv (n := 3) (f := 0) (lo1 := 0) (N := 2) (As := [.ref (xad X a), .int x1]) ok tw_in_X8 tw_st_X8_waits tw_co_X8_waits tw_ml_X8_203 (by decide +kernel) rfl hroom hst d rfl (c_X8_waits (xl X) (xG X) ha h) kk
def B_X8_await_69 (post : Int32 → St → Prop) (x1 : Int32) (S : St) : Prop :=
  vp_in (((4 : Int32) * x1) + 3) 28 ∧ (post (S 75 (ix (((4 : Int32) * x1) + 3))) S)
def BD_X8_await_50 (k50 : Int32 → Int32 → Int32 → St → Prop) (post : Int32 → St → Prop) (x1 : Int32) (x2 : Int32) (x3 : Int32) (S : St) : Prop :=
  ((x2 ≤ x3 → B_X8_await_69 post x1 S) ∧ (¬ x2 ≤ x3 → wp_X8_waits 75 x1 S (fun S2 => k50 x1 x2 (x3 + 1) S2)))
def L_X8_await_50 (post : Int32 → St → Prop) (n : Nat) : Int32 → Int32 → Int32 → St → Prop := Nat.rec (motive := fun _ => Int32 → Int32 → Int32 → St → Prop) (fun _ _ _ _ => False) (fun _ ih => BD_X8_await_50 ih post) n
def B_X8_await_50 (post : Int32 → St → Prop) (x1 : Int32) (x2 : Int32) (x3 : Int32) (S : St) : Prop := ∃ n, L_X8_await_50 post n x1 x2 x3 S
def wp_X8_await (x1 : Int32) (x2 : Int32) (S : St) (post : Int32 → St → Prop) : Prop :=
  ∀ S1 : St, S1 = up S 71 0 0 → wp_X8_isPerson x1 S1 (fun r3 S2 => ((¬ r3 = 0 → wp_X8_in x2 1 999 S2 (fun r6 S5 => ((¬ r6 = 0 → vp_in (((4 : Int32) * x1) + 3) 28 ∧ ((((S5 75 (ix (((4 : Int32) * x1) + 3))) ≤ 90000 → B_X8_await_50 post x1 x2 0 S5) ∧ (¬ (S5 75 (ix (((4 : Int32) * x1) + 3))) ≤ 90000 → post (-1000000004) S5)))) ∧ (r6 = 0 → post (-1000000002) S5)))) ∧ (r3 = 0 → post (-1000000001) S2)))
theorem w_B_X8_await_69 {X : Cx} (ok : Ok X cX8_await 4 RX8 2 43) {post : Int32 → St → Prop} (hret : RetI X cX8_await 4 post) {x1 : Int32} {S : St} (h : B_X8_await_69 post x1 S) : Wp X 4 69 [(0, .ref (xad X 71)), (1, .int x1)] [] S := by
  unfold B_X8_await_69 at h
  refine r_aload_n ok dX8_await_69 0 rfl ?_
  refine gf_X8_23 ok dX8_await_70 ?_
  refine r_iconst (v := 4) ok dX8_await_73 rfl ?_
  refine r_iload_n ok dX8_await_74 1 rfl ?_
  refine r_imul ok dX8_await_75 ?_
  refine r_iconst (v := 3) ok dX8_await_76 rfl ?_
  refine r_iadd ok dX8_await_77 ?_
  refine r_iald ok ai_75 h.1 rfl dX8_await_78 ?_
  replace h := h.2
  exact hret _ _ _ _ dX8_await_79 h
theorem w_B_X8_await_50 {X : Cx} (ok : Ok X cX8_await 4 RX8 2 43) {post : Int32 → St → Prop} (hret : RetI X cX8_await 4 post) {x1 x2 x3 : Int32} {S : St} (h : B_X8_await_50 post x1 x2 x3 S) : Wp X 4 50 [(0, .ref (xad X 71)), (1, .int x1), (2, .int x2), (3, .int x3)] [] S := by
  obtain ⟨n, h⟩ := h
  induction n generalizing x1 x2 x3 S with
  | zero => exact False.elim h
  | succ n ih =>
    have hk50 : ∀ x1 x2 x3 S, L_X8_await_50 post n x1 x2 x3 S → Wp X 4 50 [(0, .ref (xad X 71)), (1, .int x1), (2, .int x2), (3, .int x3)] [] S := by intros; apply ih; assumption
    replace h : BD_X8_await_50 (L_X8_await_50 post n) post x1 x2 x3 S := h
    unfold BD_X8_await_50 at h
    generalize L_X8_await_50 post n = k50 at h hk50
    refine r_iload_n ok dX8_await_50 3 rfl ?_
    refine r_iload_n ok dX8_await_51 2 rfl ?_
    refine r_icmp_ge (tgt := 69) ok dX8_await_52 rfl (fun hc1 => ?_) (fun hc1 => ?_)
    · replace h := h.1 hc1
      refine r_sub [(0, .ref (xad X 71)), (1, .int x1)] [0, 1] rfl ?_
      exact w_B_X8_await_69 ok hret h
    · replace h := h.2 hc1
      refine r_aload_n ok dX8_await_55 0 rfl ?_
      refine gf_X8_23 ok dX8_await_56 ?_
      refine r_iload_n ok dX8_await_59 1 rfl ?_
      refine cl_X8_203 ok ai_75 dX8_await_60 (by decide) (Nat.le_of_ble_eq_true rfl) h (fun S2 h => ?_)
      refine r_iinc (v := x3 + 1) ok dX8_await_63 3 rfl rfl (by decide) [(0, .ref (xad X 71)), (1, .int x1), (2, .int x2), (3, .int (x3 + 1))] [1, 2, 3, 0] rfl ?_
      refine r_goto (tgt := 50) ok dX8_await_66 rfl ?_
      exact hk50 _ _ _ _ h
theorem w_wp_X8_await {X : Cx} (ok : Ok X cX8_await 4 RX8 2 43) {post : Int32 → St → Prop} (hret : RetI X cX8_await 4 post) {x1 x2 : Int32} {S : St} (h : wp_X8_await x1 x2 S post) : Wp X 4 0 [(0, .ref (xad X 71)), (1, .int x1), (2, .int x2)] [] S := by
  unfold wp_X8_await at h
  refine r_aload_n ok dX8_await_0 0 rfl ?_
  refine r_iconst (v := 0) ok dX8_await_1 rfl ?_
  refine pf_X8_75 ok dX8_await_2 (fun S1 eS1 => ?_)
  replace h := h S1 eS1
  refine r_aload_n ok dX8_await_5 0 rfl ?_
  refine r_iload_n ok dX8_await_6 1 rfl ?_
  refine cl_X8_182 ok dX8_await_7 (by decide) (Nat.le_of_ble_eq_true rfl) h (fun r3 S2 h => ?_)
  refine r_if_ne (tgt := 16) ok dX8_await_10 rfl (fun hc4 => ?_) (fun hc4 => ?_)
  · replace h := h.1 hc4
    refine r_iload_n ok dX8_await_16 2 rfl ?_
    refine r_iconst (v := 1) ok dX8_await_17 rfl ?_
    refine r_sipush (v := 999) ok dX8_await_18 rfl ?_
    refine cl_X8_78 ok dX8_await_21 (by decide) (Nat.le_of_ble_eq_true rfl) h (fun r6 S5 h => ?_)
    refine r_if_ne (tgt := 30) ok dX8_await_24 rfl (fun hc7 => ?_) (fun hc7 => ?_)
    · replace h := h.1 hc7
      refine r_aload_n ok dX8_await_30 0 rfl ?_
      refine gf_X8_23 ok dX8_await_31 ?_
      refine r_iconst (v := 4) ok dX8_await_34 rfl ?_
      refine r_iload_n ok dX8_await_35 1 rfl ?_
      refine r_imul ok dX8_await_36 ?_
      refine r_iconst (v := 3) ok dX8_await_37 rfl ?_
      refine r_iadd ok dX8_await_38 ?_
      refine r_iald ok ai_75 h.1 rfl dX8_await_39 ?_
      replace h := h.2
      refine r_ldc (v := 90000) ok dX8_await_40 tw_k_X8_198 ?_
      refine r_icmp_le (tgt := 48) ok dX8_await_42 rfl (fun hc8 => ?_) (fun hc8 => ?_)
      · replace h := h.1 hc8
        refine r_iconst (v := 0) ok dX8_await_48 rfl ?_
        refine r_istore_n ok dX8_await_49 (by decide) [(0, .ref (xad X 71)), (1, .int x1), (2, .int x2), (3, .int 0)] [1, 2, 3, 0] rfl ?_
        exact w_B_X8_await_50 ok hret h
      · replace h := h.2 hc8
        refine r_ldc (v := (-1000000004)) ok dX8_await_45 tw_k_X8_86 ?_
        exact hret _ _ _ _ dX8_await_47 h
    · replace h := h.2 hc7
      refine r_ldc (v := (-1000000002)) ok dX8_await_27 tw_k_X8_82 ?_
      exact hret _ _ _ _ dX8_await_29 h
  · replace h := h.2 hc4
    refine r_ldc (v := (-1000000001)) ok dX8_await_13 tw_k_X8_174 ?_
    exact hret _ _ _ _ dX8_await_15 h
theorem c_X8_await (l : Launch) (G : Gx) {x1 x2 : Int32} {S : St} {post : Int32 → St → Prop} (h : wp_X8_await x1 x2 S post) : MtI l yX8_await cX8_await 4 (some .int) 2 43 G [.ref (G.2.2 71), .int x1, .int x2] S post :=
  ctI (by decide) rfl (Nat.le_of_ble_eq_true rfl) (fun X _ hG ok hret => by subst hG; exact w_wp_X8_await ok hret h)

/-! HasteRoadsModel.load(II)I -/
theorem dX8_load_0 : decode cX8_load 0 = .ok (.aload_n 0, 1) := by decide +kernel
theorem dX8_load_1 : decode cX8_load 1 = .ok (.iconst 0, 1) := by decide +kernel
theorem dX8_load_2 : decode cX8_load 2 = .ok (.putfield 75, 3) := by decide +kernel
theorem dX8_load_5 : decode cX8_load 5 = .ok (.aload_n 0, 1) := by decide +kernel
theorem dX8_load_6 : decode cX8_load 6 = .ok (.iload_n 1, 1) := by decide +kernel
theorem dX8_load_7 : decode cX8_load 7 = .ok (.invokevirtual 182, 3) := by decide +kernel
theorem dX8_load_10 : decode cX8_load 10 = .ok (.ifCond .ne 6, 3) := by decide +kernel
theorem dX8_load_13 : decode cX8_load 13 = .ok (.ldc 174, 2) := by decide +kernel
theorem dX8_load_15 : decode cX8_load 15 = .ok (.ireturn, 1) := by decide +kernel
theorem dX8_load_16 : decode cX8_load 16 = .ok (.iload_n 2, 1) := by decide +kernel
theorem dX8_load_17 : decode cX8_load 17 = .ok (.iconst 0, 1) := by decide +kernel
theorem dX8_load_18 : decode cX8_load 18 = .ok (.bipush 9, 2) := by decide +kernel
theorem dX8_load_20 : decode cX8_load 20 = .ok (.invokestatic 78, 3) := by decide +kernel
theorem dX8_load_23 : decode cX8_load 23 = .ok (.ifCond .ne 6, 3) := by decide +kernel
theorem dX8_load_26 : decode cX8_load 26 = .ok (.ldc 82, 2) := by decide +kernel
theorem dX8_load_28 : decode cX8_load 28 = .ok (.ireturn, 1) := by decide +kernel
theorem dX8_load_29 : decode cX8_load 29 = .ok (.aload_n 0, 1) := by decide +kernel
theorem dX8_load_30 : decode cX8_load 30 = .ok (.getfield 23, 3) := by decide +kernel
theorem dX8_load_33 : decode cX8_load 33 = .ok (.iconst 4, 1) := by decide +kernel
theorem dX8_load_34 : decode cX8_load 34 = .ok (.iload_n 1, 1) := by decide +kernel
theorem dX8_load_35 : decode cX8_load 35 = .ok (.imul, 1) := by decide +kernel
theorem dX8_load_36 : decode cX8_load 36 = .ok (.iconst 2, 1) := by decide +kernel
theorem dX8_load_37 : decode cX8_load 37 = .ok (.iadd, 1) := by decide +kernel
theorem dX8_load_38 : decode cX8_load 38 = .ok (.iaload, 1) := by decide +kernel
theorem dX8_load_39 : decode cX8_load 39 = .ok (.istore_n 3, 1) := by decide +kernel
theorem dX8_load_40 : decode cX8_load 40 = .ok (.aload_n 0, 1) := by decide +kernel
theorem dX8_load_41 : decode cX8_load 41 = .ok (.getfield 23, 3) := by decide +kernel
theorem dX8_load_44 : decode cX8_load 44 = .ok (.iconst 4, 1) := by decide +kernel
theorem dX8_load_45 : decode cX8_load 45 = .ok (.iload_n 1, 1) := by decide +kernel
theorem dX8_load_46 : decode cX8_load 46 = .ok (.imul, 1) := by decide +kernel
theorem dX8_load_47 : decode cX8_load 47 = .ok (.iconst 2, 1) := by decide +kernel
theorem dX8_load_48 : decode cX8_load 48 = .ok (.iadd, 1) := by decide +kernel
theorem dX8_load_49 : decode cX8_load 49 = .ok (.iload_n 2, 1) := by decide +kernel
theorem dX8_load_50 : decode cX8_load 50 = .ok (.iastore, 1) := by decide +kernel
theorem dX8_load_51 : decode cX8_load 51 = .ok (.iload_n 3, 1) := by decide +kernel
theorem dX8_load_52 : decode cX8_load 52 = .ok (.ireturn, 1) := by decide +kernel

def wp_X8_load (x1 : Int32) (x2 : Int32) (S : St) (post : Int32 → St → Prop) : Prop :=
  ∀ S1 : St, S1 = up S 71 0 0 → wp_X8_isPerson x1 S1 (fun r3 S2 => ((¬ r3 = 0 → wp_X8_in x2 0 9 S2 (fun r6 S5 => ((¬ r6 = 0 → vp_in (((4 : Int32) * x1) + 2) 28 ∧ (∀ v8 : Int32, v8 = (S5 75 (ix (((4 : Int32) * x1) + 2))) → vp_in (((4 : Int32) * x1) + 2) 28 ∧ (∀ S9 : St, S9 = up S5 75 (ix (((4 : Int32) * x1) + 2)) x2 → post v8 S9))) ∧ (r6 = 0 → post (-1000000002) S5)))) ∧ (r3 = 0 → post (-1000000001) S2)))
theorem w_wp_X8_load {X : Cx} (ok : Ok X cX8_load 4 RX8 2 43) {post : Int32 → St → Prop} (hret : RetI X cX8_load 4 post) {x1 x2 : Int32} {S : St} (h : wp_X8_load x1 x2 S post) : Wp X 4 0 [(0, .ref (xad X 71)), (1, .int x1), (2, .int x2)] [] S := by
  unfold wp_X8_load at h
  refine r_aload_n ok dX8_load_0 0 rfl ?_
  refine r_iconst (v := 0) ok dX8_load_1 rfl ?_
  refine pf_X8_75 ok dX8_load_2 (fun S1 eS1 => ?_)
  replace h := h S1 eS1
  refine r_aload_n ok dX8_load_5 0 rfl ?_
  refine r_iload_n ok dX8_load_6 1 rfl ?_
  refine cl_X8_182 ok dX8_load_7 (by decide) (Nat.le_of_ble_eq_true rfl) h (fun r3 S2 h => ?_)
  refine r_if_ne (tgt := 16) ok dX8_load_10 rfl (fun hc4 => ?_) (fun hc4 => ?_)
  · replace h := h.1 hc4
    refine r_iload_n ok dX8_load_16 2 rfl ?_
    refine r_iconst (v := 0) ok dX8_load_17 rfl ?_
    refine r_bipush (v := 9) ok dX8_load_18 rfl ?_
    refine cl_X8_78 ok dX8_load_20 (by decide) (Nat.le_of_ble_eq_true rfl) h (fun r6 S5 h => ?_)
    refine r_if_ne (tgt := 29) ok dX8_load_23 rfl (fun hc7 => ?_) (fun hc7 => ?_)
    · replace h := h.1 hc7
      refine r_aload_n ok dX8_load_29 0 rfl ?_
      refine gf_X8_23 ok dX8_load_30 ?_
      refine r_iconst (v := 4) ok dX8_load_33 rfl ?_
      refine r_iload_n ok dX8_load_34 1 rfl ?_
      refine r_imul ok dX8_load_35 ?_
      refine r_iconst (v := 2) ok dX8_load_36 rfl ?_
      refine r_iadd ok dX8_load_37 ?_
      refine r_iald ok ai_75 h.1 rfl dX8_load_38 ?_
      replace h := h.2
      refine r_top (fun v8 ev8 => ?_)
      replace h := h v8 ev8
      refine r_istore_n ok dX8_load_39 (by decide) [(0, .ref (xad X 71)), (1, .int x1), (2, .int x2), (3, .int v8)] [1, 2, 3, 0] rfl ?_
      refine r_aload_n ok dX8_load_40 0 rfl ?_
      refine gf_X8_23 ok dX8_load_41 ?_
      refine r_iconst (v := 4) ok dX8_load_44 rfl ?_
      refine r_iload_n ok dX8_load_45 1 rfl ?_
      refine r_imul ok dX8_load_46 ?_
      refine r_iconst (v := 2) ok dX8_load_47 rfl ?_
      refine r_iadd ok dX8_load_48 ?_
      refine r_iload_n ok dX8_load_49 2 rfl ?_
      have hi10 := h.1
      replace h := h.2
      refine r_iast ok ai_75 hi10 rfl dX8_load_50 (fun S9 eS9 => ?_)
      replace h := h S9 eS9
      refine r_iload_n ok dX8_load_51 3 rfl ?_
      exact hret _ _ _ _ dX8_load_52 h
    · replace h := h.2 hc7
      refine r_ldc (v := (-1000000002)) ok dX8_load_26 tw_k_X8_82 ?_
      exact hret _ _ _ _ dX8_load_28 h
  · replace h := h.2 hc4
    refine r_ldc (v := (-1000000001)) ok dX8_load_13 tw_k_X8_174 ?_
    exact hret _ _ _ _ dX8_load_15 h
theorem c_X8_load (l : Launch) (G : Gx) {x1 x2 : Int32} {S : St} {post : Int32 → St → Prop} (h : wp_X8_load x1 x2 S post) : MtI l yX8_load cX8_load 4 (some .int) 2 43 G [.ref (G.2.2 71), .int x1, .int x2] S post :=
  ctI (by decide) rfl (Nat.le_of_ble_eq_true rfl) (fun X _ hG ok hret => by subst hG; exact w_wp_X8_load ok hret h)

/-! HasteRoadsModel.puts(IIZ)I -/
theorem dX8_puts_0 : decode cX8_puts 0 = .ok (.aload_n 0, 1) := by decide +kernel
theorem dX8_puts_1 : decode cX8_puts 1 = .ok (.getfield 23, 3) := by decide +kernel
theorem dX8_puts_4 : decode cX8_puts 4 = .ok (.iload_n 1, 1) := by decide +kernel
theorem dX8_puts_5 : decode cX8_puts 5 = .ok (.iaload, 1) := by decide +kernel
theorem dX8_puts_6 : decode cX8_puts 6 = .ok (.iload_n 2, 1) := by decide +kernel
theorem dX8_puts_7 : decode cX8_puts 7 = .ok (.ishr, 1) := by decide +kernel
theorem dX8_puts_8 : decode cX8_puts 8 = .ok (.iconst 1, 1) := by decide +kernel
theorem dX8_puts_9 : decode cX8_puts 9 = .ok (.iand, 1) := by decide +kernel
theorem dX8_puts_10 : decode cX8_puts 10 = .ok (.istore 4, 2) := by decide +kernel
theorem dX8_puts_12 : decode cX8_puts 12 = .ok (.aload_n 0, 1) := by decide +kernel
theorem dX8_puts_13 : decode cX8_puts 13 = .ok (.getfield 23, 3) := by decide +kernel
theorem dX8_puts_16 : decode cX8_puts 16 = .ok (.iload_n 1, 1) := by decide +kernel
theorem dX8_puts_17 : decode cX8_puts 17 = .ok (.iload_n 3, 1) := by decide +kernel
theorem dX8_puts_18 : decode cX8_puts 18 = .ok (.ifCond .eq 16, 3) := by decide +kernel
theorem dX8_puts_21 : decode cX8_puts 21 = .ok (.aload_n 0, 1) := by decide +kernel
theorem dX8_puts_22 : decode cX8_puts 22 = .ok (.getfield 23, 3) := by decide +kernel
theorem dX8_puts_25 : decode cX8_puts 25 = .ok (.iload_n 1, 1) := by decide +kernel
theorem dX8_puts_26 : decode cX8_puts 26 = .ok (.iaload, 1) := by decide +kernel
theorem dX8_puts_27 : decode cX8_puts 27 = .ok (.iconst 1, 1) := by decide +kernel
theorem dX8_puts_28 : decode cX8_puts 28 = .ok (.iload_n 2, 1) := by decide +kernel
theorem dX8_puts_29 : decode cX8_puts 29 = .ok (.ishl, 1) := by decide +kernel
theorem dX8_puts_30 : decode cX8_puts 30 = .ok (.ior, 1) := by decide +kernel
theorem dX8_puts_31 : decode cX8_puts 31 = .ok (.goto 15, 3) := by decide +kernel
theorem dX8_puts_34 : decode cX8_puts 34 = .ok (.aload_n 0, 1) := by decide +kernel
theorem dX8_puts_35 : decode cX8_puts 35 = .ok (.getfield 23, 3) := by decide +kernel
theorem dX8_puts_38 : decode cX8_puts 38 = .ok (.iload_n 1, 1) := by decide +kernel
theorem dX8_puts_39 : decode cX8_puts 39 = .ok (.iaload, 1) := by decide +kernel
theorem dX8_puts_40 : decode cX8_puts 40 = .ok (.iconst 1, 1) := by decide +kernel
theorem dX8_puts_41 : decode cX8_puts 41 = .ok (.iload_n 2, 1) := by decide +kernel
theorem dX8_puts_42 : decode cX8_puts 42 = .ok (.ishl, 1) := by decide +kernel
theorem dX8_puts_43 : decode cX8_puts 43 = .ok (.iconst (-1), 1) := by decide +kernel
theorem dX8_puts_44 : decode cX8_puts 44 = .ok (.ixor, 1) := by decide +kernel
theorem dX8_puts_45 : decode cX8_puts 45 = .ok (.iand, 1) := by decide +kernel
theorem dX8_puts_46 : decode cX8_puts 46 = .ok (.iastore, 1) := by decide +kernel
theorem dX8_puts_47 : decode cX8_puts 47 = .ok (.iload 4, 2) := by decide +kernel
theorem dX8_puts_49 : decode cX8_puts 49 = .ok (.ireturn, 1) := by decide +kernel

def wp_X8_puts (x1 : Int32) (x2 : Int32) (x3 : Int32) (S : St) (post : Int32 → St → Prop) : Prop :=
  vp_in x1 28 ∧ (∀ v1 : Int32, v1 = (((S 75 (ix x1)) >>> (x2 &&& 31)) &&& 1) → ((x3 = 0 → vp_in x1 28 ∧ (vp_in x1 28 ∧ (∀ S3 : St, S3 = up S 75 (ix x1) ((S 75 (ix x1)) &&& (((1 : Int32) <<< (x2 &&& 31)) ^^^ (-1))) → post v1 S3))) ∧ (¬ x3 = 0 → vp_in x1 28 ∧ (vp_in x1 28 ∧ (∀ S5 : St, S5 = up S 75 (ix x1) ((S 75 (ix x1)) ||| ((1 : Int32) <<< (x2 &&& 31))) → post v1 S5)))))
theorem w_wp_X8_puts {X : Cx} (ok : Ok X cX8_puts 5 RX8 0 0) {post : Int32 → St → Prop} (hret : RetI X cX8_puts 5 post) {x1 x2 x3 : Int32} {S : St} (h : wp_X8_puts x1 x2 x3 S post) : Wp X 5 0 [(0, .ref (xad X 71)), (1, .int x1), (2, .int x2), (3, .int x3)] [] S := by
  unfold wp_X8_puts at h
  refine r_aload_n ok dX8_puts_0 0 rfl ?_
  refine gf_X8_23 ok dX8_puts_1 ?_
  refine r_iload_n ok dX8_puts_4 1 rfl ?_
  refine r_iald ok ai_75 h.1 rfl dX8_puts_5 ?_
  replace h := h.2
  refine r_iload_n ok dX8_puts_6 2 rfl ?_
  refine r_ishr ok dX8_puts_7 ?_
  refine r_iconst (v := 1) ok dX8_puts_8 rfl ?_
  refine r_iand ok dX8_puts_9 ?_
  refine r_top (fun v1 ev1 => ?_)
  replace h := h v1 ev1
  refine r_istore ok dX8_puts_10 (by decide) [(0, .ref (xad X 71)), (1, .int x1), (2, .int x2), (3, .int x3), (4, .int v1)] [1, 2, 3, 4, 0] rfl ?_
  refine r_aload_n ok dX8_puts_12 0 rfl ?_
  refine gf_X8_23 ok dX8_puts_13 ?_
  refine r_iload_n ok dX8_puts_16 1 rfl ?_
  refine r_iload_n ok dX8_puts_17 3 rfl ?_
  refine r_if_eq (tgt := 34) ok dX8_puts_18 rfl (fun hc2 => ?_) (fun hc2 => ?_)
  · replace h := h.1 hc2
    refine r_aload_n ok dX8_puts_34 0 rfl ?_
    refine gf_X8_23 ok dX8_puts_35 ?_
    refine r_iload_n ok dX8_puts_38 1 rfl ?_
    refine r_iald ok ai_75 h.1 rfl dX8_puts_39 ?_
    replace h := h.2
    refine r_iconst (v := 1) ok dX8_puts_40 rfl ?_
    refine r_iload_n ok dX8_puts_41 2 rfl ?_
    refine r_ishl ok dX8_puts_42 ?_
    refine r_iconst (v := (-1)) ok dX8_puts_43 rfl ?_
    refine r_ixor ok dX8_puts_44 ?_
    refine r_iand ok dX8_puts_45 ?_
    have hi4 := h.1
    replace h := h.2
    refine r_iast ok ai_75 hi4 rfl dX8_puts_46 (fun S3 eS3 => ?_)
    replace h := h S3 eS3
    refine r_iload ok dX8_puts_47 4 rfl ?_
    exact hret _ _ _ _ dX8_puts_49 h
  · replace h := h.2 hc2
    refine r_aload_n ok dX8_puts_21 0 rfl ?_
    refine gf_X8_23 ok dX8_puts_22 ?_
    refine r_iload_n ok dX8_puts_25 1 rfl ?_
    refine r_iald ok ai_75 h.1 rfl dX8_puts_26 ?_
    replace h := h.2
    refine r_iconst (v := 1) ok dX8_puts_27 rfl ?_
    refine r_iload_n ok dX8_puts_28 2 rfl ?_
    refine r_ishl ok dX8_puts_29 ?_
    refine r_ior ok dX8_puts_30 ?_
    refine r_goto (tgt := 46) ok dX8_puts_31 rfl ?_
    have hi6 := h.1
    replace h := h.2
    refine r_iast ok ai_75 hi6 rfl dX8_puts_46 (fun S5 eS5 => ?_)
    replace h := h S5 eS5
    refine r_iload ok dX8_puts_47 4 rfl ?_
    exact hret _ _ _ _ dX8_puts_49 h
theorem c_X8_puts (l : Launch) (G : Gx) {x1 x2 x3 : Int32} {S : St} {post : Int32 → St → Prop} (h : wp_X8_puts x1 x2 x3 S post) : MtI l yX8_puts cX8_puts 5 (some .int) 0 0 G [.ref (G.2.2 71), .int x1, .int x2, .int x3] S post :=
  ctI (by decide) rfl (Nat.le_of_ble_eq_true rfl) (fun X _ hG ok hret => by subst hG; exact w_wp_X8_puts ok hret h)

/-! HasteRoadsModel.inn(IZ)I -/
theorem dX8_inn_0 : decode cX8_inn 0 = .ok (.aload_n 0, 1) := by decide +kernel
theorem dX8_inn_1 : decode cX8_inn 1 = .ok (.iconst 0, 1) := by decide +kernel
theorem dX8_inn_2 : decode cX8_inn 2 = .ok (.putfield 75, 3) := by decide +kernel
theorem dX8_inn_5 : decode cX8_inn 5 = .ok (.aload_n 0, 1) := by decide +kernel
theorem dX8_inn_6 : decode cX8_inn 6 = .ok (.iload_n 1, 1) := by decide +kernel
theorem dX8_inn_7 : decode cX8_inn 7 = .ok (.invokevirtual 185, 3) := by decide +kernel
theorem dX8_inn_10 : decode cX8_inn 10 = .ok (.ifCond .eq 14, 3) := by decide +kernel
theorem dX8_inn_13 : decode cX8_inn 13 = .ok (.aload_n 0, 1) := by decide +kernel
theorem dX8_inn_14 : decode cX8_inn 14 = .ok (.bipush 16, 2) := by decide +kernel
theorem dX8_inn_16 : decode cX8_inn 16 = .ok (.iload_n 1, 1) := by decide +kernel
theorem dX8_inn_17 : decode cX8_inn 17 = .ok (.iload_n 2, 1) := by decide +kernel
theorem dX8_inn_18 : decode cX8_inn 18 = .ok (.invokevirtual 207, 3) := by decide +kernel
theorem dX8_inn_21 : decode cX8_inn 21 = .ok (.goto 5, 3) := by decide +kernel
theorem dX8_inn_24 : decode cX8_inn 24 = .ok (.ldc 174, 2) := by decide +kernel
theorem dX8_inn_26 : decode cX8_inn 26 = .ok (.ireturn, 1) := by decide +kernel
theorem cl_X8_207 {X : Cx} {cc : ByteArray} {nL pc fr lo : Nat} {L : List (Nat × Value)} {st : List Value} {S : St} (ok : Ok X cc nL RX8 fr lo) {x1 x2 x3 : Int32} (d : decode cc pc = .ok (.invokevirtual 207, 3)) (hroom : 1 ≤ fr ∧ 24 ≤ lo) (hst : (st.map fun v => v.category).sum ≤ 8) {post : Int32 → St → Prop} (h : wp_X8_puts x1 x2 x3 S post) (kk : ∀ (r : Int32) (S1 : St), post r S1 → Wp X nL (pc + 3) L (.int r :: st) S1) : Wp X nL pc L (.int x3 :: .int x2 :: .int x1 :: .ref (xad X 71) :: st) S :=
  r_callVi (n := 5) (f := 0) (lo1 := 0) (N := 3) (As := [.int x1, .int x2, .int x3]) ok tw_in_X8 tw_im_X8_puts tw_se_X8_puts tw_co_X8_puts tw_ml_X8_207 (by decide +kernel) rfl ob_71 rfl hroom hst d rfl (c_X8_puts (xl X) (xG X) h) kk
def wp_X8_inn (x1 : Int32) (x2 : Int32) (S : St) (post : Int32 → St → Prop) : Prop :=
  ∀ S1 : St, S1 = up S 71 0 0 → wp_X8_isPlace x1 S1 (fun r3 S2 => ((r3 = 0 → post (-1000000001) S2) ∧ (¬ r3 = 0 → wp_X8_puts 16 x1 x2 S2 (fun r6 S5 => post r6 S5))))
theorem w_wp_X8_inn {X : Cx} (ok : Ok X cX8_inn 3 RX8 2 43) {post : Int32 → St → Prop} (hret : RetI X cX8_inn 3 post) {x1 x2 : Int32} {S : St} (h : wp_X8_inn x1 x2 S post) : Wp X 3 0 [(0, .ref (xad X 71)), (1, .int x1), (2, .int x2)] [] S := by
  unfold wp_X8_inn at h
  refine r_aload_n ok dX8_inn_0 0 rfl ?_
  refine r_iconst (v := 0) ok dX8_inn_1 rfl ?_
  refine pf_X8_75 ok dX8_inn_2 (fun S1 eS1 => ?_)
  replace h := h S1 eS1
  refine r_aload_n ok dX8_inn_5 0 rfl ?_
  refine r_iload_n ok dX8_inn_6 1 rfl ?_
  refine cl_X8_185 ok dX8_inn_7 (by decide) (Nat.le_of_ble_eq_true rfl) h (fun r3 S2 h => ?_)
  refine r_if_eq (tgt := 24) ok dX8_inn_10 rfl (fun hc4 => ?_) (fun hc4 => ?_)
  · replace h := h.1 hc4
    refine r_ldc (v := (-1000000001)) ok dX8_inn_24 tw_k_X8_174 ?_
    exact hret _ _ _ _ dX8_inn_26 h
  · replace h := h.2 hc4
    refine r_aload_n ok dX8_inn_13 0 rfl ?_
    refine r_bipush (v := 16) ok dX8_inn_14 rfl ?_
    refine r_iload_n ok dX8_inn_16 1 rfl ?_
    refine r_iload_n ok dX8_inn_17 2 rfl ?_
    refine cl_X8_207 ok dX8_inn_18 (by decide) (Nat.le_of_ble_eq_true rfl) h (fun r6 S5 h => ?_)
    refine r_goto (tgt := 26) ok dX8_inn_21 rfl ?_
    exact hret _ _ _ _ dX8_inn_26 h
theorem c_X8_inn (l : Launch) (G : Gx) {x1 x2 : Int32} {S : St} {post : Int32 → St → Prop} (h : wp_X8_inn x1 x2 S post) : MtI l yX8_inn cX8_inn 3 (some .int) 2 43 G [.ref (G.2.2 71), .int x1, .int x2] S post :=
  ctI (by decide) rfl (Nat.le_of_ble_eq_true rfl) (fun X _ hG ok hret => by subst hG; exact w_wp_X8_inn ok hret h)

/-! HasteRoadsModel.clock(IZ)I -/
theorem dX8_clock_0 : decode cX8_clock 0 = .ok (.aload_n 0, 1) := by decide +kernel
theorem dX8_clock_1 : decode cX8_clock 1 = .ok (.iconst 0, 1) := by decide +kernel
theorem dX8_clock_2 : decode cX8_clock 2 = .ok (.putfield 75, 3) := by decide +kernel
theorem dX8_clock_5 : decode cX8_clock 5 = .ok (.aload_n 0, 1) := by decide +kernel
theorem dX8_clock_6 : decode cX8_clock 6 = .ok (.iload_n 1, 1) := by decide +kernel
theorem dX8_clock_7 : decode cX8_clock 7 = .ok (.invokevirtual 185, 3) := by decide +kernel
theorem dX8_clock_10 : decode cX8_clock 10 = .ok (.ifCond .eq 14, 3) := by decide +kernel
theorem dX8_clock_13 : decode cX8_clock 13 = .ok (.aload_n 0, 1) := by decide +kernel
theorem dX8_clock_14 : decode cX8_clock 14 = .ok (.bipush 17, 2) := by decide +kernel
theorem dX8_clock_16 : decode cX8_clock 16 = .ok (.iload_n 1, 1) := by decide +kernel
theorem dX8_clock_17 : decode cX8_clock 17 = .ok (.iload_n 2, 1) := by decide +kernel
theorem dX8_clock_18 : decode cX8_clock 18 = .ok (.invokevirtual 207, 3) := by decide +kernel
theorem dX8_clock_21 : decode cX8_clock 21 = .ok (.goto 5, 3) := by decide +kernel
theorem dX8_clock_24 : decode cX8_clock 24 = .ok (.ldc 174, 2) := by decide +kernel
theorem dX8_clock_26 : decode cX8_clock 26 = .ok (.ireturn, 1) := by decide +kernel

def wp_X8_clock (x1 : Int32) (x2 : Int32) (S : St) (post : Int32 → St → Prop) : Prop :=
  ∀ S1 : St, S1 = up S 71 0 0 → wp_X8_isPlace x1 S1 (fun r3 S2 => ((r3 = 0 → post (-1000000001) S2) ∧ (¬ r3 = 0 → wp_X8_puts 17 x1 x2 S2 (fun r6 S5 => post r6 S5))))
theorem w_wp_X8_clock {X : Cx} (ok : Ok X cX8_clock 3 RX8 2 43) {post : Int32 → St → Prop} (hret : RetI X cX8_clock 3 post) {x1 x2 : Int32} {S : St} (h : wp_X8_clock x1 x2 S post) : Wp X 3 0 [(0, .ref (xad X 71)), (1, .int x1), (2, .int x2)] [] S := by
  unfold wp_X8_clock at h
  refine r_aload_n ok dX8_clock_0 0 rfl ?_
  refine r_iconst (v := 0) ok dX8_clock_1 rfl ?_
  refine pf_X8_75 ok dX8_clock_2 (fun S1 eS1 => ?_)
  replace h := h S1 eS1
  refine r_aload_n ok dX8_clock_5 0 rfl ?_
  refine r_iload_n ok dX8_clock_6 1 rfl ?_
  refine cl_X8_185 ok dX8_clock_7 (by decide) (Nat.le_of_ble_eq_true rfl) h (fun r3 S2 h => ?_)
  refine r_if_eq (tgt := 24) ok dX8_clock_10 rfl (fun hc4 => ?_) (fun hc4 => ?_)
  · replace h := h.1 hc4
    refine r_ldc (v := (-1000000001)) ok dX8_clock_24 tw_k_X8_174 ?_
    exact hret _ _ _ _ dX8_clock_26 h
  · replace h := h.2 hc4
    refine r_aload_n ok dX8_clock_13 0 rfl ?_
    refine r_bipush (v := 17) ok dX8_clock_14 rfl ?_
    refine r_iload_n ok dX8_clock_16 1 rfl ?_
    refine r_iload_n ok dX8_clock_17 2 rfl ?_
    refine cl_X8_207 ok dX8_clock_18 (by decide) (Nat.le_of_ble_eq_true rfl) h (fun r6 S5 h => ?_)
    refine r_goto (tgt := 26) ok dX8_clock_21 rfl ?_
    exact hret _ _ _ _ dX8_clock_26 h
theorem c_X8_clock (l : Launch) (G : Gx) {x1 x2 : Int32} {S : St} {post : Int32 → St → Prop} (h : wp_X8_clock x1 x2 S post) : MtI l yX8_clock cX8_clock 3 (some .int) 2 43 G [.ref (G.2.2 71), .int x1, .int x2] S post :=
  ctI (by decide) rfl (Nat.le_of_ble_eq_true rfl) (fun X _ hG ok hret => by subst hG; exact w_wp_X8_clock ok hret h)

/-! HasteRoadsModel.miles(II)I -/
theorem dX8_miles_0 : decode cX8_miles 0 = .ok (.aload_n 0, 1) := by decide +kernel
theorem dX8_miles_1 : decode cX8_miles 1 = .ok (.iconst 0, 1) := by decide +kernel
theorem dX8_miles_2 : decode cX8_miles 2 = .ok (.putfield 75, 3) := by decide +kernel
theorem dX8_miles_5 : decode cX8_miles 5 = .ok (.aload_n 0, 1) := by decide +kernel
theorem dX8_miles_6 : decode cX8_miles 6 = .ok (.iload_n 1, 1) := by decide +kernel
theorem dX8_miles_7 : decode cX8_miles 7 = .ok (.invokevirtual 170, 3) := by decide +kernel
theorem dX8_miles_10 : decode cX8_miles 10 = .ok (.ifCond .ne 6, 3) := by decide +kernel
theorem dX8_miles_13 : decode cX8_miles 13 = .ok (.ldc 174, 2) := by decide +kernel
theorem dX8_miles_15 : decode cX8_miles 15 = .ok (.ireturn, 1) := by decide +kernel
theorem dX8_miles_16 : decode cX8_miles 16 = .ok (.iload_n 2, 1) := by decide +kernel
theorem dX8_miles_17 : decode cX8_miles 17 = .ok (.iconst 1, 1) := by decide +kernel
theorem dX8_miles_18 : decode cX8_miles 18 = .ok (.bipush 20, 2) := by decide +kernel
theorem dX8_miles_20 : decode cX8_miles 20 = .ok (.invokestatic 78, 3) := by decide +kernel
theorem dX8_miles_23 : decode cX8_miles 23 = .ok (.ifCond .ne 6, 3) := by decide +kernel
theorem dX8_miles_26 : decode cX8_miles 26 = .ok (.ldc 82, 2) := by decide +kernel
theorem dX8_miles_28 : decode cX8_miles 28 = .ok (.ireturn, 1) := by decide +kernel
theorem dX8_miles_29 : decode cX8_miles 29 = .ok (.aload_n 0, 1) := by decide +kernel
theorem dX8_miles_30 : decode cX8_miles 30 = .ok (.getfield 23, 3) := by decide +kernel
theorem dX8_miles_33 : decode cX8_miles 33 = .ok (.bipush 18, 2) := by decide +kernel
theorem dX8_miles_35 : decode cX8_miles 35 = .ok (.iload_n 1, 1) := by decide +kernel
theorem dX8_miles_36 : decode cX8_miles 36 = .ok (.iadd, 1) := by decide +kernel
theorem dX8_miles_37 : decode cX8_miles 37 = .ok (.iaload, 1) := by decide +kernel
theorem dX8_miles_38 : decode cX8_miles 38 = .ok (.istore_n 3, 1) := by decide +kernel
theorem dX8_miles_39 : decode cX8_miles 39 = .ok (.aload_n 0, 1) := by decide +kernel
theorem dX8_miles_40 : decode cX8_miles 40 = .ok (.getfield 23, 3) := by decide +kernel
theorem dX8_miles_43 : decode cX8_miles 43 = .ok (.bipush 18, 2) := by decide +kernel
theorem dX8_miles_45 : decode cX8_miles 45 = .ok (.iload_n 1, 1) := by decide +kernel
theorem dX8_miles_46 : decode cX8_miles 46 = .ok (.iadd, 1) := by decide +kernel
theorem dX8_miles_47 : decode cX8_miles 47 = .ok (.iload_n 2, 1) := by decide +kernel
theorem dX8_miles_48 : decode cX8_miles 48 = .ok (.iastore, 1) := by decide +kernel
theorem dX8_miles_49 : decode cX8_miles 49 = .ok (.iload_n 3, 1) := by decide +kernel
theorem dX8_miles_50 : decode cX8_miles 50 = .ok (.ireturn, 1) := by decide +kernel

def wp_X8_miles (x1 : Int32) (x2 : Int32) (S : St) (post : Int32 → St → Prop) : Prop :=
  ∀ S1 : St, S1 = up S 71 0 0 → wp_X8_isRoad x1 S1 (fun r3 S2 => ((¬ r3 = 0 → wp_X8_in x2 1 20 S2 (fun r6 S5 => ((¬ r6 = 0 → vp_in ((18 : Int32) + x1) 28 ∧ (∀ v8 : Int32, v8 = (S5 75 (ix ((18 : Int32) + x1))) → vp_in ((18 : Int32) + x1) 28 ∧ (∀ S9 : St, S9 = up S5 75 (ix ((18 : Int32) + x1)) x2 → post v8 S9))) ∧ (r6 = 0 → post (-1000000002) S5)))) ∧ (r3 = 0 → post (-1000000001) S2)))
theorem w_wp_X8_miles {X : Cx} (ok : Ok X cX8_miles 4 RX8 2 43) {post : Int32 → St → Prop} (hret : RetI X cX8_miles 4 post) {x1 x2 : Int32} {S : St} (h : wp_X8_miles x1 x2 S post) : Wp X 4 0 [(0, .ref (xad X 71)), (1, .int x1), (2, .int x2)] [] S := by
  unfold wp_X8_miles at h
  refine r_aload_n ok dX8_miles_0 0 rfl ?_
  refine r_iconst (v := 0) ok dX8_miles_1 rfl ?_
  refine pf_X8_75 ok dX8_miles_2 (fun S1 eS1 => ?_)
  replace h := h S1 eS1
  refine r_aload_n ok dX8_miles_5 0 rfl ?_
  refine r_iload_n ok dX8_miles_6 1 rfl ?_
  refine cl_X8_170 ok dX8_miles_7 (by decide) (Nat.le_of_ble_eq_true rfl) h (fun r3 S2 h => ?_)
  refine r_if_ne (tgt := 16) ok dX8_miles_10 rfl (fun hc4 => ?_) (fun hc4 => ?_)
  · replace h := h.1 hc4
    refine r_iload_n ok dX8_miles_16 2 rfl ?_
    refine r_iconst (v := 1) ok dX8_miles_17 rfl ?_
    refine r_bipush (v := 20) ok dX8_miles_18 rfl ?_
    refine cl_X8_78 ok dX8_miles_20 (by decide) (Nat.le_of_ble_eq_true rfl) h (fun r6 S5 h => ?_)
    refine r_if_ne (tgt := 29) ok dX8_miles_23 rfl (fun hc7 => ?_) (fun hc7 => ?_)
    · replace h := h.1 hc7
      refine r_aload_n ok dX8_miles_29 0 rfl ?_
      refine gf_X8_23 ok dX8_miles_30 ?_
      refine r_bipush (v := 18) ok dX8_miles_33 rfl ?_
      refine r_iload_n ok dX8_miles_35 1 rfl ?_
      refine r_iadd ok dX8_miles_36 ?_
      refine r_iald ok ai_75 h.1 rfl dX8_miles_37 ?_
      replace h := h.2
      refine r_top (fun v8 ev8 => ?_)
      replace h := h v8 ev8
      refine r_istore_n ok dX8_miles_38 (by decide) [(0, .ref (xad X 71)), (1, .int x1), (2, .int x2), (3, .int v8)] [1, 2, 3, 0] rfl ?_
      refine r_aload_n ok dX8_miles_39 0 rfl ?_
      refine gf_X8_23 ok dX8_miles_40 ?_
      refine r_bipush (v := 18) ok dX8_miles_43 rfl ?_
      refine r_iload_n ok dX8_miles_45 1 rfl ?_
      refine r_iadd ok dX8_miles_46 ?_
      refine r_iload_n ok dX8_miles_47 2 rfl ?_
      have hi10 := h.1
      replace h := h.2
      refine r_iast ok ai_75 hi10 rfl dX8_miles_48 (fun S9 eS9 => ?_)
      replace h := h S9 eS9
      refine r_iload_n ok dX8_miles_49 3 rfl ?_
      exact hret _ _ _ _ dX8_miles_50 h
    · replace h := h.2 hc7
      refine r_ldc (v := (-1000000002)) ok dX8_miles_26 tw_k_X8_82 ?_
      exact hret _ _ _ _ dX8_miles_28 h
  · replace h := h.2 hc4
    refine r_ldc (v := (-1000000001)) ok dX8_miles_13 tw_k_X8_174 ?_
    exact hret _ _ _ _ dX8_miles_15 h
theorem c_X8_miles (l : Launch) (G : Gx) {x1 x2 : Int32} {S : St} {post : Int32 → St → Prop} (h : wp_X8_miles x1 x2 S post) : MtI l yX8_miles cX8_miles 4 (some .int) 2 43 G [.ref (G.2.2 71), .int x1, .int x2] S post :=
  ctI (by decide) rfl (Nat.le_of_ble_eq_true rfl) (fun X _ hG ok hret => by subst hG; exact w_wp_X8_miles ok hret h)

/-! HasteRoadsModel.draw(I)I -/
theorem dX8_draw_0 : decode cX8_draw 0 = .ok (.aload_n 0, 1) := by decide +kernel
theorem dX8_draw_1 : decode cX8_draw 1 = .ok (.getfield 23, 3) := by decide +kernel
theorem dX8_draw_4 : decode cX8_draw 4 = .ok (.bipush 27, 2) := by decide +kernel
theorem dX8_draw_6 : decode cX8_draw 6 = .ok (.aload_n 0, 1) := by decide +kernel
theorem dX8_draw_7 : decode cX8_draw 7 = .ok (.getfield 23, 3) := by decide +kernel
theorem dX8_draw_10 : decode cX8_draw 10 = .ok (.bipush 27, 2) := by decide +kernel
theorem dX8_draw_12 : decode cX8_draw 12 = .ok (.iaload, 1) := by decide +kernel
theorem dX8_draw_13 : decode cX8_draw 13 = .ok (.ldc 211, 2) := by decide +kernel
theorem dX8_draw_15 : decode cX8_draw 15 = .ok (.imul, 1) := by decide +kernel
theorem dX8_draw_16 : decode cX8_draw 16 = .ok (.sipush 12345, 3) := by decide +kernel
theorem dX8_draw_19 : decode cX8_draw 19 = .ok (.iadd, 1) := by decide +kernel
theorem dX8_draw_20 : decode cX8_draw 20 = .ok (.ldc 212, 2) := by decide +kernel
theorem dX8_draw_22 : decode cX8_draw 22 = .ok (.iand, 1) := by decide +kernel
theorem dX8_draw_23 : decode cX8_draw 23 = .ok (.iastore, 1) := by decide +kernel
theorem dX8_draw_24 : decode cX8_draw 24 = .ok (.aload_n 0, 1) := by decide +kernel
theorem dX8_draw_25 : decode cX8_draw 25 = .ok (.getfield 23, 3) := by decide +kernel
theorem dX8_draw_28 : decode cX8_draw 28 = .ok (.bipush 27, 2) := by decide +kernel
theorem dX8_draw_30 : decode cX8_draw 30 = .ok (.iaload, 1) := by decide +kernel
theorem dX8_draw_31 : decode cX8_draw 31 = .ok (.ldc 213, 2) := by decide +kernel
theorem dX8_draw_33 : decode cX8_draw 33 = .ok (.idiv, 1) := by decide +kernel
theorem dX8_draw_34 : decode cX8_draw 34 = .ok (.iload_n 1, 1) := by decide +kernel
theorem dX8_draw_35 : decode cX8_draw 35 = .ok (.irem, 1) := by decide +kernel
theorem dX8_draw_36 : decode cX8_draw 36 = .ok (.ireturn, 1) := by decide +kernel

def wp_X8_draw (x1 : Int32) (S : St) (post : Int32 → St → Prop) : Prop :=
  ∀ S1 : St, S1 = up S 75 27 ((((S 75 27) * 1103515245) + 12345) &&& 2147483647) → ¬ x1 = 0 ∧ (post (((S1 75 27) / 65536) - ((S1 75 27) / 65536) / x1 * x1) S1)
theorem w_wp_X8_draw {X : Cx} (ok : Ok X cX8_draw 2 RX8 0 0) {post : Int32 → St → Prop} (hret : RetI X cX8_draw 2 post) {x1 : Int32} {S : St} (h : wp_X8_draw x1 S post) : Wp X 2 0 [(0, .ref (xad X 71)), (1, .int x1)] [] S := by
  unfold wp_X8_draw at h
  refine r_aload_n ok dX8_draw_0 0 rfl ?_
  refine gf_X8_23 ok dX8_draw_1 ?_
  refine r_bipush (v := 27) ok dX8_draw_4 rfl ?_
  refine r_aload_n ok dX8_draw_6 0 rfl ?_
  refine gf_X8_23 ok dX8_draw_7 ?_
  refine r_bipush (v := 27) ok dX8_draw_10 rfl ?_
  refine r_iald (j := 27) ok ai_75 (in_lit (by decide)) (by decide) dX8_draw_12 ?_
  refine r_ldc (v := 1103515245) ok dX8_draw_13 tw_k_X8_211 ?_
  refine r_imul ok dX8_draw_15 ?_
  refine r_sipush (v := 12345) ok dX8_draw_16 rfl ?_
  refine r_iadd ok dX8_draw_19 ?_
  refine r_ldc (v := 2147483647) ok dX8_draw_20 tw_k_X8_212 ?_
  refine r_iand ok dX8_draw_22 ?_
  refine r_iast (j := 27) ok ai_75 (in_lit (by decide)) (by decide) dX8_draw_23 (fun S1 eS1 => ?_)
  replace h := h S1 eS1
  refine r_aload_n ok dX8_draw_24 0 rfl ?_
  refine gf_X8_23 ok dX8_draw_25 ?_
  refine r_bipush (v := 27) ok dX8_draw_28 rfl ?_
  refine r_iald (j := 27) ok ai_75 (in_lit (by decide)) (by decide) dX8_draw_30 ?_
  refine r_ldc (v := 65536) ok dX8_draw_31 tw_k_X8_213 ?_
  refine r_idiv ok dX8_draw_33 (by decide) ?_
  refine r_iload_n ok dX8_draw_34 1 rfl ?_
  refine r_irem ok dX8_draw_35 h.1 ?_
  replace h := h.2
  exact hret _ _ _ _ dX8_draw_36 h
theorem c_X8_draw (l : Launch) (G : Gx) {x1 : Int32} {S : St} {post : Int32 → St → Prop} (h : wp_X8_draw x1 S post) : MtI l yX8_draw cX8_draw 2 (some .int) 0 0 G [.ref (G.2.2 71), .int x1] S post :=
  ctI (by decide) rfl (Nat.le_of_ble_eq_true rfl) (fun X _ hG ok hret => by subst hG; exact w_wp_X8_draw ok hret h)

/-! HasteRoadsModel.roadsFrom(I)I -/
theorem dX8_roadsFrom_0 : decode cX8_roadsFrom 0 = .ok (.iconst 0, 1) := by decide +kernel
theorem dX8_roadsFrom_1 : decode cX8_roadsFrom 1 = .ok (.istore_n 2, 1) := by decide +kernel
theorem dX8_roadsFrom_2 : decode cX8_roadsFrom 2 = .ok (.iconst 0, 1) := by decide +kernel
theorem dX8_roadsFrom_3 : decode cX8_roadsFrom 3 = .ok (.istore_n 3, 1) := by decide +kernel
theorem dX8_roadsFrom_4 : decode cX8_roadsFrom 4 = .ok (.iload_n 3, 1) := by decide +kernel
theorem dX8_roadsFrom_5 : decode cX8_roadsFrom 5 = .ok (.aload_n 0, 1) := by decide +kernel
theorem dX8_roadsFrom_6 : decode cX8_roadsFrom 6 = .ok (.getfield 158, 3) := by decide +kernel
theorem dX8_roadsFrom_9 : decode cX8_roadsFrom 9 = .ok (.if_icmp .ge 27, 3) := by decide +kernel
theorem dX8_roadsFrom_12 : decode cX8_roadsFrom 12 = .ok (.iload_n 2, 1) := by decide +kernel
theorem dX8_roadsFrom_13 : decode cX8_roadsFrom 13 = .ok (.aload_n 0, 1) := by decide +kernel
theorem dX8_roadsFrom_14 : decode cX8_roadsFrom 14 = .ok (.iload_n 3, 1) := by decide +kernel
theorem dX8_roadsFrom_15 : decode cX8_roadsFrom 15 = .ok (.iload_n 1, 1) := by decide +kernel
theorem dX8_roadsFrom_16 : decode cX8_roadsFrom 16 = .ok (.invokevirtual 189, 3) := by decide +kernel
theorem dX8_roadsFrom_19 : decode cX8_roadsFrom 19 = .ok (.iconst (-1), 1) := by decide +kernel
theorem dX8_roadsFrom_20 : decode cX8_roadsFrom 20 = .ok (.if_icmp .ne 7, 3) := by decide +kernel
theorem dX8_roadsFrom_23 : decode cX8_roadsFrom 23 = .ok (.iconst 0, 1) := by decide +kernel
theorem dX8_roadsFrom_24 : decode cX8_roadsFrom 24 = .ok (.goto 4, 3) := by decide +kernel
theorem dX8_roadsFrom_27 : decode cX8_roadsFrom 27 = .ok (.iconst 1, 1) := by decide +kernel
theorem dX8_roadsFrom_28 : decode cX8_roadsFrom 28 = .ok (.iadd, 1) := by decide +kernel
theorem dX8_roadsFrom_29 : decode cX8_roadsFrom 29 = .ok (.istore_n 2, 1) := by decide +kernel
theorem dX8_roadsFrom_30 : decode cX8_roadsFrom 30 = .ok (.iinc 3 1, 3) := by decide +kernel
theorem dX8_roadsFrom_33 : decode cX8_roadsFrom 33 = .ok (.goto (-29), 3) := by decide +kernel
theorem dX8_roadsFrom_36 : decode cX8_roadsFrom 36 = .ok (.iload_n 2, 1) := by decide +kernel
theorem dX8_roadsFrom_37 : decode cX8_roadsFrom 37 = .ok (.ireturn, 1) := by decide +kernel

def BD_X8_roadsFrom_4 (k4 : Int32 → Int32 → Int32 → St → Prop) (post : Int32 → St → Prop) (x1 : Int32) (x2 : Int32) (x3 : Int32) (S : St) : Prop :=
  (((S 71 11) ≤ x3 → post x2 S) ∧ (¬ (S 71 11) ≤ x3 → wp_X8_otherEnd x3 x1 S (fun r3 S2 => ((¬ r3 = (-1) → ∀ v5 : Int32, v5 = (x2 + 1) → k4 x1 v5 (x3 + 1) S2) ∧ (r3 = (-1) → ∀ v6 : Int32, v6 = (x2 + 0) → k4 x1 v6 (x3 + 1) S2)))))
def L_X8_roadsFrom_4 (post : Int32 → St → Prop) (n : Nat) : Int32 → Int32 → Int32 → St → Prop := Nat.rec (motive := fun _ => Int32 → Int32 → Int32 → St → Prop) (fun _ _ _ _ => False) (fun _ ih => BD_X8_roadsFrom_4 ih post) n
def B_X8_roadsFrom_4 (post : Int32 → St → Prop) (x1 : Int32) (x2 : Int32) (x3 : Int32) (S : St) : Prop := ∃ n, L_X8_roadsFrom_4 post n x1 x2 x3 S
def wp_X8_roadsFrom (x1 : Int32) (S : St) (post : Int32 → St → Prop) : Prop :=
  B_X8_roadsFrom_4 post x1 0 0 S
theorem w_B_X8_roadsFrom_4 {X : Cx} (ok : Ok X cX8_roadsFrom 4 RX8 1 22) {post : Int32 → St → Prop} (hret : RetI X cX8_roadsFrom 4 post) {x1 x2 x3 : Int32} {S : St} (h : B_X8_roadsFrom_4 post x1 x2 x3 S) : Wp X 4 4 [(0, .ref (xad X 71)), (1, .int x1), (2, .int x2), (3, .int x3)] [] S := by
  obtain ⟨n, h⟩ := h
  induction n generalizing x1 x2 x3 S with
  | zero => exact False.elim h
  | succ n ih =>
    have hk4 : ∀ x1 x2 x3 S, L_X8_roadsFrom_4 post n x1 x2 x3 S → Wp X 4 4 [(0, .ref (xad X 71)), (1, .int x1), (2, .int x2), (3, .int x3)] [] S := by intros; apply ih; assumption
    replace h : BD_X8_roadsFrom_4 (L_X8_roadsFrom_4 post n) post x1 x2 x3 S := h
    unfold BD_X8_roadsFrom_4 at h
    generalize L_X8_roadsFrom_4 post n = k4 at h hk4
    refine r_iload_n ok dX8_roadsFrom_4 3 rfl ?_
    refine r_aload_n ok dX8_roadsFrom_5 0 rfl ?_
    refine gf_X8_158 ok dX8_roadsFrom_6 ?_
    refine r_icmp_ge (tgt := 36) ok dX8_roadsFrom_9 rfl (fun hc1 => ?_) (fun hc1 => ?_)
    · replace h := h.1 hc1
      refine r_iload_n ok dX8_roadsFrom_36 2 rfl ?_
      exact hret _ _ _ _ dX8_roadsFrom_37 h
    · replace h := h.2 hc1
      refine r_iload_n ok dX8_roadsFrom_12 2 rfl ?_
      refine r_aload_n ok dX8_roadsFrom_13 0 rfl ?_
      refine r_iload_n ok dX8_roadsFrom_14 3 rfl ?_
      refine r_iload_n ok dX8_roadsFrom_15 1 rfl ?_
      refine cl_X8_189 ok dX8_roadsFrom_16 (by decide) (Nat.le_of_ble_eq_true rfl) h (fun r3 S2 h => ?_)
      refine r_iconst (v := (-1)) ok dX8_roadsFrom_19 rfl ?_
      refine r_icmp_ne (tgt := 27) ok dX8_roadsFrom_20 rfl (fun hc4 => ?_) (fun hc4 => ?_)
      · replace h := h.1 hc4
        refine r_iconst (v := 1) ok dX8_roadsFrom_27 rfl ?_
        refine r_iadd ok dX8_roadsFrom_28 ?_
        refine r_top (fun v5 ev5 => ?_)
        replace h := h v5 ev5
        refine r_istore_n ok dX8_roadsFrom_29 (by decide) [(0, .ref (xad X 71)), (1, .int x1), (2, .int v5), (3, .int x3)] [1, 2, 0, 3] rfl ?_
        refine r_iinc (v := x3 + 1) ok dX8_roadsFrom_30 3 rfl rfl (by decide) [(0, .ref (xad X 71)), (1, .int x1), (2, .int v5), (3, .int (x3 + 1))] [1, 2, 3, 0] rfl ?_
        refine r_goto (tgt := 4) ok dX8_roadsFrom_33 rfl ?_
        exact hk4 _ _ _ _ h
      · replace h := h.2 hc4
        refine r_iconst (v := 0) ok dX8_roadsFrom_23 rfl ?_
        refine r_goto (tgt := 28) ok dX8_roadsFrom_24 rfl ?_
        refine r_iadd ok dX8_roadsFrom_28 ?_
        refine r_top (fun v6 ev6 => ?_)
        replace h := h v6 ev6
        refine r_istore_n ok dX8_roadsFrom_29 (by decide) [(0, .ref (xad X 71)), (1, .int x1), (2, .int v6), (3, .int x3)] [1, 2, 0, 3] rfl ?_
        refine r_iinc (v := x3 + 1) ok dX8_roadsFrom_30 3 rfl rfl (by decide) [(0, .ref (xad X 71)), (1, .int x1), (2, .int v6), (3, .int (x3 + 1))] [1, 2, 3, 0] rfl ?_
        refine r_goto (tgt := 4) ok dX8_roadsFrom_33 rfl ?_
        exact hk4 _ _ _ _ h
theorem w_wp_X8_roadsFrom {X : Cx} (ok : Ok X cX8_roadsFrom 4 RX8 1 22) {post : Int32 → St → Prop} (hret : RetI X cX8_roadsFrom 4 post) {x1 : Int32} {S : St} (h : wp_X8_roadsFrom x1 S post) : Wp X 4 0 [(0, .ref (xad X 71)), (1, .int x1)] [] S := by
  unfold wp_X8_roadsFrom at h
  refine r_iconst (v := 0) ok dX8_roadsFrom_0 rfl ?_
  refine r_istore_n ok dX8_roadsFrom_1 (by decide) [(0, .ref (xad X 71)), (1, .int x1), (2, .int 0)] [1, 2, 0] rfl ?_
  refine r_iconst (v := 0) ok dX8_roadsFrom_2 rfl ?_
  refine r_istore_n ok dX8_roadsFrom_3 (by decide) [(0, .ref (xad X 71)), (1, .int x1), (2, .int 0), (3, .int 0)] [1, 2, 3, 0] rfl ?_
  exact w_B_X8_roadsFrom_4 ok hret h
theorem c_X8_roadsFrom (l : Launch) (G : Gx) {x1 : Int32} {S : St} {post : Int32 → St → Prop} (h : wp_X8_roadsFrom x1 S post) : MtI l yX8_roadsFrom cX8_roadsFrom 4 (some .int) 1 22 G [.ref (G.2.2 71), .int x1] S post :=
  ctI (by decide) rfl (Nat.le_of_ble_eq_true rfl) (fun X _ hG ok hret => by subst hG; exact w_wp_X8_roadsFrom ok hret h)

/-! HasteRoadsModel.roadFrom(II)I -/
theorem dX8_roadFrom_0 : decode cX8_roadFrom 0 = .ok (.iload_n 2, 1) := by decide +kernel
theorem dX8_roadFrom_1 : decode cX8_roadFrom 1 = .ok (.istore_n 3, 1) := by decide +kernel
theorem dX8_roadFrom_2 : decode cX8_roadFrom 2 = .ok (.iconst 0, 1) := by decide +kernel
theorem dX8_roadFrom_3 : decode cX8_roadFrom 3 = .ok (.istore 4, 2) := by decide +kernel
theorem dX8_roadFrom_5 : decode cX8_roadFrom 5 = .ok (.iload 4, 2) := by decide +kernel
theorem dX8_roadFrom_7 : decode cX8_roadFrom 7 = .ok (.aload_n 0, 1) := by decide +kernel
theorem dX8_roadFrom_8 : decode cX8_roadFrom 8 = .ok (.getfield 158, 3) := by decide +kernel
theorem dX8_roadFrom_11 : decode cX8_roadFrom 11 = .ok (.if_icmp .ge 30, 3) := by decide +kernel
theorem dX8_roadFrom_14 : decode cX8_roadFrom 14 = .ok (.aload_n 0, 1) := by decide +kernel
theorem dX8_roadFrom_15 : decode cX8_roadFrom 15 = .ok (.iload 4, 2) := by decide +kernel
theorem dX8_roadFrom_17 : decode cX8_roadFrom 17 = .ok (.iload_n 1, 1) := by decide +kernel
theorem dX8_roadFrom_18 : decode cX8_roadFrom 18 = .ok (.invokevirtual 189, 3) := by decide +kernel
theorem dX8_roadFrom_21 : decode cX8_roadFrom 21 = .ok (.iconst (-1), 1) := by decide +kernel
theorem dX8_roadFrom_22 : decode cX8_roadFrom 22 = .ok (.if_icmp .eq 13, 3) := by decide +kernel
theorem dX8_roadFrom_25 : decode cX8_roadFrom 25 = .ok (.iload_n 3, 1) := by decide +kernel
theorem dX8_roadFrom_26 : decode cX8_roadFrom 26 = .ok (.ifCond .ne 6, 3) := by decide +kernel
theorem dX8_roadFrom_29 : decode cX8_roadFrom 29 = .ok (.iload 4, 2) := by decide +kernel
theorem dX8_roadFrom_31 : decode cX8_roadFrom 31 = .ok (.ireturn, 1) := by decide +kernel
theorem dX8_roadFrom_32 : decode cX8_roadFrom 32 = .ok (.iinc 3 (-1), 3) := by decide +kernel
theorem dX8_roadFrom_35 : decode cX8_roadFrom 35 = .ok (.iinc 4 1, 3) := by decide +kernel
theorem dX8_roadFrom_38 : decode cX8_roadFrom 38 = .ok (.goto (-33), 3) := by decide +kernel
theorem dX8_roadFrom_41 : decode cX8_roadFrom 41 = .ok (.iconst (-1), 1) := by decide +kernel
theorem dX8_roadFrom_42 : decode cX8_roadFrom 42 = .ok (.ireturn, 1) := by decide +kernel

def BD_X8_roadFrom_5 (k5 : Int32 → Int32 → Int32 → St → Prop) (post : Int32 → St → Prop) (x1 : Int32) (x3 : Int32) (x4 : Int32) (S : St) : Prop :=
  (((S 71 11) ≤ x4 → post (-1) S) ∧ (¬ (S 71 11) ≤ x4 → wp_X8_otherEnd x4 x1 S (fun r3 S2 => ((r3 = (-1) → k5 x1 x3 (x4 + 1) S2) ∧ (¬ r3 = (-1) → ((¬ x3 = 0 → k5 x1 (x3 + (-1)) (x4 + 1) S2) ∧ (x3 = 0 → post x4 S2)))))))
def L_X8_roadFrom_5 (post : Int32 → St → Prop) (n : Nat) : Int32 → Int32 → Int32 → St → Prop := Nat.rec (motive := fun _ => Int32 → Int32 → Int32 → St → Prop) (fun _ _ _ _ => False) (fun _ ih => BD_X8_roadFrom_5 ih post) n
def B_X8_roadFrom_5 (post : Int32 → St → Prop) (x1 : Int32) (x3 : Int32) (x4 : Int32) (S : St) : Prop := ∃ n, L_X8_roadFrom_5 post n x1 x3 x4 S
def wp_X8_roadFrom (x1 : Int32) (x2 : Int32) (S : St) (post : Int32 → St → Prop) : Prop :=
  B_X8_roadFrom_5 post x1 x2 0 S
theorem w_B_X8_roadFrom_5 {X : Cx} (ok : Ok X cX8_roadFrom 5 RX8 1 22) {post : Int32 → St → Prop} (hret : RetI X cX8_roadFrom 5 post) {x1 x3 x4 : Int32} {S : St} (h : B_X8_roadFrom_5 post x1 x3 x4 S) : Wp X 5 5 [(0, .ref (xad X 71)), (1, .int x1), (3, .int x3), (4, .int x4)] [] S := by
  obtain ⟨n, h⟩ := h
  induction n generalizing x1 x3 x4 S with
  | zero => exact False.elim h
  | succ n ih =>
    have hk5 : ∀ x1 x3 x4 S, L_X8_roadFrom_5 post n x1 x3 x4 S → Wp X 5 5 [(0, .ref (xad X 71)), (1, .int x1), (3, .int x3), (4, .int x4)] [] S := by intros; apply ih; assumption
    replace h : BD_X8_roadFrom_5 (L_X8_roadFrom_5 post n) post x1 x3 x4 S := h
    unfold BD_X8_roadFrom_5 at h
    generalize L_X8_roadFrom_5 post n = k5 at h hk5
    refine r_iload ok dX8_roadFrom_5 3 rfl ?_
    refine r_aload_n ok dX8_roadFrom_7 0 rfl ?_
    refine gf_X8_158 ok dX8_roadFrom_8 ?_
    refine r_icmp_ge (tgt := 41) ok dX8_roadFrom_11 rfl (fun hc1 => ?_) (fun hc1 => ?_)
    · replace h := h.1 hc1
      refine r_iconst (v := (-1)) ok dX8_roadFrom_41 rfl ?_
      exact hret _ _ _ _ dX8_roadFrom_42 h
    · replace h := h.2 hc1
      refine r_aload_n ok dX8_roadFrom_14 0 rfl ?_
      refine r_iload ok dX8_roadFrom_15 3 rfl ?_
      refine r_iload_n ok dX8_roadFrom_17 1 rfl ?_
      refine cl_X8_189 ok dX8_roadFrom_18 (by decide) (Nat.le_of_ble_eq_true rfl) h (fun r3 S2 h => ?_)
      refine r_iconst (v := (-1)) ok dX8_roadFrom_21 rfl ?_
      refine r_icmp_eq (tgt := 35) ok dX8_roadFrom_22 rfl (fun hc4 => ?_) (fun hc4 => ?_)
      · replace h := h.1 hc4
        refine r_iinc (v := x4 + 1) ok dX8_roadFrom_35 3 rfl rfl (by decide) [(0, .ref (xad X 71)), (1, .int x1), (3, .int x3), (4, .int (x4 + 1))] [1, 2, 3, 0] rfl ?_
        refine r_goto (tgt := 5) ok dX8_roadFrom_38 rfl ?_
        exact hk5 _ _ _ _ h
      · replace h := h.2 hc4
        refine r_iload_n ok dX8_roadFrom_25 2 rfl ?_
        refine r_if_ne (tgt := 32) ok dX8_roadFrom_26 rfl (fun hc5 => ?_) (fun hc5 => ?_)
        · replace h := h.1 hc5
          refine r_iinc (v := x3 + (-1)) ok dX8_roadFrom_32 2 rfl rfl (by decide) [(0, .ref (xad X 71)), (1, .int x1), (3, .int (x3 + (-1))), (4, .int x4)] [1, 2, 0, 3] rfl ?_
          refine r_iinc (v := x4 + 1) ok dX8_roadFrom_35 3 rfl rfl (by decide) [(0, .ref (xad X 71)), (1, .int x1), (3, .int (x3 + (-1))), (4, .int (x4 + 1))] [1, 2, 3, 0] rfl ?_
          refine r_goto (tgt := 5) ok dX8_roadFrom_38 rfl ?_
          exact hk5 _ _ _ _ h
        · replace h := h.2 hc5
          refine r_iload ok dX8_roadFrom_29 3 rfl ?_
          exact hret _ _ _ _ dX8_roadFrom_31 h
theorem w_wp_X8_roadFrom {X : Cx} (ok : Ok X cX8_roadFrom 5 RX8 1 22) {post : Int32 → St → Prop} (hret : RetI X cX8_roadFrom 5 post) {x1 x2 : Int32} {S : St} (h : wp_X8_roadFrom x1 x2 S post) : Wp X 5 0 [(0, .ref (xad X 71)), (1, .int x1), (2, .int x2)] [] S := by
  unfold wp_X8_roadFrom at h
  refine r_iload_n ok dX8_roadFrom_0 2 rfl ?_
  refine r_istore_n ok dX8_roadFrom_1 (by decide) [(0, .ref (xad X 71)), (1, .int x1), (3, .int x2)] [1, 2, 0] rfl ?_
  refine r_iconst (v := 0) ok dX8_roadFrom_2 rfl ?_
  refine r_istore ok dX8_roadFrom_3 (by decide) [(0, .ref (xad X 71)), (1, .int x1), (3, .int x2), (4, .int 0)] [1, 2, 3, 0] rfl ?_
  exact w_B_X8_roadFrom_5 ok hret h
theorem c_X8_roadFrom (l : Launch) (G : Gx) {x1 x2 : Int32} {S : St} {post : Int32 → St → Prop} (h : wp_X8_roadFrom x1 x2 S post) : MtI l yX8_roadFrom cX8_roadFrom 5 (some .int) 1 22 G [.ref (G.2.2 71), .int x1, .int x2] S post :=
  ctI (by decide) rfl (Nat.le_of_ble_eq_true rfl) (fun X _ hG ok hret => by subst hG; exact w_wp_X8_roadFrom ok hret h)

/-! HasteRoadsModel.drift(I)I -/
theorem dX8_drift_0 : decode cX8_drift 0 = .ok (.aload_n 0, 1) := by decide +kernel
theorem dX8_drift_1 : decode cX8_drift 1 = .ok (.iconst 0, 1) := by decide +kernel
theorem dX8_drift_2 : decode cX8_drift 2 = .ok (.putfield 75, 3) := by decide +kernel
theorem dX8_drift_5 : decode cX8_drift 5 = .ok (.iload_n 1, 1) := by decide +kernel
theorem dX8_drift_6 : decode cX8_drift 6 = .ok (.iconst 1, 1) := by decide +kernel
theorem dX8_drift_7 : decode cX8_drift 7 = .ok (.bipush 99, 2) := by decide +kernel
theorem dX8_drift_9 : decode cX8_drift 9 = .ok (.invokestatic 78, 3) := by decide +kernel
theorem dX8_drift_12 : decode cX8_drift 12 = .ok (.ifCond .ne 6, 3) := by decide +kernel
theorem dX8_drift_15 : decode cX8_drift 15 = .ok (.ldc 82, 2) := by decide +kernel
theorem dX8_drift_17 : decode cX8_drift 17 = .ok (.ireturn, 1) := by decide +kernel
theorem dX8_drift_18 : decode cX8_drift 18 = .ok (.aload_n 0, 1) := by decide +kernel
theorem dX8_drift_19 : decode cX8_drift 19 = .ok (.getfield 161, 3) := by decide +kernel
theorem dX8_drift_22 : decode cX8_drift 22 = .ok (.ifCond .ne 6, 3) := by decide +kernel
theorem dX8_drift_25 : decode cX8_drift 25 = .ok (.ldc 193, 2) := by decide +kernel
theorem dX8_drift_27 : decode cX8_drift 27 = .ok (.ireturn, 1) := by decide +kernel
theorem dX8_drift_28 : decode cX8_drift 28 = .ok (.iconst 0, 1) := by decide +kernel
theorem dX8_drift_29 : decode cX8_drift 29 = .ok (.istore_n 2, 1) := by decide +kernel
theorem dX8_drift_30 : decode cX8_drift 30 = .ok (.iload_n 2, 1) := by decide +kernel
theorem dX8_drift_31 : decode cX8_drift 31 = .ok (.iload_n 1, 1) := by decide +kernel
theorem dX8_drift_32 : decode cX8_drift 32 = .ok (.if_icmp .ge 119, 3) := by decide +kernel
theorem dX8_drift_35 : decode cX8_drift 35 = .ok (.aload_n 0, 1) := by decide +kernel
theorem dX8_drift_36 : decode cX8_drift 36 = .ok (.aload_n 0, 1) := by decide +kernel
theorem dX8_drift_37 : decode cX8_drift 37 = .ok (.getfield 161, 3) := by decide +kernel
theorem dX8_drift_40 : decode cX8_drift 40 = .ok (.invokevirtual 214, 3) := by decide +kernel
theorem dX8_drift_43 : decode cX8_drift 43 = .ok (.istore_n 3, 1) := by decide +kernel
theorem dX8_drift_44 : decode cX8_drift 44 = .ok (.aload_n 0, 1) := by decide +kernel
theorem dX8_drift_45 : decode cX8_drift 45 = .ok (.getfield 23, 3) := by decide +kernel
theorem dX8_drift_48 : decode cX8_drift 48 = .ok (.iconst 4, 1) := by decide +kernel
theorem dX8_drift_49 : decode cX8_drift 49 = .ok (.iload_n 3, 1) := by decide +kernel
theorem dX8_drift_50 : decode cX8_drift 50 = .ok (.imul, 1) := by decide +kernel
theorem dX8_drift_51 : decode cX8_drift 51 = .ok (.iconst 3, 1) := by decide +kernel
theorem dX8_drift_52 : decode cX8_drift 52 = .ok (.iadd, 1) := by decide +kernel
theorem dX8_drift_53 : decode cX8_drift 53 = .ok (.iaload, 1) := by decide +kernel
theorem dX8_drift_54 : decode cX8_drift 54 = .ok (.sipush 9000, 3) := by decide +kernel
theorem dX8_drift_57 : decode cX8_drift 57 = .ok (.if_icmp .gt 88, 3) := by decide +kernel
theorem dX8_drift_60 : decode cX8_drift 60 = .ok (.aload_n 0, 1) := by decide +kernel
theorem dX8_drift_61 : decode cX8_drift 61 = .ok (.aload_n 0, 1) := by decide +kernel
theorem dX8_drift_62 : decode cX8_drift 62 = .ok (.getfield 23, 3) := by decide +kernel
theorem dX8_drift_65 : decode cX8_drift 65 = .ok (.iconst 4, 1) := by decide +kernel
theorem dX8_drift_66 : decode cX8_drift 66 = .ok (.iload_n 3, 1) := by decide +kernel
theorem dX8_drift_67 : decode cX8_drift 67 = .ok (.imul, 1) := by decide +kernel
theorem dX8_drift_68 : decode cX8_drift 68 = .ok (.iaload, 1) := by decide +kernel
theorem dX8_drift_69 : decode cX8_drift 69 = .ok (.invokevirtual 217, 3) := by decide +kernel
theorem dX8_drift_72 : decode cX8_drift 72 = .ok (.istore 4, 2) := by decide +kernel
theorem dX8_drift_74 : decode cX8_drift 74 = .ok (.aload_n 0, 1) := by decide +kernel
theorem dX8_drift_75 : decode cX8_drift 75 = .ok (.iload 4, 2) := by decide +kernel
theorem dX8_drift_77 : decode cX8_drift 77 = .ok (.iconst 1, 1) := by decide +kernel
theorem dX8_drift_78 : decode cX8_drift 78 = .ok (.iadd, 1) := by decide +kernel
theorem dX8_drift_79 : decode cX8_drift 79 = .ok (.invokevirtual 214, 3) := by decide +kernel
theorem dX8_drift_82 : decode cX8_drift 82 = .ok (.istore 5, 2) := by decide +kernel
theorem dX8_drift_84 : decode cX8_drift 84 = .ok (.iload 5, 2) := by decide +kernel
theorem dX8_drift_86 : decode cX8_drift 86 = .ok (.iload 4, 2) := by decide +kernel
theorem dX8_drift_88 : decode cX8_drift 88 = .ok (.if_icmp .ne 14, 3) := by decide +kernel
theorem dX8_drift_91 : decode cX8_drift 91 = .ok (.aload_n 0, 1) := by decide +kernel
theorem dX8_drift_92 : decode cX8_drift 92 = .ok (.getfield 23, 3) := by decide +kernel
theorem dX8_drift_95 : decode cX8_drift 95 = .ok (.iload_n 3, 1) := by decide +kernel
theorem dX8_drift_96 : decode cX8_drift 96 = .ok (.invokestatic 203, 3) := by decide +kernel
theorem dX8_drift_99 : decode cX8_drift 99 = .ok (.goto 46, 3) := by decide +kernel
theorem dX8_drift_102 : decode cX8_drift 102 = .ok (.aload_n 0, 1) := by decide +kernel
theorem dX8_drift_103 : decode cX8_drift 103 = .ok (.aload_n 0, 1) := by decide +kernel
theorem dX8_drift_104 : decode cX8_drift 104 = .ok (.getfield 23, 3) := by decide +kernel
theorem dX8_drift_107 : decode cX8_drift 107 = .ok (.iconst 4, 1) := by decide +kernel
theorem dX8_drift_108 : decode cX8_drift 108 = .ok (.iload_n 3, 1) := by decide +kernel
theorem dX8_drift_109 : decode cX8_drift 109 = .ok (.imul, 1) := by decide +kernel
theorem dX8_drift_110 : decode cX8_drift 110 = .ok (.iconst 1, 1) := by decide +kernel
theorem dX8_drift_111 : decode cX8_drift 111 = .ok (.iadd, 1) := by decide +kernel
theorem dX8_drift_112 : decode cX8_drift 112 = .ok (.iaload, 1) := by decide +kernel
theorem dX8_drift_113 : decode cX8_drift 113 = .ok (.iconst 1, 1) := by decide +kernel
theorem dX8_drift_114 : decode cX8_drift 114 = .ok (.iadd, 1) := by decide +kernel
theorem dX8_drift_115 : decode cX8_drift 115 = .ok (.invokevirtual 214, 3) := by decide +kernel
theorem dX8_drift_118 : decode cX8_drift 118 = .ok (.istore 6, 2) := by decide +kernel
theorem dX8_drift_120 : decode cX8_drift 120 = .ok (.aload_n 0, 1) := by decide +kernel
theorem dX8_drift_121 : decode cX8_drift 121 = .ok (.aload_n 0, 1) := by decide +kernel
theorem dX8_drift_122 : decode cX8_drift 122 = .ok (.getfield 23, 3) := by decide +kernel
theorem dX8_drift_125 : decode cX8_drift 125 = .ok (.iload_n 3, 1) := by decide +kernel
theorem dX8_drift_126 : decode cX8_drift 126 = .ok (.aload_n 0, 1) := by decide +kernel
theorem dX8_drift_127 : decode cX8_drift 127 = .ok (.aload_n 0, 1) := by decide +kernel
theorem dX8_drift_128 : decode cX8_drift 128 = .ok (.getfield 23, 3) := by decide +kernel
theorem dX8_drift_131 : decode cX8_drift 131 = .ok (.iconst 4, 1) := by decide +kernel
theorem dX8_drift_132 : decode cX8_drift 132 = .ok (.iload_n 3, 1) := by decide +kernel
theorem dX8_drift_133 : decode cX8_drift 133 = .ok (.imul, 1) := by decide +kernel
theorem dX8_drift_134 : decode cX8_drift 134 = .ok (.iaload, 1) := by decide +kernel
theorem dX8_drift_135 : decode cX8_drift 135 = .ok (.iload 5, 2) := by decide +kernel
theorem dX8_drift_137 : decode cX8_drift 137 = .ok (.invokevirtual 220, 3) := by decide +kernel
theorem dX8_drift_140 : decode cX8_drift 140 = .ok (.iload 6, 2) := by decide +kernel
theorem dX8_drift_142 : decode cX8_drift 142 = .ok (.invokevirtual 199, 3) := by decide +kernel
theorem dX8_drift_145 : decode cX8_drift 145 = .ok (.iinc 2 1, 3) := by decide +kernel
theorem dX8_drift_148 : decode cX8_drift 148 = .ok (.goto (-118), 3) := by decide +kernel
theorem dX8_drift_151 : decode cX8_drift 151 = .ok (.iconst 0, 1) := by decide +kernel
theorem dX8_drift_152 : decode cX8_drift 152 = .ok (.istore_n 2, 1) := by decide +kernel
theorem dX8_drift_153 : decode cX8_drift 153 = .ok (.iconst 0, 1) := by decide +kernel
theorem dX8_drift_154 : decode cX8_drift 154 = .ok (.istore_n 3, 1) := by decide +kernel
theorem dX8_drift_155 : decode cX8_drift 155 = .ok (.iload_n 3, 1) := by decide +kernel
theorem dX8_drift_156 : decode cX8_drift 156 = .ok (.aload_n 0, 1) := by decide +kernel
theorem dX8_drift_157 : decode cX8_drift 157 = .ok (.getfield 161, 3) := by decide +kernel
theorem dX8_drift_160 : decode cX8_drift 160 = .ok (.if_icmp .ge 38, 3) := by decide +kernel
theorem dX8_drift_163 : decode cX8_drift 163 = .ok (.aload_n 0, 1) := by decide +kernel
theorem dX8_drift_164 : decode cX8_drift 164 = .ok (.getfield 23, 3) := by decide +kernel
theorem dX8_drift_167 : decode cX8_drift 167 = .ok (.iconst 4, 1) := by decide +kernel
theorem dX8_drift_168 : decode cX8_drift 168 = .ok (.iload_n 3, 1) := by decide +kernel
theorem dX8_drift_169 : decode cX8_drift 169 = .ok (.imul, 1) := by decide +kernel
theorem dX8_drift_170 : decode cX8_drift 170 = .ok (.iconst 3, 1) := by decide +kernel
theorem dX8_drift_171 : decode cX8_drift 171 = .ok (.iadd, 1) := by decide +kernel
theorem dX8_drift_172 : decode cX8_drift 172 = .ok (.iaload, 1) := by decide +kernel
theorem dX8_drift_173 : decode cX8_drift 173 = .ok (.iload_n 2, 1) := by decide +kernel
theorem dX8_drift_174 : decode cX8_drift 174 = .ok (.if_icmp .le 16, 3) := by decide +kernel
theorem dX8_drift_177 : decode cX8_drift 177 = .ok (.aload_n 0, 1) := by decide +kernel
theorem dX8_drift_178 : decode cX8_drift 178 = .ok (.getfield 23, 3) := by decide +kernel
theorem dX8_drift_181 : decode cX8_drift 181 = .ok (.iconst 4, 1) := by decide +kernel
theorem dX8_drift_182 : decode cX8_drift 182 = .ok (.iload_n 3, 1) := by decide +kernel
theorem dX8_drift_183 : decode cX8_drift 183 = .ok (.imul, 1) := by decide +kernel
theorem dX8_drift_184 : decode cX8_drift 184 = .ok (.iconst 3, 1) := by decide +kernel
theorem dX8_drift_185 : decode cX8_drift 185 = .ok (.iadd, 1) := by decide +kernel
theorem dX8_drift_186 : decode cX8_drift 186 = .ok (.iaload, 1) := by decide +kernel
theorem dX8_drift_187 : decode cX8_drift 187 = .ok (.goto 4, 3) := by decide +kernel
theorem dX8_drift_190 : decode cX8_drift 190 = .ok (.iload_n 2, 1) := by decide +kernel
theorem dX8_drift_191 : decode cX8_drift 191 = .ok (.istore_n 2, 1) := by decide +kernel
theorem dX8_drift_192 : decode cX8_drift 192 = .ok (.iinc 3 1, 3) := by decide +kernel
theorem dX8_drift_195 : decode cX8_drift 195 = .ok (.goto (-40), 3) := by decide +kernel
theorem dX8_drift_198 : decode cX8_drift 198 = .ok (.iload_n 2, 1) := by decide +kernel
theorem dX8_drift_199 : decode cX8_drift 199 = .ok (.ireturn, 1) := by decide +kernel
theorem cl_X8_214 {X : Cx} {cc : ByteArray} {nL pc fr lo : Nat} {L : List (Nat × Value)} {st : List Value} {S : St} (ok : Ok X cc nL RX8 fr lo) {x1 : Int32} (d : decode cc pc = .ok (.invokevirtual 214, 3)) (hroom : 1 ≤ fr ∧ 21 ≤ lo) (hst : (st.map fun v => v.category).sum ≤ 8) {post : Int32 → St → Prop} (h : wp_X8_draw x1 S post) (kk : ∀ (r : Int32) (S1 : St), post r S1 → Wp X nL (pc + 3) L (.int r :: st) S1) : Wp X nL pc L (.int x1 :: .ref (xad X 71) :: st) S :=
  r_callVi (n := 2) (f := 0) (lo1 := 0) (N := 1) (As := [.int x1]) ok tw_in_X8 tw_im_X8_draw tw_se_X8_draw tw_co_X8_draw tw_ml_X8_214 (by decide +kernel) rfl ob_71 rfl hroom hst d rfl (c_X8_draw (xl X) (xG X) h) kk
theorem cl_X8_217 {X : Cx} {cc : ByteArray} {nL pc fr lo : Nat} {L : List (Nat × Value)} {st : List Value} {S : St} (ok : Ok X cc nL RX8 fr lo) {x1 : Int32} (d : decode cc pc = .ok (.invokevirtual 217, 3)) (hroom : 2 ≤ fr ∧ 45 ≤ lo) (hst : (st.map fun v => v.category).sum ≤ 8) {post : Int32 → St → Prop} (h : wp_X8_roadsFrom x1 S post) (kk : ∀ (r : Int32) (S1 : St), post r S1 → Wp X nL (pc + 3) L (.int r :: st) S1) : Wp X nL pc L (.int x1 :: .ref (xad X 71) :: st) S :=
  r_callVi (n := 4) (f := 1) (lo1 := 22) (N := 1) (As := [.int x1]) ok tw_in_X8 tw_im_X8_roadsFrom tw_se_X8_roadsFrom tw_co_X8_roadsFrom tw_ml_X8_217 (by decide +kernel) rfl ob_71 rfl hroom hst d rfl (c_X8_roadsFrom (xl X) (xG X) h) kk
theorem cl_X8_220 {X : Cx} {cc : ByteArray} {nL pc fr lo : Nat} {L : List (Nat × Value)} {st : List Value} {S : St} (ok : Ok X cc nL RX8 fr lo) {x1 x2 : Int32} (d : decode cc pc = .ok (.invokevirtual 220, 3)) (hroom : 2 ≤ fr ∧ 46 ≤ lo) (hst : (st.map fun v => v.category).sum ≤ 8) {post : Int32 → St → Prop} (h : wp_X8_roadFrom x1 x2 S post) (kk : ∀ (r : Int32) (S1 : St), post r S1 → Wp X nL (pc + 3) L (.int r :: st) S1) : Wp X nL pc L (.int x2 :: .int x1 :: .ref (xad X 71) :: st) S :=
  r_callVi (n := 5) (f := 1) (lo1 := 22) (N := 2) (As := [.int x1, .int x2]) ok tw_in_X8 tw_im_X8_roadFrom tw_se_X8_roadFrom tw_co_X8_roadFrom tw_ml_X8_220 (by decide +kernel) rfl ob_71 rfl hroom hst d rfl (c_X8_roadFrom (xl X) (xG X) h) kk
def BD_X8_drift_155 (k155 : Int32 → Int32 → St → Prop) (post : Int32 → St → Prop) (x2 : Int32) (x3 : Int32) (S : St) : Prop :=
  (((S 71 12) ≤ x3 → post x2 S) ∧ (¬ (S 71 12) ≤ x3 → vp_in (((4 : Int32) * x3) + 3) 28 ∧ ((((S 75 (ix (((4 : Int32) * x3) + 3))) ≤ x2 → k155 x2 (x3 + 1) S) ∧ (¬ (S 75 (ix (((4 : Int32) * x3) + 3))) ≤ x2 → vp_in (((4 : Int32) * x3) + 3) 28 ∧ (∀ v3 : Int32, v3 = (S 75 (ix (((4 : Int32) * x3) + 3))) → k155 v3 (x3 + 1) S))))))
def L_X8_drift_155 (post : Int32 → St → Prop) (n : Nat) : Int32 → Int32 → St → Prop := Nat.rec (motive := fun _ => Int32 → Int32 → St → Prop) (fun _ _ _ => False) (fun _ ih => BD_X8_drift_155 ih post) n
def B_X8_drift_155 (post : Int32 → St → Prop) (x2 : Int32) (x3 : Int32) (S : St) : Prop := ∃ n, L_X8_drift_155 post n x2 x3 S
def B_X8_drift_151 (post : Int32 → St → Prop) (S : St) : Prop :=
  B_X8_drift_155 post 0 0 S
def BD_X8_drift_30 (k30 : Int32 → Int32 → St → Prop) (post : Int32 → St → Prop) (x1 : Int32) (x2 : Int32) (S : St) : Prop :=
  ((x1 ≤ x2 → B_X8_drift_151 post S) ∧ (¬ x1 ≤ x2 → wp_X8_draw (S 71 12) S (fun r3 S2 => vp_in (((4 : Int32) * r3) + 3) 28 ∧ (((9000 < (S2 75 (ix (((4 : Int32) * r3) + 3))) → k30 x1 (x2 + 1) S2) ∧ (¬ 9000 < (S2 75 (ix (((4 : Int32) * r3) + 3))) → vp_in ((4 : Int32) * r3) 28 ∧ (wp_X8_roadsFrom (S2 75 (ix ((4 : Int32) * r3))) S2 (fun r6 S5 => wp_X8_draw (r6 + 1) S5 (fun r8 S7 => ((¬ r8 = r6 → vp_in (((4 : Int32) * r3) + 1) 28 ∧ (wp_X8_draw ((S7 75 (ix (((4 : Int32) * r3) + 1))) + 1) S7 (fun r11 S10 => vp_in ((4 : Int32) * r3) 28 ∧ (wp_X8_roadFrom (S10 75 (ix ((4 : Int32) * r3))) r8 S10 (fun r13 S12 => wp_X8_goes 75 r3 r13 r11 S12 (fun S14 => k30 x1 (x2 + 1) S14)))))) ∧ (r8 = r6 → wp_X8_waits 75 r3 S7 (fun S15 => k30 x1 (x2 + 1) S15))))))))))))
def L_X8_drift_30 (post : Int32 → St → Prop) (n : Nat) : Int32 → Int32 → St → Prop := Nat.rec (motive := fun _ => Int32 → Int32 → St → Prop) (fun _ _ _ => False) (fun _ ih => BD_X8_drift_30 ih post) n
def B_X8_drift_30 (post : Int32 → St → Prop) (x1 : Int32) (x2 : Int32) (S : St) : Prop := ∃ n, L_X8_drift_30 post n x1 x2 S
def wp_X8_drift (x1 : Int32) (S : St) (post : Int32 → St → Prop) : Prop :=
  ∀ S1 : St, S1 = up S 71 0 0 → wp_X8_in x1 1 99 S1 (fun r3 S2 => ((¬ r3 = 0 → ((¬ (S2 71 12) = 0 → B_X8_drift_30 post x1 0 S2) ∧ ((S2 71 12) = 0 → post (-1000000003) S2))) ∧ (r3 = 0 → post (-1000000002) S2)))
theorem w_B_X8_drift_155 {X : Cx} (ok : Ok X cX8_drift 7 RX8 4 98) {post : Int32 → St → Prop} (hret : RetI X cX8_drift 7 post) {x2 x3 : Int32} {S : St} (h : B_X8_drift_155 post x2 x3 S) : Wp X 7 155 [(0, .ref (xad X 71)), (2, .int x2), (3, .int x3)] [] S := by
  obtain ⟨n, h⟩ := h
  induction n generalizing x2 x3 S with
  | zero => exact False.elim h
  | succ n ih =>
    have hk155 : ∀ x2 x3 S, L_X8_drift_155 post n x2 x3 S → Wp X 7 155 [(0, .ref (xad X 71)), (2, .int x2), (3, .int x3)] [] S := by intros; apply ih; assumption
    replace h : BD_X8_drift_155 (L_X8_drift_155 post n) post x2 x3 S := h
    unfold BD_X8_drift_155 at h
    generalize L_X8_drift_155 post n = k155 at h hk155
    refine r_iload_n ok dX8_drift_155 2 rfl ?_
    refine r_aload_n ok dX8_drift_156 0 rfl ?_
    refine gf_X8_161 ok dX8_drift_157 ?_
    refine r_icmp_ge (tgt := 198) ok dX8_drift_160 rfl (fun hc1 => ?_) (fun hc1 => ?_)
    · replace h := h.1 hc1
      refine r_iload_n ok dX8_drift_198 1 rfl ?_
      exact hret _ _ _ _ dX8_drift_199 h
    · replace h := h.2 hc1
      refine r_aload_n ok dX8_drift_163 0 rfl ?_
      refine gf_X8_23 ok dX8_drift_164 ?_
      refine r_iconst (v := 4) ok dX8_drift_167 rfl ?_
      refine r_iload_n ok dX8_drift_168 2 rfl ?_
      refine r_imul ok dX8_drift_169 ?_
      refine r_iconst (v := 3) ok dX8_drift_170 rfl ?_
      refine r_iadd ok dX8_drift_171 ?_
      refine r_iald ok ai_75 h.1 rfl dX8_drift_172 ?_
      replace h := h.2
      refine r_iload_n ok dX8_drift_173 1 rfl ?_
      refine r_icmp_le (tgt := 190) ok dX8_drift_174 rfl (fun hc2 => ?_) (fun hc2 => ?_)
      · replace h := h.1 hc2
        refine r_iload_n ok dX8_drift_190 1 rfl ?_
        refine r_istore_n ok dX8_drift_191 (by decide) [(0, .ref (xad X 71)), (2, .int x2), (3, .int x3)] [1, 0, 2] rfl ?_
        refine r_iinc (v := x3 + 1) ok dX8_drift_192 2 rfl rfl (by decide) [(0, .ref (xad X 71)), (2, .int x2), (3, .int (x3 + 1))] [1, 2, 0] rfl ?_
        refine r_goto (tgt := 155) ok dX8_drift_195 rfl ?_
        exact hk155 _ _ _ h
      · replace h := h.2 hc2
        refine r_aload_n ok dX8_drift_177 0 rfl ?_
        refine gf_X8_23 ok dX8_drift_178 ?_
        refine r_iconst (v := 4) ok dX8_drift_181 rfl ?_
        refine r_iload_n ok dX8_drift_182 2 rfl ?_
        refine r_imul ok dX8_drift_183 ?_
        refine r_iconst (v := 3) ok dX8_drift_184 rfl ?_
        refine r_iadd ok dX8_drift_185 ?_
        refine r_iald ok ai_75 h.1 rfl dX8_drift_186 ?_
        replace h := h.2
        refine r_goto (tgt := 191) ok dX8_drift_187 rfl ?_
        refine r_top (fun v3 ev3 => ?_)
        replace h := h v3 ev3
        refine r_istore_n ok dX8_drift_191 (by decide) [(0, .ref (xad X 71)), (2, .int v3), (3, .int x3)] [1, 0, 2] rfl ?_
        refine r_iinc (v := x3 + 1) ok dX8_drift_192 2 rfl rfl (by decide) [(0, .ref (xad X 71)), (2, .int v3), (3, .int (x3 + 1))] [1, 2, 0] rfl ?_
        refine r_goto (tgt := 155) ok dX8_drift_195 rfl ?_
        exact hk155 _ _ _ h
theorem w_B_X8_drift_151 {X : Cx} (ok : Ok X cX8_drift 7 RX8 4 98) {post : Int32 → St → Prop} (hret : RetI X cX8_drift 7 post) {S : St} (h : B_X8_drift_151 post S) : Wp X 7 151 [(0, .ref (xad X 71))] [] S := by
  unfold B_X8_drift_151 at h
  refine r_iconst (v := 0) ok dX8_drift_151 rfl ?_
  refine r_istore_n ok dX8_drift_152 (by decide) [(0, .ref (xad X 71)), (2, .int 0)] [1, 0] rfl ?_
  refine r_iconst (v := 0) ok dX8_drift_153 rfl ?_
  refine r_istore_n ok dX8_drift_154 (by decide) [(0, .ref (xad X 71)), (2, .int 0), (3, .int 0)] [1, 2, 0] rfl ?_
  exact w_B_X8_drift_155 ok hret h
theorem w_B_X8_drift_30 {X : Cx} (ok : Ok X cX8_drift 7 RX8 4 98) {post : Int32 → St → Prop} (hret : RetI X cX8_drift 7 post) {x1 x2 : Int32} {S : St} (h : B_X8_drift_30 post x1 x2 S) : Wp X 7 30 [(0, .ref (xad X 71)), (1, .int x1), (2, .int x2)] [] S := by
  obtain ⟨n, h⟩ := h
  induction n generalizing x1 x2 S with
  | zero => exact False.elim h
  | succ n ih =>
    have hk30 : ∀ x1 x2 S, L_X8_drift_30 post n x1 x2 S → Wp X 7 30 [(0, .ref (xad X 71)), (1, .int x1), (2, .int x2)] [] S := by intros; apply ih; assumption
    replace h : BD_X8_drift_30 (L_X8_drift_30 post n) post x1 x2 S := h
    unfold BD_X8_drift_30 at h
    generalize L_X8_drift_30 post n = k30 at h hk30
    refine r_iload_n ok dX8_drift_30 2 rfl ?_
    refine r_iload_n ok dX8_drift_31 1 rfl ?_
    refine r_icmp_ge (tgt := 151) ok dX8_drift_32 rfl (fun hc1 => ?_) (fun hc1 => ?_)
    · replace h := h.1 hc1
      refine r_sub [(0, .ref (xad X 71))] [0] rfl ?_
      exact w_B_X8_drift_151 ok hret h
    · replace h := h.2 hc1
      refine r_aload_n ok dX8_drift_35 0 rfl ?_
      refine r_aload_n ok dX8_drift_36 0 rfl ?_
      refine gf_X8_161 ok dX8_drift_37 ?_
      refine cl_X8_214 ok dX8_drift_40 (by decide) (Nat.le_of_ble_eq_true rfl) h (fun r3 S2 h => ?_)
      refine r_istore_n ok dX8_drift_43 (by decide) [(0, .ref (xad X 71)), (1, .int x1), (2, .int x2), (3, .int r3)] [1, 2, 3, 0] rfl ?_
      refine r_aload_n ok dX8_drift_44 0 rfl ?_
      refine gf_X8_23 ok dX8_drift_45 ?_
      refine r_iconst (v := 4) ok dX8_drift_48 rfl ?_
      refine r_iload_n ok dX8_drift_49 3 rfl ?_
      refine r_imul ok dX8_drift_50 ?_
      refine r_iconst (v := 3) ok dX8_drift_51 rfl ?_
      refine r_iadd ok dX8_drift_52 ?_
      refine r_iald ok ai_75 h.1 rfl dX8_drift_53 ?_
      replace h := h.2
      refine r_sipush (v := 9000) ok dX8_drift_54 rfl ?_
      refine r_icmp_gt (tgt := 145) ok dX8_drift_57 rfl (fun hc4 => ?_) (fun hc4 => ?_)
      · replace h := h.1 hc4
        refine r_iinc (v := x2 + 1) ok dX8_drift_145 2 rfl rfl (by decide) [(0, .ref (xad X 71)), (1, .int x1), (2, .int (x2 + 1))] [1, 2, 0] rfl ?_
        refine r_goto (tgt := 30) ok dX8_drift_148 rfl ?_
        exact hk30 _ _ _ h
      · replace h := h.2 hc4
        refine r_aload_n ok dX8_drift_60 0 rfl ?_
        refine r_aload_n ok dX8_drift_61 0 rfl ?_
        refine gf_X8_23 ok dX8_drift_62 ?_
        refine r_iconst (v := 4) ok dX8_drift_65 rfl ?_
        refine r_iload_n ok dX8_drift_66 3 rfl ?_
        refine r_imul ok dX8_drift_67 ?_
        refine r_iald ok ai_75 h.1 rfl dX8_drift_68 ?_
        replace h := h.2
        refine cl_X8_217 ok dX8_drift_69 (by decide) (Nat.le_of_ble_eq_true rfl) h (fun r6 S5 h => ?_)
        refine r_istore ok dX8_drift_72 (by decide) [(0, .ref (xad X 71)), (1, .int x1), (2, .int x2), (3, .int r3), (4, .int r6)] [1, 2, 3, 4, 0] rfl ?_
        refine r_aload_n ok dX8_drift_74 0 rfl ?_
        refine r_iload ok dX8_drift_75 4 rfl ?_
        refine r_iconst (v := 1) ok dX8_drift_77 rfl ?_
        refine r_iadd ok dX8_drift_78 ?_
        refine cl_X8_214 ok dX8_drift_79 (by decide) (Nat.le_of_ble_eq_true rfl) h (fun r8 S7 h => ?_)
        refine r_istore ok dX8_drift_82 (by decide) [(0, .ref (xad X 71)), (1, .int x1), (2, .int x2), (3, .int r3), (4, .int r6), (5, .int r8)] [1, 2, 3, 4, 5, 0] rfl ?_
        refine r_iload ok dX8_drift_84 5 rfl ?_
        refine r_iload ok dX8_drift_86 4 rfl ?_
        refine r_icmp_ne (tgt := 102) ok dX8_drift_88 rfl (fun hc9 => ?_) (fun hc9 => ?_)
        · replace h := h.1 hc9
          refine r_aload_n ok dX8_drift_102 0 rfl ?_
          refine r_aload_n ok dX8_drift_103 0 rfl ?_
          refine gf_X8_23 ok dX8_drift_104 ?_
          refine r_iconst (v := 4) ok dX8_drift_107 rfl ?_
          refine r_iload_n ok dX8_drift_108 3 rfl ?_
          refine r_imul ok dX8_drift_109 ?_
          refine r_iconst (v := 1) ok dX8_drift_110 rfl ?_
          refine r_iadd ok dX8_drift_111 ?_
          refine r_iald ok ai_75 h.1 rfl dX8_drift_112 ?_
          replace h := h.2
          refine r_iconst (v := 1) ok dX8_drift_113 rfl ?_
          refine r_iadd ok dX8_drift_114 ?_
          refine cl_X8_214 ok dX8_drift_115 (by decide) (Nat.le_of_ble_eq_true rfl) h (fun r11 S10 h => ?_)
          refine r_istore ok dX8_drift_118 (by decide) [(0, .ref (xad X 71)), (1, .int x1), (2, .int x2), (3, .int r3), (5, .int r8), (6, .int r11)] [1, 2, 3, 4, 6, 0] rfl ?_
          refine r_aload_n ok dX8_drift_120 0 rfl ?_
          refine r_aload_n ok dX8_drift_121 0 rfl ?_
          refine gf_X8_23 ok dX8_drift_122 ?_
          refine r_iload_n ok dX8_drift_125 3 rfl ?_
          refine r_aload_n ok dX8_drift_126 0 rfl ?_
          refine r_aload_n ok dX8_drift_127 0 rfl ?_
          refine gf_X8_23 ok dX8_drift_128 ?_
          refine r_iconst (v := 4) ok dX8_drift_131 rfl ?_
          refine r_iload_n ok dX8_drift_132 3 rfl ?_
          refine r_imul ok dX8_drift_133 ?_
          refine r_iald ok ai_75 h.1 rfl dX8_drift_134 ?_
          replace h := h.2
          refine r_iload ok dX8_drift_135 4 rfl ?_
          refine cl_X8_220 ok dX8_drift_137 (by decide) (Nat.le_of_ble_eq_true rfl) h (fun r13 S12 h => ?_)
          refine r_iload ok dX8_drift_140 5 rfl ?_
          refine cl_X8_199 ok ai_75 dX8_drift_142 (by decide) (Nat.le_of_ble_eq_true rfl) h (fun S14 h => ?_)
          refine r_iinc (v := x2 + 1) ok dX8_drift_145 2 rfl rfl (by decide) [(0, .ref (xad X 71)), (1, .int x1), (2, .int (x2 + 1))] [1, 2, 0] rfl ?_
          refine r_goto (tgt := 30) ok dX8_drift_148 rfl ?_
          exact hk30 _ _ _ h
        · replace h := h.2 hc9
          refine r_aload_n ok dX8_drift_91 0 rfl ?_
          refine gf_X8_23 ok dX8_drift_92 ?_
          refine r_iload_n ok dX8_drift_95 3 rfl ?_
          refine cl_X8_203 ok ai_75 dX8_drift_96 (by decide) (Nat.le_of_ble_eq_true rfl) h (fun S15 h => ?_)
          refine r_goto (tgt := 145) ok dX8_drift_99 rfl ?_
          refine r_iinc (v := x2 + 1) ok dX8_drift_145 2 rfl rfl (by decide) [(0, .ref (xad X 71)), (1, .int x1), (2, .int (x2 + 1))] [1, 2, 0] rfl ?_
          refine r_goto (tgt := 30) ok dX8_drift_148 rfl ?_
          exact hk30 _ _ _ h
theorem w_wp_X8_drift {X : Cx} (ok : Ok X cX8_drift 7 RX8 4 98) {post : Int32 → St → Prop} (hret : RetI X cX8_drift 7 post) {x1 : Int32} {S : St} (h : wp_X8_drift x1 S post) : Wp X 7 0 [(0, .ref (xad X 71)), (1, .int x1)] [] S := by
  unfold wp_X8_drift at h
  refine r_aload_n ok dX8_drift_0 0 rfl ?_
  refine r_iconst (v := 0) ok dX8_drift_1 rfl ?_
  refine pf_X8_75 ok dX8_drift_2 (fun S1 eS1 => ?_)
  replace h := h S1 eS1
  refine r_iload_n ok dX8_drift_5 1 rfl ?_
  refine r_iconst (v := 1) ok dX8_drift_6 rfl ?_
  refine r_bipush (v := 99) ok dX8_drift_7 rfl ?_
  refine cl_X8_78 ok dX8_drift_9 (by decide) (Nat.le_of_ble_eq_true rfl) h (fun r3 S2 h => ?_)
  refine r_if_ne (tgt := 18) ok dX8_drift_12 rfl (fun hc4 => ?_) (fun hc4 => ?_)
  · replace h := h.1 hc4
    refine r_aload_n ok dX8_drift_18 0 rfl ?_
    refine gf_X8_161 ok dX8_drift_19 ?_
    refine r_if_ne (tgt := 28) ok dX8_drift_22 rfl (fun hc5 => ?_) (fun hc5 => ?_)
    · replace h := h.1 hc5
      refine r_iconst (v := 0) ok dX8_drift_28 rfl ?_
      refine r_istore_n ok dX8_drift_29 (by decide) [(0, .ref (xad X 71)), (1, .int x1), (2, .int 0)] [1, 2, 0] rfl ?_
      exact w_B_X8_drift_30 ok hret h
    · replace h := h.2 hc5
      refine r_ldc (v := (-1000000003)) ok dX8_drift_25 tw_k_X8_193 ?_
      exact hret _ _ _ _ dX8_drift_27 h
  · replace h := h.2 hc4
    refine r_ldc (v := (-1000000002)) ok dX8_drift_15 tw_k_X8_82 ?_
    exact hret _ _ _ _ dX8_drift_17 h
theorem c_X8_drift (l : Launch) (G : Gx) {x1 : Int32} {S : St} {post : Int32 → St → Prop} (h : wp_X8_drift x1 S post) : MtI l yX8_drift cX8_drift 7 (some .int) 4 98 G [.ref (G.2.2 71), .int x1] S post :=
  ctI (by decide) rfl (Nat.le_of_ble_eq_true rfl) (fun X _ hG ok hret => by subst hG; exact w_wp_X8_drift ok hret h)

/-! HasteRoadsModel.asNow()V -/
theorem dX8_asNow_0 : decode cX8_asNow 0 = .ok (.iconst 0, 1) := by decide +kernel
theorem dX8_asNow_1 : decode cX8_asNow 1 = .ok (.istore_n 1, 1) := by decide +kernel
theorem dX8_asNow_2 : decode cX8_asNow 2 = .ok (.iload_n 1, 1) := by decide +kernel
theorem dX8_asNow_3 : decode cX8_asNow 3 = .ok (.bipush 28, 2) := by decide +kernel
theorem dX8_asNow_5 : decode cX8_asNow 5 = .ok (.if_icmp .ge 21, 3) := by decide +kernel
theorem dX8_asNow_8 : decode cX8_asNow 8 = .ok (.aload_n 0, 1) := by decide +kernel
theorem dX8_asNow_9 : decode cX8_asNow 9 = .ok (.getfield 26, 3) := by decide +kernel
theorem dX8_asNow_12 : decode cX8_asNow 12 = .ok (.iload_n 1, 1) := by decide +kernel
theorem dX8_asNow_13 : decode cX8_asNow 13 = .ok (.aload_n 0, 1) := by decide +kernel
theorem dX8_asNow_14 : decode cX8_asNow 14 = .ok (.getfield 23, 3) := by decide +kernel
theorem dX8_asNow_17 : decode cX8_asNow 17 = .ok (.iload_n 1, 1) := by decide +kernel
theorem dX8_asNow_18 : decode cX8_asNow 18 = .ok (.iaload, 1) := by decide +kernel
theorem dX8_asNow_19 : decode cX8_asNow 19 = .ok (.iastore, 1) := by decide +kernel
theorem dX8_asNow_20 : decode cX8_asNow 20 = .ok (.iinc 1 1, 3) := by decide +kernel
theorem dX8_asNow_23 : decode cX8_asNow 23 = .ok (.goto (-21), 3) := by decide +kernel
theorem dX8_asNow_26 : decode cX8_asNow 26 = .ok (.return_, 1) := by decide +kernel
theorem gf_X8_26 {X : Cx} {cc : ByteArray} {nL pc fr lo : Nat} {L : List (Nat × Value)} {st : List Value} {S : St} (ok : Ok X cc nL RX8 fr lo) (d : decode cc pc = .ok (.getfield 26, 3)) (k : Wp X nL (pc + 3) L (.ref (xad X 76) :: st) S) : Wp X nL pc L (.ref (xad X 71) :: st) S :=
  r_get (C := RX8) (T := TX8) ok ob_71 rfl i_X8 21 (by decide) tw_fl_X8_26 d (by rw [show fvl (xad X) S 71 21 = .ref (xad X 76) from (fvl_ref (d := 76) (by decide))]; exact k)
def BD_X8_asNow_2 (k2 : Int32 → St → Prop) (post : St → Prop) (x1 : Int32) (S : St) : Prop :=
  ((28 ≤ x1 → post S) ∧ (¬ 28 ≤ x1 → vp_in x1 28 ∧ (vp_in x1 28 ∧ (∀ S2 : St, S2 = up S 76 (ix x1) (S 75 (ix x1)) → k2 (x1 + 1) S2))))
def L_X8_asNow_2 (post : St → Prop) (n : Nat) : Int32 → St → Prop := Nat.rec (motive := fun _ => Int32 → St → Prop) (fun _ _ => False) (fun _ ih => BD_X8_asNow_2 ih post) n
def B_X8_asNow_2 (post : St → Prop) (x1 : Int32) (S : St) : Prop := ∃ n, L_X8_asNow_2 post n x1 S
def wp_X8_asNow (S : St) (post : St → Prop) : Prop :=
  B_X8_asNow_2 post 0 S
theorem w_B_X8_asNow_2 {X : Cx} (ok : Ok X cX8_asNow 2 RX8 0 0) {post : St → Prop} (hret : RetV X cX8_asNow 2 post) {x1 : Int32} {S : St} (h : B_X8_asNow_2 post x1 S) : Wp X 2 2 [(0, .ref (xad X 71)), (1, .int x1)] [] S := by
  obtain ⟨n, h⟩ := h
  induction n generalizing x1 S with
  | zero => exact False.elim h
  | succ n ih =>
    have hk2 : ∀ x1 S, L_X8_asNow_2 post n x1 S → Wp X 2 2 [(0, .ref (xad X 71)), (1, .int x1)] [] S := by intros; apply ih; assumption
    replace h : BD_X8_asNow_2 (L_X8_asNow_2 post n) post x1 S := h
    unfold BD_X8_asNow_2 at h
    generalize L_X8_asNow_2 post n = k2 at h hk2
    refine r_iload_n ok dX8_asNow_2 1 rfl ?_
    refine r_bipush (v := 28) ok dX8_asNow_3 rfl ?_
    refine r_icmp_ge (tgt := 26) ok dX8_asNow_5 rfl (fun hc1 => ?_) (fun hc1 => ?_)
    · replace h := h.1 hc1
      exact hret _ _ _ dX8_asNow_26 h
    · replace h := h.2 hc1
      refine r_aload_n ok dX8_asNow_8 0 rfl ?_
      refine gf_X8_26 ok dX8_asNow_9 ?_
      refine r_iload_n ok dX8_asNow_12 1 rfl ?_
      refine r_aload_n ok dX8_asNow_13 0 rfl ?_
      refine gf_X8_23 ok dX8_asNow_14 ?_
      refine r_iload_n ok dX8_asNow_17 1 rfl ?_
      refine r_iald ok ai_75 h.1 rfl dX8_asNow_18 ?_
      replace h := h.2
      have hi3 := h.1
      replace h := h.2
      refine r_iast ok ai_76 hi3 rfl dX8_asNow_19 (fun S2 eS2 => ?_)
      replace h := h S2 eS2
      refine r_iinc (v := x1 + 1) ok dX8_asNow_20 1 rfl rfl (by decide) [(0, .ref (xad X 71)), (1, .int (x1 + 1))] [1, 0] rfl ?_
      refine r_goto (tgt := 2) ok dX8_asNow_23 rfl ?_
      exact hk2 _ _ h
theorem w_wp_X8_asNow {X : Cx} (ok : Ok X cX8_asNow 2 RX8 0 0) {post : St → Prop} (hret : RetV X cX8_asNow 2 post) {S : St} (h : wp_X8_asNow S post) : Wp X 2 0 [(0, .ref (xad X 71))] [] S := by
  unfold wp_X8_asNow at h
  refine r_iconst (v := 0) ok dX8_asNow_0 rfl ?_
  refine r_istore_n ok dX8_asNow_1 (by decide) [(0, .ref (xad X 71)), (1, .int 0)] [1, 0] rfl ?_
  exact w_B_X8_asNow_2 ok hret h
theorem c_X8_asNow (l : Launch) (G : Gx) {S : St} {post : St → Prop} (h : wp_X8_asNow S post) : MtV l yX8_asNow cX8_asNow 2 0 0 G [.ref (G.2.2 71)] S post :=
  ctV (by decide) rfl (Nat.le_of_ble_eq_true rfl) (fun X _ hG ok hret => by subst hG; exact w_wp_X8_asNow ok hret h)

/-! HasteRoadsModel.nextNode()I -/
theorem dX8_nextNode_0 : decode cX8_nextNode 0 = .ok (.iconst (-1), 1) := by decide +kernel
theorem dX8_nextNode_1 : decode cX8_nextNode 1 = .ok (.istore_n 1, 1) := by decide +kernel
theorem dX8_nextNode_2 : decode cX8_nextNode 2 = .ok (.iconst 0, 1) := by decide +kernel
theorem dX8_nextNode_3 : decode cX8_nextNode 3 = .ok (.istore_n 2, 1) := by decide +kernel
theorem dX8_nextNode_4 : decode cX8_nextNode 4 = .ok (.iload_n 2, 1) := by decide +kernel
theorem dX8_nextNode_5 : decode cX8_nextNode 5 = .ok (.bipush 36, 2) := by decide +kernel
theorem dX8_nextNode_7 : decode cX8_nextNode 7 = .ok (.if_icmp .ge 55, 3) := by decide +kernel
theorem dX8_nextNode_10 : decode cX8_nextNode 10 = .ok (.aload_n 0, 1) := by decide +kernel
theorem dX8_nextNode_11 : decode cX8_nextNode 11 = .ok (.getfield 45, 3) := by decide +kernel
theorem dX8_nextNode_14 : decode cX8_nextNode 14 = .ok (.iload_n 2, 1) := by decide +kernel
theorem dX8_nextNode_15 : decode cX8_nextNode 15 = .ok (.baload, 1) := by decide +kernel
theorem dX8_nextNode_16 : decode cX8_nextNode 16 = .ok (.ifCond .ne 38, 3) := by decide +kernel
theorem dX8_nextNode_19 : decode cX8_nextNode 19 = .ok (.aload_n 0, 1) := by decide +kernel
theorem dX8_nextNode_20 : decode cX8_nextNode 20 = .ok (.getfield 42, 3) := by decide +kernel
theorem dX8_nextNode_23 : decode cX8_nextNode 23 = .ok (.iload_n 2, 1) := by decide +kernel
theorem dX8_nextNode_24 : decode cX8_nextNode 24 = .ok (.iaload, 1) := by decide +kernel
theorem dX8_nextNode_25 : decode cX8_nextNode 25 = .ok (.ldc 223, 2) := by decide +kernel
theorem dX8_nextNode_27 : decode cX8_nextNode 27 = .ok (.if_icmp .ge 27, 3) := by decide +kernel
theorem dX8_nextNode_30 : decode cX8_nextNode 30 = .ok (.iload_n 1, 1) := by decide +kernel
theorem dX8_nextNode_31 : decode cX8_nextNode 31 = .ok (.iconst (-1), 1) := by decide +kernel
theorem dX8_nextNode_32 : decode cX8_nextNode 32 = .ok (.if_icmp .eq 18, 3) := by decide +kernel
theorem dX8_nextNode_35 : decode cX8_nextNode 35 = .ok (.aload_n 0, 1) := by decide +kernel
theorem dX8_nextNode_36 : decode cX8_nextNode 36 = .ok (.getfield 42, 3) := by decide +kernel
theorem dX8_nextNode_39 : decode cX8_nextNode 39 = .ok (.iload_n 2, 1) := by decide +kernel
theorem dX8_nextNode_40 : decode cX8_nextNode 40 = .ok (.iaload, 1) := by decide +kernel
theorem dX8_nextNode_41 : decode cX8_nextNode 41 = .ok (.aload_n 0, 1) := by decide +kernel
theorem dX8_nextNode_42 : decode cX8_nextNode 42 = .ok (.getfield 42, 3) := by decide +kernel
theorem dX8_nextNode_45 : decode cX8_nextNode 45 = .ok (.iload_n 1, 1) := by decide +kernel
theorem dX8_nextNode_46 : decode cX8_nextNode 46 = .ok (.iaload, 1) := by decide +kernel
theorem dX8_nextNode_47 : decode cX8_nextNode 47 = .ok (.if_icmp .ge 7, 3) := by decide +kernel
theorem dX8_nextNode_50 : decode cX8_nextNode 50 = .ok (.iload_n 2, 1) := by decide +kernel
theorem dX8_nextNode_51 : decode cX8_nextNode 51 = .ok (.goto 4, 3) := by decide +kernel
theorem dX8_nextNode_54 : decode cX8_nextNode 54 = .ok (.iload_n 1, 1) := by decide +kernel
theorem dX8_nextNode_55 : decode cX8_nextNode 55 = .ok (.istore_n 1, 1) := by decide +kernel
theorem dX8_nextNode_56 : decode cX8_nextNode 56 = .ok (.iinc 2 1, 3) := by decide +kernel
theorem dX8_nextNode_59 : decode cX8_nextNode 59 = .ok (.goto (-55), 3) := by decide +kernel
theorem dX8_nextNode_62 : decode cX8_nextNode 62 = .ok (.iload_n 1, 1) := by decide +kernel
theorem dX8_nextNode_63 : decode cX8_nextNode 63 = .ok (.ireturn, 1) := by decide +kernel
theorem gf_X8_45 {X : Cx} {cc : ByteArray} {nL pc fr lo : Nat} {L : List (Nat × Value)} {st : List Value} {S : St} (ok : Ok X cc nL RX8 fr lo) (d : decode cc pc = .ok (.getfield 45, 3)) (k : Wp X nL (pc + 3) L (.ref (xad X 82) :: st) S) : Wp X nL pc L (.ref (xad X 71) :: st) S :=
  r_get (C := RX8) (T := TX8) ok ob_71 rfl i_X8 29 (by decide) tw_fl_X8_45 d (by rw [show fvl (xad X) S 71 29 = .ref (xad X 82) from (fvl_ref (d := 82) (by decide))]; exact k)
theorem gf_X8_42 {X : Cx} {cc : ByteArray} {nL pc fr lo : Nat} {L : List (Nat × Value)} {st : List Value} {S : St} (ok : Ok X cc nL RX8 fr lo) (d : decode cc pc = .ok (.getfield 42, 3)) (k : Wp X nL (pc + 3) L (.ref (xad X 81) :: st) S) : Wp X nL pc L (.ref (xad X 71) :: st) S :=
  r_get (C := RX8) (T := TX8) ok ob_71 rfl i_X8 28 (by decide) tw_fl_X8_42 d (by rw [show fvl (xad X) S 71 28 = .ref (xad X 81) from (fvl_ref (d := 81) (by decide))]; exact k)
def BD_X8_nextNode_4 (k4 : Int32 → Int32 → St → Prop) (post : Int32 → St → Prop) (x1 : Int32) (x2 : Int32) (S : St) : Prop :=
  ((36 ≤ x2 → post x1 S) ∧ (¬ 36 ≤ x2 → vp_in x2 36 ∧ (((¬ (S 82 (ix x2)) = 0 → k4 x1 (x2 + 1) S) ∧ ((S 82 (ix x2)) = 0 → vp_in x2 36 ∧ (((100000000 ≤ (S 81 (ix x2)) → k4 x1 (x2 + 1) S) ∧ (¬ 100000000 ≤ (S 81 (ix x2)) → ((x1 = (-1) → k4 x2 (x2 + 1) S) ∧ (¬ x1 = (-1) → vp_in x2 36 ∧ (vp_in x1 36 ∧ ((((S 81 (ix x1)) ≤ (S 81 (ix x2)) → k4 x1 (x2 + 1) S) ∧ (¬ (S 81 (ix x1)) ≤ (S 81 (ix x2)) → k4 x2 (x2 + 1) S))))))))))))))
def L_X8_nextNode_4 (post : Int32 → St → Prop) (n : Nat) : Int32 → Int32 → St → Prop := Nat.rec (motive := fun _ => Int32 → Int32 → St → Prop) (fun _ _ _ => False) (fun _ ih => BD_X8_nextNode_4 ih post) n
def B_X8_nextNode_4 (post : Int32 → St → Prop) (x1 : Int32) (x2 : Int32) (S : St) : Prop := ∃ n, L_X8_nextNode_4 post n x1 x2 S
def wp_X8_nextNode (S : St) (post : Int32 → St → Prop) : Prop :=
  B_X8_nextNode_4 post (-1) 0 S
theorem w_B_X8_nextNode_4 {X : Cx} (ok : Ok X cX8_nextNode 3 RX8 0 0) {post : Int32 → St → Prop} (hret : RetI X cX8_nextNode 3 post) {x1 x2 : Int32} {S : St} (h : B_X8_nextNode_4 post x1 x2 S) : Wp X 3 4 [(0, .ref (xad X 71)), (1, .int x1), (2, .int x2)] [] S := by
  obtain ⟨n, h⟩ := h
  induction n generalizing x1 x2 S with
  | zero => exact False.elim h
  | succ n ih =>
    have hk4 : ∀ x1 x2 S, L_X8_nextNode_4 post n x1 x2 S → Wp X 3 4 [(0, .ref (xad X 71)), (1, .int x1), (2, .int x2)] [] S := by intros; apply ih; assumption
    replace h : BD_X8_nextNode_4 (L_X8_nextNode_4 post n) post x1 x2 S := h
    unfold BD_X8_nextNode_4 at h
    generalize L_X8_nextNode_4 post n = k4 at h hk4
    refine r_iload_n ok dX8_nextNode_4 2 rfl ?_
    refine r_bipush (v := 36) ok dX8_nextNode_5 rfl ?_
    refine r_icmp_ge (tgt := 62) ok dX8_nextNode_7 rfl (fun hc1 => ?_) (fun hc1 => ?_)
    · replace h := h.1 hc1
      refine r_iload_n ok dX8_nextNode_62 1 rfl ?_
      exact hret _ _ _ _ dX8_nextNode_63 h
    · replace h := h.2 hc1
      refine r_aload_n ok dX8_nextNode_10 0 rfl ?_
      refine gf_X8_45 ok dX8_nextNode_11 ?_
      refine r_iload_n ok dX8_nextNode_14 2 rfl ?_
      refine r_zald ok az_82 h.1 rfl dX8_nextNode_15 ?_
      replace h := h.2
      refine r_if_ne (tgt := 54) ok dX8_nextNode_16 rfl (fun hc2 => ?_) (fun hc2 => ?_)
      · replace h := h.1 hc2
        refine r_iload_n ok dX8_nextNode_54 1 rfl ?_
        refine r_istore_n ok dX8_nextNode_55 (by decide) [(0, .ref (xad X 71)), (1, .int x1), (2, .int x2)] [1, 0, 2] rfl ?_
        refine r_iinc (v := x2 + 1) ok dX8_nextNode_56 2 rfl rfl (by decide) [(0, .ref (xad X 71)), (1, .int x1), (2, .int (x2 + 1))] [1, 2, 0] rfl ?_
        refine r_goto (tgt := 4) ok dX8_nextNode_59 rfl ?_
        exact hk4 _ _ _ h
      · replace h := h.2 hc2
        refine r_aload_n ok dX8_nextNode_19 0 rfl ?_
        refine gf_X8_42 ok dX8_nextNode_20 ?_
        refine r_iload_n ok dX8_nextNode_23 2 rfl ?_
        refine r_iald ok ai_81 h.1 rfl dX8_nextNode_24 ?_
        replace h := h.2
        refine r_ldc (v := 100000000) ok dX8_nextNode_25 tw_k_X8_223 ?_
        refine r_icmp_ge (tgt := 54) ok dX8_nextNode_27 rfl (fun hc3 => ?_) (fun hc3 => ?_)
        · replace h := h.1 hc3
          refine r_iload_n ok dX8_nextNode_54 1 rfl ?_
          refine r_istore_n ok dX8_nextNode_55 (by decide) [(0, .ref (xad X 71)), (1, .int x1), (2, .int x2)] [1, 0, 2] rfl ?_
          refine r_iinc (v := x2 + 1) ok dX8_nextNode_56 2 rfl rfl (by decide) [(0, .ref (xad X 71)), (1, .int x1), (2, .int (x2 + 1))] [1, 2, 0] rfl ?_
          refine r_goto (tgt := 4) ok dX8_nextNode_59 rfl ?_
          exact hk4 _ _ _ h
        · replace h := h.2 hc3
          refine r_iload_n ok dX8_nextNode_30 1 rfl ?_
          refine r_iconst (v := (-1)) ok dX8_nextNode_31 rfl ?_
          refine r_icmp_eq (tgt := 50) ok dX8_nextNode_32 rfl (fun hc4 => ?_) (fun hc4 => ?_)
          · replace h := h.1 hc4
            refine r_iload_n ok dX8_nextNode_50 2 rfl ?_
            refine r_goto (tgt := 55) ok dX8_nextNode_51 rfl ?_
            refine r_istore_n ok dX8_nextNode_55 (by decide) [(0, .ref (xad X 71)), (1, .int x2), (2, .int x2)] [1, 0, 2] rfl ?_
            refine r_iinc (v := x2 + 1) ok dX8_nextNode_56 2 rfl rfl (by decide) [(0, .ref (xad X 71)), (1, .int x2), (2, .int (x2 + 1))] [1, 2, 0] rfl ?_
            refine r_goto (tgt := 4) ok dX8_nextNode_59 rfl ?_
            exact hk4 _ _ _ h
          · replace h := h.2 hc4
            refine r_aload_n ok dX8_nextNode_35 0 rfl ?_
            refine gf_X8_42 ok dX8_nextNode_36 ?_
            refine r_iload_n ok dX8_nextNode_39 2 rfl ?_
            refine r_iald ok ai_81 h.1 rfl dX8_nextNode_40 ?_
            replace h := h.2
            refine r_aload_n ok dX8_nextNode_41 0 rfl ?_
            refine gf_X8_42 ok dX8_nextNode_42 ?_
            refine r_iload_n ok dX8_nextNode_45 1 rfl ?_
            refine r_iald ok ai_81 h.1 rfl dX8_nextNode_46 ?_
            replace h := h.2
            refine r_icmp_ge (tgt := 54) ok dX8_nextNode_47 rfl (fun hc5 => ?_) (fun hc5 => ?_)
            · replace h := h.1 hc5
              refine r_iload_n ok dX8_nextNode_54 1 rfl ?_
              refine r_istore_n ok dX8_nextNode_55 (by decide) [(0, .ref (xad X 71)), (1, .int x1), (2, .int x2)] [1, 0, 2] rfl ?_
              refine r_iinc (v := x2 + 1) ok dX8_nextNode_56 2 rfl rfl (by decide) [(0, .ref (xad X 71)), (1, .int x1), (2, .int (x2 + 1))] [1, 2, 0] rfl ?_
              refine r_goto (tgt := 4) ok dX8_nextNode_59 rfl ?_
              exact hk4 _ _ _ h
            · replace h := h.2 hc5
              refine r_iload_n ok dX8_nextNode_50 2 rfl ?_
              refine r_goto (tgt := 55) ok dX8_nextNode_51 rfl ?_
              refine r_istore_n ok dX8_nextNode_55 (by decide) [(0, .ref (xad X 71)), (1, .int x2), (2, .int x2)] [1, 0, 2] rfl ?_
              refine r_iinc (v := x2 + 1) ok dX8_nextNode_56 2 rfl rfl (by decide) [(0, .ref (xad X 71)), (1, .int x2), (2, .int (x2 + 1))] [1, 2, 0] rfl ?_
              refine r_goto (tgt := 4) ok dX8_nextNode_59 rfl ?_
              exact hk4 _ _ _ h
theorem w_wp_X8_nextNode {X : Cx} (ok : Ok X cX8_nextNode 3 RX8 0 0) {post : Int32 → St → Prop} (hret : RetI X cX8_nextNode 3 post) {S : St} (h : wp_X8_nextNode S post) : Wp X 3 0 [(0, .ref (xad X 71))] [] S := by
  unfold wp_X8_nextNode at h
  refine r_iconst (v := (-1)) ok dX8_nextNode_0 rfl ?_
  refine r_istore_n ok dX8_nextNode_1 (by decide) [(0, .ref (xad X 71)), (1, .int (-1))] [1, 0] rfl ?_
  refine r_iconst (v := 0) ok dX8_nextNode_2 rfl ?_
  refine r_istore_n ok dX8_nextNode_3 (by decide) [(0, .ref (xad X 71)), (1, .int (-1)), (2, .int 0)] [1, 2, 0] rfl ?_
  exact w_B_X8_nextNode_4 ok hret h
theorem c_X8_nextNode (l : Launch) (G : Gx) {S : St} {post : Int32 → St → Prop} (h : wp_X8_nextNode S post) : MtI l yX8_nextNode cX8_nextNode 3 (some .int) 0 0 G [.ref (G.2.2 71)] S post :=
  ctI (by decide) rfl (Nat.le_of_ble_eq_true rfl) (fun X _ hG ok hret => by subst hG; exact w_wp_X8_nextNode ok hret h)
