/-! HasteRoadsModel.roundsOn(III)V -/
theorem dX8_roundsOn_0 : decode cX8_roundsOn 0 = .ok (.iload_n 3, 1) := by decide +kernel
theorem dX8_roundsOn_1 : decode cX8_roundsOn 1 = .ok (.bipush 6, 2) := by decide +kernel
theorem dX8_roundsOn_3 : decode cX8_roundsOn 3 = .ok (.idiv, 1) := by decide +kernel
theorem dX8_roundsOn_4 : decode cX8_roundsOn 4 = .ok (.bipush 6, 2) := by decide +kernel
theorem dX8_roundsOn_6 : decode cX8_roundsOn 6 = .ok (.irem, 1) := by decide +kernel
theorem dX8_roundsOn_7 : decode cX8_roundsOn 7 = .ok (.istore 4, 2) := by decide +kernel
theorem dX8_roundsOn_9 : decode cX8_roundsOn 9 = .ok (.iload_n 3, 1) := by decide +kernel
theorem dX8_roundsOn_10 : decode cX8_roundsOn 10 = .ok (.bipush 6, 2) := by decide +kernel
theorem dX8_roundsOn_12 : decode cX8_roundsOn 12 = .ok (.irem, 1) := by decide +kernel
theorem dX8_roundsOn_13 : decode cX8_roundsOn 13 = .ok (.istore 5, 2) := by decide +kernel
theorem dX8_roundsOn_15 : decode cX8_roundsOn 15 = .ok (.aload_n 0, 1) := by decide +kernel
theorem dX8_roundsOn_16 : decode cX8_roundsOn 16 = .ok (.getfield 26, 3) := by decide +kernel
theorem dX8_roundsOn_19 : decode cX8_roundsOn 19 = .ok (.bipush 16, 2) := by decide +kernel
theorem dX8_roundsOn_21 : decode cX8_roundsOn 21 = .ok (.iaload, 1) := by decide +kernel
theorem dX8_roundsOn_22 : decode cX8_roundsOn 22 = .ok (.iload 4, 2) := by decide +kernel
theorem dX8_roundsOn_24 : decode cX8_roundsOn 24 = .ok (.ishr, 1) := by decide +kernel
theorem dX8_roundsOn_25 : decode cX8_roundsOn 25 = .ok (.iconst 1, 1) := by decide +kernel
theorem dX8_roundsOn_26 : decode cX8_roundsOn 26 = .ok (.iand, 1) := by decide +kernel
theorem dX8_roundsOn_27 : decode cX8_roundsOn 27 = .ok (.iconst 1, 1) := by decide +kernel
theorem dX8_roundsOn_28 : decode cX8_roundsOn 28 = .ok (.if_icmp .ne 24, 3) := by decide +kernel
theorem dX8_roundsOn_31 : decode cX8_roundsOn 31 = .ok (.iload 5, 2) := by decide +kernel
theorem dX8_roundsOn_33 : decode cX8_roundsOn 33 = .ok (.iconst 5, 1) := by decide +kernel
theorem dX8_roundsOn_34 : decode cX8_roundsOn 34 = .ok (.if_icmp .ge 18, 3) := by decide +kernel
theorem dX8_roundsOn_37 : decode cX8_roundsOn 37 = .ok (.aload_n 0, 1) := by decide +kernel
theorem dX8_roundsOn_38 : decode cX8_roundsOn 38 = .ok (.iload_n 3, 1) := by decide +kernel
theorem dX8_roundsOn_39 : decode cX8_roundsOn 39 = .ok (.iconst 1, 1) := by decide +kernel
theorem dX8_roundsOn_40 : decode cX8_roundsOn 40 = .ok (.iadd, 1) := by decide +kernel
theorem dX8_roundsOn_41 : decode cX8_roundsOn 41 = .ok (.aload_n 0, 1) := by decide +kernel
theorem dX8_roundsOn_42 : decode cX8_roundsOn 42 = .ok (.getfield 48, 3) := by decide +kernel
theorem dX8_roundsOn_45 : decode cX8_roundsOn 45 = .ok (.iload_n 3, 1) := by decide +kernel
theorem dX8_roundsOn_46 : decode cX8_roundsOn 46 = .ok (.iaload, 1) := by decide +kernel
theorem dX8_roundsOn_47 : decode cX8_roundsOn 47 = .ok (.iconst 1, 1) := by decide +kernel
theorem dX8_roundsOn_48 : decode cX8_roundsOn 48 = .ok (.iadd, 1) := by decide +kernel
theorem dX8_roundsOn_49 : decode cX8_roundsOn 49 = .ok (.invokevirtual 295, 3) := by decide +kernel
theorem dX8_roundsOn_52 : decode cX8_roundsOn 52 = .ok (.iconst 0, 1) := by decide +kernel
theorem dX8_roundsOn_53 : decode cX8_roundsOn 53 = .ok (.istore 6, 2) := by decide +kernel
theorem dX8_roundsOn_55 : decode cX8_roundsOn 55 = .ok (.iload 6, 2) := by decide +kernel
theorem dX8_roundsOn_57 : decode cX8_roundsOn 57 = .ok (.aload_n 0, 1) := by decide +kernel
theorem dX8_roundsOn_58 : decode cX8_roundsOn 58 = .ok (.getfield 158, 3) := by decide +kernel
theorem dX8_roundsOn_61 : decode cX8_roundsOn 61 = .ok (.if_icmp .ge 103, 3) := by decide +kernel
theorem dX8_roundsOn_64 : decode cX8_roundsOn 64 = .ok (.aload_n 0, 1) := by decide +kernel
theorem dX8_roundsOn_65 : decode cX8_roundsOn 65 = .ok (.iload 6, 2) := by decide +kernel
theorem dX8_roundsOn_67 : decode cX8_roundsOn 67 = .ok (.iload 4, 2) := by decide +kernel
theorem dX8_roundsOn_69 : decode cX8_roundsOn 69 = .ok (.invokevirtual 189, 3) := by decide +kernel
theorem dX8_roundsOn_72 : decode cX8_roundsOn 72 = .ok (.istore 7, 2) := by decide +kernel
theorem dX8_roundsOn_74 : decode cX8_roundsOn 74 = .ok (.iconst 0, 1) := by decide +kernel
theorem dX8_roundsOn_75 : decode cX8_roundsOn 75 = .ok (.istore 8, 2) := by decide +kernel
theorem dX8_roundsOn_77 : decode cX8_roundsOn 77 = .ok (.iload 8, 2) := by decide +kernel
theorem dX8_roundsOn_79 : decode cX8_roundsOn 79 = .ok (.iload 5, 2) := by decide +kernel
theorem dX8_roundsOn_81 : decode cX8_roundsOn 81 = .ok (.if_icmp .gt 77, 3) := by decide +kernel
theorem dX8_roundsOn_84 : decode cX8_roundsOn 84 = .ok (.iload 7, 2) := by decide +kernel
theorem dX8_roundsOn_86 : decode cX8_roundsOn 86 = .ok (.iconst (-1), 1) := by decide +kernel
theorem dX8_roundsOn_87 : decode cX8_roundsOn 87 = .ok (.if_icmp .eq 71, 3) := by decide +kernel
theorem dX8_roundsOn_90 : decode cX8_roundsOn 90 = .ok (.iload_n 3, 1) := by decide +kernel
theorem dX8_roundsOn_91 : decode cX8_roundsOn 91 = .ok (.bipush 36, 2) := by decide +kernel
theorem dX8_roundsOn_93 : decode cX8_roundsOn 93 = .ok (.idiv, 1) := by decide +kernel
theorem dX8_roundsOn_94 : decode cX8_roundsOn 94 = .ok (.iload_n 2, 1) := by decide +kernel
theorem dX8_roundsOn_95 : decode cX8_roundsOn 95 = .ok (.iconst 1, 1) := by decide +kernel
theorem dX8_roundsOn_96 : decode cX8_roundsOn 96 = .ok (.iload 7, 2) := by decide +kernel
theorem dX8_roundsOn_98 : decode cX8_roundsOn 98 = .ok (.ishl, 1) := by decide +kernel
theorem dX8_roundsOn_99 : decode cX8_roundsOn 99 = .ok (.iand, 1) := by decide +kernel
theorem dX8_roundsOn_100 : decode cX8_roundsOn 100 = .ok (.ior, 1) := by decide +kernel
theorem dX8_roundsOn_101 : decode cX8_roundsOn 101 = .ok (.istore 9, 2) := by decide +kernel
theorem dX8_roundsOn_103 : decode cX8_roundsOn 103 = .ok (.aload_n 0, 1) := by decide +kernel
theorem dX8_roundsOn_104 : decode cX8_roundsOn 104 = .ok (.bipush 36, 2) := by decide +kernel
theorem dX8_roundsOn_106 : decode cX8_roundsOn 106 = .ok (.iload 9, 2) := by decide +kernel
theorem dX8_roundsOn_108 : decode cX8_roundsOn 108 = .ok (.imul, 1) := by decide +kernel
theorem dX8_roundsOn_109 : decode cX8_roundsOn 109 = .ok (.bipush 6, 2) := by decide +kernel
theorem dX8_roundsOn_111 : decode cX8_roundsOn 111 = .ok (.iload 7, 2) := by decide +kernel
theorem dX8_roundsOn_113 : decode cX8_roundsOn 113 = .ok (.imul, 1) := by decide +kernel
theorem dX8_roundsOn_114 : decode cX8_roundsOn 114 = .ok (.iadd, 1) := by decide +kernel
theorem dX8_roundsOn_115 : decode cX8_roundsOn 115 = .ok (.iload 5, 2) := by decide +kernel
theorem dX8_roundsOn_117 : decode cX8_roundsOn 117 = .ok (.iadd, 1) := by decide +kernel
theorem dX8_roundsOn_118 : decode cX8_roundsOn 118 = .ok (.iload 8, 2) := by decide +kernel
theorem dX8_roundsOn_120 : decode cX8_roundsOn 120 = .ok (.isub, 1) := by decide +kernel
theorem dX8_roundsOn_121 : decode cX8_roundsOn 121 = .ok (.aload_n 0, 1) := by decide +kernel
theorem dX8_roundsOn_122 : decode cX8_roundsOn 122 = .ok (.getfield 48, 3) := by decide +kernel
theorem dX8_roundsOn_125 : decode cX8_roundsOn 125 = .ok (.iload_n 3, 1) := by decide +kernel
theorem dX8_roundsOn_126 : decode cX8_roundsOn 126 = .ok (.iaload, 1) := by decide +kernel
theorem dX8_roundsOn_127 : decode cX8_roundsOn 127 = .ok (.aload_n 0, 1) := by decide +kernel
theorem dX8_roundsOn_128 : decode cX8_roundsOn 128 = .ok (.aload_n 0, 1) := by decide +kernel
theorem dX8_roundsOn_129 : decode cX8_roundsOn 129 = .ok (.getfield 26, 3) := by decide +kernel
theorem dX8_roundsOn_132 : decode cX8_roundsOn 132 = .ok (.iload_n 1, 1) := by decide +kernel
theorem dX8_roundsOn_133 : decode cX8_roundsOn 133 = .ok (.iload 6, 2) := by decide +kernel
theorem dX8_roundsOn_135 : decode cX8_roundsOn 135 = .ok (.iload 4, 2) := by decide +kernel
theorem dX8_roundsOn_137 : decode cX8_roundsOn 137 = .ok (.aload_n 0, 1) := by decide +kernel
theorem dX8_roundsOn_138 : decode cX8_roundsOn 138 = .ok (.getfield 48, 3) := by decide +kernel
theorem dX8_roundsOn_141 : decode cX8_roundsOn 141 = .ok (.iload_n 3, 1) := by decide +kernel
theorem dX8_roundsOn_142 : decode cX8_roundsOn 142 = .ok (.iaload, 1) := by decide +kernel
theorem dX8_roundsOn_143 : decode cX8_roundsOn 143 = .ok (.iload 8, 2) := by decide +kernel
theorem dX8_roundsOn_145 : decode cX8_roundsOn 145 = .ok (.invokevirtual 194, 3) := by decide +kernel
theorem dX8_roundsOn_148 : decode cX8_roundsOn 148 = .ok (.iadd, 1) := by decide +kernel
theorem dX8_roundsOn_149 : decode cX8_roundsOn 149 = .ok (.invokevirtual 295, 3) := by decide +kernel
theorem dX8_roundsOn_152 : decode cX8_roundsOn 152 = .ok (.iinc 8 1, 3) := by decide +kernel
theorem dX8_roundsOn_155 : decode cX8_roundsOn 155 = .ok (.goto (-78), 3) := by decide +kernel
theorem dX8_roundsOn_158 : decode cX8_roundsOn 158 = .ok (.iinc 6 1, 3) := by decide +kernel
theorem dX8_roundsOn_161 : decode cX8_roundsOn 161 = .ok (.goto (-106), 3) := by decide +kernel
theorem dX8_roundsOn_164 : decode cX8_roundsOn 164 = .ok (.return_, 1) := by decide +kernel
theorem cl_X8_295 {X : Cx} {cc : ByteArray} {nL pc fr lo : Nat} {L : List (Nat × Value)} {st : List Value} {S : St} (ok : Ok X cc nL RX8 fr lo) {x1 x2 : Int32} (d : decode cc pc = .ok (.invokevirtual 295, 3)) (hroom : 1 ≤ fr ∧ 22 ≤ lo) (hst : (st.map fun v => v.category).sum ≤ 8) {post : St → Prop} (h : wp_X8_reaches x1 x2 S post) (kk : ∀ S1 : St, post S1 → Wp X nL (pc + 3) L st S1) : Wp X nL pc L (.int x2 :: .int x1 :: .ref (xad X 71) :: st) S :=
  r_callVv (n := 3) (f := 0) (lo1 := 0) (N := 2) (As := [.int x1, .int x2]) ok tw_in_X8 tw_im_X8_reaches tw_se_X8_reaches tw_co_X8_reaches tw_ml_X8_295 (by decide +kernel) rfl ob_71 rfl hroom hst d rfl (c_X8_reaches (xl X) (xG X) h) kk
def BD_X8_roundsOn_77 (k55 : Int32 → Int32 → Int32 → Int32 → Int32 → Int32 → St → Prop) (k77 : Int32 → Int32 → Int32 → Int32 → Int32 → Int32 → Int32 → Int32 → St → Prop) (post : St → Prop) (x1 : Int32) (x2 : Int32) (x3 : Int32) (x4 : Int32) (x5 : Int32) (x6 : Int32) (x7 : Int32) (x8 : Int32) (S : St) : Prop :=
  ((x5 < x8 → k55 x1 x2 x3 x4 x5 (x6 + 1) S) ∧ (¬ x5 < x8 → ((x7 = (-1) → k55 x1 x2 x3 x4 x5 (x6 + 1) S) ∧ (¬ x7 = (-1) → ∀ v3 : Int32, v3 = ((x3 / 36) ||| (x2 &&& ((1 : Int32) <<< (x7 &&& 31)))) → vp_in x3 2304 ∧ (vp_in x3 2304 ∧ (wp_X8_time 76 x1 x6 x4 (S 83 (ix x3)) x8 S (fun r5 S4 => wp_X8_reaches (((((36 : Int32) * v3) + ((6 : Int32) * x7)) + x5) - x8) ((S 83 (ix x3)) + r5) S4 (fun S6 => k77 x1 x2 x3 x4 x5 x6 x7 (x8 + 1) S6))))))))
def L_X8_roundsOn_77 (k55 : Int32 → Int32 → Int32 → Int32 → Int32 → Int32 → St → Prop) (post : St → Prop) (n : Nat) : Int32 → Int32 → Int32 → Int32 → Int32 → Int32 → Int32 → Int32 → St → Prop := Nat.rec (motive := fun _ => Int32 → Int32 → Int32 → Int32 → Int32 → Int32 → Int32 → Int32 → St → Prop) (fun _ _ _ _ _ _ _ _ _ => False) (fun _ ih => BD_X8_roundsOn_77 k55 ih post) n
def B_X8_roundsOn_77 (k55 : Int32 → Int32 → Int32 → Int32 → Int32 → Int32 → St → Prop) (post : St → Prop) (x1 : Int32) (x2 : Int32) (x3 : Int32) (x4 : Int32) (x5 : Int32) (x6 : Int32) (x7 : Int32) (x8 : Int32) (S : St) : Prop := ∃ n, L_X8_roundsOn_77 k55 post n x1 x2 x3 x4 x5 x6 x7 x8 S
def BD_X8_roundsOn_55 (k55 : Int32 → Int32 → Int32 → Int32 → Int32 → Int32 → St → Prop) (post : St → Prop) (x1 : Int32) (x2 : Int32) (x3 : Int32) (x4 : Int32) (x5 : Int32) (x6 : Int32) (S : St) : Prop :=
  (((S 71 11) ≤ x6 → post S) ∧ (¬ (S 71 11) ≤ x6 → wp_X8_otherEnd x6 x4 S (fun r3 S2 => B_X8_roundsOn_77 k55 post x1 x2 x3 x4 x5 x6 r3 0 S2)))
def L_X8_roundsOn_55 (post : St → Prop) (n : Nat) : Int32 → Int32 → Int32 → Int32 → Int32 → Int32 → St → Prop := Nat.rec (motive := fun _ => Int32 → Int32 → Int32 → Int32 → Int32 → Int32 → St → Prop) (fun _ _ _ _ _ _ _ => False) (fun _ ih => BD_X8_roundsOn_55 ih post) n
def B_X8_roundsOn_55 (post : St → Prop) (x1 : Int32) (x2 : Int32) (x3 : Int32) (x4 : Int32) (x5 : Int32) (x6 : Int32) (S : St) : Prop := ∃ n, L_X8_roundsOn_55 post n x1 x2 x3 x4 x5 x6 S
def wp_X8_roundsOn (x1 : Int32) (x2 : Int32) (x3 : Int32) (S : St) (post : St → Prop) : Prop :=
  ∀ v1 : Int32, v1 = ((x3 / 6) - (x3 / 6) / 6 * 6) → ∀ v2 : Int32, v2 = (x3 - x3 / 6 * 6) → ((¬ (((S 76 16) >>> (v1 &&& 31)) &&& 1) = 1 → B_X8_roundsOn_55 post x1 x2 x3 v1 v2 0 S) ∧ ((((S 76 16) >>> (v1 &&& 31)) &&& 1) = 1 → ((5 ≤ v2 → B_X8_roundsOn_55 post x1 x2 x3 v1 v2 0 S) ∧ (¬ 5 ≤ v2 → vp_in x3 2304 ∧ (wp_X8_reaches (x3 + 1) ((S 83 (ix x3)) + 1) S (fun S5 => B_X8_roundsOn_55 post x1 x2 x3 v1 v2 0 S5))))))
theorem w_B_X8_roundsOn_77 {X : Cx} (ok : Ok X cX8_roundsOn 10 RX8 3 73) {post : St → Prop} (hret : RetV X cX8_roundsOn 10 post) {k55 : Int32 → Int32 → Int32 → Int32 → Int32 → Int32 → St → Prop} (hk55 : ∀ x1 x2 x3 x4 x5 x6 S, k55 x1 x2 x3 x4 x5 x6 S → Wp X 10 55 [(0, .ref (xad X 71)), (1, .int x1), (2, .int x2), (3, .int x3), (4, .int x4), (5, .int x5), (6, .int x6)] [] S) {x1 x2 x3 x4 x5 x6 x7 x8 : Int32} {S : St} (h : B_X8_roundsOn_77 k55 post x1 x2 x3 x4 x5 x6 x7 x8 S) : Wp X 10 77 [(0, .ref (xad X 71)), (1, .int x1), (2, .int x2), (3, .int x3), (4, .int x4), (5, .int x5), (6, .int x6), (7, .int x7), (8, .int x8)] [] S := by
  obtain ⟨n, h⟩ := h
  induction n generalizing x1 x2 x3 x4 x5 x6 x7 x8 S with
  | zero => exact False.elim h
  | succ n ih =>
    have hk77 : ∀ x1 x2 x3 x4 x5 x6 x7 x8 S, L_X8_roundsOn_77 k55 post n x1 x2 x3 x4 x5 x6 x7 x8 S → Wp X 10 77 [(0, .ref (xad X 71)), (1, .int x1), (2, .int x2), (3, .int x3), (4, .int x4), (5, .int x5), (6, .int x6), (7, .int x7), (8, .int x8)] [] S := by intros; apply ih; assumption
    replace h : BD_X8_roundsOn_77 k55 (L_X8_roundsOn_77 k55 post n) post x1 x2 x3 x4 x5 x6 x7 x8 S := h
    unfold BD_X8_roundsOn_77 at h
    generalize L_X8_roundsOn_77 k55 post n = k77 at h hk77
    refine r_iload ok dX8_roundsOn_77 8 rfl ?_
    refine r_iload ok dX8_roundsOn_79 5 rfl ?_
    refine r_icmp_gt (tgt := 158) ok dX8_roundsOn_81 rfl (fun hc1 => ?_) (fun hc1 => ?_)
    · replace h := h.1 hc1
      refine r_iinc (v := x6 + 1) ok dX8_roundsOn_158 6 rfl rfl (by decide) [(0, .ref (xad X 71)), (1, .int x1), (2, .int x2), (3, .int x3), (4, .int x4), (5, .int x5), (6, .int (x6 + 1))] [1, 2, 3, 4, 5, 6, 0] rfl ?_
      refine r_goto (tgt := 55) ok dX8_roundsOn_161 rfl ?_
      exact hk55 _ _ _ _ _ _ _ h
    · replace h := h.2 hc1
      refine r_iload ok dX8_roundsOn_84 7 rfl ?_
      refine r_iconst (v := (-1)) ok dX8_roundsOn_86 rfl ?_
      refine r_icmp_eq (tgt := 158) ok dX8_roundsOn_87 rfl (fun hc2 => ?_) (fun hc2 => ?_)
      · replace h := h.1 hc2
        refine r_iinc (v := x6 + 1) ok dX8_roundsOn_158 6 rfl rfl (by decide) [(0, .ref (xad X 71)), (1, .int x1), (2, .int x2), (3, .int x3), (4, .int x4), (5, .int x5), (6, .int (x6 + 1))] [1, 2, 3, 4, 5, 6, 0] rfl ?_
        refine r_goto (tgt := 55) ok dX8_roundsOn_161 rfl ?_
        exact hk55 _ _ _ _ _ _ _ h
      · replace h := h.2 hc2
        refine r_iload_n ok dX8_roundsOn_90 3 rfl ?_
        refine r_bipush (v := 36) ok dX8_roundsOn_91 rfl ?_
        refine r_idiv ok dX8_roundsOn_93 (by decide) ?_
        refine r_iload_n ok dX8_roundsOn_94 2 rfl ?_
        refine r_iconst (v := 1) ok dX8_roundsOn_95 rfl ?_
        refine r_iload ok dX8_roundsOn_96 7 rfl ?_
        refine r_ishl ok dX8_roundsOn_98 ?_
        refine r_iand ok dX8_roundsOn_99 ?_
        refine r_ior ok dX8_roundsOn_100 ?_
        refine r_top (fun v3 ev3 => ?_)
        replace h := h v3 ev3
        refine r_istore ok dX8_roundsOn_101 (by decide) [(0, .ref (xad X 71)), (1, .int x1), (2, .int x2), (3, .int x3), (4, .int x4), (5, .int x5), (6, .int x6), (7, .int x7), (8, .int x8), (9, .int v3)] [1, 2, 3, 4, 5, 6, 7, 8, 9, 0] rfl ?_
        refine r_aload_n ok dX8_roundsOn_103 0 rfl ?_
        refine r_bipush (v := 36) ok dX8_roundsOn_104 rfl ?_
        refine r_iload ok dX8_roundsOn_106 9 rfl ?_
        refine r_imul ok dX8_roundsOn_108 ?_
        refine r_bipush (v := 6) ok dX8_roundsOn_109 rfl ?_
        refine r_iload ok dX8_roundsOn_111 7 rfl ?_
        refine r_imul ok dX8_roundsOn_113 ?_
        refine r_iadd ok dX8_roundsOn_114 ?_
        refine r_iload ok dX8_roundsOn_115 5 rfl ?_
        refine r_iadd ok dX8_roundsOn_117 ?_
        refine r_iload ok dX8_roundsOn_118 8 rfl ?_
        refine r_isub ok dX8_roundsOn_120 ?_
        refine r_aload_n ok dX8_roundsOn_121 0 rfl ?_
        refine gf_X8_48 ok dX8_roundsOn_122 ?_
        refine r_iload_n ok dX8_roundsOn_125 3 rfl ?_
        refine r_iald ok ai_83 h.1 rfl dX8_roundsOn_126 ?_
        replace h := h.2
        refine r_aload_n ok dX8_roundsOn_127 0 rfl ?_
        refine r_aload_n ok dX8_roundsOn_128 0 rfl ?_
        refine gf_X8_26 ok dX8_roundsOn_129 ?_
        refine r_iload_n ok dX8_roundsOn_132 1 rfl ?_
        refine r_iload ok dX8_roundsOn_133 6 rfl ?_
        refine r_iload ok dX8_roundsOn_135 4 rfl ?_
        refine r_aload_n ok dX8_roundsOn_137 0 rfl ?_
        refine gf_X8_48 ok dX8_roundsOn_138 ?_
        refine r_iload_n ok dX8_roundsOn_141 3 rfl ?_
        refine r_iald ok ai_83 h.1 rfl dX8_roundsOn_142 ?_
        replace h := h.2
        refine r_iload ok dX8_roundsOn_143 8 rfl ?_
        refine cl_X8_194 ok ai_76 dX8_roundsOn_145 (by decide) (Nat.le_of_ble_eq_true rfl) h (fun r5 S4 h => ?_)
        refine r_iadd ok dX8_roundsOn_148 ?_
        refine cl_X8_295 ok dX8_roundsOn_149 (by decide) (Nat.le_of_ble_eq_true rfl) h (fun S6 h => ?_)
        refine r_iinc (v := x8 + 1) ok dX8_roundsOn_152 8 rfl rfl (by decide) [(0, .ref (xad X 71)), (1, .int x1), (2, .int x2), (3, .int x3), (4, .int x4), (5, .int x5), (6, .int x6), (7, .int x7), (8, .int (x8 + 1))] [1, 2, 3, 4, 5, 6, 7, 8, 0] rfl ?_
        refine r_goto (tgt := 77) ok dX8_roundsOn_155 rfl ?_
        exact hk77 _ _ _ _ _ _ _ _ _ h
theorem w_B_X8_roundsOn_55 {X : Cx} (ok : Ok X cX8_roundsOn 10 RX8 3 73) {post : St → Prop} (hret : RetV X cX8_roundsOn 10 post) {x1 x2 x3 x4 x5 x6 : Int32} {S : St} (h : B_X8_roundsOn_55 post x1 x2 x3 x4 x5 x6 S) : Wp X 10 55 [(0, .ref (xad X 71)), (1, .int x1), (2, .int x2), (3, .int x3), (4, .int x4), (5, .int x5), (6, .int x6)] [] S := by
  obtain ⟨n, h⟩ := h
  induction n generalizing x1 x2 x3 x4 x5 x6 S with
  | zero => exact False.elim h
  | succ n ih =>
    have hk55 : ∀ x1 x2 x3 x4 x5 x6 S, L_X8_roundsOn_55 post n x1 x2 x3 x4 x5 x6 S → Wp X 10 55 [(0, .ref (xad X 71)), (1, .int x1), (2, .int x2), (3, .int x3), (4, .int x4), (5, .int x5), (6, .int x6)] [] S := by intros; apply ih; assumption
    replace h : BD_X8_roundsOn_55 (L_X8_roundsOn_55 post n) post x1 x2 x3 x4 x5 x6 S := h
    unfold BD_X8_roundsOn_55 at h
    generalize L_X8_roundsOn_55 post n = k55 at h hk55
    refine r_iload ok dX8_roundsOn_55 6 rfl ?_
    refine r_aload_n ok dX8_roundsOn_57 0 rfl ?_
    refine gf_X8_158 ok dX8_roundsOn_58 ?_
    refine r_icmp_ge (tgt := 164) ok dX8_roundsOn_61 rfl (fun hc1 => ?_) (fun hc1 => ?_)
    · replace h := h.1 hc1
      exact hret _ _ _ dX8_roundsOn_164 h
    · replace h := h.2 hc1
      refine r_aload_n ok dX8_roundsOn_64 0 rfl ?_
      refine r_iload ok dX8_roundsOn_65 6 rfl ?_
      refine r_iload ok dX8_roundsOn_67 4 rfl ?_
      refine cl_X8_189 ok dX8_roundsOn_69 (by decide) (Nat.le_of_ble_eq_true rfl) h (fun r3 S2 h => ?_)
      refine r_istore ok dX8_roundsOn_72 (by decide) [(0, .ref (xad X 71)), (1, .int x1), (2, .int x2), (3, .int x3), (4, .int x4), (5, .int x5), (6, .int x6), (7, .int r3)] [1, 2, 3, 4, 5, 6, 7, 0] rfl ?_
      refine r_iconst (v := 0) ok dX8_roundsOn_74 rfl ?_
      refine r_istore ok dX8_roundsOn_75 (by decide) [(0, .ref (xad X 71)), (1, .int x1), (2, .int x2), (3, .int x3), (4, .int x4), (5, .int x5), (6, .int x6), (7, .int r3), (8, .int 0)] [1, 2, 3, 4, 5, 6, 7, 8, 0] rfl ?_
      exact w_B_X8_roundsOn_77 ok hret hk55 h
theorem w_wp_X8_roundsOn {X : Cx} (ok : Ok X cX8_roundsOn 10 RX8 3 73) {post : St → Prop} (hret : RetV X cX8_roundsOn 10 post) {x1 x2 x3 : Int32} {S : St} (h : wp_X8_roundsOn x1 x2 x3 S post) : Wp X 10 0 [(0, .ref (xad X 71)), (1, .int x1), (2, .int x2), (3, .int x3)] [] S := by
  unfold wp_X8_roundsOn at h
  refine r_iload_n ok dX8_roundsOn_0 3 rfl ?_
  refine r_bipush (v := 6) ok dX8_roundsOn_1 rfl ?_
  refine r_idiv ok dX8_roundsOn_3 (by decide) ?_
  refine r_bipush (v := 6) ok dX8_roundsOn_4 rfl ?_
  refine r_irem ok dX8_roundsOn_6 (by decide) ?_
  refine r_top (fun v1 ev1 => ?_)
  replace h := h v1 ev1
  refine r_istore ok dX8_roundsOn_7 (by decide) [(0, .ref (xad X 71)), (1, .int x1), (2, .int x2), (3, .int x3), (4, .int v1)] [1, 2, 3, 4, 0] rfl ?_
  refine r_iload_n ok dX8_roundsOn_9 3 rfl ?_
  refine r_bipush (v := 6) ok dX8_roundsOn_10 rfl ?_
  refine r_irem ok dX8_roundsOn_12 (by decide) ?_
  refine r_top (fun v2 ev2 => ?_)
  replace h := h v2 ev2
  refine r_istore ok dX8_roundsOn_13 (by decide) [(0, .ref (xad X 71)), (1, .int x1), (2, .int x2), (3, .int x3), (4, .int v1), (5, .int v2)] [1, 2, 3, 4, 5, 0] rfl ?_
  refine r_aload_n ok dX8_roundsOn_15 0 rfl ?_
  refine gf_X8_26 ok dX8_roundsOn_16 ?_
  refine r_bipush (v := 16) ok dX8_roundsOn_19 rfl ?_
  refine r_iald (j := 16) ok ai_76 (in_lit (by decide)) (by decide) dX8_roundsOn_21 ?_
  refine r_iload ok dX8_roundsOn_22 4 rfl ?_
  refine r_ishr ok dX8_roundsOn_24 ?_
  refine r_iconst (v := 1) ok dX8_roundsOn_25 rfl ?_
  refine r_iand ok dX8_roundsOn_26 ?_
  refine r_iconst (v := 1) ok dX8_roundsOn_27 rfl ?_
  refine r_icmp_ne (tgt := 52) ok dX8_roundsOn_28 rfl (fun hc3 => ?_) (fun hc3 => ?_)
  · replace h := h.1 hc3
    refine r_iconst (v := 0) ok dX8_roundsOn_52 rfl ?_
    refine r_istore ok dX8_roundsOn_53 (by decide) [(0, .ref (xad X 71)), (1, .int x1), (2, .int x2), (3, .int x3), (4, .int v1), (5, .int v2), (6, .int 0)] [1, 2, 3, 4, 5, 6, 0] rfl ?_
    exact w_B_X8_roundsOn_55 ok hret h
  · replace h := h.2 hc3
    refine r_iload ok dX8_roundsOn_31 5 rfl ?_
    refine r_iconst (v := 5) ok dX8_roundsOn_33 rfl ?_
    refine r_icmp_ge (tgt := 52) ok dX8_roundsOn_34 rfl (fun hc4 => ?_) (fun hc4 => ?_)
    · replace h := h.1 hc4
      refine r_iconst (v := 0) ok dX8_roundsOn_52 rfl ?_
      refine r_istore ok dX8_roundsOn_53 (by decide) [(0, .ref (xad X 71)), (1, .int x1), (2, .int x2), (3, .int x3), (4, .int v1), (5, .int v2), (6, .int 0)] [1, 2, 3, 4, 5, 6, 0] rfl ?_
      exact w_B_X8_roundsOn_55 ok hret h
    · replace h := h.2 hc4
      refine r_aload_n ok dX8_roundsOn_37 0 rfl ?_
      refine r_iload_n ok dX8_roundsOn_38 3 rfl ?_
      refine r_iconst (v := 1) ok dX8_roundsOn_39 rfl ?_
      refine r_iadd ok dX8_roundsOn_40 ?_
      refine r_aload_n ok dX8_roundsOn_41 0 rfl ?_
      refine gf_X8_48 ok dX8_roundsOn_42 ?_
      refine r_iload_n ok dX8_roundsOn_45 3 rfl ?_
      refine r_iald ok ai_83 h.1 rfl dX8_roundsOn_46 ?_
      replace h := h.2
      refine r_iconst (v := 1) ok dX8_roundsOn_47 rfl ?_
      refine r_iadd ok dX8_roundsOn_48 ?_
      refine cl_X8_295 ok dX8_roundsOn_49 (by decide) (Nat.le_of_ble_eq_true rfl) h (fun S5 h => ?_)
      refine r_iconst (v := 0) ok dX8_roundsOn_52 rfl ?_
      refine r_istore ok dX8_roundsOn_53 (by decide) [(0, .ref (xad X 71)), (1, .int x1), (2, .int x2), (3, .int x3), (4, .int v1), (5, .int v2), (6, .int 0)] [1, 2, 3, 4, 5, 6, 0] rfl ?_
      exact w_B_X8_roundsOn_55 ok hret h
theorem c_X8_roundsOn (l : Launch) (G : Gx) {x1 x2 x3 : Int32} {S : St} {post : St → Prop} (h : wp_X8_roundsOn x1 x2 x3 S post) : MtV l yX8_roundsOn cX8_roundsOn 10 3 73 G [.ref (G.2.2 71), .int x1, .int x2, .int x3] S post :=
  ctV (by decide) rfl (Nat.le_of_ble_eq_true rfl) (fun X _ hG ok hret => by subst hG; exact w_wp_X8_roundsOn ok hret h)

/-! HasteRoadsModel.round(II)I -/
theorem dX8_round_0 : decode cX8_round 0 = .ok (.aload_n 0, 1) := by decide +kernel
theorem dX8_round_1 : decode cX8_round 1 = .ok (.iconst 0, 1) := by decide +kernel
theorem dX8_round_2 : decode cX8_round 2 = .ok (.putfield 75, 3) := by decide +kernel
theorem dX8_round_5 : decode cX8_round 5 = .ok (.aload_n 0, 1) := by decide +kernel
theorem dX8_round_6 : decode cX8_round 6 = .ok (.iload_n 1, 1) := by decide +kernel
theorem dX8_round_7 : decode cX8_round 7 = .ok (.invokevirtual 182, 3) := by decide +kernel
theorem dX8_round_10 : decode cX8_round 10 = .ok (.ifCond .eq 19, 3) := by decide +kernel
theorem dX8_round_13 : decode cX8_round 13 = .ok (.iload_n 2, 1) := by decide +kernel
theorem dX8_round_14 : decode cX8_round 14 = .ok (.iconst 0, 1) := by decide +kernel
theorem dX8_round_15 : decode cX8_round 15 = .ok (.iconst 1, 1) := by decide +kernel
theorem dX8_round_16 : decode cX8_round 16 = .ok (.aload_n 0, 1) := by decide +kernel
theorem dX8_round_17 : decode cX8_round 17 = .ok (.getfield 155, 3) := by decide +kernel
theorem dX8_round_20 : decode cX8_round 20 = .ok (.ishl, 1) := by decide +kernel
theorem dX8_round_21 : decode cX8_round 21 = .ok (.iconst 1, 1) := by decide +kernel
theorem dX8_round_22 : decode cX8_round 22 = .ok (.isub, 1) := by decide +kernel
theorem dX8_round_23 : decode cX8_round 23 = .ok (.invokestatic 78, 3) := by decide +kernel
theorem dX8_round_26 : decode cX8_round 26 = .ok (.ifCond .ne 6, 3) := by decide +kernel
theorem dX8_round_29 : decode cX8_round 29 = .ok (.ldc 174, 2) := by decide +kernel
theorem dX8_round_31 : decode cX8_round 31 = .ok (.ireturn, 1) := by decide +kernel
theorem dX8_round_32 : decode cX8_round 32 = .ok (.aload_n 0, 1) := by decide +kernel
theorem dX8_round_33 : decode cX8_round 33 = .ok (.invokevirtual 238, 3) := by decide +kernel
theorem dX8_round_36 : decode cX8_round 36 = .ok (.iconst 0, 1) := by decide +kernel
theorem dX8_round_37 : decode cX8_round 37 = .ok (.istore_n 3, 1) := by decide +kernel
theorem dX8_round_38 : decode cX8_round 38 = .ok (.iload_n 3, 1) := by decide +kernel
theorem dX8_round_39 : decode cX8_round 39 = .ok (.sipush 2304, 3) := by decide +kernel
theorem dX8_round_42 : decode cX8_round 42 = .ok (.if_icmp .ge 24, 3) := by decide +kernel
theorem dX8_round_45 : decode cX8_round 45 = .ok (.aload_n 0, 1) := by decide +kernel
theorem dX8_round_46 : decode cX8_round 46 = .ok (.getfield 48, 3) := by decide +kernel
theorem dX8_round_49 : decode cX8_round 49 = .ok (.iload_n 3, 1) := by decide +kernel
theorem dX8_round_50 : decode cX8_round 50 = .ok (.ldc 223, 2) := by decide +kernel
theorem dX8_round_52 : decode cX8_round 52 = .ok (.iastore, 1) := by decide +kernel
theorem dX8_round_53 : decode cX8_round 53 = .ok (.aload_n 0, 1) := by decide +kernel
theorem dX8_round_54 : decode cX8_round 54 = .ok (.getfield 51, 3) := by decide +kernel
theorem dX8_round_57 : decode cX8_round 57 = .ok (.iload_n 3, 1) := by decide +kernel
theorem dX8_round_58 : decode cX8_round 58 = .ok (.iconst 0, 1) := by decide +kernel
theorem dX8_round_59 : decode cX8_round 59 = .ok (.bastore, 1) := by decide +kernel
theorem dX8_round_60 : decode cX8_round 60 = .ok (.iinc 3 1, 3) := by decide +kernel
theorem dX8_round_63 : decode cX8_round 63 = .ok (.goto (-25), 3) := by decide +kernel
theorem dX8_round_66 : decode cX8_round 66 = .ok (.bipush 36, 2) := by decide +kernel
theorem dX8_round_68 : decode cX8_round 68 = .ok (.iload_n 2, 1) := by decide +kernel
theorem dX8_round_69 : decode cX8_round 69 = .ok (.iconst 1, 1) := by decide +kernel
theorem dX8_round_70 : decode cX8_round 70 = .ok (.aload_n 0, 1) := by decide +kernel
theorem dX8_round_71 : decode cX8_round 71 = .ok (.getfield 26, 3) := by decide +kernel
theorem dX8_round_74 : decode cX8_round 74 = .ok (.iconst 4, 1) := by decide +kernel
theorem dX8_round_75 : decode cX8_round 75 = .ok (.iload_n 1, 1) := by decide +kernel
theorem dX8_round_76 : decode cX8_round 76 = .ok (.imul, 1) := by decide +kernel
theorem dX8_round_77 : decode cX8_round 77 = .ok (.iaload, 1) := by decide +kernel
theorem dX8_round_78 : decode cX8_round 78 = .ok (.ishl, 1) := by decide +kernel
theorem dX8_round_79 : decode cX8_round 79 = .ok (.iand, 1) := by decide +kernel
theorem dX8_round_80 : decode cX8_round 80 = .ok (.imul, 1) := by decide +kernel
theorem dX8_round_81 : decode cX8_round 81 = .ok (.bipush 6, 2) := by decide +kernel
theorem dX8_round_83 : decode cX8_round 83 = .ok (.aload_n 0, 1) := by decide +kernel
theorem dX8_round_84 : decode cX8_round 84 = .ok (.getfield 26, 3) := by decide +kernel
theorem dX8_round_87 : decode cX8_round 87 = .ok (.iconst 4, 1) := by decide +kernel
theorem dX8_round_88 : decode cX8_round 88 = .ok (.iload_n 1, 1) := by decide +kernel
theorem dX8_round_89 : decode cX8_round 89 = .ok (.imul, 1) := by decide +kernel
theorem dX8_round_90 : decode cX8_round 90 = .ok (.iaload, 1) := by decide +kernel
theorem dX8_round_91 : decode cX8_round 91 = .ok (.imul, 1) := by decide +kernel
theorem dX8_round_92 : decode cX8_round 92 = .ok (.iadd, 1) := by decide +kernel
theorem dX8_round_93 : decode cX8_round 93 = .ok (.aload_n 0, 1) := by decide +kernel
theorem dX8_round_94 : decode cX8_round 94 = .ok (.getfield 26, 3) := by decide +kernel
theorem dX8_round_97 : decode cX8_round 97 = .ok (.iconst 4, 1) := by decide +kernel
theorem dX8_round_98 : decode cX8_round 98 = .ok (.iload_n 1, 1) := by decide +kernel
theorem dX8_round_99 : decode cX8_round 99 = .ok (.imul, 1) := by decide +kernel
theorem dX8_round_100 : decode cX8_round 100 = .ok (.iconst 1, 1) := by decide +kernel
theorem dX8_round_101 : decode cX8_round 101 = .ok (.iadd, 1) := by decide +kernel
theorem dX8_round_102 : decode cX8_round 102 = .ok (.iaload, 1) := by decide +kernel
theorem dX8_round_103 : decode cX8_round 103 = .ok (.iadd, 1) := by decide +kernel
theorem dX8_round_104 : decode cX8_round 104 = .ok (.istore_n 3, 1) := by decide +kernel
theorem dX8_round_105 : decode cX8_round 105 = .ok (.aload_n 0, 1) := by decide +kernel
theorem dX8_round_106 : decode cX8_round 106 = .ok (.getfield 48, 3) := by decide +kernel
theorem dX8_round_109 : decode cX8_round 109 = .ok (.iload_n 3, 1) := by decide +kernel
theorem dX8_round_110 : decode cX8_round 110 = .ok (.aload_n 0, 1) := by decide +kernel
theorem dX8_round_111 : decode cX8_round 111 = .ok (.getfield 26, 3) := by decide +kernel
theorem dX8_round_114 : decode cX8_round 114 = .ok (.iconst 4, 1) := by decide +kernel
theorem dX8_round_115 : decode cX8_round 115 = .ok (.iload_n 1, 1) := by decide +kernel
theorem dX8_round_116 : decode cX8_round 116 = .ok (.imul, 1) := by decide +kernel
theorem dX8_round_117 : decode cX8_round 117 = .ok (.iconst 3, 1) := by decide +kernel
theorem dX8_round_118 : decode cX8_round 118 = .ok (.iadd, 1) := by decide +kernel
theorem dX8_round_119 : decode cX8_round 119 = .ok (.iaload, 1) := by decide +kernel
theorem dX8_round_120 : decode cX8_round 120 = .ok (.iastore, 1) := by decide +kernel
theorem dX8_round_121 : decode cX8_round 121 = .ok (.iload_n 3, 1) := by decide +kernel
theorem dX8_round_122 : decode cX8_round 122 = .ok (.iconst (-1), 1) := by decide +kernel
theorem dX8_round_123 : decode cX8_round 123 = .ok (.if_icmp .eq 36, 3) := by decide +kernel
theorem dX8_round_126 : decode cX8_round 126 = .ok (.iload_n 3, 1) := by decide +kernel
theorem dX8_round_127 : decode cX8_round 127 = .ok (.bipush 36, 2) := by decide +kernel
theorem dX8_round_129 : decode cX8_round 129 = .ok (.idiv, 1) := by decide +kernel
theorem dX8_round_130 : decode cX8_round 130 = .ok (.iload_n 2, 1) := by decide +kernel
theorem dX8_round_131 : decode cX8_round 131 = .ok (.if_icmp .eq 28, 3) := by decide +kernel
theorem dX8_round_134 : decode cX8_round 134 = .ok (.aload_n 0, 1) := by decide +kernel
theorem dX8_round_135 : decode cX8_round 135 = .ok (.getfield 51, 3) := by decide +kernel
theorem dX8_round_138 : decode cX8_round 138 = .ok (.iload_n 3, 1) := by decide +kernel
theorem dX8_round_139 : decode cX8_round 139 = .ok (.iconst 1, 1) := by decide +kernel
theorem dX8_round_140 : decode cX8_round 140 = .ok (.bastore, 1) := by decide +kernel
theorem dX8_round_141 : decode cX8_round 141 = .ok (.aload_n 0, 1) := by decide +kernel
theorem dX8_round_142 : decode cX8_round 142 = .ok (.iload_n 1, 1) := by decide +kernel
theorem dX8_round_143 : decode cX8_round 143 = .ok (.iload_n 2, 1) := by decide +kernel
theorem dX8_round_144 : decode cX8_round 144 = .ok (.iload_n 3, 1) := by decide +kernel
theorem dX8_round_145 : decode cX8_round 145 = .ok (.invokevirtual 288, 3) := by decide +kernel
theorem dX8_round_148 : decode cX8_round 148 = .ok (.aload_n 0, 1) := by decide +kernel
theorem dX8_round_149 : decode cX8_round 149 = .ok (.sipush 2304, 3) := by decide +kernel
theorem dX8_round_152 : decode cX8_round 152 = .ok (.invokevirtual 292, 3) := by decide +kernel
theorem dX8_round_155 : decode cX8_round 155 = .ok (.istore_n 3, 1) := by decide +kernel
theorem dX8_round_156 : decode cX8_round 156 = .ok (.goto (-35), 3) := by decide +kernel
theorem dX8_round_159 : decode cX8_round 159 = .ok (.iload_n 3, 1) := by decide +kernel
theorem dX8_round_160 : decode cX8_round 160 = .ok (.iconst (-1), 1) := by decide +kernel
theorem dX8_round_161 : decode cX8_round 161 = .ok (.if_icmp .ne 7, 3) := by decide +kernel
theorem dX8_round_164 : decode cX8_round 164 = .ok (.iconst (-1), 1) := by decide +kernel
theorem dX8_round_165 : decode cX8_round 165 = .ok (.goto 9, 3) := by decide +kernel
theorem dX8_round_168 : decode cX8_round 168 = .ok (.aload_n 0, 1) := by decide +kernel
theorem dX8_round_169 : decode cX8_round 169 = .ok (.getfield 48, 3) := by decide +kernel
theorem dX8_round_172 : decode cX8_round 172 = .ok (.iload_n 3, 1) := by decide +kernel
theorem dX8_round_173 : decode cX8_round 173 = .ok (.iaload, 1) := by decide +kernel
theorem dX8_round_174 : decode cX8_round 174 = .ok (.ireturn, 1) := by decide +kernel
theorem cl_X8_288 {X : Cx} {cc : ByteArray} {nL pc fr lo : Nat} {L : List (Nat × Value)} {st : List Value} {S : St} (ok : Ok X cc nL RX8 fr lo) {x1 x2 x3 : Int32} (d : decode cc pc = .ok (.invokevirtual 288, 3)) (hroom : 4 ≤ fr ∧ 102 ≤ lo) (hst : (st.map fun v => v.category).sum ≤ 8) {post : St → Prop} (h : wp_X8_roundsOn x1 x2 x3 S post) (kk : ∀ S1 : St, post S1 → Wp X nL (pc + 3) L st S1) : Wp X nL pc L (.int x3 :: .int x2 :: .int x1 :: .ref (xad X 71) :: st) S :=
  r_callVv (n := 10) (f := 3) (lo1 := 73) (N := 3) (As := [.int x1, .int x2, .int x3]) ok tw_in_X8 tw_im_X8_roundsOn tw_se_X8_roundsOn tw_co_X8_roundsOn tw_ml_X8_288 (by decide +kernel) rfl ob_71 rfl hroom hst d rfl (c_X8_roundsOn (xl X) (xG X) h) kk
theorem cl_X8_292 {X : Cx} {cc : ByteArray} {nL pc fr lo : Nat} {L : List (Nat × Value)} {st : List Value} {S : St} (ok : Ok X cc nL RX8 fr lo) {x1 : Int32} (d : decode cc pc = .ok (.invokevirtual 292, 3)) (hroom : 1 ≤ fr ∧ 23 ≤ lo) (hst : (st.map fun v => v.category).sum ≤ 8) {post : Int32 → St → Prop} (h : wp_X8_nextFar x1 S post) (kk : ∀ (r : Int32) (S1 : St), post r S1 → Wp X nL (pc + 3) L (.int r :: st) S1) : Wp X nL pc L (.int x1 :: .ref (xad X 71) :: st) S :=
  r_callVi (n := 4) (f := 0) (lo1 := 0) (N := 1) (As := [.int x1]) ok tw_in_X8 tw_im_X8_nextFar tw_se_X8_nextFar tw_co_X8_nextFar tw_ml_X8_292 (by decide +kernel) rfl ob_71 rfl hroom hst d rfl (c_X8_nextFar (xl X) (xG X) h) kk
def B_X8_round_159 (post : Int32 → St → Prop) (x3 : Int32) (S : St) : Prop :=
  ((¬ x3 = (-1) → vp_in x3 2304 ∧ (post (S 83 (ix x3)) S)) ∧ (x3 = (-1) → post (-1) S))
def BD_X8_round_121 (k121 : Int32 → Int32 → Int32 → St → Prop) (post : Int32 → St → Prop) (x1 : Int32) (x2 : Int32) (x3 : Int32) (S : St) : Prop :=
  ((x3 = (-1) → B_X8_round_159 post x3 S) ∧ (¬ x3 = (-1) → (((x3 / 36) = x2 → B_X8_round_159 post x3 S) ∧ (¬ (x3 / 36) = x2 → vp_in x3 2304 ∧ (∀ S3 : St, S3 = up S 84 (ix x3) 1 → wp_X8_roundsOn x1 x2 x3 S3 (fun S5 => wp_X8_nextFar 2304 S5 (fun r7 S6 => k121 x1 x2 r7 S6)))))))
def L_X8_round_121 (post : Int32 → St → Prop) (n : Nat) : Int32 → Int32 → Int32 → St → Prop := Nat.rec (motive := fun _ => Int32 → Int32 → Int32 → St → Prop) (fun _ _ _ _ => False) (fun _ ih => BD_X8_round_121 ih post) n
def B_X8_round_121 (post : Int32 → St → Prop) (x1 : Int32) (x2 : Int32) (x3 : Int32) (S : St) : Prop := ∃ n, L_X8_round_121 post n x1 x2 x3 S
def B_X8_round_66 (post : Int32 → St → Prop) (x1 : Int32) (x2 : Int32) (S : St) : Prop :=
  vp_in ((4 : Int32) * x1) 28 ∧ (vp_in ((4 : Int32) * x1) 28 ∧ (vp_in (((4 : Int32) * x1) + 1) 28 ∧ (∀ v1 : Int32, v1 = ((((36 : Int32) * (x2 &&& ((1 : Int32) <<< ((S 76 (ix ((4 : Int32) * x1))) &&& 31)))) + ((6 : Int32) * (S 76 (ix ((4 : Int32) * x1))))) + (S 76 (ix (((4 : Int32) * x1) + 1)))) → vp_in (((4 : Int32) * x1) + 3) 28 ∧ (vp_in v1 2304 ∧ (∀ S2 : St, S2 = up S 83 (ix v1) (S 76 (ix (((4 : Int32) * x1) + 3))) → B_X8_round_121 post x1 x2 v1 S2)))))
def BD_X8_round_38 (k38 : Int32 → Int32 → Int32 → St → Prop) (post : Int32 → St → Prop) (x1 : Int32) (x2 : Int32) (x3 : Int32) (S : St) : Prop :=
  ((2304 ≤ x3 → B_X8_round_66 post x1 x2 S) ∧ (¬ 2304 ≤ x3 → vp_in x3 2304 ∧ (∀ S2 : St, S2 = up S 83 (ix x3) 100000000 → vp_in x3 2304 ∧ (∀ S4 : St, S4 = up S2 84 (ix x3) 0 → k38 x1 x2 (x3 + 1) S4))))
def L_X8_round_38 (post : Int32 → St → Prop) (n : Nat) : Int32 → Int32 → Int32 → St → Prop := Nat.rec (motive := fun _ => Int32 → Int32 → Int32 → St → Prop) (fun _ _ _ _ => False) (fun _ ih => BD_X8_round_38 ih post) n
def B_X8_round_38 (post : Int32 → St → Prop) (x1 : Int32) (x2 : Int32) (x3 : Int32) (S : St) : Prop := ∃ n, L_X8_round_38 post n x1 x2 x3 S
def wp_X8_round (x1 : Int32) (x2 : Int32) (S : St) (post : Int32 → St → Prop) : Prop :=
  ∀ S1 : St, S1 = up S 71 0 0 → wp_X8_isPerson x1 S1 (fun r3 S2 => ((r3 = 0 → post (-1000000001) S2) ∧ (¬ r3 = 0 → wp_X8_in x2 0 (((1 : Int32) <<< ((S2 71 10) &&& 31)) - 1) S2 (fun r6 S5 => ((¬ r6 = 0 → wp_X8_asNow S5 (fun S8 => B_X8_round_38 post x1 x2 0 S8)) ∧ (r6 = 0 → post (-1000000001) S5))))))
theorem w_B_X8_round_159 {X : Cx} (ok : Ok X cX8_round 4 RX8 4 102) {post : Int32 → St → Prop} (hret : RetI X cX8_round 4 post) {x3 : Int32} {S : St} (h : B_X8_round_159 post x3 S) : Wp X 4 159 [(0, .ref (xad X 71)), (3, .int x3)] [] S := by
  unfold B_X8_round_159 at h
  refine r_iload_n ok dX8_round_159 1 rfl ?_
  refine r_iconst (v := (-1)) ok dX8_round_160 rfl ?_
  refine r_icmp_ne (tgt := 168) ok dX8_round_161 rfl (fun hc1 => ?_) (fun hc1 => ?_)
  · replace h := h.1 hc1
    refine r_aload_n ok dX8_round_168 0 rfl ?_
    refine gf_X8_48 ok dX8_round_169 ?_
    refine r_iload_n ok dX8_round_172 1 rfl ?_
    refine r_iald ok ai_83 h.1 rfl dX8_round_173 ?_
    replace h := h.2
    exact hret _ _ _ _ dX8_round_174 h
  · replace h := h.2 hc1
    refine r_iconst (v := (-1)) ok dX8_round_164 rfl ?_
    refine r_goto (tgt := 174) ok dX8_round_165 rfl ?_
    exact hret _ _ _ _ dX8_round_174 h
theorem w_B_X8_round_121 {X : Cx} (ok : Ok X cX8_round 4 RX8 4 102) {post : Int32 → St → Prop} (hret : RetI X cX8_round 4 post) {x1 x2 x3 : Int32} {S : St} (h : B_X8_round_121 post x1 x2 x3 S) : Wp X 4 121 [(0, .ref (xad X 71)), (1, .int x1), (2, .int x2), (3, .int x3)] [] S := by
  obtain ⟨n, h⟩ := h
  induction n generalizing x1 x2 x3 S with
  | zero => exact False.elim h
  | succ n ih =>
    have hk121 : ∀ x1 x2 x3 S, L_X8_round_121 post n x1 x2 x3 S → Wp X 4 121 [(0, .ref (xad X 71)), (1, .int x1), (2, .int x2), (3, .int x3)] [] S := by intros; apply ih; assumption
    replace h : BD_X8_round_121 (L_X8_round_121 post n) post x1 x2 x3 S := h
    unfold BD_X8_round_121 at h
    generalize L_X8_round_121 post n = k121 at h hk121
    refine r_iload_n ok dX8_round_121 3 rfl ?_
    refine r_iconst (v := (-1)) ok dX8_round_122 rfl ?_
    refine r_icmp_eq (tgt := 159) ok dX8_round_123 rfl (fun hc1 => ?_) (fun hc1 => ?_)
    · replace h := h.1 hc1
      refine r_sub [(0, .ref (xad X 71)), (3, .int x3)] [0, 3] rfl ?_
      exact w_B_X8_round_159 ok hret h
    · replace h := h.2 hc1
      refine r_iload_n ok dX8_round_126 3 rfl ?_
      refine r_bipush (v := 36) ok dX8_round_127 rfl ?_
      refine r_idiv ok dX8_round_129 (by decide) ?_
      refine r_iload_n ok dX8_round_130 2 rfl ?_
      refine r_icmp_eq (tgt := 159) ok dX8_round_131 rfl (fun hc2 => ?_) (fun hc2 => ?_)
      · replace h := h.1 hc2
        refine r_sub [(0, .ref (xad X 71)), (3, .int x3)] [0, 3] rfl ?_
        exact w_B_X8_round_159 ok hret h
      · replace h := h.2 hc2
        refine r_aload_n ok dX8_round_134 0 rfl ?_
        refine gf_X8_51 ok dX8_round_135 ?_
        refine r_iload_n ok dX8_round_138 3 rfl ?_
        refine r_iconst (v := 1) ok dX8_round_139 rfl ?_
        have hi4 := h.1
        replace h := h.2
        refine r_zast ok az_84 hi4 rfl (Or.inr rfl) dX8_round_140 (fun S3 eS3 => ?_)
        replace h := h S3 eS3
        refine r_aload_n ok dX8_round_141 0 rfl ?_
        refine r_iload_n ok dX8_round_142 1 rfl ?_
        refine r_iload_n ok dX8_round_143 2 rfl ?_
        refine r_iload_n ok dX8_round_144 3 rfl ?_
        refine cl_X8_288 ok dX8_round_145 (by decide) (Nat.le_of_ble_eq_true rfl) h (fun S5 h => ?_)
        refine r_aload_n ok dX8_round_148 0 rfl ?_
        refine r_sipush (v := 2304) ok dX8_round_149 rfl ?_
        refine cl_X8_292 ok dX8_round_152 (by decide) (Nat.le_of_ble_eq_true rfl) h (fun r7 S6 h => ?_)
        refine r_istore_n ok dX8_round_155 (by decide) [(0, .ref (xad X 71)), (1, .int x1), (2, .int x2), (3, .int r7)] [1, 2, 3, 0] rfl ?_
        refine r_goto (tgt := 121) ok dX8_round_156 rfl ?_
        exact hk121 _ _ _ _ h
theorem w_B_X8_round_66 {X : Cx} (ok : Ok X cX8_round 4 RX8 4 102) {post : Int32 → St → Prop} (hret : RetI X cX8_round 4 post) {x1 x2 : Int32} {S : St} (h : B_X8_round_66 post x1 x2 S) : Wp X 4 66 [(0, .ref (xad X 71)), (1, .int x1), (2, .int x2)] [] S := by
  unfold B_X8_round_66 at h
  refine r_bipush (v := 36) ok dX8_round_66 rfl ?_
  refine r_iload_n ok dX8_round_68 2 rfl ?_
  refine r_iconst (v := 1) ok dX8_round_69 rfl ?_
  refine r_aload_n ok dX8_round_70 0 rfl ?_
  refine gf_X8_26 ok dX8_round_71 ?_
  refine r_iconst (v := 4) ok dX8_round_74 rfl ?_
  refine r_iload_n ok dX8_round_75 1 rfl ?_
  refine r_imul ok dX8_round_76 ?_
  refine r_iald ok ai_76 h.1 rfl dX8_round_77 ?_
  replace h := h.2
  refine r_ishl ok dX8_round_78 ?_
  refine r_iand ok dX8_round_79 ?_
  refine r_imul ok dX8_round_80 ?_
  refine r_bipush (v := 6) ok dX8_round_81 rfl ?_
  refine r_aload_n ok dX8_round_83 0 rfl ?_
  refine gf_X8_26 ok dX8_round_84 ?_
  refine r_iconst (v := 4) ok dX8_round_87 rfl ?_
  refine r_iload_n ok dX8_round_88 1 rfl ?_
  refine r_imul ok dX8_round_89 ?_
  refine r_iald ok ai_76 h.1 rfl dX8_round_90 ?_
  replace h := h.2
  refine r_imul ok dX8_round_91 ?_
  refine r_iadd ok dX8_round_92 ?_
  refine r_aload_n ok dX8_round_93 0 rfl ?_
  refine gf_X8_26 ok dX8_round_94 ?_
  refine r_iconst (v := 4) ok dX8_round_97 rfl ?_
  refine r_iload_n ok dX8_round_98 1 rfl ?_
  refine r_imul ok dX8_round_99 ?_
  refine r_iconst (v := 1) ok dX8_round_100 rfl ?_
  refine r_iadd ok dX8_round_101 ?_
  refine r_iald ok ai_76 h.1 rfl dX8_round_102 ?_
  replace h := h.2
  refine r_iadd ok dX8_round_103 ?_
  refine r_top (fun v1 ev1 => ?_)
  replace h := h v1 ev1
  refine r_istore_n ok dX8_round_104 (by decide) [(0, .ref (xad X 71)), (1, .int x1), (2, .int x2), (3, .int v1)] [1, 2, 3, 0] rfl ?_
  refine r_aload_n ok dX8_round_105 0 rfl ?_
  refine gf_X8_48 ok dX8_round_106 ?_
  refine r_iload_n ok dX8_round_109 3 rfl ?_
  refine r_aload_n ok dX8_round_110 0 rfl ?_
  refine gf_X8_26 ok dX8_round_111 ?_
  refine r_iconst (v := 4) ok dX8_round_114 rfl ?_
  refine r_iload_n ok dX8_round_115 1 rfl ?_
  refine r_imul ok dX8_round_116 ?_
  refine r_iconst (v := 3) ok dX8_round_117 rfl ?_
  refine r_iadd ok dX8_round_118 ?_
  refine r_iald ok ai_76 h.1 rfl dX8_round_119 ?_
  replace h := h.2
  have hi3 := h.1
  replace h := h.2
  refine r_iast ok ai_83 hi3 rfl dX8_round_120 (fun S2 eS2 => ?_)
  replace h := h S2 eS2
  exact w_B_X8_round_121 ok hret h
theorem w_B_X8_round_38 {X : Cx} (ok : Ok X cX8_round 4 RX8 4 102) {post : Int32 → St → Prop} (hret : RetI X cX8_round 4 post) {x1 x2 x3 : Int32} {S : St} (h : B_X8_round_38 post x1 x2 x3 S) : Wp X 4 38 [(0, .ref (xad X 71)), (1, .int x1), (2, .int x2), (3, .int x3)] [] S := by
  obtain ⟨n, h⟩ := h
  induction n generalizing x1 x2 x3 S with
  | zero => exact False.elim h
  | succ n ih =>
    have hk38 : ∀ x1 x2 x3 S, L_X8_round_38 post n x1 x2 x3 S → Wp X 4 38 [(0, .ref (xad X 71)), (1, .int x1), (2, .int x2), (3, .int x3)] [] S := by intros; apply ih; assumption
    replace h : BD_X8_round_38 (L_X8_round_38 post n) post x1 x2 x3 S := h
    unfold BD_X8_round_38 at h
    generalize L_X8_round_38 post n = k38 at h hk38
    refine r_iload_n ok dX8_round_38 3 rfl ?_
    refine r_sipush (v := 2304) ok dX8_round_39 rfl ?_
    refine r_icmp_ge (tgt := 66) ok dX8_round_42 rfl (fun hc1 => ?_) (fun hc1 => ?_)
    · replace h := h.1 hc1
      refine r_sub [(0, .ref (xad X 71)), (1, .int x1), (2, .int x2)] [0, 1, 2] rfl ?_
      exact w_B_X8_round_66 ok hret h
    · replace h := h.2 hc1
      refine r_aload_n ok dX8_round_45 0 rfl ?_
      refine gf_X8_48 ok dX8_round_46 ?_
      refine r_iload_n ok dX8_round_49 3 rfl ?_
      refine r_ldc (v := 100000000) ok dX8_round_50 tw_k_X8_223 ?_
      have hi3 := h.1
      replace h := h.2
      refine r_iast ok ai_83 hi3 rfl dX8_round_52 (fun S2 eS2 => ?_)
      replace h := h S2 eS2
      refine r_aload_n ok dX8_round_53 0 rfl ?_
      refine gf_X8_51 ok dX8_round_54 ?_
      refine r_iload_n ok dX8_round_57 3 rfl ?_
      refine r_iconst (v := 0) ok dX8_round_58 rfl ?_
      have hi5 := h.1
      replace h := h.2
      refine r_zast ok az_84 hi5 rfl (Or.inl rfl) dX8_round_59 (fun S4 eS4 => ?_)
      replace h := h S4 eS4
      refine r_iinc (v := x3 + 1) ok dX8_round_60 3 rfl rfl (by decide) [(0, .ref (xad X 71)), (1, .int x1), (2, .int x2), (3, .int (x3 + 1))] [1, 2, 3, 0] rfl ?_
      refine r_goto (tgt := 38) ok dX8_round_63 rfl ?_
      exact hk38 _ _ _ _ h
theorem w_wp_X8_round {X : Cx} (ok : Ok X cX8_round 4 RX8 4 102) {post : Int32 → St → Prop} (hret : RetI X cX8_round 4 post) {x1 x2 : Int32} {S : St} (h : wp_X8_round x1 x2 S post) : Wp X 4 0 [(0, .ref (xad X 71)), (1, .int x1), (2, .int x2)] [] S := by
  unfold wp_X8_round at h
  refine r_aload_n ok dX8_round_0 0 rfl ?_
  refine r_iconst (v := 0) ok dX8_round_1 rfl ?_
  refine pf_X8_75 ok dX8_round_2 (fun S1 eS1 => ?_)
  replace h := h S1 eS1
  refine r_aload_n ok dX8_round_5 0 rfl ?_
  refine r_iload_n ok dX8_round_6 1 rfl ?_
  refine cl_X8_182 ok dX8_round_7 (by decide) (Nat.le_of_ble_eq_true rfl) h (fun r3 S2 h => ?_)
  refine r_if_eq (tgt := 29) ok dX8_round_10 rfl (fun hc4 => ?_) (fun hc4 => ?_)
  · replace h := h.1 hc4
    refine r_ldc (v := (-1000000001)) ok dX8_round_29 tw_k_X8_174 ?_
    exact hret _ _ _ _ dX8_round_31 h
  · replace h := h.2 hc4
    refine r_iload_n ok dX8_round_13 2 rfl ?_
    refine r_iconst (v := 0) ok dX8_round_14 rfl ?_
    refine r_iconst (v := 1) ok dX8_round_15 rfl ?_
    refine r_aload_n ok dX8_round_16 0 rfl ?_
    refine gf_X8_155 ok dX8_round_17 ?_
    refine r_ishl ok dX8_round_20 ?_
    refine r_iconst (v := 1) ok dX8_round_21 rfl ?_
    refine r_isub ok dX8_round_22 ?_
    refine cl_X8_78 ok dX8_round_23 (by decide) (Nat.le_of_ble_eq_true rfl) h (fun r6 S5 h => ?_)
    refine r_if_ne (tgt := 32) ok dX8_round_26 rfl (fun hc7 => ?_) (fun hc7 => ?_)
    · replace h := h.1 hc7
      refine r_aload_n ok dX8_round_32 0 rfl ?_
      refine cl_X8_238 ok dX8_round_33 (by decide) (Nat.le_of_ble_eq_true rfl) h (fun S8 h => ?_)
      refine r_iconst (v := 0) ok dX8_round_36 rfl ?_
      refine r_istore_n ok dX8_round_37 (by decide) [(0, .ref (xad X 71)), (1, .int x1), (2, .int x2), (3, .int 0)] [1, 2, 3, 0] rfl ?_
      exact w_B_X8_round_38 ok hret h
    · replace h := h.2 hc7
      refine r_ldc (v := (-1000000001)) ok dX8_round_29 tw_k_X8_174 ?_
      exact hret _ _ _ _ dX8_round_31 h
theorem c_X8_round (l : Launch) (G : Gx) {x1 x2 : Int32} {S : St} {post : Int32 → St → Prop} (h : wp_X8_round x1 x2 S post) : MtI l yX8_round cX8_round 4 (some .int) 4 102 G [.ref (G.2.2 71), .int x1, .int x2] S post :=
  ctI (by decide) rfl (Nat.le_of_ble_eq_true rfl) (fun X _ hG ok hret => by subst hG; exact w_wp_X8_round ok hret h)

/-! HasteRoadsModel.took(IIIII)I -/
theorem dX8_took_0 : decode cX8_took 0 = .ok (.aload_n 0, 1) := by decide +kernel
theorem dX8_took_1 : decode cX8_took 1 = .ok (.iconst 0, 1) := by decide +kernel
theorem dX8_took_2 : decode cX8_took 2 = .ok (.putfield 75, 3) := by decide +kernel
theorem dX8_took_5 : decode cX8_took 5 = .ok (.aload_n 0, 1) := by decide +kernel
theorem dX8_took_6 : decode cX8_took 6 = .ok (.iload_n 1, 1) := by decide +kernel
theorem dX8_took_7 : decode cX8_took 7 = .ok (.invokevirtual 182, 3) := by decide +kernel
theorem dX8_took_10 : decode cX8_took 10 = .ok (.ifCond .eq 19, 3) := by decide +kernel
theorem dX8_took_13 : decode cX8_took 13 = .ok (.aload_n 0, 1) := by decide +kernel
theorem dX8_took_14 : decode cX8_took 14 = .ok (.iload_n 2, 1) := by decide +kernel
theorem dX8_took_15 : decode cX8_took 15 = .ok (.invokevirtual 170, 3) := by decide +kernel
theorem dX8_took_18 : decode cX8_took 18 = .ok (.ifCond .eq 11, 3) := by decide +kernel
theorem dX8_took_21 : decode cX8_took 21 = .ok (.aload_n 0, 1) := by decide +kernel
theorem dX8_took_22 : decode cX8_took 22 = .ok (.iload_n 3, 1) := by decide +kernel
theorem dX8_took_23 : decode cX8_took 23 = .ok (.invokevirtual 185, 3) := by decide +kernel
theorem dX8_took_26 : decode cX8_took 26 = .ok (.ifCond .ne 6, 3) := by decide +kernel
theorem dX8_took_29 : decode cX8_took 29 = .ok (.ldc 174, 2) := by decide +kernel
theorem dX8_took_31 : decode cX8_took 31 = .ok (.ireturn, 1) := by decide +kernel
theorem dX8_took_32 : decode cX8_took 32 = .ok (.iload 4, 2) := by decide +kernel
theorem dX8_took_34 : decode cX8_took 34 = .ok (.iconst 0, 1) := by decide +kernel
theorem dX8_took_35 : decode cX8_took 35 = .ok (.sipush 999, 3) := by decide +kernel
theorem dX8_took_38 : decode cX8_took 38 = .ok (.invokestatic 78, 3) := by decide +kernel
theorem dX8_took_41 : decode cX8_took 41 = .ok (.ifCond .eq 15, 3) := by decide +kernel
theorem dX8_took_44 : decode cX8_took 44 = .ok (.iload 5, 2) := by decide +kernel
theorem dX8_took_46 : decode cX8_took 46 = .ok (.iconst 1, 1) := by decide +kernel
theorem dX8_took_47 : decode cX8_took 47 = .ok (.sipush 999, 3) := by decide +kernel
theorem dX8_took_50 : decode cX8_took 50 = .ok (.invokestatic 78, 3) := by decide +kernel
theorem dX8_took_53 : decode cX8_took 53 = .ok (.ifCond .ne 6, 3) := by decide +kernel
theorem dX8_took_56 : decode cX8_took 56 = .ok (.ldc 82, 2) := by decide +kernel
theorem dX8_took_58 : decode cX8_took 58 = .ok (.ireturn, 1) := by decide +kernel
theorem dX8_took_59 : decode cX8_took 59 = .ok (.aload_n 0, 1) := by decide +kernel
theorem dX8_took_60 : decode cX8_took 60 = .ok (.iload_n 2, 1) := by decide +kernel
theorem dX8_took_61 : decode cX8_took 61 = .ok (.iload_n 3, 1) := by decide +kernel
theorem dX8_took_62 : decode cX8_took 62 = .ok (.invokevirtual 189, 3) := by decide +kernel
theorem dX8_took_65 : decode cX8_took 65 = .ok (.iconst (-1), 1) := by decide +kernel
theorem dX8_took_66 : decode cX8_took 66 = .ok (.if_icmp .ne 6, 3) := by decide +kernel
theorem dX8_took_69 : decode cX8_took 69 = .ok (.ldc 193, 2) := by decide +kernel
theorem dX8_took_71 : decode cX8_took 71 = .ok (.ireturn, 1) := by decide +kernel
theorem dX8_took_72 : decode cX8_took 72 = .ok (.aload_n 0, 1) := by decide +kernel
theorem dX8_took_73 : decode cX8_took 73 = .ok (.getfield 164, 3) := by decide +kernel
theorem dX8_took_76 : decode cX8_took 76 = .ok (.bipush 20, 2) := by decide +kernel
theorem dX8_took_78 : decode cX8_took 78 = .ok (.if_icmp .ne 6, 3) := by decide +kernel
theorem dX8_took_81 : decode cX8_took 81 = .ok (.ldc 86, 2) := by decide +kernel
theorem dX8_took_83 : decode cX8_took 83 = .ok (.ireturn, 1) := by decide +kernel
theorem dX8_took_84 : decode cX8_took 84 = .ok (.iconst 5, 1) := by decide +kernel
theorem dX8_took_85 : decode cX8_took 85 = .ok (.aload_n 0, 1) := by decide +kernel
theorem dX8_took_86 : decode cX8_took 86 = .ok (.getfield 164, 3) := by decide +kernel
theorem dX8_took_89 : decode cX8_took 89 = .ok (.imul, 1) := by decide +kernel
theorem dX8_took_90 : decode cX8_took 90 = .ok (.istore 6, 2) := by decide +kernel
theorem dX8_took_92 : decode cX8_took 92 = .ok (.aload_n 0, 1) := by decide +kernel
theorem dX8_took_93 : decode cX8_took 93 = .ok (.getfield 36, 3) := by decide +kernel
theorem dX8_took_96 : decode cX8_took 96 = .ok (.iload 6, 2) := by decide +kernel
theorem dX8_took_98 : decode cX8_took 98 = .ok (.iload_n 1, 1) := by decide +kernel
theorem dX8_took_99 : decode cX8_took 99 = .ok (.iastore, 1) := by decide +kernel
theorem dX8_took_100 : decode cX8_took 100 = .ok (.aload_n 0, 1) := by decide +kernel
theorem dX8_took_101 : decode cX8_took 101 = .ok (.getfield 36, 3) := by decide +kernel
theorem dX8_took_104 : decode cX8_took 104 = .ok (.iload 6, 2) := by decide +kernel
theorem dX8_took_106 : decode cX8_took 106 = .ok (.iconst 1, 1) := by decide +kernel
theorem dX8_took_107 : decode cX8_took 107 = .ok (.iadd, 1) := by decide +kernel
theorem dX8_took_108 : decode cX8_took 108 = .ok (.iload_n 2, 1) := by decide +kernel
theorem dX8_took_109 : decode cX8_took 109 = .ok (.iastore, 1) := by decide +kernel
theorem dX8_took_110 : decode cX8_took 110 = .ok (.aload_n 0, 1) := by decide +kernel
theorem dX8_took_111 : decode cX8_took 111 = .ok (.getfield 36, 3) := by decide +kernel
theorem dX8_took_114 : decode cX8_took 114 = .ok (.iload 6, 2) := by decide +kernel
theorem dX8_took_116 : decode cX8_took 116 = .ok (.iconst 2, 1) := by decide +kernel
theorem dX8_took_117 : decode cX8_took 117 = .ok (.iadd, 1) := by decide +kernel
theorem dX8_took_118 : decode cX8_took 118 = .ok (.iload_n 3, 1) := by decide +kernel
theorem dX8_took_119 : decode cX8_took 119 = .ok (.iastore, 1) := by decide +kernel
theorem dX8_took_120 : decode cX8_took 120 = .ok (.aload_n 0, 1) := by decide +kernel
theorem dX8_took_121 : decode cX8_took 121 = .ok (.getfield 36, 3) := by decide +kernel
theorem dX8_took_124 : decode cX8_took 124 = .ok (.iload 6, 2) := by decide +kernel
theorem dX8_took_126 : decode cX8_took 126 = .ok (.iconst 3, 1) := by decide +kernel
theorem dX8_took_127 : decode cX8_took 127 = .ok (.iadd, 1) := by decide +kernel
theorem dX8_took_128 : decode cX8_took 128 = .ok (.iload 4, 2) := by decide +kernel
theorem dX8_took_130 : decode cX8_took 130 = .ok (.iastore, 1) := by decide +kernel
theorem dX8_took_131 : decode cX8_took 131 = .ok (.aload_n 0, 1) := by decide +kernel
theorem dX8_took_132 : decode cX8_took 132 = .ok (.getfield 36, 3) := by decide +kernel
theorem dX8_took_135 : decode cX8_took 135 = .ok (.iload 6, 2) := by decide +kernel
theorem dX8_took_137 : decode cX8_took 137 = .ok (.iconst 4, 1) := by decide +kernel
theorem dX8_took_138 : decode cX8_took 138 = .ok (.iadd, 1) := by decide +kernel
theorem dX8_took_139 : decode cX8_took 139 = .ok (.iload 5, 2) := by decide +kernel
theorem dX8_took_141 : decode cX8_took 141 = .ok (.iastore, 1) := by decide +kernel
theorem dX8_took_142 : decode cX8_took 142 = .ok (.aload_n 0, 1) := by decide +kernel
theorem dX8_took_143 : decode cX8_took 143 = .ok (.dup, 1) := by decide +kernel
theorem dX8_took_144 : decode cX8_took 144 = .ok (.getfield 164, 3) := by decide +kernel
theorem dX8_took_147 : decode cX8_took 147 = .ok (.iconst 1, 1) := by decide +kernel
theorem dX8_took_148 : decode cX8_took 148 = .ok (.iadd, 1) := by decide +kernel
theorem dX8_took_149 : decode cX8_took 149 = .ok (.putfield 164, 3) := by decide +kernel
theorem dX8_took_152 : decode cX8_took 152 = .ok (.aload_n 0, 1) := by decide +kernel
theorem dX8_took_153 : decode cX8_took 153 = .ok (.getfield 164, 3) := by decide +kernel
theorem dX8_took_156 : decode cX8_took 156 = .ok (.ireturn, 1) := by decide +kernel
theorem gf_X8_36 {X : Cx} {cc : ByteArray} {nL pc fr lo : Nat} {L : List (Nat × Value)} {st : List Value} {S : St} (ok : Ok X cc nL RX8 fr lo) (d : decode cc pc = .ok (.getfield 36, 3)) (k : Wp X nL (pc + 3) L (.ref (xad X 79) :: st) S) : Wp X nL pc L (.ref (xad X 71) :: st) S :=
  r_get (C := RX8) (T := TX8) ok ob_71 rfl i_X8 24 (by decide) tw_fl_X8_36 d (by rw [show fvl (xad X) S 71 24 = .ref (xad X 79) from (fvl_ref (d := 79) (by decide))]; exact k)
def wp_X8_took (x1 : Int32) (x2 : Int32) (x3 : Int32) (x4 : Int32) (x5 : Int32) (S : St) (post : Int32 → St → Prop) : Prop :=
  ∀ S1 : St, S1 = up S 71 0 0 → wp_X8_isPerson x1 S1 (fun r3 S2 => ((r3 = 0 → post (-1000000001) S2) ∧ (¬ r3 = 0 → wp_X8_isRoad x2 S2 (fun r6 S5 => ((r6 = 0 → post (-1000000001) S5) ∧ (¬ r6 = 0 → wp_X8_isPlace x3 S5 (fun r9 S8 => ((¬ r9 = 0 → wp_X8_in x4 0 999 S8 (fun r12 S11 => ((r12 = 0 → post (-1000000002) S11) ∧ (¬ r12 = 0 → wp_X8_in x5 1 999 S11 (fun r15 S14 => ((¬ r15 = 0 → wp_X8_otherEnd x2 x3 S14 (fun r18 S17 => ((¬ r18 = (-1) → ((¬ (S17 71 25) = 20 → ∀ v21 : Int32, v21 = ((5 : Int32) * (S17 71 25)) → vp_in v21 100 ∧ (∀ S22 : St, S22 = up S17 79 (ix v21) x1 → vp_in (v21 + 1) 100 ∧ (∀ S24 : St, S24 = up S22 79 (ix (v21 + 1)) x2 → vp_in (v21 + 2) 100 ∧ (∀ S26 : St, S26 = up S24 79 (ix (v21 + 2)) x3 → vp_in (v21 + 3) 100 ∧ (∀ S28 : St, S28 = up S26 79 (ix (v21 + 3)) x4 → vp_in (v21 + 4) 100 ∧ (∀ S30 : St, S30 = up S28 79 (ix (v21 + 4)) x5 → ∀ S32 : St, S32 = up S30 71 25 ((S30 71 25) + 1) → post (S32 71 25) S32)))))) ∧ ((S17 71 25) = 20 → post (-1000000004) S17))) ∧ (r18 = (-1) → post (-1000000003) S17)))) ∧ (r15 = 0 → post (-1000000002) S14))))))) ∧ (r9 = 0 → post (-1000000001) S8)))))))))
theorem w_wp_X8_took {X : Cx} (ok : Ok X cX8_took 7 RX8 2 43) {post : Int32 → St → Prop} (hret : RetI X cX8_took 7 post) {x1 x2 x3 x4 x5 : Int32} {S : St} (h : wp_X8_took x1 x2 x3 x4 x5 S post) : Wp X 7 0 [(0, .ref (xad X 71)), (1, .int x1), (2, .int x2), (3, .int x3), (4, .int x4), (5, .int x5)] [] S := by
  unfold wp_X8_took at h
  refine r_aload_n ok dX8_took_0 0 rfl ?_
  refine r_iconst (v := 0) ok dX8_took_1 rfl ?_
  refine pf_X8_75 ok dX8_took_2 (fun S1 eS1 => ?_)
  replace h := h S1 eS1
  refine r_aload_n ok dX8_took_5 0 rfl ?_
  refine r_iload_n ok dX8_took_6 1 rfl ?_
  refine cl_X8_182 ok dX8_took_7 (by decide) (Nat.le_of_ble_eq_true rfl) h (fun r3 S2 h => ?_)
  refine r_if_eq (tgt := 29) ok dX8_took_10 rfl (fun hc4 => ?_) (fun hc4 => ?_)
  · replace h := h.1 hc4
    refine r_ldc (v := (-1000000001)) ok dX8_took_29 tw_k_X8_174 ?_
    exact hret _ _ _ _ dX8_took_31 h
  · replace h := h.2 hc4
    refine r_aload_n ok dX8_took_13 0 rfl ?_
    refine r_iload_n ok dX8_took_14 2 rfl ?_
    refine cl_X8_170 ok dX8_took_15 (by decide) (Nat.le_of_ble_eq_true rfl) h (fun r6 S5 h => ?_)
    refine r_if_eq (tgt := 29) ok dX8_took_18 rfl (fun hc7 => ?_) (fun hc7 => ?_)
    · replace h := h.1 hc7
      refine r_ldc (v := (-1000000001)) ok dX8_took_29 tw_k_X8_174 ?_
      exact hret _ _ _ _ dX8_took_31 h
    · replace h := h.2 hc7
      refine r_aload_n ok dX8_took_21 0 rfl ?_
      refine r_iload_n ok dX8_took_22 3 rfl ?_
      refine cl_X8_185 ok dX8_took_23 (by decide) (Nat.le_of_ble_eq_true rfl) h (fun r9 S8 h => ?_)
      refine r_if_ne (tgt := 32) ok dX8_took_26 rfl (fun hc10 => ?_) (fun hc10 => ?_)
      · replace h := h.1 hc10
        refine r_iload ok dX8_took_32 4 rfl ?_
        refine r_iconst (v := 0) ok dX8_took_34 rfl ?_
        refine r_sipush (v := 999) ok dX8_took_35 rfl ?_
        refine cl_X8_78 ok dX8_took_38 (by decide) (Nat.le_of_ble_eq_true rfl) h (fun r12 S11 h => ?_)
        refine r_if_eq (tgt := 56) ok dX8_took_41 rfl (fun hc13 => ?_) (fun hc13 => ?_)
        · replace h := h.1 hc13
          refine r_ldc (v := (-1000000002)) ok dX8_took_56 tw_k_X8_82 ?_
          exact hret _ _ _ _ dX8_took_58 h
        · replace h := h.2 hc13
          refine r_iload ok dX8_took_44 5 rfl ?_
          refine r_iconst (v := 1) ok dX8_took_46 rfl ?_
          refine r_sipush (v := 999) ok dX8_took_47 rfl ?_
          refine cl_X8_78 ok dX8_took_50 (by decide) (Nat.le_of_ble_eq_true rfl) h (fun r15 S14 h => ?_)
          refine r_if_ne (tgt := 59) ok dX8_took_53 rfl (fun hc16 => ?_) (fun hc16 => ?_)
          · replace h := h.1 hc16
            refine r_aload_n ok dX8_took_59 0 rfl ?_
            refine r_iload_n ok dX8_took_60 2 rfl ?_
            refine r_iload_n ok dX8_took_61 3 rfl ?_
            refine cl_X8_189 ok dX8_took_62 (by decide) (Nat.le_of_ble_eq_true rfl) h (fun r18 S17 h => ?_)
            refine r_iconst (v := (-1)) ok dX8_took_65 rfl ?_
            refine r_icmp_ne (tgt := 72) ok dX8_took_66 rfl (fun hc19 => ?_) (fun hc19 => ?_)
            · replace h := h.1 hc19
              refine r_aload_n ok dX8_took_72 0 rfl ?_
              refine gf_X8_164 ok dX8_took_73 ?_
              refine r_bipush (v := 20) ok dX8_took_76 rfl ?_
              refine r_icmp_ne (tgt := 84) ok dX8_took_78 rfl (fun hc20 => ?_) (fun hc20 => ?_)
              · replace h := h.1 hc20
                refine r_iconst (v := 5) ok dX8_took_84 rfl ?_
                refine r_aload_n ok dX8_took_85 0 rfl ?_
                refine gf_X8_164 ok dX8_took_86 ?_
                refine r_imul ok dX8_took_89 ?_
                refine r_top (fun v21 ev21 => ?_)
                replace h := h v21 ev21
                refine r_istore ok dX8_took_90 (by decide) [(0, .ref (xad X 71)), (1, .int x1), (2, .int x2), (3, .int x3), (4, .int x4), (5, .int x5), (6, .int v21)] [1, 2, 3, 4, 5, 6, 0] rfl ?_
                refine r_aload_n ok dX8_took_92 0 rfl ?_
                refine gf_X8_36 ok dX8_took_93 ?_
                refine r_iload ok dX8_took_96 6 rfl ?_
                refine r_iload_n ok dX8_took_98 1 rfl ?_
                have hi23 := h.1
                replace h := h.2
                refine r_iast ok ai_79 hi23 rfl dX8_took_99 (fun S22 eS22 => ?_)
                replace h := h S22 eS22
                refine r_aload_n ok dX8_took_100 0 rfl ?_
                refine gf_X8_36 ok dX8_took_101 ?_
                refine r_iload ok dX8_took_104 6 rfl ?_
                refine r_iconst (v := 1) ok dX8_took_106 rfl ?_
                refine r_iadd ok dX8_took_107 ?_
                refine r_iload_n ok dX8_took_108 2 rfl ?_
                have hi25 := h.1
                replace h := h.2
                refine r_iast ok ai_79 hi25 rfl dX8_took_109 (fun S24 eS24 => ?_)
                replace h := h S24 eS24
                refine r_aload_n ok dX8_took_110 0 rfl ?_
                refine gf_X8_36 ok dX8_took_111 ?_
                refine r_iload ok dX8_took_114 6 rfl ?_
                refine r_iconst (v := 2) ok dX8_took_116 rfl ?_
                refine r_iadd ok dX8_took_117 ?_
                refine r_iload_n ok dX8_took_118 3 rfl ?_
                have hi27 := h.1
                replace h := h.2
                refine r_iast ok ai_79 hi27 rfl dX8_took_119 (fun S26 eS26 => ?_)
                replace h := h S26 eS26
                refine r_aload_n ok dX8_took_120 0 rfl ?_
                refine gf_X8_36 ok dX8_took_121 ?_
                refine r_iload ok dX8_took_124 6 rfl ?_
                refine r_iconst (v := 3) ok dX8_took_126 rfl ?_
                refine r_iadd ok dX8_took_127 ?_
                refine r_iload ok dX8_took_128 4 rfl ?_
                have hi29 := h.1
                replace h := h.2
                refine r_iast ok ai_79 hi29 rfl dX8_took_130 (fun S28 eS28 => ?_)
                replace h := h S28 eS28
                refine r_aload_n ok dX8_took_131 0 rfl ?_
                refine gf_X8_36 ok dX8_took_132 ?_
                refine r_iload ok dX8_took_135 6 rfl ?_
                refine r_iconst (v := 4) ok dX8_took_137 rfl ?_
                refine r_iadd ok dX8_took_138 ?_
                refine r_iload ok dX8_took_139 5 rfl ?_
                have hi31 := h.1
                replace h := h.2
                refine r_iast ok ai_79 hi31 rfl dX8_took_141 (fun S30 eS30 => ?_)
                replace h := h S30 eS30
                refine r_aload_n ok dX8_took_142 0 rfl ?_
                refine r_dup ok dX8_took_143 rfl ?_
                refine gf_X8_164 ok dX8_took_144 ?_
                refine r_iconst (v := 1) ok dX8_took_147 rfl ?_
                refine r_iadd ok dX8_took_148 ?_
                refine pf_X8_164 ok dX8_took_149 (fun S32 eS32 => ?_)
                replace h := h S32 eS32
                refine r_aload_n ok dX8_took_152 0 rfl ?_
                refine gf_X8_164 ok dX8_took_153 ?_
                exact hret _ _ _ _ dX8_took_156 h
              · replace h := h.2 hc20
                refine r_ldc (v := (-1000000004)) ok dX8_took_81 tw_k_X8_86 ?_
                exact hret _ _ _ _ dX8_took_83 h
            · replace h := h.2 hc19
              refine r_ldc (v := (-1000000003)) ok dX8_took_69 tw_k_X8_193 ?_
              exact hret _ _ _ _ dX8_took_71 h
          · replace h := h.2 hc16
            refine r_ldc (v := (-1000000002)) ok dX8_took_56 tw_k_X8_82 ?_
            exact hret _ _ _ _ dX8_took_58 h
      · replace h := h.2 hc10
        refine r_ldc (v := (-1000000001)) ok dX8_took_29 tw_k_X8_174 ?_
        exact hret _ _ _ _ dX8_took_31 h
theorem c_X8_took (l : Launch) (G : Gx) {x1 x2 x3 x4 x5 : Int32} {S : St} {post : Int32 → St → Prop} (h : wp_X8_took x1 x2 x3 x4 x5 S post) : MtI l yX8_took cX8_took 7 (some .int) 2 43 G [.ref (G.2.2 71), .int x1, .int x2, .int x3, .int x4, .int x5] S post :=
  ctI (by decide) rfl (Nat.le_of_ble_eq_true rfl) (fun X _ hG ok hret => by subst hG; exact w_wp_X8_took ok hret h)

/-! HasteRoadsModel.spentAt(I)I -/
theorem dX8_spentAt_0 : decode cX8_spentAt 0 = .ok (.iconst 5, 1) := by decide +kernel
theorem dX8_spentAt_1 : decode cX8_spentAt 1 = .ok (.iload_n 1, 1) := by decide +kernel
theorem dX8_spentAt_2 : decode cX8_spentAt 2 = .ok (.imul, 1) := by decide +kernel
theorem dX8_spentAt_3 : decode cX8_spentAt 3 = .ok (.istore_n 2, 1) := by decide +kernel
theorem dX8_spentAt_4 : decode cX8_spentAt 4 = .ok (.iconst 0, 1) := by decide +kernel
theorem dX8_spentAt_5 : decode cX8_spentAt 5 = .ok (.istore_n 3, 1) := by decide +kernel
theorem dX8_spentAt_6 : decode cX8_spentAt 6 = .ok (.iconst 0, 1) := by decide +kernel
theorem dX8_spentAt_7 : decode cX8_spentAt 7 = .ok (.istore 4, 2) := by decide +kernel
theorem dX8_spentAt_9 : decode cX8_spentAt 9 = .ok (.iload 4, 2) := by decide +kernel
theorem dX8_spentAt_11 : decode cX8_spentAt 11 = .ok (.bipush 6, 2) := by decide +kernel
theorem dX8_spentAt_13 : decode cX8_spentAt 13 = .ok (.if_icmp .ge 83, 3) := by decide +kernel
theorem dX8_spentAt_16 : decode cX8_spentAt 16 = .ok (.aload_n 0, 1) := by decide +kernel
theorem dX8_spentAt_17 : decode cX8_spentAt 17 = .ok (.aload_n 0, 1) := by decide +kernel
theorem dX8_spentAt_18 : decode cX8_spentAt 18 = .ok (.getfield 23, 3) := by decide +kernel
theorem dX8_spentAt_21 : decode cX8_spentAt 21 = .ok (.aload_n 0, 1) := by decide +kernel
theorem dX8_spentAt_22 : decode cX8_spentAt 22 = .ok (.getfield 36, 3) := by decide +kernel
theorem dX8_spentAt_25 : decode cX8_spentAt 25 = .ok (.iload_n 2, 1) := by decide +kernel
theorem dX8_spentAt_26 : decode cX8_spentAt 26 = .ok (.iaload, 1) := by decide +kernel
theorem dX8_spentAt_27 : decode cX8_spentAt 27 = .ok (.aload_n 0, 1) := by decide +kernel
theorem dX8_spentAt_28 : decode cX8_spentAt 28 = .ok (.getfield 36, 3) := by decide +kernel
theorem dX8_spentAt_31 : decode cX8_spentAt 31 = .ok (.iload_n 2, 1) := by decide +kernel
theorem dX8_spentAt_32 : decode cX8_spentAt 32 = .ok (.iconst 1, 1) := by decide +kernel
theorem dX8_spentAt_33 : decode cX8_spentAt 33 = .ok (.iadd, 1) := by decide +kernel
theorem dX8_spentAt_34 : decode cX8_spentAt 34 = .ok (.iaload, 1) := by decide +kernel
theorem dX8_spentAt_35 : decode cX8_spentAt 35 = .ok (.aload_n 0, 1) := by decide +kernel
theorem dX8_spentAt_36 : decode cX8_spentAt 36 = .ok (.getfield 36, 3) := by decide +kernel
theorem dX8_spentAt_39 : decode cX8_spentAt 39 = .ok (.iload_n 2, 1) := by decide +kernel
theorem dX8_spentAt_40 : decode cX8_spentAt 40 = .ok (.iconst 2, 1) := by decide +kernel
theorem dX8_spentAt_41 : decode cX8_spentAt 41 = .ok (.iadd, 1) := by decide +kernel
theorem dX8_spentAt_42 : decode cX8_spentAt 42 = .ok (.iaload, 1) := by decide +kernel
theorem dX8_spentAt_43 : decode cX8_spentAt 43 = .ok (.aload_n 0, 1) := by decide +kernel
theorem dX8_spentAt_44 : decode cX8_spentAt 44 = .ok (.getfield 36, 3) := by decide +kernel
theorem dX8_spentAt_47 : decode cX8_spentAt 47 = .ok (.iload_n 2, 1) := by decide +kernel
theorem dX8_spentAt_48 : decode cX8_spentAt 48 = .ok (.iconst 3, 1) := by decide +kernel
theorem dX8_spentAt_49 : decode cX8_spentAt 49 = .ok (.iadd, 1) := by decide +kernel
theorem dX8_spentAt_50 : decode cX8_spentAt 50 = .ok (.iaload, 1) := by decide +kernel
theorem dX8_spentAt_51 : decode cX8_spentAt 51 = .ok (.iload 4, 2) := by decide +kernel
theorem dX8_spentAt_53 : decode cX8_spentAt 53 = .ok (.invokevirtual 194, 3) := by decide +kernel
theorem dX8_spentAt_56 : decode cX8_spentAt 56 = .ok (.aload_n 0, 1) := by decide +kernel
theorem dX8_spentAt_57 : decode cX8_spentAt 57 = .ok (.getfield 36, 3) := by decide +kernel
theorem dX8_spentAt_60 : decode cX8_spentAt 60 = .ok (.iload_n 2, 1) := by decide +kernel
theorem dX8_spentAt_61 : decode cX8_spentAt 61 = .ok (.iconst 4, 1) := by decide +kernel
theorem dX8_spentAt_62 : decode cX8_spentAt 62 = .ok (.iadd, 1) := by decide +kernel
theorem dX8_spentAt_63 : decode cX8_spentAt 63 = .ok (.iaload, 1) := by decide +kernel
theorem dX8_spentAt_64 : decode cX8_spentAt 64 = .ok (.if_icmp .ne 7, 3) := by decide +kernel
theorem dX8_spentAt_67 : decode cX8_spentAt 67 = .ok (.iconst 1, 1) := by decide +kernel
theorem dX8_spentAt_68 : decode cX8_spentAt 68 = .ok (.goto 4, 3) := by decide +kernel
theorem dX8_spentAt_71 : decode cX8_spentAt 71 = .ok (.iconst 0, 1) := by decide +kernel
theorem dX8_spentAt_72 : decode cX8_spentAt 72 = .ok (.istore 5, 2) := by decide +kernel
theorem dX8_spentAt_74 : decode cX8_spentAt 74 = .ok (.iload_n 3, 1) := by decide +kernel
theorem dX8_spentAt_75 : decode cX8_spentAt 75 = .ok (.iload 5, 2) := by decide +kernel
theorem dX8_spentAt_77 : decode cX8_spentAt 77 = .ok (.ifCond .eq 10, 3) := by decide +kernel
theorem dX8_spentAt_80 : decode cX8_spentAt 80 = .ok (.iconst 1, 1) := by decide +kernel
theorem dX8_spentAt_81 : decode cX8_spentAt 81 = .ok (.iload 4, 2) := by decide +kernel
theorem dX8_spentAt_83 : decode cX8_spentAt 83 = .ok (.ishl, 1) := by decide +kernel
theorem dX8_spentAt_84 : decode cX8_spentAt 84 = .ok (.goto 4, 3) := by decide +kernel
theorem dX8_spentAt_87 : decode cX8_spentAt 87 = .ok (.iconst 0, 1) := by decide +kernel
theorem dX8_spentAt_88 : decode cX8_spentAt 88 = .ok (.ior, 1) := by decide +kernel
theorem dX8_spentAt_89 : decode cX8_spentAt 89 = .ok (.istore_n 3, 1) := by decide +kernel
theorem dX8_spentAt_90 : decode cX8_spentAt 90 = .ok (.iinc 4 1, 3) := by decide +kernel
theorem dX8_spentAt_93 : decode cX8_spentAt 93 = .ok (.goto (-84), 3) := by decide +kernel
theorem dX8_spentAt_96 : decode cX8_spentAt 96 = .ok (.iload_n 3, 1) := by decide +kernel
theorem dX8_spentAt_97 : decode cX8_spentAt 97 = .ok (.ireturn, 1) := by decide +kernel

def B_X8_spentAt_72 (k9 : Int32 → Int32 → Int32 → St → Prop) (post : Int32 → St → Prop) (x2 : Int32) (x3 : Int32) (x4 : Int32) (s0 : Int32) (S : St) : Prop :=
  ((s0 = 0 → ∀ v2 : Int32, v2 = (x3 ||| 0) → k9 x2 v2 (x4 + 1) S) ∧ (¬ s0 = 0 → ∀ v3 : Int32, v3 = (x3 ||| ((1 : Int32) <<< (x4 &&& 31))) → k9 x2 v3 (x4 + 1) S))
def BD_X8_spentAt_9 (k9 : Int32 → Int32 → Int32 → St → Prop) (post : Int32 → St → Prop) (x2 : Int32) (x3 : Int32) (x4 : Int32) (S : St) : Prop :=
  ((6 ≤ x4 → post x3 S) ∧ (¬ 6 ≤ x4 → vp_in x2 100 ∧ (vp_in (x2 + 1) 100 ∧ (vp_in (x2 + 2) 100 ∧ (vp_in (x2 + 3) 100 ∧ (wp_X8_time 75 (S 79 (ix x2)) (S 79 (ix (x2 + 1))) (S 79 (ix (x2 + 2))) (S 79 (ix (x2 + 3))) x4 S (fun r3 S2 => vp_in (x2 + 4) 100 ∧ (((¬ r3 = (S2 79 (ix (x2 + 4))) → B_X8_spentAt_72 k9 post x2 x3 x4 0 S2) ∧ (r3 = (S2 79 (ix (x2 + 4))) → B_X8_spentAt_72 k9 post x2 x3 x4 1 S2))))))))))
def L_X8_spentAt_9 (post : Int32 → St → Prop) (n : Nat) : Int32 → Int32 → Int32 → St → Prop := Nat.rec (motive := fun _ => Int32 → Int32 → Int32 → St → Prop) (fun _ _ _ _ => False) (fun _ ih => BD_X8_spentAt_9 ih post) n
def B_X8_spentAt_9 (post : Int32 → St → Prop) (x2 : Int32) (x3 : Int32) (x4 : Int32) (S : St) : Prop := ∃ n, L_X8_spentAt_9 post n x2 x3 x4 S
def wp_X8_spentAt (x1 : Int32) (S : St) (post : Int32 → St → Prop) : Prop :=
  ∀ v1 : Int32, v1 = ((5 : Int32) * x1) → B_X8_spentAt_9 post v1 0 0 S
theorem w_B_X8_spentAt_72 {X : Cx} (ok : Ok X cX8_spentAt 6 RX8 3 73) {post : Int32 → St → Prop} (hret : RetI X cX8_spentAt 6 post) {k9 : Int32 → Int32 → Int32 → St → Prop} (hk9 : ∀ x2 x3 x4 S, k9 x2 x3 x4 S → Wp X 6 9 [(0, .ref (xad X 71)), (2, .int x2), (3, .int x3), (4, .int x4)] [] S) {x2 x3 x4 s0 : Int32} {S : St} (h : B_X8_spentAt_72 k9 post x2 x3 x4 s0 S) : Wp X 6 72 [(0, .ref (xad X 71)), (2, .int x2), (3, .int x3), (4, .int x4)] [.int s0] S := by
  unfold B_X8_spentAt_72 at h
  refine r_istore ok dX8_spentAt_72 (by decide) [(0, .ref (xad X 71)), (2, .int x2), (3, .int x3), (4, .int x4), (5, .int s0)] [1, 2, 3, 4, 0] rfl ?_
  refine r_iload_n ok dX8_spentAt_74 2 rfl ?_
  refine r_iload ok dX8_spentAt_75 4 rfl ?_
  refine r_if_eq (tgt := 87) ok dX8_spentAt_77 rfl (fun hc1 => ?_) (fun hc1 => ?_)
  · replace h := h.1 hc1
    refine r_iconst (v := 0) ok dX8_spentAt_87 rfl ?_
    refine r_ior ok dX8_spentAt_88 ?_
    refine r_top (fun v2 ev2 => ?_)
    replace h := h v2 ev2
    refine r_istore_n ok dX8_spentAt_89 (by decide) [(0, .ref (xad X 71)), (2, .int x2), (3, .int v2), (4, .int x4)] [1, 2, 0, 3] rfl ?_
    refine r_iinc (v := x4 + 1) ok dX8_spentAt_90 3 rfl rfl (by decide) [(0, .ref (xad X 71)), (2, .int x2), (3, .int v2), (4, .int (x4 + 1))] [1, 2, 3, 0] rfl ?_
    refine r_goto (tgt := 9) ok dX8_spentAt_93 rfl ?_
    exact hk9 _ _ _ _ h
  · replace h := h.2 hc1
    refine r_iconst (v := 1) ok dX8_spentAt_80 rfl ?_
    refine r_iload ok dX8_spentAt_81 3 rfl ?_
    refine r_ishl ok dX8_spentAt_83 ?_
    refine r_goto (tgt := 88) ok dX8_spentAt_84 rfl ?_
    refine r_ior ok dX8_spentAt_88 ?_
    refine r_top (fun v3 ev3 => ?_)
    replace h := h v3 ev3
    refine r_istore_n ok dX8_spentAt_89 (by decide) [(0, .ref (xad X 71)), (2, .int x2), (3, .int v3), (4, .int x4)] [1, 2, 0, 3] rfl ?_
    refine r_iinc (v := x4 + 1) ok dX8_spentAt_90 3 rfl rfl (by decide) [(0, .ref (xad X 71)), (2, .int x2), (3, .int v3), (4, .int (x4 + 1))] [1, 2, 3, 0] rfl ?_
    refine r_goto (tgt := 9) ok dX8_spentAt_93 rfl ?_
    exact hk9 _ _ _ _ h
theorem w_B_X8_spentAt_9 {X : Cx} (ok : Ok X cX8_spentAt 6 RX8 3 73) {post : Int32 → St → Prop} (hret : RetI X cX8_spentAt 6 post) {x2 x3 x4 : Int32} {S : St} (h : B_X8_spentAt_9 post x2 x3 x4 S) : Wp X 6 9 [(0, .ref (xad X 71)), (2, .int x2), (3, .int x3), (4, .int x4)] [] S := by
  obtain ⟨n, h⟩ := h
  induction n generalizing x2 x3 x4 S with
  | zero => exact False.elim h
  | succ n ih =>
    have hk9 : ∀ x2 x3 x4 S, L_X8_spentAt_9 post n x2 x3 x4 S → Wp X 6 9 [(0, .ref (xad X 71)), (2, .int x2), (3, .int x3), (4, .int x4)] [] S := by intros; apply ih; assumption
    replace h : BD_X8_spentAt_9 (L_X8_spentAt_9 post n) post x2 x3 x4 S := h
    unfold BD_X8_spentAt_9 at h
    generalize L_X8_spentAt_9 post n = k9 at h hk9
    refine r_iload ok dX8_spentAt_9 3 rfl ?_
    refine r_bipush (v := 6) ok dX8_spentAt_11 rfl ?_
    refine r_icmp_ge (tgt := 96) ok dX8_spentAt_13 rfl (fun hc1 => ?_) (fun hc1 => ?_)
    · replace h := h.1 hc1
      refine r_iload_n ok dX8_spentAt_96 2 rfl ?_
      exact hret _ _ _ _ dX8_spentAt_97 h
    · replace h := h.2 hc1
      refine r_aload_n ok dX8_spentAt_16 0 rfl ?_
      refine r_aload_n ok dX8_spentAt_17 0 rfl ?_
      refine gf_X8_23 ok dX8_spentAt_18 ?_
      refine r_aload_n ok dX8_spentAt_21 0 rfl ?_
      refine gf_X8_36 ok dX8_spentAt_22 ?_
      refine r_iload_n ok dX8_spentAt_25 1 rfl ?_
      refine r_iald ok ai_79 h.1 rfl dX8_spentAt_26 ?_
      replace h := h.2
      refine r_aload_n ok dX8_spentAt_27 0 rfl ?_
      refine gf_X8_36 ok dX8_spentAt_28 ?_
      refine r_iload_n ok dX8_spentAt_31 1 rfl ?_
      refine r_iconst (v := 1) ok dX8_spentAt_32 rfl ?_
      refine r_iadd ok dX8_spentAt_33 ?_
      refine r_iald ok ai_79 h.1 rfl dX8_spentAt_34 ?_
      replace h := h.2
      refine r_aload_n ok dX8_spentAt_35 0 rfl ?_
      refine gf_X8_36 ok dX8_spentAt_36 ?_
      refine r_iload_n ok dX8_spentAt_39 1 rfl ?_
      refine r_iconst (v := 2) ok dX8_spentAt_40 rfl ?_
      refine r_iadd ok dX8_spentAt_41 ?_
      refine r_iald ok ai_79 h.1 rfl dX8_spentAt_42 ?_
      replace h := h.2
      refine r_aload_n ok dX8_spentAt_43 0 rfl ?_
      refine gf_X8_36 ok dX8_spentAt_44 ?_
      refine r_iload_n ok dX8_spentAt_47 1 rfl ?_
      refine r_iconst (v := 3) ok dX8_spentAt_48 rfl ?_
      refine r_iadd ok dX8_spentAt_49 ?_
      refine r_iald ok ai_79 h.1 rfl dX8_spentAt_50 ?_
      replace h := h.2
      refine r_iload ok dX8_spentAt_51 3 rfl ?_
      refine cl_X8_194 ok ai_75 dX8_spentAt_53 (by decide) (Nat.le_of_ble_eq_true rfl) h (fun r3 S2 h => ?_)
      refine r_aload_n ok dX8_spentAt_56 0 rfl ?_
      refine gf_X8_36 ok dX8_spentAt_57 ?_
      refine r_iload_n ok dX8_spentAt_60 1 rfl ?_
      refine r_iconst (v := 4) ok dX8_spentAt_61 rfl ?_
      refine r_iadd ok dX8_spentAt_62 ?_
      refine r_iald ok ai_79 h.1 rfl dX8_spentAt_63 ?_
      replace h := h.2
      refine r_icmp_ne (tgt := 71) ok dX8_spentAt_64 rfl (fun hc4 => ?_) (fun hc4 => ?_)
      · replace h := h.1 hc4
        refine r_iconst (v := 0) ok dX8_spentAt_71 rfl ?_
        exact w_B_X8_spentAt_72 ok hret hk9 h
      · replace h := h.2 hc4
        refine r_iconst (v := 1) ok dX8_spentAt_67 rfl ?_
        refine r_goto (tgt := 72) ok dX8_spentAt_68 rfl ?_
        exact w_B_X8_spentAt_72 ok hret hk9 h
theorem w_wp_X8_spentAt {X : Cx} (ok : Ok X cX8_spentAt 6 RX8 3 73) {post : Int32 → St → Prop} (hret : RetI X cX8_spentAt 6 post) {x1 : Int32} {S : St} (h : wp_X8_spentAt x1 S post) : Wp X 6 0 [(0, .ref (xad X 71)), (1, .int x1)] [] S := by
  unfold wp_X8_spentAt at h
  refine r_iconst (v := 5) ok dX8_spentAt_0 rfl ?_
  refine r_iload_n ok dX8_spentAt_1 1 rfl ?_
  refine r_imul ok dX8_spentAt_2 ?_
  refine r_top (fun v1 ev1 => ?_)
  replace h := h v1 ev1
  refine r_istore_n ok dX8_spentAt_3 (by decide) [(0, .ref (xad X 71)), (2, .int v1)] [1, 0] rfl ?_
  refine r_iconst (v := 0) ok dX8_spentAt_4 rfl ?_
  refine r_istore_n ok dX8_spentAt_5 (by decide) [(0, .ref (xad X 71)), (2, .int v1), (3, .int 0)] [1, 2, 0] rfl ?_
  refine r_iconst (v := 0) ok dX8_spentAt_6 rfl ?_
  refine r_istore ok dX8_spentAt_7 (by decide) [(0, .ref (xad X 71)), (2, .int v1), (3, .int 0), (4, .int 0)] [1, 2, 3, 0] rfl ?_
  exact w_B_X8_spentAt_9 ok hret h
theorem c_X8_spentAt (l : Launch) (G : Gx) {x1 : Int32} {S : St} {post : Int32 → St → Prop} (h : wp_X8_spentAt x1 S post) : MtI l yX8_spentAt cX8_spentAt 6 (some .int) 3 73 G [.ref (G.2.2 71), .int x1] S post :=
  ctI (by decide) rfl (Nat.le_of_ble_eq_true rfl) (fun X _ hG ok hret => by subst hG; exact w_wp_X8_spentAt ok hret h)

/-! HasteRoadsModel.spent(I)I -/
theorem dX8_spent_0 : decode cX8_spent 0 = .ok (.aload_n 0, 1) := by decide +kernel
theorem dX8_spent_1 : decode cX8_spent 1 = .ok (.iconst 0, 1) := by decide +kernel
theorem dX8_spent_2 : decode cX8_spent 2 = .ok (.putfield 75, 3) := by decide +kernel
theorem dX8_spent_5 : decode cX8_spent 5 = .ok (.iload_n 1, 1) := by decide +kernel
theorem dX8_spent_6 : decode cX8_spent 6 = .ok (.iconst 0, 1) := by decide +kernel
theorem dX8_spent_7 : decode cX8_spent 7 = .ok (.aload_n 0, 1) := by decide +kernel
theorem dX8_spent_8 : decode cX8_spent 8 = .ok (.getfield 164, 3) := by decide +kernel
theorem dX8_spent_11 : decode cX8_spent 11 = .ok (.iconst 1, 1) := by decide +kernel
theorem dX8_spent_12 : decode cX8_spent 12 = .ok (.isub, 1) := by decide +kernel
theorem dX8_spent_13 : decode cX8_spent 13 = .ok (.invokestatic 78, 3) := by decide +kernel
theorem dX8_spent_16 : decode cX8_spent 16 = .ok (.ifCond .eq 11, 3) := by decide +kernel
theorem dX8_spent_19 : decode cX8_spent 19 = .ok (.aload_n 0, 1) := by decide +kernel
theorem dX8_spent_20 : decode cX8_spent 20 = .ok (.iload_n 1, 1) := by decide +kernel
theorem dX8_spent_21 : decode cX8_spent 21 = .ok (.invokevirtual 298, 3) := by decide +kernel
theorem dX8_spent_24 : decode cX8_spent 24 = .ok (.goto 4, 3) := by decide +kernel
theorem dX8_spent_27 : decode cX8_spent 27 = .ok (.iconst (-1), 1) := by decide +kernel
theorem dX8_spent_28 : decode cX8_spent 28 = .ok (.ireturn, 1) := by decide +kernel
theorem cl_X8_298 {X : Cx} {cc : ByteArray} {nL pc fr lo : Nat} {L : List (Nat × Value)} {st : List Value} {S : St} (ok : Ok X cc nL RX8 fr lo) {x1 : Int32} (d : decode cc pc = .ok (.invokevirtual 298, 3)) (hroom : 4 ≤ fr ∧ 98 ≤ lo) (hst : (st.map fun v => v.category).sum ≤ 8) {post : Int32 → St → Prop} (h : wp_X8_spentAt x1 S post) (kk : ∀ (r : Int32) (S1 : St), post r S1 → Wp X nL (pc + 3) L (.int r :: st) S1) : Wp X nL pc L (.int x1 :: .ref (xad X 71) :: st) S :=
  r_callVi (n := 6) (f := 3) (lo1 := 73) (N := 1) (As := [.int x1]) ok tw_in_X8 tw_im_X8_spentAt tw_se_X8_spentAt tw_co_X8_spentAt tw_ml_X8_298 (by decide +kernel) rfl ob_71 rfl hroom hst d rfl (c_X8_spentAt (xl X) (xG X) h) kk
def wp_X8_spent (x1 : Int32) (S : St) (post : Int32 → St → Prop) : Prop :=
  ∀ S1 : St, S1 = up S 71 0 0 → wp_X8_in x1 0 ((S1 71 25) - 1) S1 (fun r3 S2 => ((r3 = 0 → post (-1) S2) ∧ (¬ r3 = 0 → wp_X8_spentAt x1 S2 (fun r6 S5 => post r6 S5))))
theorem w_wp_X8_spent {X : Cx} (ok : Ok X cX8_spent 2 RX8 4 98) {post : Int32 → St → Prop} (hret : RetI X cX8_spent 2 post) {x1 : Int32} {S : St} (h : wp_X8_spent x1 S post) : Wp X 2 0 [(0, .ref (xad X 71)), (1, .int x1)] [] S := by
  unfold wp_X8_spent at h
  refine r_aload_n ok dX8_spent_0 0 rfl ?_
  refine r_iconst (v := 0) ok dX8_spent_1 rfl ?_
  refine pf_X8_75 ok dX8_spent_2 (fun S1 eS1 => ?_)
  replace h := h S1 eS1
  refine r_iload_n ok dX8_spent_5 1 rfl ?_
  refine r_iconst (v := 0) ok dX8_spent_6 rfl ?_
  refine r_aload_n ok dX8_spent_7 0 rfl ?_
  refine gf_X8_164 ok dX8_spent_8 ?_
  refine r_iconst (v := 1) ok dX8_spent_11 rfl ?_
  refine r_isub ok dX8_spent_12 ?_
  refine cl_X8_78 ok dX8_spent_13 (by decide) (Nat.le_of_ble_eq_true rfl) h (fun r3 S2 h => ?_)
  refine r_if_eq (tgt := 27) ok dX8_spent_16 rfl (fun hc4 => ?_) (fun hc4 => ?_)
  · replace h := h.1 hc4
    refine r_iconst (v := (-1)) ok dX8_spent_27 rfl ?_
    exact hret _ _ _ _ dX8_spent_28 h
  · replace h := h.2 hc4
    refine r_aload_n ok dX8_spent_19 0 rfl ?_
    refine r_iload_n ok dX8_spent_20 1 rfl ?_
    refine cl_X8_298 ok dX8_spent_21 (by decide) (Nat.le_of_ble_eq_true rfl) h (fun r6 S5 h => ?_)
    refine r_goto (tgt := 28) ok dX8_spent_24 rfl ?_
    exact hret _ _ _ _ dX8_spent_28 h
theorem c_X8_spent (l : Launch) (G : Gx) {x1 : Int32} {S : St} {post : Int32 → St → Prop} (h : wp_X8_spent x1 S post) : MtI l yX8_spent cX8_spent 2 (some .int) 4 98 G [.ref (G.2.2 71), .int x1] S post :=
  ctI (by decide) rfl (Nat.le_of_ble_eq_true rfl) (fun X _ hG ok hret => by subst hG; exact w_wp_X8_spent ok hret h)

/-! HasteRoadsModel.lie()I -/
theorem dX8_lie_0 : decode cX8_lie 0 = .ok (.aload_n 0, 1) := by decide +kernel
theorem dX8_lie_1 : decode cX8_lie 1 = .ok (.iconst 0, 1) := by decide +kernel
theorem dX8_lie_2 : decode cX8_lie 2 = .ok (.putfield 75, 3) := by decide +kernel
theorem dX8_lie_5 : decode cX8_lie 5 = .ok (.iconst 0, 1) := by decide +kernel
theorem dX8_lie_6 : decode cX8_lie 6 = .ok (.istore_n 1, 1) := by decide +kernel
theorem dX8_lie_7 : decode cX8_lie 7 = .ok (.iload_n 1, 1) := by decide +kernel
theorem dX8_lie_8 : decode cX8_lie 8 = .ok (.aload_n 0, 1) := by decide +kernel
theorem dX8_lie_9 : decode cX8_lie 9 = .ok (.getfield 164, 3) := by decide +kernel
theorem dX8_lie_12 : decode cX8_lie 12 = .ok (.if_icmp .ge 19, 3) := by decide +kernel
theorem dX8_lie_15 : decode cX8_lie 15 = .ok (.aload_n 0, 1) := by decide +kernel
theorem dX8_lie_16 : decode cX8_lie 16 = .ok (.iload_n 1, 1) := by decide +kernel
theorem dX8_lie_17 : decode cX8_lie 17 = .ok (.invokevirtual 298, 3) := by decide +kernel
theorem dX8_lie_20 : decode cX8_lie 20 = .ok (.ifCond .ne 5, 3) := by decide +kernel
theorem dX8_lie_23 : decode cX8_lie 23 = .ok (.iload_n 1, 1) := by decide +kernel
theorem dX8_lie_24 : decode cX8_lie 24 = .ok (.ireturn, 1) := by decide +kernel
theorem dX8_lie_25 : decode cX8_lie 25 = .ok (.iinc 1 1, 3) := by decide +kernel
theorem dX8_lie_28 : decode cX8_lie 28 = .ok (.goto (-21), 3) := by decide +kernel
theorem dX8_lie_31 : decode cX8_lie 31 = .ok (.iconst (-1), 1) := by decide +kernel
theorem dX8_lie_32 : decode cX8_lie 32 = .ok (.ireturn, 1) := by decide +kernel

def BD_X8_lie_7 (k7 : Int32 → St → Prop) (post : Int32 → St → Prop) (x1 : Int32) (S : St) : Prop :=
  (((S 71 25) ≤ x1 → post (-1) S) ∧ (¬ (S 71 25) ≤ x1 → wp_X8_spentAt x1 S (fun r3 S2 => ((¬ r3 = 0 → k7 (x1 + 1) S2) ∧ (r3 = 0 → post x1 S2)))))
def L_X8_lie_7 (post : Int32 → St → Prop) (n : Nat) : Int32 → St → Prop := Nat.rec (motive := fun _ => Int32 → St → Prop) (fun _ _ => False) (fun _ ih => BD_X8_lie_7 ih post) n
def B_X8_lie_7 (post : Int32 → St → Prop) (x1 : Int32) (S : St) : Prop := ∃ n, L_X8_lie_7 post n x1 S
def wp_X8_lie (S : St) (post : Int32 → St → Prop) : Prop :=
  ∀ S1 : St, S1 = up S 71 0 0 → B_X8_lie_7 post 0 S1
theorem w_B_X8_lie_7 {X : Cx} (ok : Ok X cX8_lie 2 RX8 4 98) {post : Int32 → St → Prop} (hret : RetI X cX8_lie 2 post) {x1 : Int32} {S : St} (h : B_X8_lie_7 post x1 S) : Wp X 2 7 [(0, .ref (xad X 71)), (1, .int x1)] [] S := by
  obtain ⟨n, h⟩ := h
  induction n generalizing x1 S with
  | zero => exact False.elim h
  | succ n ih =>
    have hk7 : ∀ x1 S, L_X8_lie_7 post n x1 S → Wp X 2 7 [(0, .ref (xad X 71)), (1, .int x1)] [] S := by intros; apply ih; assumption
    replace h : BD_X8_lie_7 (L_X8_lie_7 post n) post x1 S := h
    unfold BD_X8_lie_7 at h
    generalize L_X8_lie_7 post n = k7 at h hk7
    refine r_iload_n ok dX8_lie_7 1 rfl ?_
    refine r_aload_n ok dX8_lie_8 0 rfl ?_
    refine gf_X8_164 ok dX8_lie_9 ?_
    refine r_icmp_ge (tgt := 31) ok dX8_lie_12 rfl (fun hc1 => ?_) (fun hc1 => ?_)
    · replace h := h.1 hc1
      refine r_iconst (v := (-1)) ok dX8_lie_31 rfl ?_
      exact hret _ _ _ _ dX8_lie_32 h
    · replace h := h.2 hc1
      refine r_aload_n ok dX8_lie_15 0 rfl ?_
      refine r_iload_n ok dX8_lie_16 1 rfl ?_
      refine cl_X8_298 ok dX8_lie_17 (by decide) (Nat.le_of_ble_eq_true rfl) h (fun r3 S2 h => ?_)
      refine r_if_ne (tgt := 25) ok dX8_lie_20 rfl (fun hc4 => ?_) (fun hc4 => ?_)
      · replace h := h.1 hc4
        refine r_iinc (v := x1 + 1) ok dX8_lie_25 1 rfl rfl (by decide) [(0, .ref (xad X 71)), (1, .int (x1 + 1))] [1, 0] rfl ?_
        refine r_goto (tgt := 7) ok dX8_lie_28 rfl ?_
        exact hk7 _ _ h
      · replace h := h.2 hc4
        refine r_iload_n ok dX8_lie_23 1 rfl ?_
        exact hret _ _ _ _ dX8_lie_24 h
theorem w_wp_X8_lie {X : Cx} (ok : Ok X cX8_lie 2 RX8 4 98) {post : Int32 → St → Prop} (hret : RetI X cX8_lie 2 post) {S : St} (h : wp_X8_lie S post) : Wp X 2 0 [(0, .ref (xad X 71))] [] S := by
  unfold wp_X8_lie at h
  refine r_aload_n ok dX8_lie_0 0 rfl ?_
  refine r_iconst (v := 0) ok dX8_lie_1 rfl ?_
  refine pf_X8_75 ok dX8_lie_2 (fun S1 eS1 => ?_)
  replace h := h S1 eS1
  refine r_iconst (v := 0) ok dX8_lie_5 rfl ?_
  refine r_istore_n ok dX8_lie_6 (by decide) [(0, .ref (xad X 71)), (1, .int 0)] [1, 0] rfl ?_
  exact w_B_X8_lie_7 ok hret h
theorem c_X8_lie (l : Launch) (G : Gx) {S : St} {post : Int32 → St → Prop} (h : wp_X8_lie S post) : MtI l yX8_lie cX8_lie 2 (some .int) 4 98 G [.ref (G.2.2 71)] S post :=
  ctI (by decide) rfl (Nat.le_of_ble_eq_true rfl) (fun X _ hG ok hret => by subst hG; exact w_wp_X8_lie ok hret h)

/-! HasteRoadsModel.write(I)I -/
theorem dX8_write_0 : decode cX8_write 0 = .ok (.aload_n 0, 1) := by decide +kernel
theorem dX8_write_1 : decode cX8_write 1 = .ok (.iconst 0, 1) := by decide +kernel
theorem dX8_write_2 : decode cX8_write 2 = .ok (.putfield 75, 3) := by decide +kernel
theorem dX8_write_5 : decode cX8_write 5 = .ok (.iload_n 1, 1) := by decide +kernel
theorem dX8_write_6 : decode cX8_write 6 = .ok (.ifCond .lt 17, 3) := by decide +kernel
theorem dX8_write_9 : decode cX8_write 9 = .ok (.aload_n 0, 1) := by decide +kernel
theorem dX8_write_10 : decode cX8_write 10 = .ok (.iload_n 1, 1) := by decide +kernel
theorem dX8_write_11 : decode cX8_write 11 = .ok (.bipush 10, 2) := by decide +kernel
theorem dX8_write_13 : decode cX8_write 13 = .ok (.idiv, 1) := by decide +kernel
theorem dX8_write_14 : decode cX8_write 14 = .ok (.invokevirtual 170, 3) := by decide +kernel
theorem dX8_write_17 : decode cX8_write 17 = .ok (.ifCond .ne 6, 3) := by decide +kernel
theorem dX8_write_20 : decode cX8_write 20 = .ok (.ldc 174, 2) := by decide +kernel
theorem dX8_write_22 : decode cX8_write 22 = .ok (.ireturn, 1) := by decide +kernel
theorem dX8_write_23 : decode cX8_write 23 = .ok (.iload_n 1, 1) := by decide +kernel
theorem dX8_write_24 : decode cX8_write 24 = .ok (.bipush (-2), 2) := by decide +kernel
theorem dX8_write_26 : decode cX8_write 26 = .ok (.if_icmp .eq 18, 3) := by decide +kernel
theorem dX8_write_29 : decode cX8_write 29 = .ok (.iload_n 1, 1) := by decide +kernel
theorem dX8_write_30 : decode cX8_write 30 = .ok (.ifCond .lt 11, 3) := by decide +kernel
theorem dX8_write_33 : decode cX8_write 33 = .ok (.iload_n 1, 1) := by decide +kernel
theorem dX8_write_34 : decode cX8_write 34 = .ok (.bipush 10, 2) := by decide +kernel
theorem dX8_write_36 : decode cX8_write 36 = .ok (.irem, 1) := by decide +kernel
theorem dX8_write_37 : decode cX8_write 37 = .ok (.iconst 5, 1) := by decide +kernel
theorem dX8_write_38 : decode cX8_write 38 = .ok (.if_icmp .le 6, 3) := by decide +kernel
theorem dX8_write_41 : decode cX8_write 41 = .ok (.ldc 82, 2) := by decide +kernel
theorem dX8_write_43 : decode cX8_write 43 = .ok (.ireturn, 1) := by decide +kernel
theorem dX8_write_44 : decode cX8_write 44 = .ok (.aload_n 0, 1) := by decide +kernel
theorem dX8_write_45 : decode cX8_write 45 = .ok (.getfield 167, 3) := by decide +kernel
theorem dX8_write_48 : decode cX8_write 48 = .ok (.bipush 30, 2) := by decide +kernel
theorem dX8_write_50 : decode cX8_write 50 = .ok (.if_icmp .ne 6, 3) := by decide +kernel
theorem dX8_write_53 : decode cX8_write 53 = .ok (.ldc 86, 2) := by decide +kernel
theorem dX8_write_55 : decode cX8_write 55 = .ok (.ireturn, 1) := by decide +kernel
theorem dX8_write_56 : decode cX8_write 56 = .ok (.aload_n 0, 1) := by decide +kernel
theorem dX8_write_57 : decode cX8_write 57 = .ok (.getfield 39, 3) := by decide +kernel
theorem dX8_write_60 : decode cX8_write 60 = .ok (.aload_n 0, 1) := by decide +kernel
theorem dX8_write_61 : decode cX8_write 61 = .ok (.getfield 167, 3) := by decide +kernel
theorem dX8_write_64 : decode cX8_write 64 = .ok (.iload_n 1, 1) := by decide +kernel
theorem dX8_write_65 : decode cX8_write 65 = .ok (.iastore, 1) := by decide +kernel
theorem dX8_write_66 : decode cX8_write 66 = .ok (.aload_n 0, 1) := by decide +kernel
theorem dX8_write_67 : decode cX8_write 67 = .ok (.dup, 1) := by decide +kernel
theorem dX8_write_68 : decode cX8_write 68 = .ok (.getfield 167, 3) := by decide +kernel
theorem dX8_write_71 : decode cX8_write 71 = .ok (.iconst 1, 1) := by decide +kernel
theorem dX8_write_72 : decode cX8_write 72 = .ok (.iadd, 1) := by decide +kernel
theorem dX8_write_73 : decode cX8_write 73 = .ok (.putfield 167, 3) := by decide +kernel
theorem dX8_write_76 : decode cX8_write 76 = .ok (.aload_n 0, 1) := by decide +kernel
theorem dX8_write_77 : decode cX8_write 77 = .ok (.getfield 167, 3) := by decide +kernel
theorem dX8_write_80 : decode cX8_write 80 = .ok (.ireturn, 1) := by decide +kernel
theorem gf_X8_39 {X : Cx} {cc : ByteArray} {nL pc fr lo : Nat} {L : List (Nat × Value)} {st : List Value} {S : St} (ok : Ok X cc nL RX8 fr lo) (d : decode cc pc = .ok (.getfield 39, 3)) (k : Wp X nL (pc + 3) L (.ref (xad X 80) :: st) S) : Wp X nL pc L (.ref (xad X 71) :: st) S :=
  r_get (C := RX8) (T := TX8) ok ob_71 rfl i_X8 26 (by decide) tw_fl_X8_39 d (by rw [show fvl (xad X) S 71 26 = .ref (xad X 80) from (fvl_ref (d := 80) (by decide))]; exact k)
def B_X8_write_44 (post : Int32 → St → Prop) (x1 : Int32) (S : St) : Prop :=
  ((¬ (S 71 27) = 30 → vp_in (S 71 27) 30 ∧ (∀ S2 : St, S2 = up S 80 (ix (S 71 27)) x1 → ∀ S4 : St, S4 = up S2 71 27 ((S2 71 27) + 1) → post (S4 71 27) S4)) ∧ ((S 71 27) = 30 → post (-1000000004) S))
def B_X8_write_23 (post : Int32 → St → Prop) (x1 : Int32) (S : St) : Prop :=
  ((x1 = (-2) → B_X8_write_44 post x1 S) ∧ (¬ x1 = (-2) → ((x1 < 0 → post (-1000000002) S) ∧ (¬ x1 < 0 → (((x1 - x1 / 10 * 10) ≤ 5 → B_X8_write_44 post x1 S) ∧ (¬ (x1 - x1 / 10 * 10) ≤ 5 → post (-1000000002) S))))))
def wp_X8_write (x1 : Int32) (S : St) (post : Int32 → St → Prop) : Prop :=
  ∀ S1 : St, S1 = up S 71 0 0 → ((x1 < 0 → B_X8_write_23 post x1 S1) ∧ (¬ x1 < 0 → wp_X8_isRoad (x1 / 10) S1 (fun r4 S3 => ((¬ r4 = 0 → B_X8_write_23 post x1 S3) ∧ (r4 = 0 → post (-1000000001) S3)))))
theorem w_B_X8_write_44 {X : Cx} (ok : Ok X cX8_write 2 RX8 2 43) {post : Int32 → St → Prop} (hret : RetI X cX8_write 2 post) {x1 : Int32} {S : St} (h : B_X8_write_44 post x1 S) : Wp X 2 44 [(0, .ref (xad X 71)), (1, .int x1)] [] S := by
  unfold B_X8_write_44 at h
  refine r_aload_n ok dX8_write_44 0 rfl ?_
  refine gf_X8_167 ok dX8_write_45 ?_
  refine r_bipush (v := 30) ok dX8_write_48 rfl ?_
  refine r_icmp_ne (tgt := 56) ok dX8_write_50 rfl (fun hc1 => ?_) (fun hc1 => ?_)
  · replace h := h.1 hc1
    refine r_aload_n ok dX8_write_56 0 rfl ?_
    refine gf_X8_39 ok dX8_write_57 ?_
    refine r_aload_n ok dX8_write_60 0 rfl ?_
    refine gf_X8_167 ok dX8_write_61 ?_
    refine r_iload_n ok dX8_write_64 1 rfl ?_
    have hi3 := h.1
    replace h := h.2
    refine r_iast ok ai_80 hi3 rfl dX8_write_65 (fun S2 eS2 => ?_)
    replace h := h S2 eS2
    refine r_aload_n ok dX8_write_66 0 rfl ?_
    refine r_dup ok dX8_write_67 rfl ?_
    refine gf_X8_167 ok dX8_write_68 ?_
    refine r_iconst (v := 1) ok dX8_write_71 rfl ?_
    refine r_iadd ok dX8_write_72 ?_
    refine pf_X8_167 ok dX8_write_73 (fun S4 eS4 => ?_)
    replace h := h S4 eS4
    refine r_aload_n ok dX8_write_76 0 rfl ?_
    refine gf_X8_167 ok dX8_write_77 ?_
    exact hret _ _ _ _ dX8_write_80 h
  · replace h := h.2 hc1
    refine r_ldc (v := (-1000000004)) ok dX8_write_53 tw_k_X8_86 ?_
    exact hret _ _ _ _ dX8_write_55 h
theorem w_B_X8_write_23 {X : Cx} (ok : Ok X cX8_write 2 RX8 2 43) {post : Int32 → St → Prop} (hret : RetI X cX8_write 2 post) {x1 : Int32} {S : St} (h : B_X8_write_23 post x1 S) : Wp X 2 23 [(0, .ref (xad X 71)), (1, .int x1)] [] S := by
  unfold B_X8_write_23 at h
  refine r_iload_n ok dX8_write_23 1 rfl ?_
  refine r_bipush (v := (-2)) ok dX8_write_24 rfl ?_
  refine r_icmp_eq (tgt := 44) ok dX8_write_26 rfl (fun hc1 => ?_) (fun hc1 => ?_)
  · replace h := h.1 hc1
    exact w_B_X8_write_44 ok hret h
  · replace h := h.2 hc1
    refine r_iload_n ok dX8_write_29 1 rfl ?_
    refine r_if_lt (tgt := 41) ok dX8_write_30 rfl (fun hc2 => ?_) (fun hc2 => ?_)
    · replace h := h.1 hc2
      refine r_ldc (v := (-1000000002)) ok dX8_write_41 tw_k_X8_82 ?_
      exact hret _ _ _ _ dX8_write_43 h
    · replace h := h.2 hc2
      refine r_iload_n ok dX8_write_33 1 rfl ?_
      refine r_bipush (v := 10) ok dX8_write_34 rfl ?_
      refine r_irem ok dX8_write_36 (by decide) ?_
      refine r_iconst (v := 5) ok dX8_write_37 rfl ?_
      refine r_icmp_le (tgt := 44) ok dX8_write_38 rfl (fun hc3 => ?_) (fun hc3 => ?_)
      · replace h := h.1 hc3
        exact w_B_X8_write_44 ok hret h
      · replace h := h.2 hc3
        refine r_ldc (v := (-1000000002)) ok dX8_write_41 tw_k_X8_82 ?_
        exact hret _ _ _ _ dX8_write_43 h
theorem w_wp_X8_write {X : Cx} (ok : Ok X cX8_write 2 RX8 2 43) {post : Int32 → St → Prop} (hret : RetI X cX8_write 2 post) {x1 : Int32} {S : St} (h : wp_X8_write x1 S post) : Wp X 2 0 [(0, .ref (xad X 71)), (1, .int x1)] [] S := by
  unfold wp_X8_write at h
  refine r_aload_n ok dX8_write_0 0 rfl ?_
  refine r_iconst (v := 0) ok dX8_write_1 rfl ?_
  refine pf_X8_75 ok dX8_write_2 (fun S1 eS1 => ?_)
  replace h := h S1 eS1
  refine r_iload_n ok dX8_write_5 1 rfl ?_
  refine r_if_lt (tgt := 23) ok dX8_write_6 rfl (fun hc2 => ?_) (fun hc2 => ?_)
  · replace h := h.1 hc2
    exact w_B_X8_write_23 ok hret h
  · replace h := h.2 hc2
    refine r_aload_n ok dX8_write_9 0 rfl ?_
    refine r_iload_n ok dX8_write_10 1 rfl ?_
    refine r_bipush (v := 10) ok dX8_write_11 rfl ?_
    refine r_idiv ok dX8_write_13 (by decide) ?_
    refine cl_X8_170 ok dX8_write_14 (by decide) (Nat.le_of_ble_eq_true rfl) h (fun r4 S3 h => ?_)
    refine r_if_ne (tgt := 23) ok dX8_write_17 rfl (fun hc5 => ?_) (fun hc5 => ?_)
    · replace h := h.1 hc5
      exact w_B_X8_write_23 ok hret h
    · replace h := h.2 hc5
      refine r_ldc (v := (-1000000001)) ok dX8_write_20 tw_k_X8_174 ?_
      exact hret _ _ _ _ dX8_write_22 h
theorem c_X8_write (l : Launch) (G : Gx) {x1 : Int32} {S : St} {post : Int32 → St → Prop} (h : wp_X8_write x1 S post) : MtI l yX8_write cX8_write 2 (some .int) 2 43 G [.ref (G.2.2 71), .int x1] S post :=
  ctI (by decide) rfl (Nat.le_of_ble_eq_true rfl) (fun X _ hG ok hret => by subst hG; exact w_wp_X8_write ok hret h)

/-! HasteRoadsModel.tear()I -/
theorem dX8_tear_0 : decode cX8_tear 0 = .ok (.aload_n 0, 1) := by decide +kernel
theorem dX8_tear_1 : decode cX8_tear 1 = .ok (.iconst 0, 1) := by decide +kernel
theorem dX8_tear_2 : decode cX8_tear 2 = .ok (.putfield 75, 3) := by decide +kernel
theorem dX8_tear_5 : decode cX8_tear 5 = .ok (.aload_n 0, 1) := by decide +kernel
theorem dX8_tear_6 : decode cX8_tear 6 = .ok (.getfield 164, 3) := by decide +kernel
theorem dX8_tear_9 : decode cX8_tear 9 = .ok (.aload_n 0, 1) := by decide +kernel
theorem dX8_tear_10 : decode cX8_tear 10 = .ok (.getfield 167, 3) := by decide +kernel
theorem dX8_tear_13 : decode cX8_tear 13 = .ok (.iadd, 1) := by decide +kernel
theorem dX8_tear_14 : decode cX8_tear 14 = .ok (.istore_n 1, 1) := by decide +kernel
theorem dX8_tear_15 : decode cX8_tear 15 = .ok (.aload_n 0, 1) := by decide +kernel
theorem dX8_tear_16 : decode cX8_tear 16 = .ok (.iconst 0, 1) := by decide +kernel
theorem dX8_tear_17 : decode cX8_tear 17 = .ok (.putfield 164, 3) := by decide +kernel
theorem dX8_tear_20 : decode cX8_tear 20 = .ok (.aload_n 0, 1) := by decide +kernel
theorem dX8_tear_21 : decode cX8_tear 21 = .ok (.iconst 0, 1) := by decide +kernel
theorem dX8_tear_22 : decode cX8_tear 22 = .ok (.putfield 167, 3) := by decide +kernel
theorem dX8_tear_25 : decode cX8_tear 25 = .ok (.iload_n 1, 1) := by decide +kernel
theorem dX8_tear_26 : decode cX8_tear 26 = .ok (.ireturn, 1) := by decide +kernel

def wp_X8_tear (S : St) (post : Int32 → St → Prop) : Prop :=
  ∀ S1 : St, S1 = up S 71 0 0 → ∀ v2 : Int32, v2 = ((S1 71 25) + (S1 71 27)) → ∀ S3 : St, S3 = up S1 71 25 0 → ∀ S4 : St, S4 = up S3 71 27 0 → post v2 S4
theorem w_wp_X8_tear {X : Cx} (ok : Ok X cX8_tear 2 RX8 0 0) {post : Int32 → St → Prop} (hret : RetI X cX8_tear 2 post) {S : St} (h : wp_X8_tear S post) : Wp X 2 0 [(0, .ref (xad X 71))] [] S := by
  unfold wp_X8_tear at h
  refine r_aload_n ok dX8_tear_0 0 rfl ?_
  refine r_iconst (v := 0) ok dX8_tear_1 rfl ?_
  refine pf_X8_75 ok dX8_tear_2 (fun S1 eS1 => ?_)
  replace h := h S1 eS1
  refine r_aload_n ok dX8_tear_5 0 rfl ?_
  refine gf_X8_164 ok dX8_tear_6 ?_
  refine r_aload_n ok dX8_tear_9 0 rfl ?_
  refine gf_X8_167 ok dX8_tear_10 ?_
  refine r_iadd ok dX8_tear_13 ?_
  refine r_top (fun v2 ev2 => ?_)
  replace h := h v2 ev2
  refine r_istore_n ok dX8_tear_14 (by decide) [(0, .ref (xad X 71)), (1, .int v2)] [1, 0] rfl ?_
  refine r_aload_n ok dX8_tear_15 0 rfl ?_
  refine r_iconst (v := 0) ok dX8_tear_16 rfl ?_
  refine pf_X8_164 ok dX8_tear_17 (fun S3 eS3 => ?_)
  replace h := h S3 eS3
  refine r_aload_n ok dX8_tear_20 0 rfl ?_
  refine r_iconst (v := 0) ok dX8_tear_21 rfl ?_
  refine pf_X8_167 ok dX8_tear_22 (fun S4 eS4 => ?_)
  replace h := h S4 eS4
  refine r_iload_n ok dX8_tear_25 1 rfl ?_
  exact hret _ _ _ _ dX8_tear_26 h
theorem c_X8_tear (l : Launch) (G : Gx) {S : St} {post : Int32 → St → Prop} (h : wp_X8_tear S post) : MtI l yX8_tear cX8_tear 2 (some .int) 0 0 G [.ref (G.2.2 71)] S post :=
  ctI (by decide) rfl (Nat.le_of_ble_eq_true rfl) (fun X _ hG ok hret => by subst hG; exact w_wp_X8_tear ok hret h)

/-! HasteRoadsModel.judge(II)I -/
theorem dX8_judge_0 : decode cX8_judge 0 = .ok (.aload_n 0, 1) := by decide +kernel
theorem dX8_judge_1 : decode cX8_judge 1 = .ok (.iconst 0, 1) := by decide +kernel
theorem dX8_judge_2 : decode cX8_judge 2 = .ok (.putfield 75, 3) := by decide +kernel
theorem dX8_judge_5 : decode cX8_judge 5 = .ok (.aload_n 0, 1) := by decide +kernel
theorem dX8_judge_6 : decode cX8_judge 6 = .ok (.iload_n 1, 1) := by decide +kernel
theorem dX8_judge_7 : decode cX8_judge 7 = .ok (.invokevirtual 182, 3) := by decide +kernel
theorem dX8_judge_10 : decode cX8_judge 10 = .ok (.ifCond .ne 6, 3) := by decide +kernel
theorem dX8_judge_13 : decode cX8_judge 13 = .ok (.ldc 174, 2) := by decide +kernel
theorem dX8_judge_15 : decode cX8_judge 15 = .ok (.ireturn, 1) := by decide +kernel
theorem dX8_judge_16 : decode cX8_judge 16 = .ok (.iload_n 2, 1) := by decide +kernel
theorem dX8_judge_17 : decode cX8_judge 17 = .ok (.iconst 0, 1) := by decide +kernel
theorem dX8_judge_18 : decode cX8_judge 18 = .ok (.iconst 1, 1) := by decide +kernel
theorem dX8_judge_19 : decode cX8_judge 19 = .ok (.invokestatic 78, 3) := by decide +kernel
theorem dX8_judge_22 : decode cX8_judge 22 = .ok (.ifCond .ne 6, 3) := by decide +kernel
theorem dX8_judge_25 : decode cX8_judge 25 = .ok (.ldc 82, 2) := by decide +kernel
theorem dX8_judge_27 : decode cX8_judge 27 = .ok (.ireturn, 1) := by decide +kernel
theorem dX8_judge_28 : decode cX8_judge 28 = .ok (.aload_n 0, 1) := by decide +kernel
theorem dX8_judge_29 : decode cX8_judge 29 = .ok (.invokevirtual 238, 3) := by decide +kernel
theorem dX8_judge_32 : decode cX8_judge 32 = .ok (.iconst (-1), 1) := by decide +kernel
theorem dX8_judge_33 : decode cX8_judge 33 = .ok (.istore_n 3, 1) := by decide +kernel
theorem dX8_judge_34 : decode cX8_judge 34 = .ok (.iconst 0, 1) := by decide +kernel
theorem dX8_judge_35 : decode cX8_judge 35 = .ok (.istore 4, 2) := by decide +kernel
theorem dX8_judge_37 : decode cX8_judge 37 = .ok (.iload 4, 2) := by decide +kernel
theorem dX8_judge_39 : decode cX8_judge 39 = .ok (.aload_n 0, 1) := by decide +kernel
theorem dX8_judge_40 : decode cX8_judge 40 = .ok (.getfield 167, 3) := by decide +kernel
theorem dX8_judge_43 : decode cX8_judge 43 = .ok (.if_icmp .ge 121, 3) := by decide +kernel
theorem dX8_judge_46 : decode cX8_judge 46 = .ok (.iload_n 3, 1) := by decide +kernel
theorem dX8_judge_47 : decode cX8_judge 47 = .ok (.iconst (-1), 1) := by decide +kernel
theorem dX8_judge_48 : decode cX8_judge 48 = .ok (.if_icmp .ne 116, 3) := by decide +kernel
theorem dX8_judge_51 : decode cX8_judge 51 = .ok (.aload_n 0, 1) := by decide +kernel
theorem dX8_judge_52 : decode cX8_judge 52 = .ok (.getfield 39, 3) := by decide +kernel
theorem dX8_judge_55 : decode cX8_judge 55 = .ok (.iload 4, 2) := by decide +kernel
theorem dX8_judge_57 : decode cX8_judge 57 = .ok (.iaload, 1) := by decide +kernel
theorem dX8_judge_58 : decode cX8_judge 58 = .ok (.bipush (-2), 2) := by decide +kernel
theorem dX8_judge_60 : decode cX8_judge 60 = .ok (.if_icmp .ne 14, 3) := by decide +kernel
theorem dX8_judge_63 : decode cX8_judge 63 = .ok (.aload_n 0, 1) := by decide +kernel
theorem dX8_judge_64 : decode cX8_judge 64 = .ok (.getfield 26, 3) := by decide +kernel
theorem dX8_judge_67 : decode cX8_judge 67 = .ok (.iload_n 1, 1) := by decide +kernel
theorem dX8_judge_68 : decode cX8_judge 68 = .ok (.invokestatic 203, 3) := by decide +kernel
theorem dX8_judge_71 : decode cX8_judge 71 = .ok (.goto 87, 3) := by decide +kernel
theorem dX8_judge_74 : decode cX8_judge 74 = .ok (.aload_n 0, 1) := by decide +kernel
theorem dX8_judge_75 : decode cX8_judge 75 = .ok (.aload_n 0, 1) := by decide +kernel
theorem dX8_judge_76 : decode cX8_judge 76 = .ok (.getfield 39, 3) := by decide +kernel
theorem dX8_judge_79 : decode cX8_judge 79 = .ok (.iload 4, 2) := by decide +kernel
theorem dX8_judge_81 : decode cX8_judge 81 = .ok (.iaload, 1) := by decide +kernel
theorem dX8_judge_82 : decode cX8_judge 82 = .ok (.bipush 10, 2) := by decide +kernel
theorem dX8_judge_84 : decode cX8_judge 84 = .ok (.idiv, 1) := by decide +kernel
theorem dX8_judge_85 : decode cX8_judge 85 = .ok (.aload_n 0, 1) := by decide +kernel
theorem dX8_judge_86 : decode cX8_judge 86 = .ok (.getfield 26, 3) := by decide +kernel
theorem dX8_judge_89 : decode cX8_judge 89 = .ok (.iconst 4, 1) := by decide +kernel
theorem dX8_judge_90 : decode cX8_judge 90 = .ok (.iload_n 1, 1) := by decide +kernel
theorem dX8_judge_91 : decode cX8_judge 91 = .ok (.imul, 1) := by decide +kernel
theorem dX8_judge_92 : decode cX8_judge 92 = .ok (.iaload, 1) := by decide +kernel
theorem dX8_judge_93 : decode cX8_judge 93 = .ok (.invokevirtual 189, 3) := by decide +kernel
theorem dX8_judge_96 : decode cX8_judge 96 = .ok (.iconst (-1), 1) := by decide +kernel
theorem dX8_judge_97 : decode cX8_judge 97 = .ok (.if_icmp .eq 26, 3) := by decide +kernel
theorem dX8_judge_100 : decode cX8_judge 100 = .ok (.aload_n 0, 1) := by decide +kernel
theorem dX8_judge_101 : decode cX8_judge 101 = .ok (.getfield 39, 3) := by decide +kernel
theorem dX8_judge_104 : decode cX8_judge 104 = .ok (.iload 4, 2) := by decide +kernel
theorem dX8_judge_106 : decode cX8_judge 106 = .ok (.iaload, 1) := by decide +kernel
theorem dX8_judge_107 : decode cX8_judge 107 = .ok (.bipush 10, 2) := by decide +kernel
theorem dX8_judge_109 : decode cX8_judge 109 = .ok (.irem, 1) := by decide +kernel
theorem dX8_judge_110 : decode cX8_judge 110 = .ok (.aload_n 0, 1) := by decide +kernel
theorem dX8_judge_111 : decode cX8_judge 111 = .ok (.getfield 26, 3) := by decide +kernel
theorem dX8_judge_114 : decode cX8_judge 114 = .ok (.iconst 4, 1) := by decide +kernel
theorem dX8_judge_115 : decode cX8_judge 115 = .ok (.iload_n 1, 1) := by decide +kernel
theorem dX8_judge_116 : decode cX8_judge 116 = .ok (.imul, 1) := by decide +kernel
theorem dX8_judge_117 : decode cX8_judge 117 = .ok (.iconst 1, 1) := by decide +kernel
theorem dX8_judge_118 : decode cX8_judge 118 = .ok (.iadd, 1) := by decide +kernel
theorem dX8_judge_119 : decode cX8_judge 119 = .ok (.iaload, 1) := by decide +kernel
theorem dX8_judge_120 : decode cX8_judge 120 = .ok (.if_icmp .le 9, 3) := by decide +kernel
theorem dX8_judge_123 : decode cX8_judge 123 = .ok (.iload 4, 2) := by decide +kernel
theorem dX8_judge_125 : decode cX8_judge 125 = .ok (.istore_n 3, 1) := by decide +kernel
theorem dX8_judge_126 : decode cX8_judge 126 = .ok (.goto 32, 3) := by decide +kernel
theorem dX8_judge_129 : decode cX8_judge 129 = .ok (.aload_n 0, 1) := by decide +kernel
theorem dX8_judge_130 : decode cX8_judge 130 = .ok (.aload_n 0, 1) := by decide +kernel
theorem dX8_judge_131 : decode cX8_judge 131 = .ok (.getfield 26, 3) := by decide +kernel
theorem dX8_judge_134 : decode cX8_judge 134 = .ok (.iload_n 1, 1) := by decide +kernel
theorem dX8_judge_135 : decode cX8_judge 135 = .ok (.aload_n 0, 1) := by decide +kernel
theorem dX8_judge_136 : decode cX8_judge 136 = .ok (.getfield 39, 3) := by decide +kernel
theorem dX8_judge_139 : decode cX8_judge 139 = .ok (.iload 4, 2) := by decide +kernel
theorem dX8_judge_141 : decode cX8_judge 141 = .ok (.iaload, 1) := by decide +kernel
theorem dX8_judge_142 : decode cX8_judge 142 = .ok (.bipush 10, 2) := by decide +kernel
theorem dX8_judge_144 : decode cX8_judge 144 = .ok (.idiv, 1) := by decide +kernel
theorem dX8_judge_145 : decode cX8_judge 145 = .ok (.aload_n 0, 1) := by decide +kernel
theorem dX8_judge_146 : decode cX8_judge 146 = .ok (.getfield 39, 3) := by decide +kernel
theorem dX8_judge_149 : decode cX8_judge 149 = .ok (.iload 4, 2) := by decide +kernel
theorem dX8_judge_151 : decode cX8_judge 151 = .ok (.iaload, 1) := by decide +kernel
theorem dX8_judge_152 : decode cX8_judge 152 = .ok (.bipush 10, 2) := by decide +kernel
theorem dX8_judge_154 : decode cX8_judge 154 = .ok (.irem, 1) := by decide +kernel
theorem dX8_judge_155 : decode cX8_judge 155 = .ok (.invokevirtual 199, 3) := by decide +kernel
theorem dX8_judge_158 : decode cX8_judge 158 = .ok (.iinc 4 1, 3) := by decide +kernel
theorem dX8_judge_161 : decode cX8_judge 161 = .ok (.goto (-124), 3) := by decide +kernel
theorem dX8_judge_164 : decode cX8_judge 164 = .ok (.iload_n 2, 1) := by decide +kernel
theorem dX8_judge_165 : decode cX8_judge 165 = .ok (.ifCond .ne 7, 3) := by decide +kernel
theorem dX8_judge_168 : decode cX8_judge 168 = .ok (.iload_n 3, 1) := by decide +kernel
theorem dX8_judge_169 : decode cX8_judge 169 = .ok (.goto 13, 3) := by decide +kernel
theorem dX8_judge_172 : decode cX8_judge 172 = .ok (.aload_n 0, 1) := by decide +kernel
theorem dX8_judge_173 : decode cX8_judge 173 = .ok (.getfield 26, 3) := by decide +kernel
theorem dX8_judge_176 : decode cX8_judge 176 = .ok (.iconst 4, 1) := by decide +kernel
theorem dX8_judge_177 : decode cX8_judge 177 = .ok (.iload_n 1, 1) := by decide +kernel
theorem dX8_judge_178 : decode cX8_judge 178 = .ok (.imul, 1) := by decide +kernel
theorem dX8_judge_179 : decode cX8_judge 179 = .ok (.iconst 3, 1) := by decide +kernel
theorem dX8_judge_180 : decode cX8_judge 180 = .ok (.iadd, 1) := by decide +kernel
theorem dX8_judge_181 : decode cX8_judge 181 = .ok (.iaload, 1) := by decide +kernel
theorem dX8_judge_182 : decode cX8_judge 182 = .ok (.ireturn, 1) := by decide +kernel

def B_X8_judge_164 (post : Int32 → St → Prop) (x1 : Int32) (x2 : Int32) (x3 : Int32) (S : St) : Prop :=
  ((¬ x2 = 0 → vp_in (((4 : Int32) * x1) + 3) 28 ∧ (post (S 76 (ix (((4 : Int32) * x1) + 3))) S)) ∧ (x2 = 0 → post x3 S))
def BD_X8_judge_37 (k37 : Int32 → Int32 → Int32 → Int32 → St → Prop) (post : Int32 → St → Prop) (x1 : Int32) (x2 : Int32) (x3 : Int32) (x4 : Int32) (S : St) : Prop :=
  (((S 71 27) ≤ x4 → B_X8_judge_164 post x1 x2 x3 S) ∧ (¬ (S 71 27) ≤ x4 → ((¬ x3 = (-1) → B_X8_judge_164 post x1 x2 x3 S) ∧ (x3 = (-1) → vp_in x4 30 ∧ (((¬ (S 80 (ix x4)) = (-2) → vp_in x4 30 ∧ (vp_in ((4 : Int32) * x1) 28 ∧ (wp_X8_otherEnd ((S 80 (ix x4)) / 10) (S 76 (ix ((4 : Int32) * x1))) S (fun r5 S4 => ((r5 = (-1) → k37 x1 x2 x4 (x4 + 1) S4) ∧ (¬ r5 = (-1) → vp_in x4 30 ∧ (vp_in (((4 : Int32) * x1) + 1) 28 ∧ (((((S4 80 (ix x4)) - (S4 80 (ix x4)) / 10 * 10) ≤ (S4 76 (ix (((4 : Int32) * x1) + 1))) → vp_in x4 30 ∧ (vp_in x4 30 ∧ (wp_X8_goes 76 x1 ((S4 80 (ix x4)) / 10) ((S4 80 (ix x4)) - (S4 80 (ix x4)) / 10 * 10) S4 (fun S8 => k37 x1 x2 x3 (x4 + 1) S8)))) ∧ (¬ ((S4 80 (ix x4)) - (S4 80 (ix x4)) / 10 * 10) ≤ (S4 76 (ix (((4 : Int32) * x1) + 1))) → k37 x1 x2 x4 (x4 + 1) S4)))))))))) ∧ ((S 80 (ix x4)) = (-2) → wp_X8_waits 76 x1 S (fun S9 => k37 x1 x2 x3 (x4 + 1) S9))))))))
def L_X8_judge_37 (post : Int32 → St → Prop) (n : Nat) : Int32 → Int32 → Int32 → Int32 → St → Prop := Nat.rec (motive := fun _ => Int32 → Int32 → Int32 → Int32 → St → Prop) (fun _ _ _ _ _ => False) (fun _ ih => BD_X8_judge_37 ih post) n
def B_X8_judge_37 (post : Int32 → St → Prop) (x1 : Int32) (x2 : Int32) (x3 : Int32) (x4 : Int32) (S : St) : Prop := ∃ n, L_X8_judge_37 post n x1 x2 x3 x4 S
def wp_X8_judge (x1 : Int32) (x2 : Int32) (S : St) (post : Int32 → St → Prop) : Prop :=
  ∀ S1 : St, S1 = up S 71 0 0 → wp_X8_isPerson x1 S1 (fun r3 S2 => ((¬ r3 = 0 → wp_X8_in x2 0 1 S2 (fun r6 S5 => ((¬ r6 = 0 → wp_X8_asNow S5 (fun S8 => B_X8_judge_37 post x1 x2 (-1) 0 S8)) ∧ (r6 = 0 → post (-1000000002) S5)))) ∧ (r3 = 0 → post (-1000000001) S2)))
theorem w_B_X8_judge_164 {X : Cx} (ok : Ok X cX8_judge 5 RX8 4 98) {post : Int32 → St → Prop} (hret : RetI X cX8_judge 5 post) {x1 x2 x3 : Int32} {S : St} (h : B_X8_judge_164 post x1 x2 x3 S) : Wp X 5 164 [(0, .ref (xad X 71)), (1, .int x1), (2, .int x2), (3, .int x3)] [] S := by
  unfold B_X8_judge_164 at h
  refine r_iload_n ok dX8_judge_164 2 rfl ?_
  refine r_if_ne (tgt := 172) ok dX8_judge_165 rfl (fun hc1 => ?_) (fun hc1 => ?_)
  · replace h := h.1 hc1
    refine r_aload_n ok dX8_judge_172 0 rfl ?_
    refine gf_X8_26 ok dX8_judge_173 ?_
    refine r_iconst (v := 4) ok dX8_judge_176 rfl ?_
    refine r_iload_n ok dX8_judge_177 1 rfl ?_
    refine r_imul ok dX8_judge_178 ?_
    refine r_iconst (v := 3) ok dX8_judge_179 rfl ?_
    refine r_iadd ok dX8_judge_180 ?_
    refine r_iald ok ai_76 h.1 rfl dX8_judge_181 ?_
    replace h := h.2
    exact hret _ _ _ _ dX8_judge_182 h
  · replace h := h.2 hc1
    refine r_iload_n ok dX8_judge_168 3 rfl ?_
    refine r_goto (tgt := 182) ok dX8_judge_169 rfl ?_
    exact hret _ _ _ _ dX8_judge_182 h
theorem w_B_X8_judge_37 {X : Cx} (ok : Ok X cX8_judge 5 RX8 4 98) {post : Int32 → St → Prop} (hret : RetI X cX8_judge 5 post) {x1 x2 x3 x4 : Int32} {S : St} (h : B_X8_judge_37 post x1 x2 x3 x4 S) : Wp X 5 37 [(0, .ref (xad X 71)), (1, .int x1), (2, .int x2), (3, .int x3), (4, .int x4)] [] S := by
  obtain ⟨n, h⟩ := h
  induction n generalizing x1 x2 x3 x4 S with
  | zero => exact False.elim h
  | succ n ih =>
    have hk37 : ∀ x1 x2 x3 x4 S, L_X8_judge_37 post n x1 x2 x3 x4 S → Wp X 5 37 [(0, .ref (xad X 71)), (1, .int x1), (2, .int x2), (3, .int x3), (4, .int x4)] [] S := by intros; apply ih; assumption
    replace h : BD_X8_judge_37 (L_X8_judge_37 post n) post x1 x2 x3 x4 S := h
    unfold BD_X8_judge_37 at h
    generalize L_X8_judge_37 post n = k37 at h hk37
    refine r_iload ok dX8_judge_37 4 rfl ?_
    refine r_aload_n ok dX8_judge_39 0 rfl ?_
    refine gf_X8_167 ok dX8_judge_40 ?_
    refine r_icmp_ge (tgt := 164) ok dX8_judge_43 rfl (fun hc1 => ?_) (fun hc1 => ?_)
    · replace h := h.1 hc1
      refine r_sub [(0, .ref (xad X 71)), (1, .int x1), (2, .int x2), (3, .int x3)] [0, 1, 2, 3] rfl ?_
      exact w_B_X8_judge_164 ok hret h
    · replace h := h.2 hc1
      refine r_iload_n ok dX8_judge_46 3 rfl ?_
      refine r_iconst (v := (-1)) ok dX8_judge_47 rfl ?_
      refine r_icmp_ne (tgt := 164) ok dX8_judge_48 rfl (fun hc2 => ?_) (fun hc2 => ?_)
      · replace h := h.1 hc2
        refine r_sub [(0, .ref (xad X 71)), (1, .int x1), (2, .int x2), (3, .int x3)] [0, 1, 2, 3] rfl ?_
        exact w_B_X8_judge_164 ok hret h
      · replace h := h.2 hc2
        refine r_aload_n ok dX8_judge_51 0 rfl ?_
        refine gf_X8_39 ok dX8_judge_52 ?_
        refine r_iload ok dX8_judge_55 4 rfl ?_
        refine r_iald ok ai_80 h.1 rfl dX8_judge_57 ?_
        replace h := h.2
        refine r_bipush (v := (-2)) ok dX8_judge_58 rfl ?_
        refine r_icmp_ne (tgt := 74) ok dX8_judge_60 rfl (fun hc3 => ?_) (fun hc3 => ?_)
        · replace h := h.1 hc3
          refine r_aload_n ok dX8_judge_74 0 rfl ?_
          refine r_aload_n ok dX8_judge_75 0 rfl ?_
          refine gf_X8_39 ok dX8_judge_76 ?_
          refine r_iload ok dX8_judge_79 4 rfl ?_
          refine r_iald ok ai_80 h.1 rfl dX8_judge_81 ?_
          replace h := h.2
          refine r_bipush (v := 10) ok dX8_judge_82 rfl ?_
          refine r_idiv ok dX8_judge_84 (by decide) ?_
          refine r_aload_n ok dX8_judge_85 0 rfl ?_
          refine gf_X8_26 ok dX8_judge_86 ?_
          refine r_iconst (v := 4) ok dX8_judge_89 rfl ?_
          refine r_iload_n ok dX8_judge_90 1 rfl ?_
          refine r_imul ok dX8_judge_91 ?_
          refine r_iald ok ai_76 h.1 rfl dX8_judge_92 ?_
          replace h := h.2
          refine cl_X8_189 ok dX8_judge_93 (by decide) (Nat.le_of_ble_eq_true rfl) h (fun r5 S4 h => ?_)
          refine r_iconst (v := (-1)) ok dX8_judge_96 rfl ?_
          refine r_icmp_eq (tgt := 123) ok dX8_judge_97 rfl (fun hc6 => ?_) (fun hc6 => ?_)
          · replace h := h.1 hc6
            refine r_iload ok dX8_judge_123 4 rfl ?_
            refine r_istore_n ok dX8_judge_125 (by decide) [(0, .ref (xad X 71)), (1, .int x1), (2, .int x2), (3, .int x4), (4, .int x4)] [1, 2, 3, 0, 4] rfl ?_
            refine r_goto (tgt := 158) ok dX8_judge_126 rfl ?_
            refine r_iinc (v := x4 + 1) ok dX8_judge_158 4 rfl rfl (by decide) [(0, .ref (xad X 71)), (1, .int x1), (2, .int x2), (3, .int x4), (4, .int (x4 + 1))] [1, 2, 3, 4, 0] rfl ?_
            refine r_goto (tgt := 37) ok dX8_judge_161 rfl ?_
            exact hk37 _ _ _ _ _ h
          · replace h := h.2 hc6
            refine r_aload_n ok dX8_judge_100 0 rfl ?_
            refine gf_X8_39 ok dX8_judge_101 ?_
            refine r_iload ok dX8_judge_104 4 rfl ?_
            refine r_iald ok ai_80 h.1 rfl dX8_judge_106 ?_
            replace h := h.2
            refine r_bipush (v := 10) ok dX8_judge_107 rfl ?_
            refine r_irem ok dX8_judge_109 (by decide) ?_
            refine r_aload_n ok dX8_judge_110 0 rfl ?_
            refine gf_X8_26 ok dX8_judge_111 ?_
            refine r_iconst (v := 4) ok dX8_judge_114 rfl ?_
            refine r_iload_n ok dX8_judge_115 1 rfl ?_
            refine r_imul ok dX8_judge_116 ?_
            refine r_iconst (v := 1) ok dX8_judge_117 rfl ?_
            refine r_iadd ok dX8_judge_118 ?_
            refine r_iald ok ai_76 h.1 rfl dX8_judge_119 ?_
            replace h := h.2
            refine r_icmp_le (tgt := 129) ok dX8_judge_120 rfl (fun hc7 => ?_) (fun hc7 => ?_)
            · replace h := h.1 hc7
              refine r_aload_n ok dX8_judge_129 0 rfl ?_
              refine r_aload_n ok dX8_judge_130 0 rfl ?_
              refine gf_X8_26 ok dX8_judge_131 ?_
              refine r_iload_n ok dX8_judge_134 1 rfl ?_
              refine r_aload_n ok dX8_judge_135 0 rfl ?_
              refine gf_X8_39 ok dX8_judge_136 ?_
              refine r_iload ok dX8_judge_139 4 rfl ?_
              refine r_iald ok ai_80 h.1 rfl dX8_judge_141 ?_
              replace h := h.2
              refine r_bipush (v := 10) ok dX8_judge_142 rfl ?_
              refine r_idiv ok dX8_judge_144 (by decide) ?_
              refine r_aload_n ok dX8_judge_145 0 rfl ?_
              refine gf_X8_39 ok dX8_judge_146 ?_
              refine r_iload ok dX8_judge_149 4 rfl ?_
              refine r_iald ok ai_80 h.1 rfl dX8_judge_151 ?_
              replace h := h.2
              refine r_bipush (v := 10) ok dX8_judge_152 rfl ?_
              refine r_irem ok dX8_judge_154 (by decide) ?_
              refine cl_X8_199 ok ai_76 dX8_judge_155 (by decide) (Nat.le_of_ble_eq_true rfl) h (fun S8 h => ?_)
              refine r_iinc (v := x4 + 1) ok dX8_judge_158 4 rfl rfl (by decide) [(0, .ref (xad X 71)), (1, .int x1), (2, .int x2), (3, .int x3), (4, .int (x4 + 1))] [1, 2, 3, 4, 0] rfl ?_
              refine r_goto (tgt := 37) ok dX8_judge_161 rfl ?_
              exact hk37 _ _ _ _ _ h
            · replace h := h.2 hc7
              refine r_iload ok dX8_judge_123 4 rfl ?_
              refine r_istore_n ok dX8_judge_125 (by decide) [(0, .ref (xad X 71)), (1, .int x1), (2, .int x2), (3, .int x4), (4, .int x4)] [1, 2, 3, 0, 4] rfl ?_
              refine r_goto (tgt := 158) ok dX8_judge_126 rfl ?_
              refine r_iinc (v := x4 + 1) ok dX8_judge_158 4 rfl rfl (by decide) [(0, .ref (xad X 71)), (1, .int x1), (2, .int x2), (3, .int x4), (4, .int (x4 + 1))] [1, 2, 3, 4, 0] rfl ?_
              refine r_goto (tgt := 37) ok dX8_judge_161 rfl ?_
              exact hk37 _ _ _ _ _ h
        · replace h := h.2 hc3
          refine r_aload_n ok dX8_judge_63 0 rfl ?_
          refine gf_X8_26 ok dX8_judge_64 ?_
          refine r_iload_n ok dX8_judge_67 1 rfl ?_
          refine cl_X8_203 ok ai_76 dX8_judge_68 (by decide) (Nat.le_of_ble_eq_true rfl) h (fun S9 h => ?_)
          refine r_goto (tgt := 158) ok dX8_judge_71 rfl ?_
          refine r_iinc (v := x4 + 1) ok dX8_judge_158 4 rfl rfl (by decide) [(0, .ref (xad X 71)), (1, .int x1), (2, .int x2), (3, .int x3), (4, .int (x4 + 1))] [1, 2, 3, 4, 0] rfl ?_
          refine r_goto (tgt := 37) ok dX8_judge_161 rfl ?_
          exact hk37 _ _ _ _ _ h
theorem w_wp_X8_judge {X : Cx} (ok : Ok X cX8_judge 5 RX8 4 98) {post : Int32 → St → Prop} (hret : RetI X cX8_judge 5 post) {x1 x2 : Int32} {S : St} (h : wp_X8_judge x1 x2 S post) : Wp X 5 0 [(0, .ref (xad X 71)), (1, .int x1), (2, .int x2)] [] S := by
  unfold wp_X8_judge at h
  refine r_aload_n ok dX8_judge_0 0 rfl ?_
  refine r_iconst (v := 0) ok dX8_judge_1 rfl ?_
  refine pf_X8_75 ok dX8_judge_2 (fun S1 eS1 => ?_)
  replace h := h S1 eS1
  refine r_aload_n ok dX8_judge_5 0 rfl ?_
  refine r_iload_n ok dX8_judge_6 1 rfl ?_
  refine cl_X8_182 ok dX8_judge_7 (by decide) (Nat.le_of_ble_eq_true rfl) h (fun r3 S2 h => ?_)
  refine r_if_ne (tgt := 16) ok dX8_judge_10 rfl (fun hc4 => ?_) (fun hc4 => ?_)
  · replace h := h.1 hc4
    refine r_iload_n ok dX8_judge_16 2 rfl ?_
    refine r_iconst (v := 0) ok dX8_judge_17 rfl ?_
    refine r_iconst (v := 1) ok dX8_judge_18 rfl ?_
    refine cl_X8_78 ok dX8_judge_19 (by decide) (Nat.le_of_ble_eq_true rfl) h (fun r6 S5 h => ?_)
    refine r_if_ne (tgt := 28) ok dX8_judge_22 rfl (fun hc7 => ?_) (fun hc7 => ?_)
    · replace h := h.1 hc7
      refine r_aload_n ok dX8_judge_28 0 rfl ?_
      refine cl_X8_238 ok dX8_judge_29 (by decide) (Nat.le_of_ble_eq_true rfl) h (fun S8 h => ?_)
      refine r_iconst (v := (-1)) ok dX8_judge_32 rfl ?_
      refine r_istore_n ok dX8_judge_33 (by decide) [(0, .ref (xad X 71)), (1, .int x1), (2, .int x2), (3, .int (-1))] [1, 2, 3, 0] rfl ?_
      refine r_iconst (v := 0) ok dX8_judge_34 rfl ?_
      refine r_istore ok dX8_judge_35 (by decide) [(0, .ref (xad X 71)), (1, .int x1), (2, .int x2), (3, .int (-1)), (4, .int 0)] [1, 2, 3, 4, 0] rfl ?_
      exact w_B_X8_judge_37 ok hret h
    · replace h := h.2 hc7
      refine r_ldc (v := (-1000000002)) ok dX8_judge_25 tw_k_X8_82 ?_
      exact hret _ _ _ _ dX8_judge_27 h
  · replace h := h.2 hc4
    refine r_ldc (v := (-1000000001)) ok dX8_judge_13 tw_k_X8_174 ?_
    exact hret _ _ _ _ dX8_judge_15 h
theorem c_X8_judge (l : Launch) (G : Gx) {x1 x2 : Int32} {S : St} {post : Int32 → St → Prop} (h : wp_X8_judge x1 x2 S post) : MtI l yX8_judge cX8_judge 5 (some .int) 4 98 G [.ref (G.2.2 71), .int x1, .int x2] S post :=
  ctI (by decide) rfl (Nat.le_of_ble_eq_true rfl) (fun X _ hG ok hret => by subst hG; exact w_wp_X8_judge ok hret h)

/-! HasteRoadsModel.seed(I)I -/
theorem dX8_seed_0 : decode cX8_seed 0 = .ok (.aload_n 0, 1) := by decide +kernel
theorem dX8_seed_1 : decode cX8_seed 1 = .ok (.iconst 0, 1) := by decide +kernel
theorem dX8_seed_2 : decode cX8_seed 2 = .ok (.putfield 75, 3) := by decide +kernel
theorem dX8_seed_5 : decode cX8_seed 5 = .ok (.iload_n 1, 1) := by decide +kernel
theorem dX8_seed_6 : decode cX8_seed 6 = .ok (.ifCond .ge 6, 3) := by decide +kernel
theorem dX8_seed_9 : decode cX8_seed 9 = .ok (.ldc 82, 2) := by decide +kernel
theorem dX8_seed_11 : decode cX8_seed 11 = .ok (.ireturn, 1) := by decide +kernel
theorem dX8_seed_12 : decode cX8_seed 12 = .ok (.aload_n 0, 1) := by decide +kernel
theorem dX8_seed_13 : decode cX8_seed 13 = .ok (.getfield 23, 3) := by decide +kernel
theorem dX8_seed_16 : decode cX8_seed 16 = .ok (.bipush 27, 2) := by decide +kernel
theorem dX8_seed_18 : decode cX8_seed 18 = .ok (.iaload, 1) := by decide +kernel
theorem dX8_seed_19 : decode cX8_seed 19 = .ok (.istore_n 2, 1) := by decide +kernel
theorem dX8_seed_20 : decode cX8_seed 20 = .ok (.aload_n 0, 1) := by decide +kernel
theorem dX8_seed_21 : decode cX8_seed 21 = .ok (.getfield 23, 3) := by decide +kernel
theorem dX8_seed_24 : decode cX8_seed 24 = .ok (.bipush 27, 2) := by decide +kernel
theorem dX8_seed_26 : decode cX8_seed 26 = .ok (.iload_n 1, 1) := by decide +kernel
theorem dX8_seed_27 : decode cX8_seed 27 = .ok (.iastore, 1) := by decide +kernel
theorem dX8_seed_28 : decode cX8_seed 28 = .ok (.iload_n 2, 1) := by decide +kernel
theorem dX8_seed_29 : decode cX8_seed 29 = .ok (.ireturn, 1) := by decide +kernel

def wp_X8_seed (x1 : Int32) (S : St) (post : Int32 → St → Prop) : Prop :=
  ∀ S1 : St, S1 = up S 71 0 0 → ((0 ≤ x1 → ∀ v3 : Int32, v3 = (S1 75 27) → ∀ S4 : St, S4 = up S1 75 27 x1 → post v3 S4) ∧ (¬ 0 ≤ x1 → post (-1000000002) S1))
theorem w_wp_X8_seed {X : Cx} (ok : Ok X cX8_seed 3 RX8 0 0) {post : Int32 → St → Prop} (hret : RetI X cX8_seed 3 post) {x1 : Int32} {S : St} (h : wp_X8_seed x1 S post) : Wp X 3 0 [(0, .ref (xad X 71)), (1, .int x1)] [] S := by
  unfold wp_X8_seed at h
  refine r_aload_n ok dX8_seed_0 0 rfl ?_
  refine r_iconst (v := 0) ok dX8_seed_1 rfl ?_
  refine pf_X8_75 ok dX8_seed_2 (fun S1 eS1 => ?_)
  replace h := h S1 eS1
  refine r_iload_n ok dX8_seed_5 1 rfl ?_
  refine r_if_ge (tgt := 12) ok dX8_seed_6 rfl (fun hc2 => ?_) (fun hc2 => ?_)
  · replace h := h.1 hc2
    refine r_aload_n ok dX8_seed_12 0 rfl ?_
    refine gf_X8_23 ok dX8_seed_13 ?_
    refine r_bipush (v := 27) ok dX8_seed_16 rfl ?_
    refine r_iald (j := 27) ok ai_75 (in_lit (by decide)) (by decide) dX8_seed_18 ?_
    refine r_top (fun v3 ev3 => ?_)
    replace h := h v3 ev3
    refine r_istore_n ok dX8_seed_19 (by decide) [(0, .ref (xad X 71)), (1, .int x1), (2, .int v3)] [1, 2, 0] rfl ?_
    refine r_aload_n ok dX8_seed_20 0 rfl ?_
    refine gf_X8_23 ok dX8_seed_21 ?_
    refine r_bipush (v := 27) ok dX8_seed_24 rfl ?_
    refine r_iload_n ok dX8_seed_26 1 rfl ?_
    refine r_iast (j := 27) ok ai_75 (in_lit (by decide)) (by decide) dX8_seed_27 (fun S4 eS4 => ?_)
    replace h := h S4 eS4
    refine r_iload_n ok dX8_seed_28 2 rfl ?_
    exact hret _ _ _ _ dX8_seed_29 h
  · replace h := h.2 hc2
    refine r_ldc (v := (-1000000002)) ok dX8_seed_9 tw_k_X8_82 ?_
    exact hret _ _ _ _ dX8_seed_11 h
theorem c_X8_seed (l : Launch) (G : Gx) {x1 : Int32} {S : St} {post : Int32 → St → Prop} (h : wp_X8_seed x1 S post) : MtI l yX8_seed cX8_seed 3 (some .int) 0 0 G [.ref (G.2.2 71), .int x1] S post :=
  ctI (by decide) rfl (Nat.le_of_ble_eq_true rfl) (fun X _ hG ok hret => by subst hG; exact w_wp_X8_seed ok hret h)

/-! HasteRoadsModel.keep(I)I -/
theorem dX8_keep_0 : decode cX8_keep 0 = .ok (.aload_n 0, 1) := by decide +kernel
theorem dX8_keep_1 : decode cX8_keep 1 = .ok (.iconst 0, 1) := by decide +kernel
theorem dX8_keep_2 : decode cX8_keep 2 = .ok (.putfield 75, 3) := by decide +kernel
theorem dX8_keep_5 : decode cX8_keep 5 = .ok (.iload_n 1, 1) := by decide +kernel
theorem dX8_keep_6 : decode cX8_keep 6 = .ok (.iconst 0, 1) := by decide +kernel
theorem dX8_keep_7 : decode cX8_keep 7 = .ok (.iconst 1, 1) := by decide +kernel
theorem dX8_keep_8 : decode cX8_keep 8 = .ok (.invokestatic 78, 3) := by decide +kernel
theorem dX8_keep_11 : decode cX8_keep 11 = .ok (.ifCond .ne 6, 3) := by decide +kernel
theorem dX8_keep_14 : decode cX8_keep 14 = .ok (.ldc 174, 2) := by decide +kernel
theorem dX8_keep_16 : decode cX8_keep 16 = .ok (.ireturn, 1) := by decide +kernel
theorem dX8_keep_17 : decode cX8_keep 17 = .ok (.iconst 0, 1) := by decide +kernel
theorem dX8_keep_18 : decode cX8_keep 18 = .ok (.istore_n 2, 1) := by decide +kernel
theorem dX8_keep_19 : decode cX8_keep 19 = .ok (.iload_n 2, 1) := by decide +kernel
theorem dX8_keep_20 : decode cX8_keep 20 = .ok (.bipush 28, 2) := by decide +kernel
theorem dX8_keep_22 : decode cX8_keep 22 = .ok (.if_icmp .ge 26, 3) := by decide +kernel
theorem dX8_keep_25 : decode cX8_keep 25 = .ok (.aload_n 0, 1) := by decide +kernel
theorem dX8_keep_26 : decode cX8_keep 26 = .ok (.getfield 29, 3) := by decide +kernel
theorem dX8_keep_29 : decode cX8_keep 29 = .ok (.bipush 28, 2) := by decide +kernel
theorem dX8_keep_31 : decode cX8_keep 31 = .ok (.iload_n 1, 1) := by decide +kernel
theorem dX8_keep_32 : decode cX8_keep 32 = .ok (.imul, 1) := by decide +kernel
theorem dX8_keep_33 : decode cX8_keep 33 = .ok (.iload_n 2, 1) := by decide +kernel
theorem dX8_keep_34 : decode cX8_keep 34 = .ok (.iadd, 1) := by decide +kernel
theorem dX8_keep_35 : decode cX8_keep 35 = .ok (.aload_n 0, 1) := by decide +kernel
theorem dX8_keep_36 : decode cX8_keep 36 = .ok (.getfield 23, 3) := by decide +kernel
theorem dX8_keep_39 : decode cX8_keep 39 = .ok (.iload_n 2, 1) := by decide +kernel
theorem dX8_keep_40 : decode cX8_keep 40 = .ok (.iaload, 1) := by decide +kernel
theorem dX8_keep_41 : decode cX8_keep 41 = .ok (.iastore, 1) := by decide +kernel
theorem dX8_keep_42 : decode cX8_keep 42 = .ok (.iinc 2 1, 3) := by decide +kernel
theorem dX8_keep_45 : decode cX8_keep 45 = .ok (.goto (-26), 3) := by decide +kernel
theorem dX8_keep_48 : decode cX8_keep 48 = .ok (.aload_n 0, 1) := by decide +kernel
theorem dX8_keep_49 : decode cX8_keep 49 = .ok (.getfield 32, 3) := by decide +kernel
theorem dX8_keep_52 : decode cX8_keep 52 = .ok (.iload_n 1, 1) := by decide +kernel
theorem dX8_keep_53 : decode cX8_keep 53 = .ok (.iconst 1, 1) := by decide +kernel
theorem dX8_keep_54 : decode cX8_keep 54 = .ok (.bastore, 1) := by decide +kernel
theorem dX8_keep_55 : decode cX8_keep 55 = .ok (.iconst 1, 1) := by decide +kernel
theorem dX8_keep_56 : decode cX8_keep 56 = .ok (.ireturn, 1) := by decide +kernel
theorem gf_X8_29 {X : Cx} {cc : ByteArray} {nL pc fr lo : Nat} {L : List (Nat × Value)} {st : List Value} {S : St} (ok : Ok X cc nL RX8 fr lo) (d : decode cc pc = .ok (.getfield 29, 3)) (k : Wp X nL (pc + 3) L (.ref (xad X 77) :: st) S) : Wp X nL pc L (.ref (xad X 71) :: st) S :=
  r_get (C := RX8) (T := TX8) ok ob_71 rfl i_X8 22 (by decide) tw_fl_X8_29 d (by rw [show fvl (xad X) S 71 22 = .ref (xad X 77) from (fvl_ref (d := 77) (by decide))]; exact k)
def B_X8_keep_48 (post : Int32 → St → Prop) (x1 : Int32) (S : St) : Prop :=
  vp_in x1 2 ∧ (∀ S1 : St, S1 = up S 78 (ix x1) 1 → post 1 S1)
def BD_X8_keep_19 (k19 : Int32 → Int32 → St → Prop) (post : Int32 → St → Prop) (x1 : Int32) (x2 : Int32) (S : St) : Prop :=
  ((28 ≤ x2 → B_X8_keep_48 post x1 S) ∧ (¬ 28 ≤ x2 → vp_in x2 28 ∧ (vp_in (((28 : Int32) * x1) + x2) 56 ∧ (∀ S2 : St, S2 = up S 77 (ix (((28 : Int32) * x1) + x2)) (S 75 (ix x2)) → k19 x1 (x2 + 1) S2))))
def L_X8_keep_19 (post : Int32 → St → Prop) (n : Nat) : Int32 → Int32 → St → Prop := Nat.rec (motive := fun _ => Int32 → Int32 → St → Prop) (fun _ _ _ => False) (fun _ ih => BD_X8_keep_19 ih post) n
def B_X8_keep_19 (post : Int32 → St → Prop) (x1 : Int32) (x2 : Int32) (S : St) : Prop := ∃ n, L_X8_keep_19 post n x1 x2 S
def wp_X8_keep (x1 : Int32) (S : St) (post : Int32 → St → Prop) : Prop :=
  ∀ S1 : St, S1 = up S 71 0 0 → wp_X8_in x1 0 1 S1 (fun r3 S2 => ((¬ r3 = 0 → B_X8_keep_19 post x1 0 S2) ∧ (r3 = 0 → post (-1000000001) S2)))
theorem w_B_X8_keep_48 {X : Cx} (ok : Ok X cX8_keep 3 RX8 1 22) {post : Int32 → St → Prop} (hret : RetI X cX8_keep 3 post) {x1 : Int32} {S : St} (h : B_X8_keep_48 post x1 S) : Wp X 3 48 [(0, .ref (xad X 71)), (1, .int x1)] [] S := by
  unfold B_X8_keep_48 at h
  refine r_aload_n ok dX8_keep_48 0 rfl ?_
  refine gf_X8_32 ok dX8_keep_49 ?_
  refine r_iload_n ok dX8_keep_52 1 rfl ?_
  refine r_iconst (v := 1) ok dX8_keep_53 rfl ?_
  have hi2 := h.1
  replace h := h.2
  refine r_zast ok az_78 hi2 rfl (Or.inr rfl) dX8_keep_54 (fun S1 eS1 => ?_)
  replace h := h S1 eS1
  refine r_iconst (v := 1) ok dX8_keep_55 rfl ?_
  exact hret _ _ _ _ dX8_keep_56 h
theorem w_B_X8_keep_19 {X : Cx} (ok : Ok X cX8_keep 3 RX8 1 22) {post : Int32 → St → Prop} (hret : RetI X cX8_keep 3 post) {x1 x2 : Int32} {S : St} (h : B_X8_keep_19 post x1 x2 S) : Wp X 3 19 [(0, .ref (xad X 71)), (1, .int x1), (2, .int x2)] [] S := by
  obtain ⟨n, h⟩ := h
  induction n generalizing x1 x2 S with
  | zero => exact False.elim h
  | succ n ih =>
    have hk19 : ∀ x1 x2 S, L_X8_keep_19 post n x1 x2 S → Wp X 3 19 [(0, .ref (xad X 71)), (1, .int x1), (2, .int x2)] [] S := by intros; apply ih; assumption
    replace h : BD_X8_keep_19 (L_X8_keep_19 post n) post x1 x2 S := h
    unfold BD_X8_keep_19 at h
    generalize L_X8_keep_19 post n = k19 at h hk19
    refine r_iload_n ok dX8_keep_19 2 rfl ?_
    refine r_bipush (v := 28) ok dX8_keep_20 rfl ?_
    refine r_icmp_ge (tgt := 48) ok dX8_keep_22 rfl (fun hc1 => ?_) (fun hc1 => ?_)
    · replace h := h.1 hc1
      refine r_sub [(0, .ref (xad X 71)), (1, .int x1)] [0, 1] rfl ?_
      exact w_B_X8_keep_48 ok hret h
    · replace h := h.2 hc1
      refine r_aload_n ok dX8_keep_25 0 rfl ?_
      refine gf_X8_29 ok dX8_keep_26 ?_
      refine r_bipush (v := 28) ok dX8_keep_29 rfl ?_
      refine r_iload_n ok dX8_keep_31 1 rfl ?_
      refine r_imul ok dX8_keep_32 ?_
      refine r_iload_n ok dX8_keep_33 2 rfl ?_
      refine r_iadd ok dX8_keep_34 ?_
      refine r_aload_n ok dX8_keep_35 0 rfl ?_
      refine gf_X8_23 ok dX8_keep_36 ?_
      refine r_iload_n ok dX8_keep_39 2 rfl ?_
      refine r_iald ok ai_75 h.1 rfl dX8_keep_40 ?_
      replace h := h.2
      have hi3 := h.1
      replace h := h.2
      refine r_iast ok ai_77 hi3 rfl dX8_keep_41 (fun S2 eS2 => ?_)
      replace h := h S2 eS2
      refine r_iinc (v := x2 + 1) ok dX8_keep_42 2 rfl rfl (by decide) [(0, .ref (xad X 71)), (1, .int x1), (2, .int (x2 + 1))] [1, 2, 0] rfl ?_
      refine r_goto (tgt := 19) ok dX8_keep_45 rfl ?_
      exact hk19 _ _ _ h
theorem w_wp_X8_keep {X : Cx} (ok : Ok X cX8_keep 3 RX8 1 22) {post : Int32 → St → Prop} (hret : RetI X cX8_keep 3 post) {x1 : Int32} {S : St} (h : wp_X8_keep x1 S post) : Wp X 3 0 [(0, .ref (xad X 71)), (1, .int x1)] [] S := by
  unfold wp_X8_keep at h
  refine r_aload_n ok dX8_keep_0 0 rfl ?_
  refine r_iconst (v := 0) ok dX8_keep_1 rfl ?_
  refine pf_X8_75 ok dX8_keep_2 (fun S1 eS1 => ?_)
  replace h := h S1 eS1
  refine r_iload_n ok dX8_keep_5 1 rfl ?_
  refine r_iconst (v := 0) ok dX8_keep_6 rfl ?_
  refine r_iconst (v := 1) ok dX8_keep_7 rfl ?_
  refine cl_X8_78 ok dX8_keep_8 (by decide) (Nat.le_of_ble_eq_true rfl) h (fun r3 S2 h => ?_)
  refine r_if_ne (tgt := 17) ok dX8_keep_11 rfl (fun hc4 => ?_) (fun hc4 => ?_)
  · replace h := h.1 hc4
    refine r_iconst (v := 0) ok dX8_keep_17 rfl ?_
    refine r_istore_n ok dX8_keep_18 (by decide) [(0, .ref (xad X 71)), (1, .int x1), (2, .int 0)] [1, 2, 0] rfl ?_
    exact w_B_X8_keep_19 ok hret h
  · replace h := h.2 hc4
    refine r_ldc (v := (-1000000001)) ok dX8_keep_14 tw_k_X8_174 ?_
    exact hret _ _ _ _ dX8_keep_16 h
theorem c_X8_keep (l : Launch) (G : Gx) {x1 : Int32} {S : St} {post : Int32 → St → Prop} (h : wp_X8_keep x1 S post) : MtI l yX8_keep cX8_keep 3 (some .int) 1 22 G [.ref (G.2.2 71), .int x1] S post :=
  ctI (by decide) rfl (Nat.le_of_ble_eq_true rfl) (fun X _ hG ok hret => by subst hG; exact w_wp_X8_keep ok hret h)

/-! HasteRoadsModel.goBack(I)I -/
theorem dX8_goBack_0 : decode cX8_goBack 0 = .ok (.aload_n 0, 1) := by decide +kernel
theorem dX8_goBack_1 : decode cX8_goBack 1 = .ok (.iconst 0, 1) := by decide +kernel
theorem dX8_goBack_2 : decode cX8_goBack 2 = .ok (.putfield 75, 3) := by decide +kernel
theorem dX8_goBack_5 : decode cX8_goBack 5 = .ok (.iload_n 1, 1) := by decide +kernel
theorem dX8_goBack_6 : decode cX8_goBack 6 = .ok (.iconst 0, 1) := by decide +kernel
theorem dX8_goBack_7 : decode cX8_goBack 7 = .ok (.iconst 1, 1) := by decide +kernel
theorem dX8_goBack_8 : decode cX8_goBack 8 = .ok (.invokestatic 78, 3) := by decide +kernel
theorem dX8_goBack_11 : decode cX8_goBack 11 = .ok (.ifCond .ne 6, 3) := by decide +kernel
theorem dX8_goBack_14 : decode cX8_goBack 14 = .ok (.ldc 174, 2) := by decide +kernel
theorem dX8_goBack_16 : decode cX8_goBack 16 = .ok (.ireturn, 1) := by decide +kernel
theorem dX8_goBack_17 : decode cX8_goBack 17 = .ok (.aload_n 0, 1) := by decide +kernel
theorem dX8_goBack_18 : decode cX8_goBack 18 = .ok (.getfield 32, 3) := by decide +kernel
theorem dX8_goBack_21 : decode cX8_goBack 21 = .ok (.iload_n 1, 1) := by decide +kernel
theorem dX8_goBack_22 : decode cX8_goBack 22 = .ok (.baload, 1) := by decide +kernel
theorem dX8_goBack_23 : decode cX8_goBack 23 = .ok (.ifCond .ne 6, 3) := by decide +kernel
theorem dX8_goBack_26 : decode cX8_goBack 26 = .ok (.ldc 193, 2) := by decide +kernel
theorem dX8_goBack_28 : decode cX8_goBack 28 = .ok (.ireturn, 1) := by decide +kernel
theorem dX8_goBack_29 : decode cX8_goBack 29 = .ok (.iconst 0, 1) := by decide +kernel
theorem dX8_goBack_30 : decode cX8_goBack 30 = .ok (.istore_n 2, 1) := by decide +kernel
theorem dX8_goBack_31 : decode cX8_goBack 31 = .ok (.iload_n 2, 1) := by decide +kernel
theorem dX8_goBack_32 : decode cX8_goBack 32 = .ok (.bipush 28, 2) := by decide +kernel
theorem dX8_goBack_34 : decode cX8_goBack 34 = .ok (.if_icmp .ge 26, 3) := by decide +kernel
theorem dX8_goBack_37 : decode cX8_goBack 37 = .ok (.aload_n 0, 1) := by decide +kernel
theorem dX8_goBack_38 : decode cX8_goBack 38 = .ok (.getfield 23, 3) := by decide +kernel
theorem dX8_goBack_41 : decode cX8_goBack 41 = .ok (.iload_n 2, 1) := by decide +kernel
theorem dX8_goBack_42 : decode cX8_goBack 42 = .ok (.aload_n 0, 1) := by decide +kernel
theorem dX8_goBack_43 : decode cX8_goBack 43 = .ok (.getfield 29, 3) := by decide +kernel
theorem dX8_goBack_46 : decode cX8_goBack 46 = .ok (.bipush 28, 2) := by decide +kernel
theorem dX8_goBack_48 : decode cX8_goBack 48 = .ok (.iload_n 1, 1) := by decide +kernel
theorem dX8_goBack_49 : decode cX8_goBack 49 = .ok (.imul, 1) := by decide +kernel
theorem dX8_goBack_50 : decode cX8_goBack 50 = .ok (.iload_n 2, 1) := by decide +kernel
theorem dX8_goBack_51 : decode cX8_goBack 51 = .ok (.iadd, 1) := by decide +kernel
theorem dX8_goBack_52 : decode cX8_goBack 52 = .ok (.iaload, 1) := by decide +kernel
theorem dX8_goBack_53 : decode cX8_goBack 53 = .ok (.iastore, 1) := by decide +kernel
theorem dX8_goBack_54 : decode cX8_goBack 54 = .ok (.iinc 2 1, 3) := by decide +kernel
theorem dX8_goBack_57 : decode cX8_goBack 57 = .ok (.goto (-26), 3) := by decide +kernel
theorem dX8_goBack_60 : decode cX8_goBack 60 = .ok (.iconst 1, 1) := by decide +kernel
theorem dX8_goBack_61 : decode cX8_goBack 61 = .ok (.ireturn, 1) := by decide +kernel

def BD_X8_goBack_31 (k31 : Int32 → Int32 → St → Prop) (post : Int32 → St → Prop) (x1 : Int32) (x2 : Int32) (S : St) : Prop :=
  ((28 ≤ x2 → post 1 S) ∧ (¬ 28 ≤ x2 → vp_in (((28 : Int32) * x1) + x2) 56 ∧ (vp_in x2 28 ∧ (∀ S2 : St, S2 = up S 75 (ix x2) (S 77 (ix (((28 : Int32) * x1) + x2))) → k31 x1 (x2 + 1) S2))))
def L_X8_goBack_31 (post : Int32 → St → Prop) (n : Nat) : Int32 → Int32 → St → Prop := Nat.rec (motive := fun _ => Int32 → Int32 → St → Prop) (fun _ _ _ => False) (fun _ ih => BD_X8_goBack_31 ih post) n
def B_X8_goBack_31 (post : Int32 → St → Prop) (x1 : Int32) (x2 : Int32) (S : St) : Prop := ∃ n, L_X8_goBack_31 post n x1 x2 S
def wp_X8_goBack (x1 : Int32) (S : St) (post : Int32 → St → Prop) : Prop :=
  ∀ S1 : St, S1 = up S 71 0 0 → wp_X8_in x1 0 1 S1 (fun r3 S2 => ((¬ r3 = 0 → vp_in x1 2 ∧ (((¬ (S2 78 (ix x1)) = 0 → B_X8_goBack_31 post x1 0 S2) ∧ ((S2 78 (ix x1)) = 0 → post (-1000000003) S2)))) ∧ (r3 = 0 → post (-1000000001) S2)))
theorem w_B_X8_goBack_31 {X : Cx} (ok : Ok X cX8_goBack 3 RX8 1 22) {post : Int32 → St → Prop} (hret : RetI X cX8_goBack 3 post) {x1 x2 : Int32} {S : St} (h : B_X8_goBack_31 post x1 x2 S) : Wp X 3 31 [(0, .ref (xad X 71)), (1, .int x1), (2, .int x2)] [] S := by
  obtain ⟨n, h⟩ := h
  induction n generalizing x1 x2 S with
  | zero => exact False.elim h
  | succ n ih =>
    have hk31 : ∀ x1 x2 S, L_X8_goBack_31 post n x1 x2 S → Wp X 3 31 [(0, .ref (xad X 71)), (1, .int x1), (2, .int x2)] [] S := by intros; apply ih; assumption
    replace h : BD_X8_goBack_31 (L_X8_goBack_31 post n) post x1 x2 S := h
    unfold BD_X8_goBack_31 at h
    generalize L_X8_goBack_31 post n = k31 at h hk31
    refine r_iload_n ok dX8_goBack_31 2 rfl ?_
    refine r_bipush (v := 28) ok dX8_goBack_32 rfl ?_
    refine r_icmp_ge (tgt := 60) ok dX8_goBack_34 rfl (fun hc1 => ?_) (fun hc1 => ?_)
    · replace h := h.1 hc1
      refine r_iconst (v := 1) ok dX8_goBack_60 rfl ?_
      exact hret _ _ _ _ dX8_goBack_61 h
    · replace h := h.2 hc1
      refine r_aload_n ok dX8_goBack_37 0 rfl ?_
      refine gf_X8_23 ok dX8_goBack_38 ?_
      refine r_iload_n ok dX8_goBack_41 2 rfl ?_
      refine r_aload_n ok dX8_goBack_42 0 rfl ?_
      refine gf_X8_29 ok dX8_goBack_43 ?_
      refine r_bipush (v := 28) ok dX8_goBack_46 rfl ?_
      refine r_iload_n ok dX8_goBack_48 1 rfl ?_
      refine r_imul ok dX8_goBack_49 ?_
      refine r_iload_n ok dX8_goBack_50 2 rfl ?_
      refine r_iadd ok dX8_goBack_51 ?_
      refine r_iald ok ai_77 h.1 rfl dX8_goBack_52 ?_
      replace h := h.2
      have hi3 := h.1
      replace h := h.2
      refine r_iast ok ai_75 hi3 rfl dX8_goBack_53 (fun S2 eS2 => ?_)
      replace h := h S2 eS2
      refine r_iinc (v := x2 + 1) ok dX8_goBack_54 2 rfl rfl (by decide) [(0, .ref (xad X 71)), (1, .int x1), (2, .int (x2 + 1))] [1, 2, 0] rfl ?_
      refine r_goto (tgt := 31) ok dX8_goBack_57 rfl ?_
      exact hk31 _ _ _ h
theorem w_wp_X8_goBack {X : Cx} (ok : Ok X cX8_goBack 3 RX8 1 22) {post : Int32 → St → Prop} (hret : RetI X cX8_goBack 3 post) {x1 : Int32} {S : St} (h : wp_X8_goBack x1 S post) : Wp X 3 0 [(0, .ref (xad X 71)), (1, .int x1)] [] S := by
  unfold wp_X8_goBack at h
  refine r_aload_n ok dX8_goBack_0 0 rfl ?_
  refine r_iconst (v := 0) ok dX8_goBack_1 rfl ?_
  refine pf_X8_75 ok dX8_goBack_2 (fun S1 eS1 => ?_)
  replace h := h S1 eS1
  refine r_iload_n ok dX8_goBack_5 1 rfl ?_
  refine r_iconst (v := 0) ok dX8_goBack_6 rfl ?_
  refine r_iconst (v := 1) ok dX8_goBack_7 rfl ?_
  refine cl_X8_78 ok dX8_goBack_8 (by decide) (Nat.le_of_ble_eq_true rfl) h (fun r3 S2 h => ?_)
  refine r_if_ne (tgt := 17) ok dX8_goBack_11 rfl (fun hc4 => ?_) (fun hc4 => ?_)
  · replace h := h.1 hc4
    refine r_aload_n ok dX8_goBack_17 0 rfl ?_
    refine gf_X8_32 ok dX8_goBack_18 ?_
    refine r_iload_n ok dX8_goBack_21 1 rfl ?_
    refine r_zald ok az_78 h.1 rfl dX8_goBack_22 ?_
    replace h := h.2
    refine r_if_ne (tgt := 29) ok dX8_goBack_23 rfl (fun hc5 => ?_) (fun hc5 => ?_)
    · replace h := h.1 hc5
      refine r_iconst (v := 0) ok dX8_goBack_29 rfl ?_
      refine r_istore_n ok dX8_goBack_30 (by decide) [(0, .ref (xad X 71)), (1, .int x1), (2, .int 0)] [1, 2, 0] rfl ?_
      exact w_B_X8_goBack_31 ok hret h
    · replace h := h.2 hc5
      refine r_ldc (v := (-1000000003)) ok dX8_goBack_26 tw_k_X8_193 ?_
      exact hret _ _ _ _ dX8_goBack_28 h
  · replace h := h.2 hc4
    refine r_ldc (v := (-1000000001)) ok dX8_goBack_14 tw_k_X8_174 ?_
    exact hret _ _ _ _ dX8_goBack_16 h
theorem c_X8_goBack (l : Launch) (G : Gx) {x1 : Int32} {S : St} {post : Int32 → St → Prop} (h : wp_X8_goBack x1 S post) : MtI l yX8_goBack cX8_goBack 3 (some .int) 1 22 G [.ref (G.2.2 71), .int x1] S post :=
  ctI (by decide) rfl (Nat.le_of_ble_eq_true rfl) (fun X _ hG ok hret => by subst hG; exact w_wp_X8_goBack ok hret h)
