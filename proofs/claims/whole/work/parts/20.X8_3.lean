/-! HasteRoadsModel.comes(II)V -/
theorem dX8_comes_0 : decode cX8_comes 0 = .ok (.aload_n 0, 1) := by decide +kernel
theorem dX8_comes_1 : decode cX8_comes 1 = .ok (.getfield 42, 3) := by decide +kernel
theorem dX8_comes_4 : decode cX8_comes 4 = .ok (.iload_n 1, 1) := by decide +kernel
theorem dX8_comes_5 : decode cX8_comes 5 = .ok (.iload_n 2, 1) := by decide +kernel
theorem dX8_comes_6 : decode cX8_comes 6 = .ok (.aload_n 0, 1) := by decide +kernel
theorem dX8_comes_7 : decode cX8_comes 7 = .ok (.getfield 42, 3) := by decide +kernel
theorem dX8_comes_10 : decode cX8_comes 10 = .ok (.iload_n 1, 1) := by decide +kernel
theorem dX8_comes_11 : decode cX8_comes 11 = .ok (.iaload, 1) := by decide +kernel
theorem dX8_comes_12 : decode cX8_comes 12 = .ok (.if_icmp .ge 7, 3) := by decide +kernel
theorem dX8_comes_15 : decode cX8_comes 15 = .ok (.iload_n 2, 1) := by decide +kernel
theorem dX8_comes_16 : decode cX8_comes 16 = .ok (.goto 9, 3) := by decide +kernel
theorem dX8_comes_19 : decode cX8_comes 19 = .ok (.aload_n 0, 1) := by decide +kernel
theorem dX8_comes_20 : decode cX8_comes 20 = .ok (.getfield 42, 3) := by decide +kernel
theorem dX8_comes_23 : decode cX8_comes 23 = .ok (.iload_n 1, 1) := by decide +kernel
theorem dX8_comes_24 : decode cX8_comes 24 = .ok (.iaload, 1) := by decide +kernel
theorem dX8_comes_25 : decode cX8_comes 25 = .ok (.iastore, 1) := by decide +kernel
theorem dX8_comes_26 : decode cX8_comes 26 = .ok (.return_, 1) := by decide +kernel

def wp_X8_comes (x1 : Int32) (x2 : Int32) (S : St) (post : St → Prop) : Prop :=
  vp_in x1 36 ∧ ((((S 81 (ix x1)) ≤ x2 → vp_in x1 36 ∧ (vp_in x1 36 ∧ (∀ S2 : St, S2 = up S 81 (ix x1) (S 81 (ix x1)) → post S2))) ∧ (¬ (S 81 (ix x1)) ≤ x2 → vp_in x1 36 ∧ (∀ S4 : St, S4 = up S 81 (ix x1) x2 → post S4))))
theorem w_wp_X8_comes {X : Cx} (ok : Ok X cX8_comes 3 RX8 0 0) {post : St → Prop} (hret : RetV X cX8_comes 3 post) {x1 x2 : Int32} {S : St} (h : wp_X8_comes x1 x2 S post) : Wp X 3 0 [(0, .ref (xad X 71)), (1, .int x1), (2, .int x2)] [] S := by
  unfold wp_X8_comes at h
  refine r_aload_n ok dX8_comes_0 0 rfl ?_
  refine gf_X8_42 ok dX8_comes_1 ?_
  refine r_iload_n ok dX8_comes_4 1 rfl ?_
  refine r_iload_n ok dX8_comes_5 2 rfl ?_
  refine r_aload_n ok dX8_comes_6 0 rfl ?_
  refine gf_X8_42 ok dX8_comes_7 ?_
  refine r_iload_n ok dX8_comes_10 1 rfl ?_
  refine r_iald ok ai_81 h.1 rfl dX8_comes_11 ?_
  replace h := h.2
  refine r_icmp_ge (tgt := 19) ok dX8_comes_12 rfl (fun hc1 => ?_) (fun hc1 => ?_)
  · replace h := h.1 hc1
    refine r_aload_n ok dX8_comes_19 0 rfl ?_
    refine gf_X8_42 ok dX8_comes_20 ?_
    refine r_iload_n ok dX8_comes_23 1 rfl ?_
    refine r_iald ok ai_81 h.1 rfl dX8_comes_24 ?_
    replace h := h.2
    have hi3 := h.1
    replace h := h.2
    refine r_iast ok ai_81 hi3 rfl dX8_comes_25 (fun S2 eS2 => ?_)
    replace h := h S2 eS2
    exact hret _ _ _ dX8_comes_26 h
  · replace h := h.2 hc1
    refine r_iload_n ok dX8_comes_15 2 rfl ?_
    refine r_goto (tgt := 25) ok dX8_comes_16 rfl ?_
    have hi5 := h.1
    replace h := h.2
    refine r_iast ok ai_81 hi5 rfl dX8_comes_25 (fun S4 eS4 => ?_)
    replace h := h S4 eS4
    exact hret _ _ _ dX8_comes_26 h
theorem c_X8_comes (l : Launch) (G : Gx) {x1 x2 : Int32} {S : St} {post : St → Prop} (h : wp_X8_comes x1 x2 S post) : MtV l yX8_comes cX8_comes 3 0 0 G [.ref (G.2.2 71), .int x1, .int x2] S post :=
  ctV (by decide) rfl (Nat.le_of_ble_eq_true rfl) (fun X _ hG ok hret => by subst hG; exact w_wp_X8_comes ok hret h)

/-! HasteRoadsModel.spreads(IIII)V -/
theorem dX8_spreads_0 : decode cX8_spreads 0 = .ok (.iconst 0, 1) := by decide +kernel
theorem dX8_spreads_1 : decode cX8_spreads 1 = .ok (.istore 5, 2) := by decide +kernel
theorem dX8_spreads_3 : decode cX8_spreads 3 = .ok (.iload 5, 2) := by decide +kernel
theorem dX8_spreads_5 : decode cX8_spreads 5 = .ok (.bipush 36, 2) := by decide +kernel
theorem dX8_spreads_7 : decode cX8_spreads 7 = .ok (.if_icmp .ge 26, 3) := by decide +kernel
theorem dX8_spreads_10 : decode cX8_spreads 10 = .ok (.aload_n 0, 1) := by decide +kernel
theorem dX8_spreads_11 : decode cX8_spreads 11 = .ok (.getfield 42, 3) := by decide +kernel
theorem dX8_spreads_14 : decode cX8_spreads 14 = .ok (.iload 5, 2) := by decide +kernel
theorem dX8_spreads_16 : decode cX8_spreads 16 = .ok (.ldc 223, 2) := by decide +kernel
theorem dX8_spreads_18 : decode cX8_spreads 18 = .ok (.iastore, 1) := by decide +kernel
theorem dX8_spreads_19 : decode cX8_spreads 19 = .ok (.aload_n 0, 1) := by decide +kernel
theorem dX8_spreads_20 : decode cX8_spreads 20 = .ok (.getfield 45, 3) := by decide +kernel
theorem dX8_spreads_23 : decode cX8_spreads 23 = .ok (.iload 5, 2) := by decide +kernel
theorem dX8_spreads_25 : decode cX8_spreads 25 = .ok (.iconst 0, 1) := by decide +kernel
theorem dX8_spreads_26 : decode cX8_spreads 26 = .ok (.bastore, 1) := by decide +kernel
theorem dX8_spreads_27 : decode cX8_spreads 27 = .ok (.iinc 5 1, 3) := by decide +kernel
theorem dX8_spreads_30 : decode cX8_spreads 30 = .ok (.goto (-27), 3) := by decide +kernel
theorem dX8_spreads_33 : decode cX8_spreads 33 = .ok (.aload_n 0, 1) := by decide +kernel
theorem dX8_spreads_34 : decode cX8_spreads 34 = .ok (.getfield 42, 3) := by decide +kernel
theorem dX8_spreads_37 : decode cX8_spreads 37 = .ok (.bipush 6, 2) := by decide +kernel
theorem dX8_spreads_39 : decode cX8_spreads 39 = .ok (.iload_n 2, 1) := by decide +kernel
theorem dX8_spreads_40 : decode cX8_spreads 40 = .ok (.imul, 1) := by decide +kernel
theorem dX8_spreads_41 : decode cX8_spreads 41 = .ok (.iload 4, 2) := by decide +kernel
theorem dX8_spreads_43 : decode cX8_spreads 43 = .ok (.iadd, 1) := by decide +kernel
theorem dX8_spreads_44 : decode cX8_spreads 44 = .ok (.iload_n 3, 1) := by decide +kernel
theorem dX8_spreads_45 : decode cX8_spreads 45 = .ok (.iastore, 1) := by decide +kernel
theorem dX8_spreads_46 : decode cX8_spreads 46 = .ok (.bipush 6, 2) := by decide +kernel
theorem dX8_spreads_48 : decode cX8_spreads 48 = .ok (.iload_n 2, 1) := by decide +kernel
theorem dX8_spreads_49 : decode cX8_spreads 49 = .ok (.imul, 1) := by decide +kernel
theorem dX8_spreads_50 : decode cX8_spreads 50 = .ok (.iload 4, 2) := by decide +kernel
theorem dX8_spreads_52 : decode cX8_spreads 52 = .ok (.iadd, 1) := by decide +kernel
theorem dX8_spreads_53 : decode cX8_spreads 53 = .ok (.istore 5, 2) := by decide +kernel
theorem dX8_spreads_55 : decode cX8_spreads 55 = .ok (.iload 5, 2) := by decide +kernel
theorem dX8_spreads_57 : decode cX8_spreads 57 = .ok (.iconst (-1), 1) := by decide +kernel
theorem dX8_spreads_58 : decode cX8_spreads 58 = .ok (.if_icmp .eq 168, 3) := by decide +kernel
theorem dX8_spreads_61 : decode cX8_spreads 61 = .ok (.aload_n 0, 1) := by decide +kernel
theorem dX8_spreads_62 : decode cX8_spreads 62 = .ok (.getfield 45, 3) := by decide +kernel
theorem dX8_spreads_65 : decode cX8_spreads 65 = .ok (.iload 5, 2) := by decide +kernel
theorem dX8_spreads_67 : decode cX8_spreads 67 = .ok (.iconst 1, 1) := by decide +kernel
theorem dX8_spreads_68 : decode cX8_spreads 68 = .ok (.bastore, 1) := by decide +kernel
theorem dX8_spreads_69 : decode cX8_spreads 69 = .ok (.iload 5, 2) := by decide +kernel
theorem dX8_spreads_71 : decode cX8_spreads 71 = .ok (.bipush 6, 2) := by decide +kernel
theorem dX8_spreads_73 : decode cX8_spreads 73 = .ok (.idiv, 1) := by decide +kernel
theorem dX8_spreads_74 : decode cX8_spreads 74 = .ok (.istore 6, 2) := by decide +kernel
theorem dX8_spreads_76 : decode cX8_spreads 76 = .ok (.iload 5, 2) := by decide +kernel
theorem dX8_spreads_78 : decode cX8_spreads 78 = .ok (.bipush 6, 2) := by decide +kernel
theorem dX8_spreads_80 : decode cX8_spreads 80 = .ok (.irem, 1) := by decide +kernel
theorem dX8_spreads_81 : decode cX8_spreads 81 = .ok (.istore 7, 2) := by decide +kernel
theorem dX8_spreads_83 : decode cX8_spreads 83 = .ok (.aload_n 0, 1) := by decide +kernel
theorem dX8_spreads_84 : decode cX8_spreads 84 = .ok (.getfield 26, 3) := by decide +kernel
theorem dX8_spreads_87 : decode cX8_spreads 87 = .ok (.bipush 16, 2) := by decide +kernel
theorem dX8_spreads_89 : decode cX8_spreads 89 = .ok (.iaload, 1) := by decide +kernel
theorem dX8_spreads_90 : decode cX8_spreads 90 = .ok (.iload 6, 2) := by decide +kernel
theorem dX8_spreads_92 : decode cX8_spreads 92 = .ok (.ishr, 1) := by decide +kernel
theorem dX8_spreads_93 : decode cX8_spreads 93 = .ok (.iconst 1, 1) := by decide +kernel
theorem dX8_spreads_94 : decode cX8_spreads 94 = .ok (.iand, 1) := by decide +kernel
theorem dX8_spreads_95 : decode cX8_spreads 95 = .ok (.iconst 1, 1) := by decide +kernel
theorem dX8_spreads_96 : decode cX8_spreads 96 = .ok (.if_icmp .ne 26, 3) := by decide +kernel
theorem dX8_spreads_99 : decode cX8_spreads 99 = .ok (.iload 7, 2) := by decide +kernel
theorem dX8_spreads_101 : decode cX8_spreads 101 = .ok (.iconst 5, 1) := by decide +kernel
theorem dX8_spreads_102 : decode cX8_spreads 102 = .ok (.if_icmp .ge 20, 3) := by decide +kernel
theorem dX8_spreads_105 : decode cX8_spreads 105 = .ok (.aload_n 0, 1) := by decide +kernel
theorem dX8_spreads_106 : decode cX8_spreads 106 = .ok (.iload 5, 2) := by decide +kernel
theorem dX8_spreads_108 : decode cX8_spreads 108 = .ok (.iconst 1, 1) := by decide +kernel
theorem dX8_spreads_109 : decode cX8_spreads 109 = .ok (.iadd, 1) := by decide +kernel
theorem dX8_spreads_110 : decode cX8_spreads 110 = .ok (.aload_n 0, 1) := by decide +kernel
theorem dX8_spreads_111 : decode cX8_spreads 111 = .ok (.getfield 42, 3) := by decide +kernel
theorem dX8_spreads_114 : decode cX8_spreads 114 = .ok (.iload 5, 2) := by decide +kernel
theorem dX8_spreads_116 : decode cX8_spreads 116 = .ok (.iaload, 1) := by decide +kernel
theorem dX8_spreads_117 : decode cX8_spreads 117 = .ok (.iconst 1, 1) := by decide +kernel
theorem dX8_spreads_118 : decode cX8_spreads 118 = .ok (.iadd, 1) := by decide +kernel
theorem dX8_spreads_119 : decode cX8_spreads 119 = .ok (.invokevirtual 224, 3) := by decide +kernel
theorem dX8_spreads_122 : decode cX8_spreads 122 = .ok (.iconst 0, 1) := by decide +kernel
theorem dX8_spreads_123 : decode cX8_spreads 123 = .ok (.istore 8, 2) := by decide +kernel
theorem dX8_spreads_125 : decode cX8_spreads 125 = .ok (.iload 8, 2) := by decide +kernel
theorem dX8_spreads_127 : decode cX8_spreads 127 = .ok (.aload_n 0, 1) := by decide +kernel
theorem dX8_spreads_128 : decode cX8_spreads 128 = .ok (.getfield 158, 3) := by decide +kernel
theorem dX8_spreads_131 : decode cX8_spreads 131 = .ok (.if_icmp .ge 86, 3) := by decide +kernel
theorem dX8_spreads_134 : decode cX8_spreads 134 = .ok (.aload_n 0, 1) := by decide +kernel
theorem dX8_spreads_135 : decode cX8_spreads 135 = .ok (.iload 8, 2) := by decide +kernel
theorem dX8_spreads_137 : decode cX8_spreads 137 = .ok (.iload 6, 2) := by decide +kernel
theorem dX8_spreads_139 : decode cX8_spreads 139 = .ok (.invokevirtual 189, 3) := by decide +kernel
theorem dX8_spreads_142 : decode cX8_spreads 142 = .ok (.istore 9, 2) := by decide +kernel
theorem dX8_spreads_144 : decode cX8_spreads 144 = .ok (.iconst 0, 1) := by decide +kernel
theorem dX8_spreads_145 : decode cX8_spreads 145 = .ok (.istore 10, 2) := by decide +kernel
theorem dX8_spreads_147 : decode cX8_spreads 147 = .ok (.iload 10, 2) := by decide +kernel
theorem dX8_spreads_149 : decode cX8_spreads 149 = .ok (.iload 7, 2) := by decide +kernel
theorem dX8_spreads_151 : decode cX8_spreads 151 = .ok (.if_icmp .gt 60, 3) := by decide +kernel
theorem dX8_spreads_154 : decode cX8_spreads 154 = .ok (.iload 9, 2) := by decide +kernel
theorem dX8_spreads_156 : decode cX8_spreads 156 = .ok (.iconst (-1), 1) := by decide +kernel
theorem dX8_spreads_157 : decode cX8_spreads 157 = .ok (.if_icmp .eq 54, 3) := by decide +kernel
theorem dX8_spreads_160 : decode cX8_spreads 160 = .ok (.aload_n 0, 1) := by decide +kernel
theorem dX8_spreads_161 : decode cX8_spreads 161 = .ok (.bipush 6, 2) := by decide +kernel
theorem dX8_spreads_163 : decode cX8_spreads 163 = .ok (.iload 9, 2) := by decide +kernel
theorem dX8_spreads_165 : decode cX8_spreads 165 = .ok (.imul, 1) := by decide +kernel
theorem dX8_spreads_166 : decode cX8_spreads 166 = .ok (.iload 7, 2) := by decide +kernel
theorem dX8_spreads_168 : decode cX8_spreads 168 = .ok (.iadd, 1) := by decide +kernel
theorem dX8_spreads_169 : decode cX8_spreads 169 = .ok (.iload 10, 2) := by decide +kernel
theorem dX8_spreads_171 : decode cX8_spreads 171 = .ok (.isub, 1) := by decide +kernel
theorem dX8_spreads_172 : decode cX8_spreads 172 = .ok (.aload_n 0, 1) := by decide +kernel
theorem dX8_spreads_173 : decode cX8_spreads 173 = .ok (.getfield 42, 3) := by decide +kernel
theorem dX8_spreads_176 : decode cX8_spreads 176 = .ok (.iload 5, 2) := by decide +kernel
theorem dX8_spreads_178 : decode cX8_spreads 178 = .ok (.iaload, 1) := by decide +kernel
theorem dX8_spreads_179 : decode cX8_spreads 179 = .ok (.aload_n 0, 1) := by decide +kernel
theorem dX8_spreads_180 : decode cX8_spreads 180 = .ok (.aload_n 0, 1) := by decide +kernel
theorem dX8_spreads_181 : decode cX8_spreads 181 = .ok (.getfield 26, 3) := by decide +kernel
theorem dX8_spreads_184 : decode cX8_spreads 184 = .ok (.iload_n 1, 1) := by decide +kernel
theorem dX8_spreads_185 : decode cX8_spreads 185 = .ok (.iload 8, 2) := by decide +kernel
theorem dX8_spreads_187 : decode cX8_spreads 187 = .ok (.iload 6, 2) := by decide +kernel
theorem dX8_spreads_189 : decode cX8_spreads 189 = .ok (.aload_n 0, 1) := by decide +kernel
theorem dX8_spreads_190 : decode cX8_spreads 190 = .ok (.getfield 42, 3) := by decide +kernel
theorem dX8_spreads_193 : decode cX8_spreads 193 = .ok (.iload 5, 2) := by decide +kernel
theorem dX8_spreads_195 : decode cX8_spreads 195 = .ok (.iaload, 1) := by decide +kernel
theorem dX8_spreads_196 : decode cX8_spreads 196 = .ok (.iload 10, 2) := by decide +kernel
theorem dX8_spreads_198 : decode cX8_spreads 198 = .ok (.invokevirtual 194, 3) := by decide +kernel
theorem dX8_spreads_201 : decode cX8_spreads 201 = .ok (.iadd, 1) := by decide +kernel
theorem dX8_spreads_202 : decode cX8_spreads 202 = .ok (.invokevirtual 224, 3) := by decide +kernel
theorem dX8_spreads_205 : decode cX8_spreads 205 = .ok (.iinc 10 1, 3) := by decide +kernel
theorem dX8_spreads_208 : decode cX8_spreads 208 = .ok (.goto (-61), 3) := by decide +kernel
theorem dX8_spreads_211 : decode cX8_spreads 211 = .ok (.iinc 8 1, 3) := by decide +kernel
theorem dX8_spreads_214 : decode cX8_spreads 214 = .ok (.goto (-89), 3) := by decide +kernel
theorem dX8_spreads_217 : decode cX8_spreads 217 = .ok (.aload_n 0, 1) := by decide +kernel
theorem dX8_spreads_218 : decode cX8_spreads 218 = .ok (.invokevirtual 228, 3) := by decide +kernel
theorem dX8_spreads_221 : decode cX8_spreads 221 = .ok (.istore 5, 2) := by decide +kernel
theorem dX8_spreads_223 : decode cX8_spreads 223 = .ok (.goto (-168), 3) := by decide +kernel
theorem dX8_spreads_226 : decode cX8_spreads 226 = .ok (.return_, 1) := by decide +kernel
theorem cl_X8_224 {X : Cx} {cc : ByteArray} {nL pc fr lo : Nat} {L : List (Nat × Value)} {st : List Value} {S : St} (ok : Ok X cc nL RX8 fr lo) {x1 x2 : Int32} (d : decode cc pc = .ok (.invokevirtual 224, 3)) (hroom : 1 ≤ fr ∧ 22 ≤ lo) (hst : (st.map fun v => v.category).sum ≤ 8) {post : St → Prop} (h : wp_X8_comes x1 x2 S post) (kk : ∀ S1 : St, post S1 → Wp X nL (pc + 3) L st S1) : Wp X nL pc L (.int x2 :: .int x1 :: .ref (xad X 71) :: st) S :=
  r_callVv (n := 3) (f := 0) (lo1 := 0) (N := 2) (As := [.int x1, .int x2]) ok tw_in_X8 tw_im_X8_comes tw_se_X8_comes tw_co_X8_comes tw_ml_X8_224 (by decide +kernel) rfl ob_71 rfl hroom hst d rfl (c_X8_comes (xl X) (xG X) h) kk
theorem cl_X8_228 {X : Cx} {cc : ByteArray} {nL pc fr lo : Nat} {L : List (Nat × Value)} {st : List Value} {S : St} (ok : Ok X cc nL RX8 fr lo) (d : decode cc pc = .ok (.invokevirtual 228, 3)) (hroom : 1 ≤ fr ∧ 22 ≤ lo) (hst : (st.map fun v => v.category).sum ≤ 8) {post : Int32 → St → Prop} (h : wp_X8_nextNode S post) (kk : ∀ (r : Int32) (S1 : St), post r S1 → Wp X nL (pc + 3) L (.int r :: st) S1) : Wp X nL pc L (.ref (xad X 71) :: st) S :=
  r_callVi (n := 3) (f := 0) (lo1 := 0) (N := 0) (As := []) ok tw_in_X8 tw_im_X8_nextNode tw_se_X8_nextNode tw_co_X8_nextNode tw_ml_X8_228 (by decide +kernel) rfl ob_71 rfl hroom hst d rfl (c_X8_nextNode (xl X) (xG X) h) kk
def B_X8_spreads_217 (k55 : Int32 → Int32 → St → Prop) (post : St → Prop) (x1 : Int32) (S : St) : Prop :=
  wp_X8_nextNode S (fun r2 S1 => k55 x1 r2 S1)
def BD_X8_spreads_147 (k55 : Int32 → Int32 → St → Prop) (k125 : Int32 → Int32 → Int32 → Int32 → Int32 → St → Prop) (k147 : Int32 → Int32 → Int32 → Int32 → Int32 → Int32 → Int32 → St → Prop) (post : St → Prop) (x1 : Int32) (x5 : Int32) (x6 : Int32) (x7 : Int32) (x8 : Int32) (x9 : Int32) (x10 : Int32) (S : St) : Prop :=
  ((x7 < x10 → k125 x1 x5 x6 x7 (x8 + 1) S) ∧ (¬ x7 < x10 → ((x9 = (-1) → k125 x1 x5 x6 x7 (x8 + 1) S) ∧ (¬ x9 = (-1) → vp_in x5 36 ∧ (vp_in x5 36 ∧ (wp_X8_time 76 x1 x8 x6 (S 81 (ix x5)) x10 S (fun r4 S3 => wp_X8_comes ((((6 : Int32) * x9) + x7) - x10) ((S 81 (ix x5)) + r4) S3 (fun S5 => k147 x1 x5 x6 x7 x8 x9 (x10 + 1) S5))))))))
def L_X8_spreads_147 (k55 : Int32 → Int32 → St → Prop) (k125 : Int32 → Int32 → Int32 → Int32 → Int32 → St → Prop) (post : St → Prop) (n : Nat) : Int32 → Int32 → Int32 → Int32 → Int32 → Int32 → Int32 → St → Prop := Nat.rec (motive := fun _ => Int32 → Int32 → Int32 → Int32 → Int32 → Int32 → Int32 → St → Prop) (fun _ _ _ _ _ _ _ _ => False) (fun _ ih => BD_X8_spreads_147 k55 k125 ih post) n
def B_X8_spreads_147 (k55 : Int32 → Int32 → St → Prop) (k125 : Int32 → Int32 → Int32 → Int32 → Int32 → St → Prop) (post : St → Prop) (x1 : Int32) (x5 : Int32) (x6 : Int32) (x7 : Int32) (x8 : Int32) (x9 : Int32) (x10 : Int32) (S : St) : Prop := ∃ n, L_X8_spreads_147 k55 k125 post n x1 x5 x6 x7 x8 x9 x10 S
def BD_X8_spreads_125 (k55 : Int32 → Int32 → St → Prop) (k125 : Int32 → Int32 → Int32 → Int32 → Int32 → St → Prop) (post : St → Prop) (x1 : Int32) (x5 : Int32) (x6 : Int32) (x7 : Int32) (x8 : Int32) (S : St) : Prop :=
  (((S 71 11) ≤ x8 → B_X8_spreads_217 k55 post x1 S) ∧ (¬ (S 71 11) ≤ x8 → wp_X8_otherEnd x8 x6 S (fun r3 S2 => B_X8_spreads_147 k55 k125 post x1 x5 x6 x7 x8 r3 0 S2)))
def L_X8_spreads_125 (k55 : Int32 → Int32 → St → Prop) (post : St → Prop) (n : Nat) : Int32 → Int32 → Int32 → Int32 → Int32 → St → Prop := Nat.rec (motive := fun _ => Int32 → Int32 → Int32 → Int32 → Int32 → St → Prop) (fun _ _ _ _ _ _ => False) (fun _ ih => BD_X8_spreads_125 k55 ih post) n
def B_X8_spreads_125 (k55 : Int32 → Int32 → St → Prop) (post : St → Prop) (x1 : Int32) (x5 : Int32) (x6 : Int32) (x7 : Int32) (x8 : Int32) (S : St) : Prop := ∃ n, L_X8_spreads_125 k55 post n x1 x5 x6 x7 x8 S
def BD_X8_spreads_55 (k55 : Int32 → Int32 → St → Prop) (post : St → Prop) (x1 : Int32) (x5 : Int32) (S : St) : Prop :=
  ((x5 = (-1) → post S) ∧ (¬ x5 = (-1) → vp_in x5 36 ∧ (∀ S2 : St, S2 = up S 82 (ix x5) 1 → ∀ v4 : Int32, v4 = (x5 / 6) → ∀ v5 : Int32, v5 = (x5 - x5 / 6 * 6) → ((¬ (((S2 76 16) >>> (v4 &&& 31)) &&& 1) = 1 → B_X8_spreads_125 k55 post x1 x5 v4 v5 0 S2) ∧ ((((S2 76 16) >>> (v4 &&& 31)) &&& 1) = 1 → ((5 ≤ v5 → B_X8_spreads_125 k55 post x1 x5 v4 v5 0 S2) ∧ (¬ 5 ≤ v5 → vp_in x5 36 ∧ (wp_X8_comes (x5 + 1) ((S2 81 (ix x5)) + 1) S2 (fun S8 => B_X8_spreads_125 k55 post x1 x5 v4 v5 0 S8)))))))))
def L_X8_spreads_55 (post : St → Prop) (n : Nat) : Int32 → Int32 → St → Prop := Nat.rec (motive := fun _ => Int32 → Int32 → St → Prop) (fun _ _ _ => False) (fun _ ih => BD_X8_spreads_55 ih post) n
def B_X8_spreads_55 (post : St → Prop) (x1 : Int32) (x5 : Int32) (S : St) : Prop := ∃ n, L_X8_spreads_55 post n x1 x5 S
def B_X8_spreads_33 (post : St → Prop) (x1 : Int32) (x2 : Int32) (x3 : Int32) (x4 : Int32) (S : St) : Prop :=
  vp_in (((6 : Int32) * x2) + x4) 36 ∧ (∀ S1 : St, S1 = up S 81 (ix (((6 : Int32) * x2) + x4)) x3 → ∀ v3 : Int32, v3 = (((6 : Int32) * x2) + x4) → B_X8_spreads_55 post x1 v3 S1)
def BD_X8_spreads_3 (k3 : Int32 → Int32 → Int32 → Int32 → Int32 → St → Prop) (post : St → Prop) (x1 : Int32) (x2 : Int32) (x3 : Int32) (x4 : Int32) (x5 : Int32) (S : St) : Prop :=
  ((36 ≤ x5 → B_X8_spreads_33 post x1 x2 x3 x4 S) ∧ (¬ 36 ≤ x5 → vp_in x5 36 ∧ (∀ S2 : St, S2 = up S 81 (ix x5) 100000000 → vp_in x5 36 ∧ (∀ S4 : St, S4 = up S2 82 (ix x5) 0 → k3 x1 x2 x3 x4 (x5 + 1) S4))))
def L_X8_spreads_3 (post : St → Prop) (n : Nat) : Int32 → Int32 → Int32 → Int32 → Int32 → St → Prop := Nat.rec (motive := fun _ => Int32 → Int32 → Int32 → Int32 → Int32 → St → Prop) (fun _ _ _ _ _ _ => False) (fun _ ih => BD_X8_spreads_3 ih post) n
def B_X8_spreads_3 (post : St → Prop) (x1 : Int32) (x2 : Int32) (x3 : Int32) (x4 : Int32) (x5 : Int32) (S : St) : Prop := ∃ n, L_X8_spreads_3 post n x1 x2 x3 x4 x5 S
def wp_X8_spreads (x1 : Int32) (x2 : Int32) (x3 : Int32) (x4 : Int32) (S : St) (post : St → Prop) : Prop :=
  B_X8_spreads_3 post x1 x2 x3 x4 0 S
theorem w_B_X8_spreads_217 {X : Cx} (ok : Ok X cX8_spreads 11 RX8 3 73) {post : St → Prop} (hret : RetV X cX8_spreads 11 post) {k55 : Int32 → Int32 → St → Prop} (hk55 : ∀ x1 x5 S, k55 x1 x5 S → Wp X 11 55 [(0, .ref (xad X 71)), (1, .int x1), (5, .int x5)] [] S) {x1 : Int32} {S : St} (h : B_X8_spreads_217 k55 post x1 S) : Wp X 11 217 [(0, .ref (xad X 71)), (1, .int x1)] [] S := by
  unfold B_X8_spreads_217 at h
  refine r_aload_n ok dX8_spreads_217 0 rfl ?_
  refine cl_X8_228 ok dX8_spreads_218 (by decide) (Nat.le_of_ble_eq_true rfl) h (fun r2 S1 h => ?_)
  refine r_istore ok dX8_spreads_221 (by decide) [(0, .ref (xad X 71)), (1, .int x1), (5, .int r2)] [1, 2, 0] rfl ?_
  refine r_goto (tgt := 55) ok dX8_spreads_223 rfl ?_
  exact hk55 _ _ _ h
theorem w_B_X8_spreads_147 {X : Cx} (ok : Ok X cX8_spreads 11 RX8 3 73) {post : St → Prop} (hret : RetV X cX8_spreads 11 post) {k55 : Int32 → Int32 → St → Prop} (hk55 : ∀ x1 x5 S, k55 x1 x5 S → Wp X 11 55 [(0, .ref (xad X 71)), (1, .int x1), (5, .int x5)] [] S) {k125 : Int32 → Int32 → Int32 → Int32 → Int32 → St → Prop} (hk125 : ∀ x1 x5 x6 x7 x8 S, k125 x1 x5 x6 x7 x8 S → Wp X 11 125 [(0, .ref (xad X 71)), (1, .int x1), (5, .int x5), (6, .int x6), (7, .int x7), (8, .int x8)] [] S) {x1 x5 x6 x7 x8 x9 x10 : Int32} {S : St} (h : B_X8_spreads_147 k55 k125 post x1 x5 x6 x7 x8 x9 x10 S) : Wp X 11 147 [(0, .ref (xad X 71)), (1, .int x1), (5, .int x5), (6, .int x6), (7, .int x7), (8, .int x8), (9, .int x9), (10, .int x10)] [] S := by
  obtain ⟨n, h⟩ := h
  induction n generalizing x1 x5 x6 x7 x8 x9 x10 S with
  | zero => exact False.elim h
  | succ n ih =>
    have hk147 : ∀ x1 x5 x6 x7 x8 x9 x10 S, L_X8_spreads_147 k55 k125 post n x1 x5 x6 x7 x8 x9 x10 S → Wp X 11 147 [(0, .ref (xad X 71)), (1, .int x1), (5, .int x5), (6, .int x6), (7, .int x7), (8, .int x8), (9, .int x9), (10, .int x10)] [] S := by intros; apply ih; assumption
    replace h : BD_X8_spreads_147 k55 k125 (L_X8_spreads_147 k55 k125 post n) post x1 x5 x6 x7 x8 x9 x10 S := h
    unfold BD_X8_spreads_147 at h
    generalize L_X8_spreads_147 k55 k125 post n = k147 at h hk147
    refine r_iload ok dX8_spreads_147 7 rfl ?_
    refine r_iload ok dX8_spreads_149 4 rfl ?_
    refine r_icmp_gt (tgt := 211) ok dX8_spreads_151 rfl (fun hc1 => ?_) (fun hc1 => ?_)
    · replace h := h.1 hc1
      refine r_iinc (v := x8 + 1) ok dX8_spreads_211 5 rfl rfl (by decide) [(0, .ref (xad X 71)), (1, .int x1), (5, .int x5), (6, .int x6), (7, .int x7), (8, .int (x8 + 1))] [1, 2, 3, 4, 5, 0] rfl ?_
      refine r_goto (tgt := 125) ok dX8_spreads_214 rfl ?_
      exact hk125 _ _ _ _ _ _ h
    · replace h := h.2 hc1
      refine r_iload ok dX8_spreads_154 6 rfl ?_
      refine r_iconst (v := (-1)) ok dX8_spreads_156 rfl ?_
      refine r_icmp_eq (tgt := 211) ok dX8_spreads_157 rfl (fun hc2 => ?_) (fun hc2 => ?_)
      · replace h := h.1 hc2
        refine r_iinc (v := x8 + 1) ok dX8_spreads_211 5 rfl rfl (by decide) [(0, .ref (xad X 71)), (1, .int x1), (5, .int x5), (6, .int x6), (7, .int x7), (8, .int (x8 + 1))] [1, 2, 3, 4, 5, 0] rfl ?_
        refine r_goto (tgt := 125) ok dX8_spreads_214 rfl ?_
        exact hk125 _ _ _ _ _ _ h
      · replace h := h.2 hc2
        refine r_aload_n ok dX8_spreads_160 0 rfl ?_
        refine r_bipush (v := 6) ok dX8_spreads_161 rfl ?_
        refine r_iload ok dX8_spreads_163 6 rfl ?_
        refine r_imul ok dX8_spreads_165 ?_
        refine r_iload ok dX8_spreads_166 4 rfl ?_
        refine r_iadd ok dX8_spreads_168 ?_
        refine r_iload ok dX8_spreads_169 7 rfl ?_
        refine r_isub ok dX8_spreads_171 ?_
        refine r_aload_n ok dX8_spreads_172 0 rfl ?_
        refine gf_X8_42 ok dX8_spreads_173 ?_
        refine r_iload ok dX8_spreads_176 2 rfl ?_
        refine r_iald ok ai_81 h.1 rfl dX8_spreads_178 ?_
        replace h := h.2
        refine r_aload_n ok dX8_spreads_179 0 rfl ?_
        refine r_aload_n ok dX8_spreads_180 0 rfl ?_
        refine gf_X8_26 ok dX8_spreads_181 ?_
        refine r_iload_n ok dX8_spreads_184 1 rfl ?_
        refine r_iload ok dX8_spreads_185 5 rfl ?_
        refine r_iload ok dX8_spreads_187 3 rfl ?_
        refine r_aload_n ok dX8_spreads_189 0 rfl ?_
        refine gf_X8_42 ok dX8_spreads_190 ?_
        refine r_iload ok dX8_spreads_193 2 rfl ?_
        refine r_iald ok ai_81 h.1 rfl dX8_spreads_195 ?_
        replace h := h.2
        refine r_iload ok dX8_spreads_196 7 rfl ?_
        refine cl_X8_194 ok ai_76 dX8_spreads_198 (by decide) (Nat.le_of_ble_eq_true rfl) h (fun r4 S3 h => ?_)
        refine r_iadd ok dX8_spreads_201 ?_
        refine cl_X8_224 ok dX8_spreads_202 (by decide) (Nat.le_of_ble_eq_true rfl) h (fun S5 h => ?_)
        refine r_iinc (v := x10 + 1) ok dX8_spreads_205 7 rfl rfl (by decide) [(0, .ref (xad X 71)), (1, .int x1), (5, .int x5), (6, .int x6), (7, .int x7), (8, .int x8), (9, .int x9), (10, .int (x10 + 1))] [1, 2, 3, 4, 5, 6, 7, 0] rfl ?_
        refine r_goto (tgt := 147) ok dX8_spreads_208 rfl ?_
        exact hk147 _ _ _ _ _ _ _ _ h
theorem w_B_X8_spreads_125 {X : Cx} (ok : Ok X cX8_spreads 11 RX8 3 73) {post : St → Prop} (hret : RetV X cX8_spreads 11 post) {k55 : Int32 → Int32 → St → Prop} (hk55 : ∀ x1 x5 S, k55 x1 x5 S → Wp X 11 55 [(0, .ref (xad X 71)), (1, .int x1), (5, .int x5)] [] S) {x1 x5 x6 x7 x8 : Int32} {S : St} (h : B_X8_spreads_125 k55 post x1 x5 x6 x7 x8 S) : Wp X 11 125 [(0, .ref (xad X 71)), (1, .int x1), (5, .int x5), (6, .int x6), (7, .int x7), (8, .int x8)] [] S := by
  obtain ⟨n, h⟩ := h
  induction n generalizing x1 x5 x6 x7 x8 S with
  | zero => exact False.elim h
  | succ n ih =>
    have hk125 : ∀ x1 x5 x6 x7 x8 S, L_X8_spreads_125 k55 post n x1 x5 x6 x7 x8 S → Wp X 11 125 [(0, .ref (xad X 71)), (1, .int x1), (5, .int x5), (6, .int x6), (7, .int x7), (8, .int x8)] [] S := by intros; apply ih; assumption
    replace h : BD_X8_spreads_125 k55 (L_X8_spreads_125 k55 post n) post x1 x5 x6 x7 x8 S := h
    unfold BD_X8_spreads_125 at h
    generalize L_X8_spreads_125 k55 post n = k125 at h hk125
    refine r_iload ok dX8_spreads_125 5 rfl ?_
    refine r_aload_n ok dX8_spreads_127 0 rfl ?_
    refine gf_X8_158 ok dX8_spreads_128 ?_
    refine r_icmp_ge (tgt := 217) ok dX8_spreads_131 rfl (fun hc1 => ?_) (fun hc1 => ?_)
    · replace h := h.1 hc1
      refine r_sub [(0, .ref (xad X 71)), (1, .int x1)] [0, 1] rfl ?_
      exact w_B_X8_spreads_217 ok hret hk55 h
    · replace h := h.2 hc1
      refine r_aload_n ok dX8_spreads_134 0 rfl ?_
      refine r_iload ok dX8_spreads_135 5 rfl ?_
      refine r_iload ok dX8_spreads_137 3 rfl ?_
      refine cl_X8_189 ok dX8_spreads_139 (by decide) (Nat.le_of_ble_eq_true rfl) h (fun r3 S2 h => ?_)
      refine r_istore ok dX8_spreads_142 (by decide) [(0, .ref (xad X 71)), (1, .int x1), (5, .int x5), (6, .int x6), (7, .int x7), (8, .int x8), (9, .int r3)] [1, 2, 3, 4, 5, 6, 0] rfl ?_
      refine r_iconst (v := 0) ok dX8_spreads_144 rfl ?_
      refine r_istore ok dX8_spreads_145 (by decide) [(0, .ref (xad X 71)), (1, .int x1), (5, .int x5), (6, .int x6), (7, .int x7), (8, .int x8), (9, .int r3), (10, .int 0)] [1, 2, 3, 4, 5, 6, 7, 0] rfl ?_
      exact w_B_X8_spreads_147 ok hret hk55 hk125 h
theorem w_B_X8_spreads_55 {X : Cx} (ok : Ok X cX8_spreads 11 RX8 3 73) {post : St → Prop} (hret : RetV X cX8_spreads 11 post) {x1 x5 : Int32} {S : St} (h : B_X8_spreads_55 post x1 x5 S) : Wp X 11 55 [(0, .ref (xad X 71)), (1, .int x1), (5, .int x5)] [] S := by
  obtain ⟨n, h⟩ := h
  induction n generalizing x1 x5 S with
  | zero => exact False.elim h
  | succ n ih =>
    have hk55 : ∀ x1 x5 S, L_X8_spreads_55 post n x1 x5 S → Wp X 11 55 [(0, .ref (xad X 71)), (1, .int x1), (5, .int x5)] [] S := by intros; apply ih; assumption
    replace h : BD_X8_spreads_55 (L_X8_spreads_55 post n) post x1 x5 S := h
    unfold BD_X8_spreads_55 at h
    generalize L_X8_spreads_55 post n = k55 at h hk55
    refine r_iload ok dX8_spreads_55 2 rfl ?_
    refine r_iconst (v := (-1)) ok dX8_spreads_57 rfl ?_
    refine r_icmp_eq (tgt := 226) ok dX8_spreads_58 rfl (fun hc1 => ?_) (fun hc1 => ?_)
    · replace h := h.1 hc1
      exact hret _ _ _ dX8_spreads_226 h
    · replace h := h.2 hc1
      refine r_aload_n ok dX8_spreads_61 0 rfl ?_
      refine gf_X8_45 ok dX8_spreads_62 ?_
      refine r_iload ok dX8_spreads_65 2 rfl ?_
      refine r_iconst (v := 1) ok dX8_spreads_67 rfl ?_
      have hi3 := h.1
      replace h := h.2
      refine r_zast ok az_82 hi3 rfl (Or.inr rfl) dX8_spreads_68 (fun S2 eS2 => ?_)
      replace h := h S2 eS2
      refine r_iload ok dX8_spreads_69 2 rfl ?_
      refine r_bipush (v := 6) ok dX8_spreads_71 rfl ?_
      refine r_idiv ok dX8_spreads_73 (by decide) ?_
      refine r_top (fun v4 ev4 => ?_)
      replace h := h v4 ev4
      refine r_istore ok dX8_spreads_74 (by decide) [(0, .ref (xad X 71)), (1, .int x1), (5, .int x5), (6, .int v4)] [1, 2, 3, 0] rfl ?_
      refine r_iload ok dX8_spreads_76 2 rfl ?_
      refine r_bipush (v := 6) ok dX8_spreads_78 rfl ?_
      refine r_irem ok dX8_spreads_80 (by decide) ?_
      refine r_top (fun v5 ev5 => ?_)
      replace h := h v5 ev5
      refine r_istore ok dX8_spreads_81 (by decide) [(0, .ref (xad X 71)), (1, .int x1), (5, .int x5), (6, .int v4), (7, .int v5)] [1, 2, 3, 4, 0] rfl ?_
      refine r_aload_n ok dX8_spreads_83 0 rfl ?_
      refine gf_X8_26 ok dX8_spreads_84 ?_
      refine r_bipush (v := 16) ok dX8_spreads_87 rfl ?_
      refine r_iald (j := 16) ok ai_76 (in_lit (by decide)) (by decide) dX8_spreads_89 ?_
      refine r_iload ok dX8_spreads_90 3 rfl ?_
      refine r_ishr ok dX8_spreads_92 ?_
      refine r_iconst (v := 1) ok dX8_spreads_93 rfl ?_
      refine r_iand ok dX8_spreads_94 ?_
      refine r_iconst (v := 1) ok dX8_spreads_95 rfl ?_
      refine r_icmp_ne (tgt := 122) ok dX8_spreads_96 rfl (fun hc6 => ?_) (fun hc6 => ?_)
      · replace h := h.1 hc6
        refine r_iconst (v := 0) ok dX8_spreads_122 rfl ?_
        refine r_istore ok dX8_spreads_123 (by decide) [(0, .ref (xad X 71)), (1, .int x1), (5, .int x5), (6, .int v4), (7, .int v5), (8, .int 0)] [1, 2, 3, 4, 5, 0] rfl ?_
        exact w_B_X8_spreads_125 ok hret hk55 h
      · replace h := h.2 hc6
        refine r_iload ok dX8_spreads_99 4 rfl ?_
        refine r_iconst (v := 5) ok dX8_spreads_101 rfl ?_
        refine r_icmp_ge (tgt := 122) ok dX8_spreads_102 rfl (fun hc7 => ?_) (fun hc7 => ?_)
        · replace h := h.1 hc7
          refine r_iconst (v := 0) ok dX8_spreads_122 rfl ?_
          refine r_istore ok dX8_spreads_123 (by decide) [(0, .ref (xad X 71)), (1, .int x1), (5, .int x5), (6, .int v4), (7, .int v5), (8, .int 0)] [1, 2, 3, 4, 5, 0] rfl ?_
          exact w_B_X8_spreads_125 ok hret hk55 h
        · replace h := h.2 hc7
          refine r_aload_n ok dX8_spreads_105 0 rfl ?_
          refine r_iload ok dX8_spreads_106 2 rfl ?_
          refine r_iconst (v := 1) ok dX8_spreads_108 rfl ?_
          refine r_iadd ok dX8_spreads_109 ?_
          refine r_aload_n ok dX8_spreads_110 0 rfl ?_
          refine gf_X8_42 ok dX8_spreads_111 ?_
          refine r_iload ok dX8_spreads_114 2 rfl ?_
          refine r_iald ok ai_81 h.1 rfl dX8_spreads_116 ?_
          replace h := h.2
          refine r_iconst (v := 1) ok dX8_spreads_117 rfl ?_
          refine r_iadd ok dX8_spreads_118 ?_
          refine cl_X8_224 ok dX8_spreads_119 (by decide) (Nat.le_of_ble_eq_true rfl) h (fun S8 h => ?_)
          refine r_iconst (v := 0) ok dX8_spreads_122 rfl ?_
          refine r_istore ok dX8_spreads_123 (by decide) [(0, .ref (xad X 71)), (1, .int x1), (5, .int x5), (6, .int v4), (7, .int v5), (8, .int 0)] [1, 2, 3, 4, 5, 0] rfl ?_
          exact w_B_X8_spreads_125 ok hret hk55 h
theorem w_B_X8_spreads_33 {X : Cx} (ok : Ok X cX8_spreads 11 RX8 3 73) {post : St → Prop} (hret : RetV X cX8_spreads 11 post) {x1 x2 x3 x4 : Int32} {S : St} (h : B_X8_spreads_33 post x1 x2 x3 x4 S) : Wp X 11 33 [(0, .ref (xad X 71)), (1, .int x1), (2, .int x2), (3, .int x3), (4, .int x4)] [] S := by
  unfold B_X8_spreads_33 at h
  refine r_aload_n ok dX8_spreads_33 0 rfl ?_
  refine gf_X8_42 ok dX8_spreads_34 ?_
  refine r_bipush (v := 6) ok dX8_spreads_37 rfl ?_
  refine r_iload_n ok dX8_spreads_39 2 rfl ?_
  refine r_imul ok dX8_spreads_40 ?_
  refine r_iload ok dX8_spreads_41 4 rfl ?_
  refine r_iadd ok dX8_spreads_43 ?_
  refine r_iload_n ok dX8_spreads_44 3 rfl ?_
  have hi2 := h.1
  replace h := h.2
  refine r_iast ok ai_81 hi2 rfl dX8_spreads_45 (fun S1 eS1 => ?_)
  replace h := h S1 eS1
  refine r_bipush (v := 6) ok dX8_spreads_46 rfl ?_
  refine r_iload_n ok dX8_spreads_48 2 rfl ?_
  refine r_imul ok dX8_spreads_49 ?_
  refine r_iload ok dX8_spreads_50 4 rfl ?_
  refine r_iadd ok dX8_spreads_52 ?_
  refine r_top (fun v3 ev3 => ?_)
  replace h := h v3 ev3
  refine r_istore ok dX8_spreads_53 (by decide) [(0, .ref (xad X 71)), (1, .int x1), (5, .int v3)] [1, 2, 0] rfl ?_
  exact w_B_X8_spreads_55 ok hret h
theorem w_B_X8_spreads_3 {X : Cx} (ok : Ok X cX8_spreads 11 RX8 3 73) {post : St → Prop} (hret : RetV X cX8_spreads 11 post) {x1 x2 x3 x4 x5 : Int32} {S : St} (h : B_X8_spreads_3 post x1 x2 x3 x4 x5 S) : Wp X 11 3 [(0, .ref (xad X 71)), (1, .int x1), (2, .int x2), (3, .int x3), (4, .int x4), (5, .int x5)] [] S := by
  obtain ⟨n, h⟩ := h
  induction n generalizing x1 x2 x3 x4 x5 S with
  | zero => exact False.elim h
  | succ n ih =>
    have hk3 : ∀ x1 x2 x3 x4 x5 S, L_X8_spreads_3 post n x1 x2 x3 x4 x5 S → Wp X 11 3 [(0, .ref (xad X 71)), (1, .int x1), (2, .int x2), (3, .int x3), (4, .int x4), (5, .int x5)] [] S := by intros; apply ih; assumption
    replace h : BD_X8_spreads_3 (L_X8_spreads_3 post n) post x1 x2 x3 x4 x5 S := h
    unfold BD_X8_spreads_3 at h
    generalize L_X8_spreads_3 post n = k3 at h hk3
    refine r_iload ok dX8_spreads_3 5 rfl ?_
    refine r_bipush (v := 36) ok dX8_spreads_5 rfl ?_
    refine r_icmp_ge (tgt := 33) ok dX8_spreads_7 rfl (fun hc1 => ?_) (fun hc1 => ?_)
    · replace h := h.1 hc1
      refine r_sub [(0, .ref (xad X 71)), (1, .int x1), (2, .int x2), (3, .int x3), (4, .int x4)] [0, 1, 2, 3, 4] rfl ?_
      exact w_B_X8_spreads_33 ok hret h
    · replace h := h.2 hc1
      refine r_aload_n ok dX8_spreads_10 0 rfl ?_
      refine gf_X8_42 ok dX8_spreads_11 ?_
      refine r_iload ok dX8_spreads_14 5 rfl ?_
      refine r_ldc (v := 100000000) ok dX8_spreads_16 tw_k_X8_223 ?_
      have hi3 := h.1
      replace h := h.2
      refine r_iast ok ai_81 hi3 rfl dX8_spreads_18 (fun S2 eS2 => ?_)
      replace h := h S2 eS2
      refine r_aload_n ok dX8_spreads_19 0 rfl ?_
      refine gf_X8_45 ok dX8_spreads_20 ?_
      refine r_iload ok dX8_spreads_23 5 rfl ?_
      refine r_iconst (v := 0) ok dX8_spreads_25 rfl ?_
      have hi5 := h.1
      replace h := h.2
      refine r_zast ok az_82 hi5 rfl (Or.inl rfl) dX8_spreads_26 (fun S4 eS4 => ?_)
      replace h := h S4 eS4
      refine r_iinc (v := x5 + 1) ok dX8_spreads_27 5 rfl rfl (by decide) [(0, .ref (xad X 71)), (1, .int x1), (2, .int x2), (3, .int x3), (4, .int x4), (5, .int (x5 + 1))] [1, 2, 3, 4, 5, 0] rfl ?_
      refine r_goto (tgt := 3) ok dX8_spreads_30 rfl ?_
      exact hk3 _ _ _ _ _ _ h
theorem w_wp_X8_spreads {X : Cx} (ok : Ok X cX8_spreads 11 RX8 3 73) {post : St → Prop} (hret : RetV X cX8_spreads 11 post) {x1 x2 x3 x4 : Int32} {S : St} (h : wp_X8_spreads x1 x2 x3 x4 S post) : Wp X 11 0 [(0, .ref (xad X 71)), (1, .int x1), (2, .int x2), (3, .int x3), (4, .int x4)] [] S := by
  unfold wp_X8_spreads at h
  refine r_iconst (v := 0) ok dX8_spreads_0 rfl ?_
  refine r_istore ok dX8_spreads_1 (by decide) [(0, .ref (xad X 71)), (1, .int x1), (2, .int x2), (3, .int x3), (4, .int x4), (5, .int 0)] [1, 2, 3, 4, 5, 0] rfl ?_
  exact w_B_X8_spreads_3 ok hret h
theorem c_X8_spreads (l : Launch) (G : Gx) {x1 x2 x3 x4 : Int32} {S : St} {post : St → Prop} (h : wp_X8_spreads x1 x2 x3 x4 S post) : MtV l yX8_spreads cX8_spreads 11 3 73 G [.ref (G.2.2 71), .int x1, .int x2, .int x3, .int x4] S post :=
  ctV (by decide) rfl (Nat.le_of_ble_eq_true rfl) (fun X _ hG ok hret => by subst hG; exact w_wp_X8_spreads ok hret h)

/-! HasteRoadsModel.soonestAt(I)I -/
theorem dX8_soonestAt_0 : decode cX8_soonestAt 0 = .ok (.ldc 223, 2) := by decide +kernel
theorem dX8_soonestAt_2 : decode cX8_soonestAt 2 = .ok (.istore_n 2, 1) := by decide +kernel
theorem dX8_soonestAt_3 : decode cX8_soonestAt 3 = .ok (.iconst 0, 1) := by decide +kernel
theorem dX8_soonestAt_4 : decode cX8_soonestAt 4 = .ok (.istore_n 3, 1) := by decide +kernel
theorem dX8_soonestAt_5 : decode cX8_soonestAt 5 = .ok (.iload_n 3, 1) := by decide +kernel
theorem dX8_soonestAt_6 : decode cX8_soonestAt 6 = .ok (.bipush 6, 2) := by decide +kernel
theorem dX8_soonestAt_8 : decode cX8_soonestAt 8 = .ok (.if_icmp .ge 40, 3) := by decide +kernel
theorem dX8_soonestAt_11 : decode cX8_soonestAt 11 = .ok (.aload_n 0, 1) := by decide +kernel
theorem dX8_soonestAt_12 : decode cX8_soonestAt 12 = .ok (.getfield 42, 3) := by decide +kernel
theorem dX8_soonestAt_15 : decode cX8_soonestAt 15 = .ok (.bipush 6, 2) := by decide +kernel
theorem dX8_soonestAt_17 : decode cX8_soonestAt 17 = .ok (.iload_n 1, 1) := by decide +kernel
theorem dX8_soonestAt_18 : decode cX8_soonestAt 18 = .ok (.imul, 1) := by decide +kernel
theorem dX8_soonestAt_19 : decode cX8_soonestAt 19 = .ok (.iload_n 3, 1) := by decide +kernel
theorem dX8_soonestAt_20 : decode cX8_soonestAt 20 = .ok (.iadd, 1) := by decide +kernel
theorem dX8_soonestAt_21 : decode cX8_soonestAt 21 = .ok (.iaload, 1) := by decide +kernel
theorem dX8_soonestAt_22 : decode cX8_soonestAt 22 = .ok (.iload_n 2, 1) := by decide +kernel
theorem dX8_soonestAt_23 : decode cX8_soonestAt 23 = .ok (.if_icmp .ge 17, 3) := by decide +kernel
theorem dX8_soonestAt_26 : decode cX8_soonestAt 26 = .ok (.aload_n 0, 1) := by decide +kernel
theorem dX8_soonestAt_27 : decode cX8_soonestAt 27 = .ok (.getfield 42, 3) := by decide +kernel
theorem dX8_soonestAt_30 : decode cX8_soonestAt 30 = .ok (.bipush 6, 2) := by decide +kernel
theorem dX8_soonestAt_32 : decode cX8_soonestAt 32 = .ok (.iload_n 1, 1) := by decide +kernel
theorem dX8_soonestAt_33 : decode cX8_soonestAt 33 = .ok (.imul, 1) := by decide +kernel
theorem dX8_soonestAt_34 : decode cX8_soonestAt 34 = .ok (.iload_n 3, 1) := by decide +kernel
theorem dX8_soonestAt_35 : decode cX8_soonestAt 35 = .ok (.iadd, 1) := by decide +kernel
theorem dX8_soonestAt_36 : decode cX8_soonestAt 36 = .ok (.iaload, 1) := by decide +kernel
theorem dX8_soonestAt_37 : decode cX8_soonestAt 37 = .ok (.goto 4, 3) := by decide +kernel
theorem dX8_soonestAt_40 : decode cX8_soonestAt 40 = .ok (.iload_n 2, 1) := by decide +kernel
theorem dX8_soonestAt_41 : decode cX8_soonestAt 41 = .ok (.istore_n 2, 1) := by decide +kernel
theorem dX8_soonestAt_42 : decode cX8_soonestAt 42 = .ok (.iinc 3 1, 3) := by decide +kernel
theorem dX8_soonestAt_45 : decode cX8_soonestAt 45 = .ok (.goto (-40), 3) := by decide +kernel
theorem dX8_soonestAt_48 : decode cX8_soonestAt 48 = .ok (.iload_n 2, 1) := by decide +kernel
theorem dX8_soonestAt_49 : decode cX8_soonestAt 49 = .ok (.ireturn, 1) := by decide +kernel

def BD_X8_soonestAt_5 (k5 : Int32 → Int32 → Int32 → St → Prop) (post : Int32 → St → Prop) (x1 : Int32) (x2 : Int32) (x3 : Int32) (S : St) : Prop :=
  ((6 ≤ x3 → post x2 S) ∧ (¬ 6 ≤ x3 → vp_in (((6 : Int32) * x1) + x3) 36 ∧ (((x2 ≤ (S 81 (ix (((6 : Int32) * x1) + x3))) → k5 x1 x2 (x3 + 1) S) ∧ (¬ x2 ≤ (S 81 (ix (((6 : Int32) * x1) + x3))) → vp_in (((6 : Int32) * x1) + x3) 36 ∧ (∀ v3 : Int32, v3 = (S 81 (ix (((6 : Int32) * x1) + x3))) → k5 x1 v3 (x3 + 1) S))))))
def L_X8_soonestAt_5 (post : Int32 → St → Prop) (n : Nat) : Int32 → Int32 → Int32 → St → Prop := Nat.rec (motive := fun _ => Int32 → Int32 → Int32 → St → Prop) (fun _ _ _ _ => False) (fun _ ih => BD_X8_soonestAt_5 ih post) n
def B_X8_soonestAt_5 (post : Int32 → St → Prop) (x1 : Int32) (x2 : Int32) (x3 : Int32) (S : St) : Prop := ∃ n, L_X8_soonestAt_5 post n x1 x2 x3 S
def wp_X8_soonestAt (x1 : Int32) (S : St) (post : Int32 → St → Prop) : Prop :=
  B_X8_soonestAt_5 post x1 100000000 0 S
theorem w_B_X8_soonestAt_5 {X : Cx} (ok : Ok X cX8_soonestAt 4 RX8 0 0) {post : Int32 → St → Prop} (hret : RetI X cX8_soonestAt 4 post) {x1 x2 x3 : Int32} {S : St} (h : B_X8_soonestAt_5 post x1 x2 x3 S) : Wp X 4 5 [(0, .ref (xad X 71)), (1, .int x1), (2, .int x2), (3, .int x3)] [] S := by
  obtain ⟨n, h⟩ := h
  induction n generalizing x1 x2 x3 S with
  | zero => exact False.elim h
  | succ n ih =>
    have hk5 : ∀ x1 x2 x3 S, L_X8_soonestAt_5 post n x1 x2 x3 S → Wp X 4 5 [(0, .ref (xad X 71)), (1, .int x1), (2, .int x2), (3, .int x3)] [] S := by intros; apply ih; assumption
    replace h : BD_X8_soonestAt_5 (L_X8_soonestAt_5 post n) post x1 x2 x3 S := h
    unfold BD_X8_soonestAt_5 at h
    generalize L_X8_soonestAt_5 post n = k5 at h hk5
    refine r_iload_n ok dX8_soonestAt_5 3 rfl ?_
    refine r_bipush (v := 6) ok dX8_soonestAt_6 rfl ?_
    refine r_icmp_ge (tgt := 48) ok dX8_soonestAt_8 rfl (fun hc1 => ?_) (fun hc1 => ?_)
    · replace h := h.1 hc1
      refine r_iload_n ok dX8_soonestAt_48 2 rfl ?_
      exact hret _ _ _ _ dX8_soonestAt_49 h
    · replace h := h.2 hc1
      refine r_aload_n ok dX8_soonestAt_11 0 rfl ?_
      refine gf_X8_42 ok dX8_soonestAt_12 ?_
      refine r_bipush (v := 6) ok dX8_soonestAt_15 rfl ?_
      refine r_iload_n ok dX8_soonestAt_17 1 rfl ?_
      refine r_imul ok dX8_soonestAt_18 ?_
      refine r_iload_n ok dX8_soonestAt_19 3 rfl ?_
      refine r_iadd ok dX8_soonestAt_20 ?_
      refine r_iald ok ai_81 h.1 rfl dX8_soonestAt_21 ?_
      replace h := h.2
      refine r_iload_n ok dX8_soonestAt_22 2 rfl ?_
      refine r_icmp_ge (tgt := 40) ok dX8_soonestAt_23 rfl (fun hc2 => ?_) (fun hc2 => ?_)
      · replace h := h.1 hc2
        refine r_iload_n ok dX8_soonestAt_40 2 rfl ?_
        refine r_istore_n ok dX8_soonestAt_41 (by decide) [(0, .ref (xad X 71)), (1, .int x1), (2, .int x2), (3, .int x3)] [1, 2, 0, 3] rfl ?_
        refine r_iinc (v := x3 + 1) ok dX8_soonestAt_42 3 rfl rfl (by decide) [(0, .ref (xad X 71)), (1, .int x1), (2, .int x2), (3, .int (x3 + 1))] [1, 2, 3, 0] rfl ?_
        refine r_goto (tgt := 5) ok dX8_soonestAt_45 rfl ?_
        exact hk5 _ _ _ _ h
      · replace h := h.2 hc2
        refine r_aload_n ok dX8_soonestAt_26 0 rfl ?_
        refine gf_X8_42 ok dX8_soonestAt_27 ?_
        refine r_bipush (v := 6) ok dX8_soonestAt_30 rfl ?_
        refine r_iload_n ok dX8_soonestAt_32 1 rfl ?_
        refine r_imul ok dX8_soonestAt_33 ?_
        refine r_iload_n ok dX8_soonestAt_34 3 rfl ?_
        refine r_iadd ok dX8_soonestAt_35 ?_
        refine r_iald ok ai_81 h.1 rfl dX8_soonestAt_36 ?_
        replace h := h.2
        refine r_goto (tgt := 41) ok dX8_soonestAt_37 rfl ?_
        refine r_top (fun v3 ev3 => ?_)
        replace h := h v3 ev3
        refine r_istore_n ok dX8_soonestAt_41 (by decide) [(0, .ref (xad X 71)), (1, .int x1), (2, .int v3), (3, .int x3)] [1, 2, 0, 3] rfl ?_
        refine r_iinc (v := x3 + 1) ok dX8_soonestAt_42 3 rfl rfl (by decide) [(0, .ref (xad X 71)), (1, .int x1), (2, .int v3), (3, .int (x3 + 1))] [1, 2, 3, 0] rfl ?_
        refine r_goto (tgt := 5) ok dX8_soonestAt_45 rfl ?_
        exact hk5 _ _ _ _ h
theorem w_wp_X8_soonestAt {X : Cx} (ok : Ok X cX8_soonestAt 4 RX8 0 0) {post : Int32 → St → Prop} (hret : RetI X cX8_soonestAt 4 post) {x1 : Int32} {S : St} (h : wp_X8_soonestAt x1 S post) : Wp X 4 0 [(0, .ref (xad X 71)), (1, .int x1)] [] S := by
  unfold wp_X8_soonestAt at h
  refine r_ldc (v := 100000000) ok dX8_soonestAt_0 tw_k_X8_223 ?_
  refine r_istore_n ok dX8_soonestAt_2 (by decide) [(0, .ref (xad X 71)), (1, .int x1), (2, .int 100000000)] [1, 2, 0] rfl ?_
  refine r_iconst (v := 0) ok dX8_soonestAt_3 rfl ?_
  refine r_istore_n ok dX8_soonestAt_4 (by decide) [(0, .ref (xad X 71)), (1, .int x1), (2, .int 100000000), (3, .int 0)] [1, 2, 3, 0] rfl ?_
  exact w_B_X8_soonestAt_5 ok hret h
theorem c_X8_soonestAt (l : Launch) (G : Gx) {x1 : Int32} {S : St} {post : Int32 → St → Prop} (h : wp_X8_soonestAt x1 S post) : MtI l yX8_soonestAt cX8_soonestAt 4 (some .int) 0 0 G [.ref (G.2.2 71), .int x1] S post :=
  ctI (by decide) rfl (Nat.le_of_ble_eq_true rfl) (fun X _ hG ok hret => by subst hG; exact w_wp_X8_soonestAt ok hret h)

/-! HasteRoadsModel.soonestOf(II)I -/
theorem dX8_soonestOf_0 : decode cX8_soonestOf 0 = .ok (.aload_n 0, 1) := by decide +kernel
theorem dX8_soonestOf_1 : decode cX8_soonestOf 1 = .ok (.iload_n 1, 1) := by decide +kernel
theorem dX8_soonestOf_2 : decode cX8_soonestOf 2 = .ok (.aload_n 0, 1) := by decide +kernel
theorem dX8_soonestOf_3 : decode cX8_soonestOf 3 = .ok (.getfield 26, 3) := by decide +kernel
theorem dX8_soonestOf_6 : decode cX8_soonestOf 6 = .ok (.iconst 4, 1) := by decide +kernel
theorem dX8_soonestOf_7 : decode cX8_soonestOf 7 = .ok (.iload_n 1, 1) := by decide +kernel
theorem dX8_soonestOf_8 : decode cX8_soonestOf 8 = .ok (.imul, 1) := by decide +kernel
theorem dX8_soonestOf_9 : decode cX8_soonestOf 9 = .ok (.iaload, 1) := by decide +kernel
theorem dX8_soonestOf_10 : decode cX8_soonestOf 10 = .ok (.aload_n 0, 1) := by decide +kernel
theorem dX8_soonestOf_11 : decode cX8_soonestOf 11 = .ok (.getfield 26, 3) := by decide +kernel
theorem dX8_soonestOf_14 : decode cX8_soonestOf 14 = .ok (.iconst 4, 1) := by decide +kernel
theorem dX8_soonestOf_15 : decode cX8_soonestOf 15 = .ok (.iload_n 1, 1) := by decide +kernel
theorem dX8_soonestOf_16 : decode cX8_soonestOf 16 = .ok (.imul, 1) := by decide +kernel
theorem dX8_soonestOf_17 : decode cX8_soonestOf 17 = .ok (.iconst 3, 1) := by decide +kernel
theorem dX8_soonestOf_18 : decode cX8_soonestOf 18 = .ok (.iadd, 1) := by decide +kernel
theorem dX8_soonestOf_19 : decode cX8_soonestOf 19 = .ok (.iaload, 1) := by decide +kernel
theorem dX8_soonestOf_20 : decode cX8_soonestOf 20 = .ok (.aload_n 0, 1) := by decide +kernel
theorem dX8_soonestOf_21 : decode cX8_soonestOf 21 = .ok (.getfield 26, 3) := by decide +kernel
theorem dX8_soonestOf_24 : decode cX8_soonestOf 24 = .ok (.iconst 4, 1) := by decide +kernel
theorem dX8_soonestOf_25 : decode cX8_soonestOf 25 = .ok (.iload_n 1, 1) := by decide +kernel
theorem dX8_soonestOf_26 : decode cX8_soonestOf 26 = .ok (.imul, 1) := by decide +kernel
theorem dX8_soonestOf_27 : decode cX8_soonestOf 27 = .ok (.iconst 1, 1) := by decide +kernel
theorem dX8_soonestOf_28 : decode cX8_soonestOf 28 = .ok (.iadd, 1) := by decide +kernel
theorem dX8_soonestOf_29 : decode cX8_soonestOf 29 = .ok (.iaload, 1) := by decide +kernel
theorem dX8_soonestOf_30 : decode cX8_soonestOf 30 = .ok (.invokevirtual 231, 3) := by decide +kernel
theorem dX8_soonestOf_33 : decode cX8_soonestOf 33 = .ok (.aload_n 0, 1) := by decide +kernel
theorem dX8_soonestOf_34 : decode cX8_soonestOf 34 = .ok (.iload_n 2, 1) := by decide +kernel
theorem dX8_soonestOf_35 : decode cX8_soonestOf 35 = .ok (.invokevirtual 235, 3) := by decide +kernel
theorem dX8_soonestOf_38 : decode cX8_soonestOf 38 = .ok (.ireturn, 1) := by decide +kernel
theorem cl_X8_231 {X : Cx} {cc : ByteArray} {nL pc fr lo : Nat} {L : List (Nat × Value)} {st : List Value} {S : St} (ok : Ok X cc nL RX8 fr lo) {x1 x2 x3 x4 : Int32} (d : decode cc pc = .ok (.invokevirtual 231, 3)) (hroom : 4 ≤ fr ∧ 103 ≤ lo) (hst : (st.map fun v => v.category).sum ≤ 8) {post : St → Prop} (h : wp_X8_spreads x1 x2 x3 x4 S post) (kk : ∀ S1 : St, post S1 → Wp X nL (pc + 3) L st S1) : Wp X nL pc L (.int x4 :: .int x3 :: .int x2 :: .int x1 :: .ref (xad X 71) :: st) S :=
  r_callVv (n := 11) (f := 3) (lo1 := 73) (N := 4) (As := [.int x1, .int x2, .int x3, .int x4]) ok tw_in_X8 tw_im_X8_spreads tw_se_X8_spreads tw_co_X8_spreads tw_ml_X8_231 (by decide +kernel) rfl ob_71 rfl hroom hst d rfl (c_X8_spreads (xl X) (xG X) h) kk
theorem cl_X8_235 {X : Cx} {cc : ByteArray} {nL pc fr lo : Nat} {L : List (Nat × Value)} {st : List Value} {S : St} (ok : Ok X cc nL RX8 fr lo) {x1 : Int32} (d : decode cc pc = .ok (.invokevirtual 235, 3)) (hroom : 1 ≤ fr ∧ 23 ≤ lo) (hst : (st.map fun v => v.category).sum ≤ 8) {post : Int32 → St → Prop} (h : wp_X8_soonestAt x1 S post) (kk : ∀ (r : Int32) (S1 : St), post r S1 → Wp X nL (pc + 3) L (.int r :: st) S1) : Wp X nL pc L (.int x1 :: .ref (xad X 71) :: st) S :=
  r_callVi (n := 4) (f := 0) (lo1 := 0) (N := 1) (As := [.int x1]) ok tw_in_X8 tw_im_X8_soonestAt tw_se_X8_soonestAt tw_co_X8_soonestAt tw_ml_X8_235 (by decide +kernel) rfl ob_71 rfl hroom hst d rfl (c_X8_soonestAt (xl X) (xG X) h) kk
def wp_X8_soonestOf (x1 : Int32) (x2 : Int32) (S : St) (post : Int32 → St → Prop) : Prop :=
  vp_in ((4 : Int32) * x1) 28 ∧ (vp_in (((4 : Int32) * x1) + 3) 28 ∧ (vp_in (((4 : Int32) * x1) + 1) 28 ∧ (wp_X8_spreads x1 (S 76 (ix ((4 : Int32) * x1))) (S 76 (ix (((4 : Int32) * x1) + 3))) (S 76 (ix (((4 : Int32) * x1) + 1))) S (fun S1 => wp_X8_soonestAt x2 S1 (fun r3 S2 => post r3 S2)))))
theorem w_wp_X8_soonestOf {X : Cx} (ok : Ok X cX8_soonestOf 3 RX8 4 103) {post : Int32 → St → Prop} (hret : RetI X cX8_soonestOf 3 post) {x1 x2 : Int32} {S : St} (h : wp_X8_soonestOf x1 x2 S post) : Wp X 3 0 [(0, .ref (xad X 71)), (1, .int x1), (2, .int x2)] [] S := by
  unfold wp_X8_soonestOf at h
  refine r_aload_n ok dX8_soonestOf_0 0 rfl ?_
  refine r_iload_n ok dX8_soonestOf_1 1 rfl ?_
  refine r_aload_n ok dX8_soonestOf_2 0 rfl ?_
  refine gf_X8_26 ok dX8_soonestOf_3 ?_
  refine r_iconst (v := 4) ok dX8_soonestOf_6 rfl ?_
  refine r_iload_n ok dX8_soonestOf_7 1 rfl ?_
  refine r_imul ok dX8_soonestOf_8 ?_
  refine r_iald ok ai_76 h.1 rfl dX8_soonestOf_9 ?_
  replace h := h.2
  refine r_aload_n ok dX8_soonestOf_10 0 rfl ?_
  refine gf_X8_26 ok dX8_soonestOf_11 ?_
  refine r_iconst (v := 4) ok dX8_soonestOf_14 rfl ?_
  refine r_iload_n ok dX8_soonestOf_15 1 rfl ?_
  refine r_imul ok dX8_soonestOf_16 ?_
  refine r_iconst (v := 3) ok dX8_soonestOf_17 rfl ?_
  refine r_iadd ok dX8_soonestOf_18 ?_
  refine r_iald ok ai_76 h.1 rfl dX8_soonestOf_19 ?_
  replace h := h.2
  refine r_aload_n ok dX8_soonestOf_20 0 rfl ?_
  refine gf_X8_26 ok dX8_soonestOf_21 ?_
  refine r_iconst (v := 4) ok dX8_soonestOf_24 rfl ?_
  refine r_iload_n ok dX8_soonestOf_25 1 rfl ?_
  refine r_imul ok dX8_soonestOf_26 ?_
  refine r_iconst (v := 1) ok dX8_soonestOf_27 rfl ?_
  refine r_iadd ok dX8_soonestOf_28 ?_
  refine r_iald ok ai_76 h.1 rfl dX8_soonestOf_29 ?_
  replace h := h.2
  refine cl_X8_231 ok dX8_soonestOf_30 (by decide) (Nat.le_of_ble_eq_true rfl) h (fun S1 h => ?_)
  refine r_aload_n ok dX8_soonestOf_33 0 rfl ?_
  refine r_iload_n ok dX8_soonestOf_34 2 rfl ?_
  refine cl_X8_235 ok dX8_soonestOf_35 (by decide) (Nat.le_of_ble_eq_true rfl) h (fun r3 S2 h => ?_)
  exact hret _ _ _ _ dX8_soonestOf_38 h
theorem c_X8_soonestOf (l : Launch) (G : Gx) {x1 x2 : Int32} {S : St} {post : Int32 → St → Prop} (h : wp_X8_soonestOf x1 x2 S post) : MtI l yX8_soonestOf cX8_soonestOf 3 (some .int) 4 103 G [.ref (G.2.2 71), .int x1, .int x2] S post :=
  ctI (by decide) rfl (Nat.le_of_ble_eq_true rfl) (fun X _ hG ok hret => by subst hG; exact w_wp_X8_soonestOf ok hret h)

/-! HasteRoadsModel.told(ZI)I -/
theorem dX8_told__0 : decode cX8_told_ 0 = .ok (.iload_n 0, 1) := by decide +kernel
theorem dX8_told__1 : decode cX8_told_ 1 = .ok (.ifCond .eq 7, 3) := by decide +kernel
theorem dX8_told__4 : decode cX8_told_ 4 = .ok (.iload_n 1, 1) := by decide +kernel
theorem dX8_told__5 : decode cX8_told_ 5 = .ok (.goto 4, 3) := by decide +kernel
theorem dX8_told__8 : decode cX8_told_ 8 = .ok (.iconst (-1), 1) := by decide +kernel
theorem dX8_told__9 : decode cX8_told_ 9 = .ok (.ireturn, 1) := by decide +kernel

def wp_X8_told_ (x0 : Int32) (x1 : Int32) (S : St) (post : Int32 → St → Prop) : Prop :=
  ((x0 = 0 → post (-1) S) ∧ (¬ x0 = 0 → post x1 S))
theorem w_wp_X8_told_ {X : Cx} (ok : Ok X cX8_told_ 2 RX8 0 0) {post : Int32 → St → Prop} (hret : RetI X cX8_told_ 2 post) {x0 x1 : Int32} {S : St} (h : wp_X8_told_ x0 x1 S post) : Wp X 2 0 [(0, .int x0), (1, .int x1)] [] S := by
  unfold wp_X8_told_ at h
  refine r_iload_n ok dX8_told__0 0 rfl ?_
  refine r_if_eq (tgt := 8) ok dX8_told__1 rfl (fun hc1 => ?_) (fun hc1 => ?_)
  · replace h := h.1 hc1
    refine r_iconst (v := (-1)) ok dX8_told__8 rfl ?_
    exact hret _ _ _ _ dX8_told__9 h
  · replace h := h.2 hc1
    refine r_iload_n ok dX8_told__4 1 rfl ?_
    refine r_goto (tgt := 9) ok dX8_told__5 rfl ?_
    exact hret _ _ _ _ dX8_told__9 h
theorem c_X8_told_ (l : Launch) (G : Gx) {x0 x1 : Int32} {S : St} {post : Int32 → St → Prop} (h : wp_X8_told_ x0 x1 S post) : MtI l yX8_told_ cX8_told_ 2 (some .int) 0 0 G [.int x0, .int x1] S post :=
  ctI (by decide) rfl (Nat.le_of_ble_eq_true rfl) (fun X _ hG ok hret => by subst hG; exact w_wp_X8_told_ ok hret h)

/-! HasteRoadsModel.soonest(II)I -/
theorem dX8_soonest_0 : decode cX8_soonest 0 = .ok (.aload_n 0, 1) := by decide +kernel
theorem dX8_soonest_1 : decode cX8_soonest 1 = .ok (.iconst 0, 1) := by decide +kernel
theorem dX8_soonest_2 : decode cX8_soonest 2 = .ok (.putfield 75, 3) := by decide +kernel
theorem dX8_soonest_5 : decode cX8_soonest 5 = .ok (.aload_n 0, 1) := by decide +kernel
theorem dX8_soonest_6 : decode cX8_soonest 6 = .ok (.iload_n 1, 1) := by decide +kernel
theorem dX8_soonest_7 : decode cX8_soonest 7 = .ok (.invokevirtual 182, 3) := by decide +kernel
theorem dX8_soonest_10 : decode cX8_soonest 10 = .ok (.ifCond .eq 11, 3) := by decide +kernel
theorem dX8_soonest_13 : decode cX8_soonest 13 = .ok (.aload_n 0, 1) := by decide +kernel
theorem dX8_soonest_14 : decode cX8_soonest 14 = .ok (.iload_n 2, 1) := by decide +kernel
theorem dX8_soonest_15 : decode cX8_soonest 15 = .ok (.invokevirtual 185, 3) := by decide +kernel
theorem dX8_soonest_18 : decode cX8_soonest 18 = .ok (.ifCond .ne 6, 3) := by decide +kernel
theorem dX8_soonest_21 : decode cX8_soonest 21 = .ok (.ldc 174, 2) := by decide +kernel
theorem dX8_soonest_23 : decode cX8_soonest 23 = .ok (.ireturn, 1) := by decide +kernel
theorem dX8_soonest_24 : decode cX8_soonest 24 = .ok (.aload_n 0, 1) := by decide +kernel
theorem dX8_soonest_25 : decode cX8_soonest 25 = .ok (.invokevirtual 238, 3) := by decide +kernel
theorem dX8_soonest_28 : decode cX8_soonest 28 = .ok (.aload_n 0, 1) := by decide +kernel
theorem dX8_soonest_29 : decode cX8_soonest 29 = .ok (.iload_n 1, 1) := by decide +kernel
theorem dX8_soonest_30 : decode cX8_soonest 30 = .ok (.iload_n 2, 1) := by decide +kernel
theorem dX8_soonest_31 : decode cX8_soonest 31 = .ok (.invokevirtual 241, 3) := by decide +kernel
theorem dX8_soonest_34 : decode cX8_soonest 34 = .ok (.istore_n 3, 1) := by decide +kernel
theorem dX8_soonest_35 : decode cX8_soonest 35 = .ok (.iload_n 3, 1) := by decide +kernel
theorem dX8_soonest_36 : decode cX8_soonest 36 = .ok (.ldc 223, 2) := by decide +kernel
theorem dX8_soonest_38 : decode cX8_soonest 38 = .ok (.if_icmp .ge 7, 3) := by decide +kernel
theorem dX8_soonest_41 : decode cX8_soonest 41 = .ok (.iconst 1, 1) := by decide +kernel
theorem dX8_soonest_42 : decode cX8_soonest 42 = .ok (.goto 4, 3) := by decide +kernel
theorem dX8_soonest_45 : decode cX8_soonest 45 = .ok (.iconst 0, 1) := by decide +kernel
theorem dX8_soonest_46 : decode cX8_soonest 46 = .ok (.iload_n 3, 1) := by decide +kernel
theorem dX8_soonest_47 : decode cX8_soonest 47 = .ok (.invokestatic 244, 3) := by decide +kernel
theorem dX8_soonest_50 : decode cX8_soonest 50 = .ok (.ireturn, 1) := by decide +kernel
theorem cl_X8_238 {X : Cx} {cc : ByteArray} {nL pc fr lo : Nat} {L : List (Nat × Value)} {st : List Value} {S : St} (ok : Ok X cc nL RX8 fr lo) (d : decode cc pc = .ok (.invokevirtual 238, 3)) (hroom : 1 ≤ fr ∧ 21 ≤ lo) (hst : (st.map fun v => v.category).sum ≤ 8) {post : St → Prop} (h : wp_X8_asNow S post) (kk : ∀ S1 : St, post S1 → Wp X nL (pc + 3) L st S1) : Wp X nL pc L (.ref (xad X 71) :: st) S :=
  r_callVv (n := 2) (f := 0) (lo1 := 0) (N := 0) (As := []) ok tw_in_X8 tw_im_X8_asNow tw_se_X8_asNow tw_co_X8_asNow tw_ml_X8_238 (by decide +kernel) rfl ob_71 rfl hroom hst d rfl (c_X8_asNow (xl X) (xG X) h) kk
theorem cl_X8_241 {X : Cx} {cc : ByteArray} {nL pc fr lo : Nat} {L : List (Nat × Value)} {st : List Value} {S : St} (ok : Ok X cc nL RX8 fr lo) {x1 x2 : Int32} (d : decode cc pc = .ok (.invokevirtual 241, 3)) (hroom : 5 ≤ fr ∧ 125 ≤ lo) (hst : (st.map fun v => v.category).sum ≤ 8) {post : Int32 → St → Prop} (h : wp_X8_soonestOf x1 x2 S post) (kk : ∀ (r : Int32) (S1 : St), post r S1 → Wp X nL (pc + 3) L (.int r :: st) S1) : Wp X nL pc L (.int x2 :: .int x1 :: .ref (xad X 71) :: st) S :=
  r_callVi (n := 3) (f := 4) (lo1 := 103) (N := 2) (As := [.int x1, .int x2]) ok tw_in_X8 tw_im_X8_soonestOf tw_se_X8_soonestOf tw_co_X8_soonestOf tw_ml_X8_241 (by decide +kernel) rfl ob_71 rfl hroom hst d rfl (c_X8_soonestOf (xl X) (xG X) h) kk
theorem cl_X8_244 {X : Cx} {cc : ByteArray} {nL pc fr lo : Nat} {L : List (Nat × Value)} {st : List Value} {S : St} (ok : Ok X cc nL RX8 fr lo) {x0 x1 : Int32} (d : decode cc pc = .ok (.invokestatic 244, 3)) (hroom : 1 ≤ fr ∧ 21 ≤ lo) (hst : (st.map fun v => v.category).sum ≤ 8) {post : Int32 → St → Prop} (h : wp_X8_told_ x0 x1 S post) (kk : ∀ (r : Int32) (S1 : St), post r S1 → Wp X nL (pc + 3) L (.int r :: st) S1) : Wp X nL pc L (.int x1 :: .int x0 :: st) S :=
  r_callSi (n := 2) (f := 0) (lo1 := 0) (N := 2) (As := [.int x0, .int x1]) ok tw_in_X8 tw_st_X8_told_ tw_co_X8_told_ tw_ml_X8_244 (by decide +kernel) rfl hroom hst d rfl (c_X8_told_ (xl X) (xG X) h) kk
def wp_X8_soonest (x1 : Int32) (x2 : Int32) (S : St) (post : Int32 → St → Prop) : Prop :=
  ∀ S1 : St, S1 = up S 71 0 0 → wp_X8_isPerson x1 S1 (fun r3 S2 => ((r3 = 0 → post (-1000000001) S2) ∧ (¬ r3 = 0 → wp_X8_isPlace x2 S2 (fun r6 S5 => ((¬ r6 = 0 → wp_X8_asNow S5 (fun S8 => wp_X8_soonestOf x1 x2 S8 (fun r10 S9 => ((100000000 ≤ r10 → wp_X8_told_ 0 r10 S9 (fun r13 S12 => post r13 S12)) ∧ (¬ 100000000 ≤ r10 → wp_X8_told_ 1 r10 S9 (fun r15 S14 => post r15 S14)))))) ∧ (r6 = 0 → post (-1000000001) S5))))))
theorem w_wp_X8_soonest {X : Cx} (ok : Ok X cX8_soonest 4 RX8 5 125) {post : Int32 → St → Prop} (hret : RetI X cX8_soonest 4 post) {x1 x2 : Int32} {S : St} (h : wp_X8_soonest x1 x2 S post) : Wp X 4 0 [(0, .ref (xad X 71)), (1, .int x1), (2, .int x2)] [] S := by
  unfold wp_X8_soonest at h
  refine r_aload_n ok dX8_soonest_0 0 rfl ?_
  refine r_iconst (v := 0) ok dX8_soonest_1 rfl ?_
  refine pf_X8_75 ok dX8_soonest_2 (fun S1 eS1 => ?_)
  replace h := h S1 eS1
  refine r_aload_n ok dX8_soonest_5 0 rfl ?_
  refine r_iload_n ok dX8_soonest_6 1 rfl ?_
  refine cl_X8_182 ok dX8_soonest_7 (by decide) (Nat.le_of_ble_eq_true rfl) h (fun r3 S2 h => ?_)
  refine r_if_eq (tgt := 21) ok dX8_soonest_10 rfl (fun hc4 => ?_) (fun hc4 => ?_)
  · replace h := h.1 hc4
    refine r_ldc (v := (-1000000001)) ok dX8_soonest_21 tw_k_X8_174 ?_
    exact hret _ _ _ _ dX8_soonest_23 h
  · replace h := h.2 hc4
    refine r_aload_n ok dX8_soonest_13 0 rfl ?_
    refine r_iload_n ok dX8_soonest_14 2 rfl ?_
    refine cl_X8_185 ok dX8_soonest_15 (by decide) (Nat.le_of_ble_eq_true rfl) h (fun r6 S5 h => ?_)
    refine r_if_ne (tgt := 24) ok dX8_soonest_18 rfl (fun hc7 => ?_) (fun hc7 => ?_)
    · replace h := h.1 hc7
      refine r_aload_n ok dX8_soonest_24 0 rfl ?_
      refine cl_X8_238 ok dX8_soonest_25 (by decide) (Nat.le_of_ble_eq_true rfl) h (fun S8 h => ?_)
      refine r_aload_n ok dX8_soonest_28 0 rfl ?_
      refine r_iload_n ok dX8_soonest_29 1 rfl ?_
      refine r_iload_n ok dX8_soonest_30 2 rfl ?_
      refine cl_X8_241 ok dX8_soonest_31 (by decide) (Nat.le_of_ble_eq_true rfl) h (fun r10 S9 h => ?_)
      refine r_istore_n ok dX8_soonest_34 (by decide) [(3, .int r10)] [0] rfl ?_
      refine r_iload_n ok dX8_soonest_35 0 rfl ?_
      refine r_ldc (v := 100000000) ok dX8_soonest_36 tw_k_X8_223 ?_
      refine r_icmp_ge (tgt := 45) ok dX8_soonest_38 rfl (fun hc11 => ?_) (fun hc11 => ?_)
      · replace h := h.1 hc11
        refine r_iconst (v := 0) ok dX8_soonest_45 rfl ?_
        refine r_iload_n ok dX8_soonest_46 0 rfl ?_
        refine cl_X8_244 ok dX8_soonest_47 (by decide) (Nat.le_of_ble_eq_true rfl) h (fun r13 S12 h => ?_)
        exact hret _ _ _ _ dX8_soonest_50 h
      · replace h := h.2 hc11
        refine r_iconst (v := 1) ok dX8_soonest_41 rfl ?_
        refine r_goto (tgt := 46) ok dX8_soonest_42 rfl ?_
        refine r_iload_n ok dX8_soonest_46 0 rfl ?_
        refine cl_X8_244 ok dX8_soonest_47 (by decide) (Nat.le_of_ble_eq_true rfl) h (fun r15 S14 h => ?_)
        exact hret _ _ _ _ dX8_soonest_50 h
    · replace h := h.2 hc7
      refine r_ldc (v := (-1000000001)) ok dX8_soonest_21 tw_k_X8_174 ?_
      exact hret _ _ _ _ dX8_soonest_23 h
theorem c_X8_soonest (l : Launch) (G : Gx) {x1 x2 : Int32} {S : St} {post : Int32 → St → Prop} (h : wp_X8_soonest x1 x2 S post) : MtI l yX8_soonest cX8_soonest 4 (some .int) 5 125 G [.ref (G.2.2 71), .int x1, .int x2] S post :=
  ctI (by decide) rfl (Nat.le_of_ble_eq_true rfl) (fun X _ hG ok hret => by subst hG; exact w_wp_X8_soonest ok hret h)

/-! HasteRoadsModel.saves()V -/
theorem dX8_saves_0 : decode cX8_saves 0 = .ok (.iconst 0, 1) := by decide +kernel
theorem dX8_saves_1 : decode cX8_saves 1 = .ok (.istore_n 1, 1) := by decide +kernel
theorem dX8_saves_2 : decode cX8_saves 2 = .ok (.iload_n 1, 1) := by decide +kernel
theorem dX8_saves_3 : decode cX8_saves 3 = .ok (.bipush 28, 2) := by decide +kernel
theorem dX8_saves_5 : decode cX8_saves 5 = .ok (.if_icmp .ge 21, 3) := by decide +kernel
theorem dX8_saves_8 : decode cX8_saves 8 = .ok (.aload_n 0, 1) := by decide +kernel
theorem dX8_saves_9 : decode cX8_saves 9 = .ok (.getfield 54, 3) := by decide +kernel
theorem dX8_saves_12 : decode cX8_saves 12 = .ok (.iload_n 1, 1) := by decide +kernel
theorem dX8_saves_13 : decode cX8_saves 13 = .ok (.aload_n 0, 1) := by decide +kernel
theorem dX8_saves_14 : decode cX8_saves 14 = .ok (.getfield 26, 3) := by decide +kernel
theorem dX8_saves_17 : decode cX8_saves 17 = .ok (.iload_n 1, 1) := by decide +kernel
theorem dX8_saves_18 : decode cX8_saves 18 = .ok (.iaload, 1) := by decide +kernel
theorem dX8_saves_19 : decode cX8_saves 19 = .ok (.iastore, 1) := by decide +kernel
theorem dX8_saves_20 : decode cX8_saves 20 = .ok (.iinc 1 1, 3) := by decide +kernel
theorem dX8_saves_23 : decode cX8_saves 23 = .ok (.goto (-21), 3) := by decide +kernel
theorem dX8_saves_26 : decode cX8_saves 26 = .ok (.return_, 1) := by decide +kernel
theorem gf_X8_54 {X : Cx} {cc : ByteArray} {nL pc fr lo : Nat} {L : List (Nat × Value)} {st : List Value} {S : St} (ok : Ok X cc nL RX8 fr lo) (d : decode cc pc = .ok (.getfield 54, 3)) (k : Wp X nL (pc + 3) L (.ref (xad X 85) :: st) S) : Wp X nL pc L (.ref (xad X 71) :: st) S :=
  r_get (C := RX8) (T := TX8) ok ob_71 rfl i_X8 32 (by decide) tw_fl_X8_54 d (by rw [show fvl (xad X) S 71 32 = .ref (xad X 85) from (fvl_ref (d := 85) (by decide))]; exact k)
def BD_X8_saves_2 (k2 : Int32 → St → Prop) (post : St → Prop) (x1 : Int32) (S : St) : Prop :=
  ((28 ≤ x1 → post S) ∧ (¬ 28 ≤ x1 → vp_in x1 28 ∧ (vp_in x1 28 ∧ (∀ S2 : St, S2 = up S 85 (ix x1) (S 76 (ix x1)) → k2 (x1 + 1) S2))))
def L_X8_saves_2 (post : St → Prop) (n : Nat) : Int32 → St → Prop := Nat.rec (motive := fun _ => Int32 → St → Prop) (fun _ _ => False) (fun _ ih => BD_X8_saves_2 ih post) n
def B_X8_saves_2 (post : St → Prop) (x1 : Int32) (S : St) : Prop := ∃ n, L_X8_saves_2 post n x1 S
def wp_X8_saves (S : St) (post : St → Prop) : Prop :=
  B_X8_saves_2 post 0 S
theorem w_B_X8_saves_2 {X : Cx} (ok : Ok X cX8_saves 2 RX8 0 0) {post : St → Prop} (hret : RetV X cX8_saves 2 post) {x1 : Int32} {S : St} (h : B_X8_saves_2 post x1 S) : Wp X 2 2 [(0, .ref (xad X 71)), (1, .int x1)] [] S := by
  obtain ⟨n, h⟩ := h
  induction n generalizing x1 S with
  | zero => exact False.elim h
  | succ n ih =>
    have hk2 : ∀ x1 S, L_X8_saves_2 post n x1 S → Wp X 2 2 [(0, .ref (xad X 71)), (1, .int x1)] [] S := by intros; apply ih; assumption
    replace h : BD_X8_saves_2 (L_X8_saves_2 post n) post x1 S := h
    unfold BD_X8_saves_2 at h
    generalize L_X8_saves_2 post n = k2 at h hk2
    refine r_iload_n ok dX8_saves_2 1 rfl ?_
    refine r_bipush (v := 28) ok dX8_saves_3 rfl ?_
    refine r_icmp_ge (tgt := 26) ok dX8_saves_5 rfl (fun hc1 => ?_) (fun hc1 => ?_)
    · replace h := h.1 hc1
      exact hret _ _ _ dX8_saves_26 h
    · replace h := h.2 hc1
      refine r_aload_n ok dX8_saves_8 0 rfl ?_
      refine gf_X8_54 ok dX8_saves_9 ?_
      refine r_iload_n ok dX8_saves_12 1 rfl ?_
      refine r_aload_n ok dX8_saves_13 0 rfl ?_
      refine gf_X8_26 ok dX8_saves_14 ?_
      refine r_iload_n ok dX8_saves_17 1 rfl ?_
      refine r_iald ok ai_76 h.1 rfl dX8_saves_18 ?_
      replace h := h.2
      have hi3 := h.1
      replace h := h.2
      refine r_iast ok ai_85 hi3 rfl dX8_saves_19 (fun S2 eS2 => ?_)
      replace h := h S2 eS2
      refine r_iinc (v := x1 + 1) ok dX8_saves_20 1 rfl rfl (by decide) [(0, .ref (xad X 71)), (1, .int (x1 + 1))] [1, 0] rfl ?_
      refine r_goto (tgt := 2) ok dX8_saves_23 rfl ?_
      exact hk2 _ _ h
theorem w_wp_X8_saves {X : Cx} (ok : Ok X cX8_saves 2 RX8 0 0) {post : St → Prop} (hret : RetV X cX8_saves 2 post) {S : St} (h : wp_X8_saves S post) : Wp X 2 0 [(0, .ref (xad X 71))] [] S := by
  unfold wp_X8_saves at h
  refine r_iconst (v := 0) ok dX8_saves_0 rfl ?_
  refine r_istore_n ok dX8_saves_1 (by decide) [(0, .ref (xad X 71)), (1, .int 0)] [1, 0] rfl ?_
  exact w_B_X8_saves_2 ok hret h
theorem c_X8_saves (l : Launch) (G : Gx) {S : St} {post : St → Prop} (h : wp_X8_saves S post) : MtV l yX8_saves cX8_saves 2 0 0 G [.ref (G.2.2 71)] S post :=
  ctV (by decide) rfl (Nat.le_of_ble_eq_true rfl) (fun X _ hG ok hret => by subst hG; exact w_wp_X8_saves ok hret h)

/-! HasteRoadsModel.restores()V -/
theorem dX8_restores_0 : decode cX8_restores 0 = .ok (.iconst 0, 1) := by decide +kernel
theorem dX8_restores_1 : decode cX8_restores 1 = .ok (.istore_n 1, 1) := by decide +kernel
theorem dX8_restores_2 : decode cX8_restores 2 = .ok (.iload_n 1, 1) := by decide +kernel
theorem dX8_restores_3 : decode cX8_restores 3 = .ok (.bipush 28, 2) := by decide +kernel
theorem dX8_restores_5 : decode cX8_restores 5 = .ok (.if_icmp .ge 21, 3) := by decide +kernel
theorem dX8_restores_8 : decode cX8_restores 8 = .ok (.aload_n 0, 1) := by decide +kernel
theorem dX8_restores_9 : decode cX8_restores 9 = .ok (.getfield 26, 3) := by decide +kernel
theorem dX8_restores_12 : decode cX8_restores 12 = .ok (.iload_n 1, 1) := by decide +kernel
theorem dX8_restores_13 : decode cX8_restores 13 = .ok (.aload_n 0, 1) := by decide +kernel
theorem dX8_restores_14 : decode cX8_restores 14 = .ok (.getfield 54, 3) := by decide +kernel
theorem dX8_restores_17 : decode cX8_restores 17 = .ok (.iload_n 1, 1) := by decide +kernel
theorem dX8_restores_18 : decode cX8_restores 18 = .ok (.iaload, 1) := by decide +kernel
theorem dX8_restores_19 : decode cX8_restores 19 = .ok (.iastore, 1) := by decide +kernel
theorem dX8_restores_20 : decode cX8_restores 20 = .ok (.iinc 1 1, 3) := by decide +kernel
theorem dX8_restores_23 : decode cX8_restores 23 = .ok (.goto (-21), 3) := by decide +kernel
theorem dX8_restores_26 : decode cX8_restores 26 = .ok (.return_, 1) := by decide +kernel

def BD_X8_restores_2 (k2 : Int32 → St → Prop) (post : St → Prop) (x1 : Int32) (S : St) : Prop :=
  ((28 ≤ x1 → post S) ∧ (¬ 28 ≤ x1 → vp_in x1 28 ∧ (vp_in x1 28 ∧ (∀ S2 : St, S2 = up S 76 (ix x1) (S 85 (ix x1)) → k2 (x1 + 1) S2))))
def L_X8_restores_2 (post : St → Prop) (n : Nat) : Int32 → St → Prop := Nat.rec (motive := fun _ => Int32 → St → Prop) (fun _ _ => False) (fun _ ih => BD_X8_restores_2 ih post) n
def B_X8_restores_2 (post : St → Prop) (x1 : Int32) (S : St) : Prop := ∃ n, L_X8_restores_2 post n x1 S
def wp_X8_restores (S : St) (post : St → Prop) : Prop :=
  B_X8_restores_2 post 0 S
theorem w_B_X8_restores_2 {X : Cx} (ok : Ok X cX8_restores 2 RX8 0 0) {post : St → Prop} (hret : RetV X cX8_restores 2 post) {x1 : Int32} {S : St} (h : B_X8_restores_2 post x1 S) : Wp X 2 2 [(0, .ref (xad X 71)), (1, .int x1)] [] S := by
  obtain ⟨n, h⟩ := h
  induction n generalizing x1 S with
  | zero => exact False.elim h
  | succ n ih =>
    have hk2 : ∀ x1 S, L_X8_restores_2 post n x1 S → Wp X 2 2 [(0, .ref (xad X 71)), (1, .int x1)] [] S := by intros; apply ih; assumption
    replace h : BD_X8_restores_2 (L_X8_restores_2 post n) post x1 S := h
    unfold BD_X8_restores_2 at h
    generalize L_X8_restores_2 post n = k2 at h hk2
    refine r_iload_n ok dX8_restores_2 1 rfl ?_
    refine r_bipush (v := 28) ok dX8_restores_3 rfl ?_
    refine r_icmp_ge (tgt := 26) ok dX8_restores_5 rfl (fun hc1 => ?_) (fun hc1 => ?_)
    · replace h := h.1 hc1
      exact hret _ _ _ dX8_restores_26 h
    · replace h := h.2 hc1
      refine r_aload_n ok dX8_restores_8 0 rfl ?_
      refine gf_X8_26 ok dX8_restores_9 ?_
      refine r_iload_n ok dX8_restores_12 1 rfl ?_
      refine r_aload_n ok dX8_restores_13 0 rfl ?_
      refine gf_X8_54 ok dX8_restores_14 ?_
      refine r_iload_n ok dX8_restores_17 1 rfl ?_
      refine r_iald ok ai_85 h.1 rfl dX8_restores_18 ?_
      replace h := h.2
      have hi3 := h.1
      replace h := h.2
      refine r_iast ok ai_76 hi3 rfl dX8_restores_19 (fun S2 eS2 => ?_)
      replace h := h S2 eS2
      refine r_iinc (v := x1 + 1) ok dX8_restores_20 1 rfl rfl (by decide) [(0, .ref (xad X 71)), (1, .int (x1 + 1))] [1, 0] rfl ?_
      refine r_goto (tgt := 2) ok dX8_restores_23 rfl ?_
      exact hk2 _ _ h
theorem w_wp_X8_restores {X : Cx} (ok : Ok X cX8_restores 2 RX8 0 0) {post : St → Prop} (hret : RetV X cX8_restores 2 post) {S : St} (h : wp_X8_restores S post) : Wp X 2 0 [(0, .ref (xad X 71))] [] S := by
  unfold wp_X8_restores at h
  refine r_iconst (v := 0) ok dX8_restores_0 rfl ?_
  refine r_istore_n ok dX8_restores_1 (by decide) [(0, .ref (xad X 71)), (1, .int 0)] [1, 0] rfl ?_
  exact w_B_X8_restores_2 ok hret h
theorem c_X8_restores (l : Launch) (G : Gx) {S : St} {post : St → Prop} (h : wp_X8_restores S post) : MtV l yX8_restores cX8_restores 2 0 0 G [.ref (G.2.2 71)] S post :=
  ctV (by decide) rfl (Nat.le_of_ble_eq_true rfl) (fun X _ hG ok hret => by subst hG; exact w_wp_X8_restores ok hret h)

/-! HasteRoadsModel.isStep(III)Z -/
theorem dX8_isStep_0 : decode cX8_isStep 0 = .ok (.aload_n 0, 1) := by decide +kernel
theorem dX8_isStep_1 : decode cX8_isStep 1 = .ok (.invokevirtual 248, 3) := by decide +kernel
theorem dX8_isStep_4 : decode cX8_isStep 4 = .ok (.iload_n 2, 1) := by decide +kernel
theorem dX8_isStep_5 : decode cX8_isStep 5 = .ok (.bipush (-2), 2) := by decide +kernel
theorem dX8_isStep_7 : decode cX8_isStep 7 = .ok (.if_icmp .ne 14, 3) := by decide +kernel
theorem dX8_isStep_10 : decode cX8_isStep 10 = .ok (.aload_n 0, 1) := by decide +kernel
theorem dX8_isStep_11 : decode cX8_isStep 11 = .ok (.getfield 26, 3) := by decide +kernel
theorem dX8_isStep_14 : decode cX8_isStep 14 = .ok (.iload_n 1, 1) := by decide +kernel
theorem dX8_isStep_15 : decode cX8_isStep 15 = .ok (.invokestatic 203, 3) := by decide +kernel
theorem dX8_isStep_18 : decode cX8_isStep 18 = .ok (.goto 20, 3) := by decide +kernel
theorem dX8_isStep_21 : decode cX8_isStep 21 = .ok (.aload_n 0, 1) := by decide +kernel
theorem dX8_isStep_22 : decode cX8_isStep 22 = .ok (.aload_n 0, 1) := by decide +kernel
theorem dX8_isStep_23 : decode cX8_isStep 23 = .ok (.getfield 26, 3) := by decide +kernel
theorem dX8_isStep_26 : decode cX8_isStep 26 = .ok (.iload_n 1, 1) := by decide +kernel
theorem dX8_isStep_27 : decode cX8_isStep 27 = .ok (.iload_n 2, 1) := by decide +kernel
theorem dX8_isStep_28 : decode cX8_isStep 28 = .ok (.bipush 10, 2) := by decide +kernel
theorem dX8_isStep_30 : decode cX8_isStep 30 = .ok (.idiv, 1) := by decide +kernel
theorem dX8_isStep_31 : decode cX8_isStep 31 = .ok (.iload_n 2, 1) := by decide +kernel
theorem dX8_isStep_32 : decode cX8_isStep 32 = .ok (.bipush 10, 2) := by decide +kernel
theorem dX8_isStep_34 : decode cX8_isStep 34 = .ok (.irem, 1) := by decide +kernel
theorem dX8_isStep_35 : decode cX8_isStep 35 = .ok (.invokevirtual 199, 3) := by decide +kernel
theorem dX8_isStep_38 : decode cX8_isStep 38 = .ok (.aload_n 0, 1) := by decide +kernel
theorem dX8_isStep_39 : decode cX8_isStep 39 = .ok (.getfield 26, 3) := by decide +kernel
theorem dX8_isStep_42 : decode cX8_isStep 42 = .ok (.iconst 4, 1) := by decide +kernel
theorem dX8_isStep_43 : decode cX8_isStep 43 = .ok (.iload_n 1, 1) := by decide +kernel
theorem dX8_isStep_44 : decode cX8_isStep 44 = .ok (.imul, 1) := by decide +kernel
theorem dX8_isStep_45 : decode cX8_isStep 45 = .ok (.iconst 3, 1) := by decide +kernel
theorem dX8_isStep_46 : decode cX8_isStep 46 = .ok (.iadd, 1) := by decide +kernel
theorem dX8_isStep_47 : decode cX8_isStep 47 = .ok (.iaload, 1) := by decide +kernel
theorem dX8_isStep_48 : decode cX8_isStep 48 = .ok (.iload_n 3, 1) := by decide +kernel
theorem dX8_isStep_49 : decode cX8_isStep 49 = .ok (.if_icmp .gt 21, 3) := by decide +kernel
theorem dX8_isStep_52 : decode cX8_isStep 52 = .ok (.aload_n 0, 1) := by decide +kernel
theorem dX8_isStep_53 : decode cX8_isStep 53 = .ok (.iload_n 1, 1) := by decide +kernel
theorem dX8_isStep_54 : decode cX8_isStep 54 = .ok (.aload_n 0, 1) := by decide +kernel
theorem dX8_isStep_55 : decode cX8_isStep 55 = .ok (.iload_n 1, 1) := by decide +kernel
theorem dX8_isStep_56 : decode cX8_isStep 56 = .ok (.invokevirtual 251, 3) := by decide +kernel
theorem dX8_isStep_59 : decode cX8_isStep 59 = .ok (.invokevirtual 241, 3) := by decide +kernel
theorem dX8_isStep_62 : decode cX8_isStep 62 = .ok (.iload_n 3, 1) := by decide +kernel
theorem dX8_isStep_63 : decode cX8_isStep 63 = .ok (.if_icmp .ne 7, 3) := by decide +kernel
theorem dX8_isStep_66 : decode cX8_isStep 66 = .ok (.iconst 1, 1) := by decide +kernel
theorem dX8_isStep_67 : decode cX8_isStep 67 = .ok (.goto 4, 3) := by decide +kernel
theorem dX8_isStep_70 : decode cX8_isStep 70 = .ok (.iconst 0, 1) := by decide +kernel
theorem dX8_isStep_71 : decode cX8_isStep 71 = .ok (.istore 4, 2) := by decide +kernel
theorem dX8_isStep_73 : decode cX8_isStep 73 = .ok (.iload 4, 2) := by decide +kernel
theorem dX8_isStep_75 : decode cX8_isStep 75 = .ok (.ifCond .ne 7, 3) := by decide +kernel
theorem dX8_isStep_78 : decode cX8_isStep 78 = .ok (.aload_n 0, 1) := by decide +kernel
theorem dX8_isStep_79 : decode cX8_isStep 79 = .ok (.invokevirtual 254, 3) := by decide +kernel
theorem dX8_isStep_82 : decode cX8_isStep 82 = .ok (.iload 4, 2) := by decide +kernel
theorem dX8_isStep_84 : decode cX8_isStep 84 = .ok (.ireturn, 1) := by decide +kernel
theorem cl_X8_248 {X : Cx} {cc : ByteArray} {nL pc fr lo : Nat} {L : List (Nat × Value)} {st : List Value} {S : St} (ok : Ok X cc nL RX8 fr lo) (d : decode cc pc = .ok (.invokevirtual 248, 3)) (hroom : 1 ≤ fr ∧ 21 ≤ lo) (hst : (st.map fun v => v.category).sum ≤ 8) {post : St → Prop} (h : wp_X8_saves S post) (kk : ∀ S1 : St, post S1 → Wp X nL (pc + 3) L st S1) : Wp X nL pc L (.ref (xad X 71) :: st) S :=
  r_callVv (n := 2) (f := 0) (lo1 := 0) (N := 0) (As := []) ok tw_in_X8 tw_im_X8_saves tw_se_X8_saves tw_co_X8_saves tw_ml_X8_248 (by decide +kernel) rfl ob_71 rfl hroom hst d rfl (c_X8_saves (xl X) (xG X) h) kk
theorem cl_X8_251 {X : Cx} {cc : ByteArray} {nL pc fr lo : Nat} {L : List (Nat × Value)} {st : List Value} {S : St} (ok : Ok X cc nL RX8 fr lo) {x1 : Int32} (d : decode cc pc = .ok (.invokevirtual 251, 3)) (hroom : 1 ≤ fr ∧ 21 ≤ lo) (hst : (st.map fun v => v.category).sum ≤ 8) {post : Int32 → St → Prop} (h : wp_X8_errand x1 S post) (kk : ∀ (r : Int32) (S1 : St), post r S1 → Wp X nL (pc + 3) L (.int r :: st) S1) : Wp X nL pc L (.int x1 :: .ref (xad X 71) :: st) S :=
  r_callVi (n := 2) (f := 0) (lo1 := 0) (N := 1) (As := [.int x1]) ok tw_in_X8 tw_im_X8_errand tw_se_X8_errand tw_co_X8_errand tw_ml_X8_251 (by decide +kernel) rfl ob_71 rfl hroom hst d rfl (c_X8_errand (xl X) (xG X) h) kk
theorem cl_X8_254 {X : Cx} {cc : ByteArray} {nL pc fr lo : Nat} {L : List (Nat × Value)} {st : List Value} {S : St} (ok : Ok X cc nL RX8 fr lo) (d : decode cc pc = .ok (.invokevirtual 254, 3)) (hroom : 1 ≤ fr ∧ 21 ≤ lo) (hst : (st.map fun v => v.category).sum ≤ 8) {post : St → Prop} (h : wp_X8_restores S post) (kk : ∀ S1 : St, post S1 → Wp X nL (pc + 3) L st S1) : Wp X nL pc L (.ref (xad X 71) :: st) S :=
  r_callVv (n := 2) (f := 0) (lo1 := 0) (N := 0) (As := []) ok tw_in_X8 tw_im_X8_restores tw_se_X8_restores tw_co_X8_restores tw_ml_X8_254 (by decide +kernel) rfl ob_71 rfl hroom hst d rfl (c_X8_restores (xl X) (xG X) h) kk
def B_X8_isStep_70 (post : Int32 → St → Prop) (S : St) : Prop :=
  wp_X8_restores S (fun S2 => post 0 S2)
def B_X8_isStep_38 (post : Int32 → St → Prop) (x1 : Int32) (x3 : Int32) (S : St) : Prop :=
  vp_in (((4 : Int32) * x1) + 3) 28 ∧ (((x3 < (S 76 (ix (((4 : Int32) * x1) + 3))) → B_X8_isStep_70 post S) ∧ (¬ x3 < (S 76 (ix (((4 : Int32) * x1) + 3))) → wp_X8_errand x1 S (fun r3 S2 => wp_X8_soonestOf x1 r3 S2 (fun r5 S4 => ((¬ r5 = x3 → B_X8_isStep_70 post S4) ∧ (r5 = x3 → post 1 S4)))))))
def wp_X8_isStep (x1 : Int32) (x2 : Int32) (x3 : Int32) (S : St) (post : Int32 → St → Prop) : Prop :=
  wp_X8_saves S (fun S1 => ((¬ x2 = (-2) → wp_X8_goes 76 x1 (x2 / 10) (x2 - x2 / 10 * 10) S1 (fun S3 => B_X8_isStep_38 post x1 x3 S3)) ∧ (x2 = (-2) → wp_X8_waits 76 x1 S1 (fun S4 => B_X8_isStep_38 post x1 x3 S4))))
theorem w_B_X8_isStep_70 {X : Cx} (ok : Ok X cX8_isStep 5 RX8 5 125) {post : Int32 → St → Prop} (hret : RetZ X cX8_isStep 5 post) {S : St} (h : B_X8_isStep_70 post S) : Wp X 5 70 [(0, .ref (xad X 71))] [] S := by
  unfold B_X8_isStep_70 at h
  refine r_iconst (v := 0) ok dX8_isStep_70 rfl ?_
  refine r_istore ok dX8_isStep_71 (by decide) [(0, .ref (xad X 71)), (4, .int 0)] [1, 0] rfl ?_
  refine r_iload ok dX8_isStep_73 1 rfl ?_
  refine r_if_ne (tgt := 82) ok dX8_isStep_75 rfl (fun hc1 => absurd hc1 (by decide)) (fun _ => ?_)
  refine r_aload_n ok dX8_isStep_78 0 rfl ?_
  refine cl_X8_254 ok dX8_isStep_79 (by decide) (Nat.le_of_ble_eq_true rfl) h (fun S2 h => ?_)
  refine r_iload ok dX8_isStep_82 1 rfl ?_
  exact hret _ _ _ _ dX8_isStep_84 (Or.inl rfl) h
theorem w_B_X8_isStep_38 {X : Cx} (ok : Ok X cX8_isStep 5 RX8 5 125) {post : Int32 → St → Prop} (hret : RetZ X cX8_isStep 5 post) {x1 x3 : Int32} {S : St} (h : B_X8_isStep_38 post x1 x3 S) : Wp X 5 38 [(0, .ref (xad X 71)), (1, .int x1), (3, .int x3)] [] S := by
  unfold B_X8_isStep_38 at h
  refine r_aload_n ok dX8_isStep_38 0 rfl ?_
  refine gf_X8_26 ok dX8_isStep_39 ?_
  refine r_iconst (v := 4) ok dX8_isStep_42 rfl ?_
  refine r_iload_n ok dX8_isStep_43 1 rfl ?_
  refine r_imul ok dX8_isStep_44 ?_
  refine r_iconst (v := 3) ok dX8_isStep_45 rfl ?_
  refine r_iadd ok dX8_isStep_46 ?_
  refine r_iald ok ai_76 h.1 rfl dX8_isStep_47 ?_
  replace h := h.2
  refine r_iload_n ok dX8_isStep_48 2 rfl ?_
  refine r_icmp_gt (tgt := 70) ok dX8_isStep_49 rfl (fun hc1 => ?_) (fun hc1 => ?_)
  · replace h := h.1 hc1
    refine r_sub [(0, .ref (xad X 71))] [0] rfl ?_
    exact w_B_X8_isStep_70 ok hret h
  · replace h := h.2 hc1
    refine r_aload_n ok dX8_isStep_52 0 rfl ?_
    refine r_iload_n ok dX8_isStep_53 1 rfl ?_
    refine r_aload_n ok dX8_isStep_54 0 rfl ?_
    refine r_iload_n ok dX8_isStep_55 1 rfl ?_
    refine cl_X8_251 ok dX8_isStep_56 (by decide) (Nat.le_of_ble_eq_true rfl) h (fun r3 S2 h => ?_)
    refine cl_X8_241 ok dX8_isStep_59 (by decide) (Nat.le_of_ble_eq_true rfl) h (fun r5 S4 h => ?_)
    refine r_iload_n ok dX8_isStep_62 2 rfl ?_
    refine r_icmp_ne (tgt := 70) ok dX8_isStep_63 rfl (fun hc6 => ?_) (fun hc6 => ?_)
    · replace h := h.1 hc6
      refine r_sub [(0, .ref (xad X 71))] [0] rfl ?_
      exact w_B_X8_isStep_70 ok hret h
    · replace h := h.2 hc6
      refine r_iconst (v := 1) ok dX8_isStep_66 rfl ?_
      refine r_goto (tgt := 71) ok dX8_isStep_67 rfl ?_
      refine r_istore ok dX8_isStep_71 (by decide) [(0, .ref (xad X 71)), (4, .int 1)] [1, 0] rfl ?_
      refine r_iload ok dX8_isStep_73 1 rfl ?_
      refine r_if_ne (tgt := 82) ok dX8_isStep_75 rfl (fun _ => ?_) (fun hc7 => absurd hc7 (by decide))
      refine r_iload ok dX8_isStep_82 1 rfl ?_
      exact hret _ _ _ _ dX8_isStep_84 (Or.inr rfl) h
theorem w_wp_X8_isStep {X : Cx} (ok : Ok X cX8_isStep 5 RX8 5 125) {post : Int32 → St → Prop} (hret : RetZ X cX8_isStep 5 post) {x1 x2 x3 : Int32} {S : St} (h : wp_X8_isStep x1 x2 x3 S post) : Wp X 5 0 [(0, .ref (xad X 71)), (1, .int x1), (2, .int x2), (3, .int x3)] [] S := by
  unfold wp_X8_isStep at h
  refine r_aload_n ok dX8_isStep_0 0 rfl ?_
  refine cl_X8_248 ok dX8_isStep_1 (by decide) (Nat.le_of_ble_eq_true rfl) h (fun S1 h => ?_)
  refine r_iload_n ok dX8_isStep_4 2 rfl ?_
  refine r_bipush (v := (-2)) ok dX8_isStep_5 rfl ?_
  refine r_icmp_ne (tgt := 21) ok dX8_isStep_7 rfl (fun hc2 => ?_) (fun hc2 => ?_)
  · replace h := h.1 hc2
    refine r_aload_n ok dX8_isStep_21 0 rfl ?_
    refine r_aload_n ok dX8_isStep_22 0 rfl ?_
    refine gf_X8_26 ok dX8_isStep_23 ?_
    refine r_iload_n ok dX8_isStep_26 1 rfl ?_
    refine r_iload_n ok dX8_isStep_27 2 rfl ?_
    refine r_bipush (v := 10) ok dX8_isStep_28 rfl ?_
    refine r_idiv ok dX8_isStep_30 (by decide) ?_
    refine r_iload_n ok dX8_isStep_31 2 rfl ?_
    refine r_bipush (v := 10) ok dX8_isStep_32 rfl ?_
    refine r_irem ok dX8_isStep_34 (by decide) ?_
    refine cl_X8_199 ok ai_76 dX8_isStep_35 (by decide) (Nat.le_of_ble_eq_true rfl) h (fun S3 h => ?_)
    refine r_sub [(0, .ref (xad X 71)), (1, .int x1), (3, .int x3)] [0, 1, 3] rfl ?_
    exact w_B_X8_isStep_38 ok hret h
  · replace h := h.2 hc2
    refine r_aload_n ok dX8_isStep_10 0 rfl ?_
    refine gf_X8_26 ok dX8_isStep_11 ?_
    refine r_iload_n ok dX8_isStep_14 1 rfl ?_
    refine cl_X8_203 ok ai_76 dX8_isStep_15 (by decide) (Nat.le_of_ble_eq_true rfl) h (fun S4 h => ?_)
    refine r_goto (tgt := 38) ok dX8_isStep_18 rfl ?_
    refine r_sub [(0, .ref (xad X 71)), (1, .int x1), (3, .int x3)] [0, 1, 3] rfl ?_
    exact w_B_X8_isStep_38 ok hret h
theorem c_X8_isStep (l : Launch) (G : Gx) {x1 x2 x3 : Int32} {S : St} {post : Int32 → St → Prop} (h : wp_X8_isStep x1 x2 x3 S post) : MtI l yX8_isStep cX8_isStep 5 (some .boolean) 5 125 G [.ref (G.2.2 71), .int x1, .int x2, .int x3] S post :=
  ctZ (by decide) rfl (Nat.le_of_ble_eq_true rfl) (fun X _ hG ok hret => by subst hG; exact w_wp_X8_isStep ok hret h)

/-! HasteRoadsModel.nextStep(II)I -/
theorem dX8_nextStep_0 : decode cX8_nextStep 0 = .ok (.aload_n 0, 1) := by decide +kernel
theorem dX8_nextStep_1 : decode cX8_nextStep 1 = .ok (.iload_n 1, 1) := by decide +kernel
theorem dX8_nextStep_2 : decode cX8_nextStep 2 = .ok (.bipush (-2), 2) := by decide +kernel
theorem dX8_nextStep_4 : decode cX8_nextStep 4 = .ok (.iload_n 2, 1) := by decide +kernel
theorem dX8_nextStep_5 : decode cX8_nextStep 5 = .ok (.invokevirtual 257, 3) := by decide +kernel
theorem dX8_nextStep_8 : decode cX8_nextStep 8 = .ok (.ifCond .eq 6, 3) := by decide +kernel
theorem dX8_nextStep_11 : decode cX8_nextStep 11 = .ok (.bipush (-2), 2) := by decide +kernel
theorem dX8_nextStep_13 : decode cX8_nextStep 13 = .ok (.ireturn, 1) := by decide +kernel
theorem dX8_nextStep_14 : decode cX8_nextStep 14 = .ok (.iconst 0, 1) := by decide +kernel
theorem dX8_nextStep_15 : decode cX8_nextStep 15 = .ok (.istore_n 3, 1) := by decide +kernel
theorem dX8_nextStep_16 : decode cX8_nextStep 16 = .ok (.iload_n 3, 1) := by decide +kernel
theorem dX8_nextStep_17 : decode cX8_nextStep 17 = .ok (.aload_n 0, 1) := by decide +kernel
theorem dX8_nextStep_18 : decode cX8_nextStep 18 = .ok (.getfield 158, 3) := by decide +kernel
theorem dX8_nextStep_21 : decode cX8_nextStep 21 = .ok (.if_icmp .ge 78, 3) := by decide +kernel
theorem dX8_nextStep_24 : decode cX8_nextStep 24 = .ok (.aload_n 0, 1) := by decide +kernel
theorem dX8_nextStep_25 : decode cX8_nextStep 25 = .ok (.getfield 26, 3) := by decide +kernel
theorem dX8_nextStep_28 : decode cX8_nextStep 28 = .ok (.iconst 4, 1) := by decide +kernel
theorem dX8_nextStep_29 : decode cX8_nextStep 29 = .ok (.iload_n 1, 1) := by decide +kernel
theorem dX8_nextStep_30 : decode cX8_nextStep 30 = .ok (.imul, 1) := by decide +kernel
theorem dX8_nextStep_31 : decode cX8_nextStep 31 = .ok (.iconst 1, 1) := by decide +kernel
theorem dX8_nextStep_32 : decode cX8_nextStep 32 = .ok (.iadd, 1) := by decide +kernel
theorem dX8_nextStep_33 : decode cX8_nextStep 33 = .ok (.iaload, 1) := by decide +kernel
theorem dX8_nextStep_34 : decode cX8_nextStep 34 = .ok (.istore 4, 2) := by decide +kernel
theorem dX8_nextStep_36 : decode cX8_nextStep 36 = .ok (.iconst 0, 1) := by decide +kernel
theorem dX8_nextStep_37 : decode cX8_nextStep 37 = .ok (.istore 5, 2) := by decide +kernel
theorem dX8_nextStep_39 : decode cX8_nextStep 39 = .ok (.iload 5, 2) := by decide +kernel
theorem dX8_nextStep_41 : decode cX8_nextStep 41 = .ok (.iload 4, 2) := by decide +kernel
theorem dX8_nextStep_43 : decode cX8_nextStep 43 = .ok (.if_icmp .gt 50, 3) := by decide +kernel
theorem dX8_nextStep_46 : decode cX8_nextStep 46 = .ok (.aload_n 0, 1) := by decide +kernel
theorem dX8_nextStep_47 : decode cX8_nextStep 47 = .ok (.iload_n 3, 1) := by decide +kernel
theorem dX8_nextStep_48 : decode cX8_nextStep 48 = .ok (.aload_n 0, 1) := by decide +kernel
theorem dX8_nextStep_49 : decode cX8_nextStep 49 = .ok (.getfield 26, 3) := by decide +kernel
theorem dX8_nextStep_52 : decode cX8_nextStep 52 = .ok (.iconst 4, 1) := by decide +kernel
theorem dX8_nextStep_53 : decode cX8_nextStep 53 = .ok (.iload_n 1, 1) := by decide +kernel
theorem dX8_nextStep_54 : decode cX8_nextStep 54 = .ok (.imul, 1) := by decide +kernel
theorem dX8_nextStep_55 : decode cX8_nextStep 55 = .ok (.iaload, 1) := by decide +kernel
theorem dX8_nextStep_56 : decode cX8_nextStep 56 = .ok (.invokevirtual 189, 3) := by decide +kernel
theorem dX8_nextStep_59 : decode cX8_nextStep 59 = .ok (.iconst (-1), 1) := by decide +kernel
theorem dX8_nextStep_60 : decode cX8_nextStep 60 = .ok (.if_icmp .eq 33, 3) := by decide +kernel
theorem dX8_nextStep_63 : decode cX8_nextStep 63 = .ok (.aload_n 0, 1) := by decide +kernel
theorem dX8_nextStep_64 : decode cX8_nextStep 64 = .ok (.iload_n 1, 1) := by decide +kernel
theorem dX8_nextStep_65 : decode cX8_nextStep 65 = .ok (.bipush 10, 2) := by decide +kernel
theorem dX8_nextStep_67 : decode cX8_nextStep 67 = .ok (.iload_n 3, 1) := by decide +kernel
theorem dX8_nextStep_68 : decode cX8_nextStep 68 = .ok (.imul, 1) := by decide +kernel
theorem dX8_nextStep_69 : decode cX8_nextStep 69 = .ok (.iload 5, 2) := by decide +kernel
theorem dX8_nextStep_71 : decode cX8_nextStep 71 = .ok (.iadd, 1) := by decide +kernel
theorem dX8_nextStep_72 : decode cX8_nextStep 72 = .ok (.iload_n 2, 1) := by decide +kernel
theorem dX8_nextStep_73 : decode cX8_nextStep 73 = .ok (.invokevirtual 257, 3) := by decide +kernel
theorem dX8_nextStep_76 : decode cX8_nextStep 76 = .ok (.ifCond .eq 11, 3) := by decide +kernel
theorem dX8_nextStep_79 : decode cX8_nextStep 79 = .ok (.bipush 10, 2) := by decide +kernel
theorem dX8_nextStep_81 : decode cX8_nextStep 81 = .ok (.iload_n 3, 1) := by decide +kernel
theorem dX8_nextStep_82 : decode cX8_nextStep 82 = .ok (.imul, 1) := by decide +kernel
theorem dX8_nextStep_83 : decode cX8_nextStep 83 = .ok (.iload 5, 2) := by decide +kernel
theorem dX8_nextStep_85 : decode cX8_nextStep 85 = .ok (.iadd, 1) := by decide +kernel
theorem dX8_nextStep_86 : decode cX8_nextStep 86 = .ok (.ireturn, 1) := by decide +kernel
theorem dX8_nextStep_87 : decode cX8_nextStep 87 = .ok (.iinc 5 1, 3) := by decide +kernel
theorem dX8_nextStep_90 : decode cX8_nextStep 90 = .ok (.goto (-51), 3) := by decide +kernel
theorem dX8_nextStep_93 : decode cX8_nextStep 93 = .ok (.iinc 3 1, 3) := by decide +kernel
theorem dX8_nextStep_96 : decode cX8_nextStep 96 = .ok (.goto (-80), 3) := by decide +kernel
theorem dX8_nextStep_99 : decode cX8_nextStep 99 = .ok (.iconst (-1), 1) := by decide +kernel
theorem dX8_nextStep_100 : decode cX8_nextStep 100 = .ok (.ireturn, 1) := by decide +kernel
theorem cl_X8_257 {X : Cx} {cc : ByteArray} {nL pc fr lo : Nat} {L : List (Nat × Value)} {st : List Value} {S : St} (ok : Ok X cc nL RX8 fr lo) {x1 x2 x3 : Int32} (d : decode cc pc = .ok (.invokevirtual 257, 3)) (hroom : 6 ≤ fr ∧ 149 ≤ lo) (hst : (st.map fun v => v.category).sum ≤ 8) {post : Int32 → St → Prop} (h : wp_X8_isStep x1 x2 x3 S post) (kk : ∀ (r : Int32) (S1 : St), post r S1 → Wp X nL (pc + 3) L (.int r :: st) S1) : Wp X nL pc L (.int x3 :: .int x2 :: .int x1 :: .ref (xad X 71) :: st) S :=
  r_callVi (n := 5) (f := 5) (lo1 := 125) (N := 3) (As := [.int x1, .int x2, .int x3]) ok tw_in_X8 tw_im_X8_isStep tw_se_X8_isStep tw_co_X8_isStep tw_ml_X8_257 (by decide +kernel) rfl ob_71 rfl hroom hst d rfl (c_X8_isStep (xl X) (xG X) h) kk
def B_X8_nextStep_79 (post : Int32 → St → Prop) (x3 : Int32) (x5 : Int32) (S : St) : Prop :=
  post (((10 : Int32) * x3) + x5) S
def BD_X8_nextStep_39 (k16 : Int32 → Int32 → Int32 → St → Prop) (k39 : Int32 → Int32 → Int32 → Int32 → Int32 → St → Prop) (post : Int32 → St → Prop) (x1 : Int32) (x2 : Int32) (x3 : Int32) (x4 : Int32) (x5 : Int32) (S : St) : Prop :=
  ((x4 < x5 → k16 x1 x2 (x3 + 1) S) ∧ (¬ x4 < x5 → vp_in ((4 : Int32) * x1) 28 ∧ (wp_X8_otherEnd x3 (S 76 (ix ((4 : Int32) * x1))) S (fun r3 S2 => ((r3 = (-1) → k16 x1 x2 (x3 + 1) S2) ∧ (¬ r3 = (-1) → wp_X8_isStep x1 (((10 : Int32) * x3) + x5) x2 S2 (fun r6 S5 => ((r6 = 0 → k39 x1 x2 x3 x4 (x5 + 1) S5) ∧ (¬ r6 = 0 → B_X8_nextStep_79 post x3 x5 S5)))))))))
def L_X8_nextStep_39 (k16 : Int32 → Int32 → Int32 → St → Prop) (post : Int32 → St → Prop) (n : Nat) : Int32 → Int32 → Int32 → Int32 → Int32 → St → Prop := Nat.rec (motive := fun _ => Int32 → Int32 → Int32 → Int32 → Int32 → St → Prop) (fun _ _ _ _ _ _ => False) (fun _ ih => BD_X8_nextStep_39 k16 ih post) n
def B_X8_nextStep_39 (k16 : Int32 → Int32 → Int32 → St → Prop) (post : Int32 → St → Prop) (x1 : Int32) (x2 : Int32) (x3 : Int32) (x4 : Int32) (x5 : Int32) (S : St) : Prop := ∃ n, L_X8_nextStep_39 k16 post n x1 x2 x3 x4 x5 S
def BD_X8_nextStep_16 (k16 : Int32 → Int32 → Int32 → St → Prop) (post : Int32 → St → Prop) (x1 : Int32) (x2 : Int32) (x3 : Int32) (S : St) : Prop :=
  (((S 71 11) ≤ x3 → post (-1) S) ∧ (¬ (S 71 11) ≤ x3 → vp_in (((4 : Int32) * x1) + 1) 28 ∧ (∀ v2 : Int32, v2 = (S 76 (ix (((4 : Int32) * x1) + 1))) → B_X8_nextStep_39 k16 post x1 x2 x3 v2 0 S)))
def L_X8_nextStep_16 (post : Int32 → St → Prop) (n : Nat) : Int32 → Int32 → Int32 → St → Prop := Nat.rec (motive := fun _ => Int32 → Int32 → Int32 → St → Prop) (fun _ _ _ _ => False) (fun _ ih => BD_X8_nextStep_16 ih post) n
def B_X8_nextStep_16 (post : Int32 → St → Prop) (x1 : Int32) (x2 : Int32) (x3 : Int32) (S : St) : Prop := ∃ n, L_X8_nextStep_16 post n x1 x2 x3 S
def wp_X8_nextStep (x1 : Int32) (x2 : Int32) (S : St) (post : Int32 → St → Prop) : Prop :=
  wp_X8_isStep x1 (-2) x2 S (fun r2 S1 => ((r2 = 0 → B_X8_nextStep_16 post x1 x2 0 S1) ∧ (¬ r2 = 0 → post (-2) S1)))
theorem w_B_X8_nextStep_79 {X : Cx} (ok : Ok X cX8_nextStep 6 RX8 6 149) {post : Int32 → St → Prop} (hret : RetI X cX8_nextStep 6 post) {x3 x5 : Int32} {S : St} (h : B_X8_nextStep_79 post x3 x5 S) : Wp X 6 79 [(3, .int x3), (5, .int x5)] [] S := by
  unfold B_X8_nextStep_79 at h
  refine r_bipush (v := 10) ok dX8_nextStep_79 rfl ?_
  refine r_iload_n ok dX8_nextStep_81 0 rfl ?_
  refine r_imul ok dX8_nextStep_82 ?_
  refine r_iload ok dX8_nextStep_83 1 rfl ?_
  refine r_iadd ok dX8_nextStep_85 ?_
  exact hret _ _ _ _ dX8_nextStep_86 h
theorem w_B_X8_nextStep_39 {X : Cx} (ok : Ok X cX8_nextStep 6 RX8 6 149) {post : Int32 → St → Prop} (hret : RetI X cX8_nextStep 6 post) {k16 : Int32 → Int32 → Int32 → St → Prop} (hk16 : ∀ x1 x2 x3 S, k16 x1 x2 x3 S → Wp X 6 16 [(0, .ref (xad X 71)), (1, .int x1), (2, .int x2), (3, .int x3)] [] S) {x1 x2 x3 x4 x5 : Int32} {S : St} (h : B_X8_nextStep_39 k16 post x1 x2 x3 x4 x5 S) : Wp X 6 39 [(0, .ref (xad X 71)), (1, .int x1), (2, .int x2), (3, .int x3), (4, .int x4), (5, .int x5)] [] S := by
  obtain ⟨n, h⟩ := h
  induction n generalizing x1 x2 x3 x4 x5 S with
  | zero => exact False.elim h
  | succ n ih =>
    have hk39 : ∀ x1 x2 x3 x4 x5 S, L_X8_nextStep_39 k16 post n x1 x2 x3 x4 x5 S → Wp X 6 39 [(0, .ref (xad X 71)), (1, .int x1), (2, .int x2), (3, .int x3), (4, .int x4), (5, .int x5)] [] S := by intros; apply ih; assumption
    replace h : BD_X8_nextStep_39 k16 (L_X8_nextStep_39 k16 post n) post x1 x2 x3 x4 x5 S := h
    unfold BD_X8_nextStep_39 at h
    generalize L_X8_nextStep_39 k16 post n = k39 at h hk39
    refine r_iload ok dX8_nextStep_39 5 rfl ?_
    refine r_iload ok dX8_nextStep_41 4 rfl ?_
    refine r_icmp_gt (tgt := 93) ok dX8_nextStep_43 rfl (fun hc1 => ?_) (fun hc1 => ?_)
    · replace h := h.1 hc1
      refine r_iinc (v := x3 + 1) ok dX8_nextStep_93 3 rfl rfl (by decide) [(0, .ref (xad X 71)), (1, .int x1), (2, .int x2), (3, .int (x3 + 1))] [1, 2, 3, 0] rfl ?_
      refine r_goto (tgt := 16) ok dX8_nextStep_96 rfl ?_
      exact hk16 _ _ _ _ h
    · replace h := h.2 hc1
      refine r_aload_n ok dX8_nextStep_46 0 rfl ?_
      refine r_iload_n ok dX8_nextStep_47 3 rfl ?_
      refine r_aload_n ok dX8_nextStep_48 0 rfl ?_
      refine gf_X8_26 ok dX8_nextStep_49 ?_
      refine r_iconst (v := 4) ok dX8_nextStep_52 rfl ?_
      refine r_iload_n ok dX8_nextStep_53 1 rfl ?_
      refine r_imul ok dX8_nextStep_54 ?_
      refine r_iald ok ai_76 h.1 rfl dX8_nextStep_55 ?_
      replace h := h.2
      refine cl_X8_189 ok dX8_nextStep_56 (by decide) (Nat.le_of_ble_eq_true rfl) h (fun r3 S2 h => ?_)
      refine r_iconst (v := (-1)) ok dX8_nextStep_59 rfl ?_
      refine r_icmp_eq (tgt := 93) ok dX8_nextStep_60 rfl (fun hc4 => ?_) (fun hc4 => ?_)
      · replace h := h.1 hc4
        refine r_iinc (v := x3 + 1) ok dX8_nextStep_93 3 rfl rfl (by decide) [(0, .ref (xad X 71)), (1, .int x1), (2, .int x2), (3, .int (x3 + 1))] [1, 2, 3, 0] rfl ?_
        refine r_goto (tgt := 16) ok dX8_nextStep_96 rfl ?_
        exact hk16 _ _ _ _ h
      · replace h := h.2 hc4
        refine r_aload_n ok dX8_nextStep_63 0 rfl ?_
        refine r_iload_n ok dX8_nextStep_64 1 rfl ?_
        refine r_bipush (v := 10) ok dX8_nextStep_65 rfl ?_
        refine r_iload_n ok dX8_nextStep_67 3 rfl ?_
        refine r_imul ok dX8_nextStep_68 ?_
        refine r_iload ok dX8_nextStep_69 5 rfl ?_
        refine r_iadd ok dX8_nextStep_71 ?_
        refine r_iload_n ok dX8_nextStep_72 2 rfl ?_
        refine cl_X8_257 ok dX8_nextStep_73 (by decide) (Nat.le_of_ble_eq_true rfl) h (fun r6 S5 h => ?_)
        refine r_if_eq (tgt := 87) ok dX8_nextStep_76 rfl (fun hc7 => ?_) (fun hc7 => ?_)
        · replace h := h.1 hc7
          refine r_iinc (v := x5 + 1) ok dX8_nextStep_87 5 rfl rfl (by decide) [(0, .ref (xad X 71)), (1, .int x1), (2, .int x2), (3, .int x3), (4, .int x4), (5, .int (x5 + 1))] [1, 2, 3, 4, 5, 0] rfl ?_
          refine r_goto (tgt := 39) ok dX8_nextStep_90 rfl ?_
          exact hk39 _ _ _ _ _ _ h
        · replace h := h.2 hc7
          refine r_sub [(3, .int x3), (5, .int x5)] [3, 5] rfl ?_
          exact w_B_X8_nextStep_79 ok hret h
theorem w_B_X8_nextStep_16 {X : Cx} (ok : Ok X cX8_nextStep 6 RX8 6 149) {post : Int32 → St → Prop} (hret : RetI X cX8_nextStep 6 post) {x1 x2 x3 : Int32} {S : St} (h : B_X8_nextStep_16 post x1 x2 x3 S) : Wp X 6 16 [(0, .ref (xad X 71)), (1, .int x1), (2, .int x2), (3, .int x3)] [] S := by
  obtain ⟨n, h⟩ := h
  induction n generalizing x1 x2 x3 S with
  | zero => exact False.elim h
  | succ n ih =>
    have hk16 : ∀ x1 x2 x3 S, L_X8_nextStep_16 post n x1 x2 x3 S → Wp X 6 16 [(0, .ref (xad X 71)), (1, .int x1), (2, .int x2), (3, .int x3)] [] S := by intros; apply ih; assumption
    replace h : BD_X8_nextStep_16 (L_X8_nextStep_16 post n) post x1 x2 x3 S := h
    unfold BD_X8_nextStep_16 at h
    generalize L_X8_nextStep_16 post n = k16 at h hk16
    refine r_iload_n ok dX8_nextStep_16 3 rfl ?_
    refine r_aload_n ok dX8_nextStep_17 0 rfl ?_
    refine gf_X8_158 ok dX8_nextStep_18 ?_
    refine r_icmp_ge (tgt := 99) ok dX8_nextStep_21 rfl (fun hc1 => ?_) (fun hc1 => ?_)
    · replace h := h.1 hc1
      refine r_iconst (v := (-1)) ok dX8_nextStep_99 rfl ?_
      exact hret _ _ _ _ dX8_nextStep_100 h
    · replace h := h.2 hc1
      refine r_aload_n ok dX8_nextStep_24 0 rfl ?_
      refine gf_X8_26 ok dX8_nextStep_25 ?_
      refine r_iconst (v := 4) ok dX8_nextStep_28 rfl ?_
      refine r_iload_n ok dX8_nextStep_29 1 rfl ?_
      refine r_imul ok dX8_nextStep_30 ?_
      refine r_iconst (v := 1) ok dX8_nextStep_31 rfl ?_
      refine r_iadd ok dX8_nextStep_32 ?_
      refine r_iald ok ai_76 h.1 rfl dX8_nextStep_33 ?_
      replace h := h.2
      refine r_top (fun v2 ev2 => ?_)
      replace h := h v2 ev2
      refine r_istore ok dX8_nextStep_34 (by decide) [(0, .ref (xad X 71)), (1, .int x1), (2, .int x2), (3, .int x3), (4, .int v2)] [1, 2, 3, 4, 0] rfl ?_
      refine r_iconst (v := 0) ok dX8_nextStep_36 rfl ?_
      refine r_istore ok dX8_nextStep_37 (by decide) [(0, .ref (xad X 71)), (1, .int x1), (2, .int x2), (3, .int x3), (4, .int v2), (5, .int 0)] [1, 2, 3, 4, 5, 0] rfl ?_
      exact w_B_X8_nextStep_39 ok hret hk16 h
theorem w_wp_X8_nextStep {X : Cx} (ok : Ok X cX8_nextStep 6 RX8 6 149) {post : Int32 → St → Prop} (hret : RetI X cX8_nextStep 6 post) {x1 x2 : Int32} {S : St} (h : wp_X8_nextStep x1 x2 S post) : Wp X 6 0 [(0, .ref (xad X 71)), (1, .int x1), (2, .int x2)] [] S := by
  unfold wp_X8_nextStep at h
  refine r_aload_n ok dX8_nextStep_0 0 rfl ?_
  refine r_iload_n ok dX8_nextStep_1 1 rfl ?_
  refine r_bipush (v := (-2)) ok dX8_nextStep_2 rfl ?_
  refine r_iload_n ok dX8_nextStep_4 2 rfl ?_
  refine cl_X8_257 ok dX8_nextStep_5 (by decide) (Nat.le_of_ble_eq_true rfl) h (fun r2 S1 h => ?_)
  refine r_if_eq (tgt := 14) ok dX8_nextStep_8 rfl (fun hc3 => ?_) (fun hc3 => ?_)
  · replace h := h.1 hc3
    refine r_iconst (v := 0) ok dX8_nextStep_14 rfl ?_
    refine r_istore_n ok dX8_nextStep_15 (by decide) [(0, .ref (xad X 71)), (1, .int x1), (2, .int x2), (3, .int 0)] [1, 2, 3, 0] rfl ?_
    exact w_B_X8_nextStep_16 ok hret h
  · replace h := h.2 hc3
    refine r_bipush (v := (-2)) ok dX8_nextStep_11 rfl ?_
    exact hret _ _ _ _ dX8_nextStep_13 h
theorem c_X8_nextStep (l : Launch) (G : Gx) {x1 x2 : Int32} {S : St} {post : Int32 → St → Prop} (h : wp_X8_nextStep x1 x2 S post) : MtI l yX8_nextStep cX8_nextStep 6 (some .int) 6 149 G [.ref (G.2.2 71), .int x1, .int x2] S post :=
  ctI (by decide) rfl (Nat.le_of_ble_eq_true rfl) (fun X _ hG ok hret => by subst hG; exact w_wp_X8_nextStep ok hret h)

/-! HasteRoadsModel.step(II)I -/
theorem dX8_step_0 : decode cX8_step 0 = .ok (.aload_n 0, 1) := by decide +kernel
theorem dX8_step_1 : decode cX8_step 1 = .ok (.iconst 0, 1) := by decide +kernel
theorem dX8_step_2 : decode cX8_step 2 = .ok (.putfield 75, 3) := by decide +kernel
theorem dX8_step_5 : decode cX8_step 5 = .ok (.aload_n 0, 1) := by decide +kernel
theorem dX8_step_6 : decode cX8_step 6 = .ok (.iload_n 1, 1) := by decide +kernel
theorem dX8_step_7 : decode cX8_step 7 = .ok (.invokevirtual 182, 3) := by decide +kernel
theorem dX8_step_10 : decode cX8_step 10 = .ok (.ifCond .ne 6, 3) := by decide +kernel
theorem dX8_step_13 : decode cX8_step 13 = .ok (.ldc 174, 2) := by decide +kernel
theorem dX8_step_15 : decode cX8_step 15 = .ok (.ireturn, 1) := by decide +kernel
theorem dX8_step_16 : decode cX8_step 16 = .ok (.iload_n 2, 1) := by decide +kernel
theorem dX8_step_17 : decode cX8_step 17 = .ok (.iconst 0, 1) := by decide +kernel
theorem dX8_step_18 : decode cX8_step 18 = .ok (.bipush 99, 2) := by decide +kernel
theorem dX8_step_20 : decode cX8_step 20 = .ok (.invokestatic 78, 3) := by decide +kernel
theorem dX8_step_23 : decode cX8_step 23 = .ok (.ifCond .ne 6, 3) := by decide +kernel
theorem dX8_step_26 : decode cX8_step 26 = .ok (.ldc 82, 2) := by decide +kernel
theorem dX8_step_28 : decode cX8_step 28 = .ok (.ireturn, 1) := by decide +kernel
theorem dX8_step_29 : decode cX8_step 29 = .ok (.aload_n 0, 1) := by decide +kernel
theorem dX8_step_30 : decode cX8_step 30 = .ok (.invokevirtual 238, 3) := by decide +kernel
theorem dX8_step_33 : decode cX8_step 33 = .ok (.aload_n 0, 1) := by decide +kernel
theorem dX8_step_34 : decode cX8_step 34 = .ok (.iload_n 1, 1) := by decide +kernel
theorem dX8_step_35 : decode cX8_step 35 = .ok (.aload_n 0, 1) := by decide +kernel
theorem dX8_step_36 : decode cX8_step 36 = .ok (.iload_n 1, 1) := by decide +kernel
theorem dX8_step_37 : decode cX8_step 37 = .ok (.invokevirtual 251, 3) := by decide +kernel
theorem dX8_step_40 : decode cX8_step 40 = .ok (.invokevirtual 241, 3) := by decide +kernel
theorem dX8_step_43 : decode cX8_step 43 = .ok (.istore_n 3, 1) := by decide +kernel
theorem dX8_step_44 : decode cX8_step 44 = .ok (.iload_n 3, 1) := by decide +kernel
theorem dX8_step_45 : decode cX8_step 45 = .ok (.ldc 223, 2) := by decide +kernel
theorem dX8_step_47 : decode cX8_step 47 = .ok (.if_icmp .ne 5, 3) := by decide +kernel
theorem dX8_step_50 : decode cX8_step 50 = .ok (.iconst (-1), 1) := by decide +kernel
theorem dX8_step_51 : decode cX8_step 51 = .ok (.ireturn, 1) := by decide +kernel
theorem dX8_step_52 : decode cX8_step 52 = .ok (.iconst (-1), 1) := by decide +kernel
theorem dX8_step_53 : decode cX8_step 53 = .ok (.istore 4, 2) := by decide +kernel
theorem dX8_step_55 : decode cX8_step 55 = .ok (.iconst 0, 1) := by decide +kernel
theorem dX8_step_56 : decode cX8_step 56 = .ok (.istore 5, 2) := by decide +kernel
theorem dX8_step_58 : decode cX8_step 58 = .ok (.iload 5, 2) := by decide +kernel
theorem dX8_step_60 : decode cX8_step 60 = .ok (.iload_n 2, 1) := by decide +kernel
theorem dX8_step_61 : decode cX8_step 61 = .ok (.if_icmp .gt 35, 3) := by decide +kernel
theorem dX8_step_64 : decode cX8_step 64 = .ok (.aload_n 0, 1) := by decide +kernel
theorem dX8_step_65 : decode cX8_step 65 = .ok (.getfield 26, 3) := by decide +kernel
theorem dX8_step_68 : decode cX8_step 68 = .ok (.iconst 4, 1) := by decide +kernel
theorem dX8_step_69 : decode cX8_step 69 = .ok (.iload_n 1, 1) := by decide +kernel
theorem dX8_step_70 : decode cX8_step 70 = .ok (.imul, 1) := by decide +kernel
theorem dX8_step_71 : decode cX8_step 71 = .ok (.iaload, 1) := by decide +kernel
theorem dX8_step_72 : decode cX8_step 72 = .ok (.aload_n 0, 1) := by decide +kernel
theorem dX8_step_73 : decode cX8_step 73 = .ok (.iload_n 1, 1) := by decide +kernel
theorem dX8_step_74 : decode cX8_step 74 = .ok (.invokevirtual 251, 3) := by decide +kernel
theorem dX8_step_77 : decode cX8_step 77 = .ok (.if_icmp .ne 5, 3) := by decide +kernel
theorem dX8_step_80 : decode cX8_step 80 = .ok (.iconst (-1), 1) := by decide +kernel
theorem dX8_step_81 : decode cX8_step 81 = .ok (.ireturn, 1) := by decide +kernel
theorem dX8_step_82 : decode cX8_step 82 = .ok (.aload_n 0, 1) := by decide +kernel
theorem dX8_step_83 : decode cX8_step 83 = .ok (.iload_n 1, 1) := by decide +kernel
theorem dX8_step_84 : decode cX8_step 84 = .ok (.iload_n 3, 1) := by decide +kernel
theorem dX8_step_85 : decode cX8_step 85 = .ok (.invokevirtual 260, 3) := by decide +kernel
theorem dX8_step_88 : decode cX8_step 88 = .ok (.istore 4, 2) := by decide +kernel
theorem dX8_step_90 : decode cX8_step 90 = .ok (.iinc 5 1, 3) := by decide +kernel
theorem dX8_step_93 : decode cX8_step 93 = .ok (.goto (-35), 3) := by decide +kernel
theorem dX8_step_96 : decode cX8_step 96 = .ok (.iload 4, 2) := by decide +kernel
theorem dX8_step_98 : decode cX8_step 98 = .ok (.ireturn, 1) := by decide +kernel
theorem cl_X8_260 {X : Cx} {cc : ByteArray} {nL pc fr lo : Nat} {L : List (Nat × Value)} {st : List Value} {S : St} (ok : Ok X cc nL RX8 fr lo) {x1 x2 : Int32} (d : decode cc pc = .ok (.invokevirtual 260, 3)) (hroom : 7 ≤ fr ∧ 174 ≤ lo) (hst : (st.map fun v => v.category).sum ≤ 8) {post : Int32 → St → Prop} (h : wp_X8_nextStep x1 x2 S post) (kk : ∀ (r : Int32) (S1 : St), post r S1 → Wp X nL (pc + 3) L (.int r :: st) S1) : Wp X nL pc L (.int x2 :: .int x1 :: .ref (xad X 71) :: st) S :=
  r_callVi (n := 6) (f := 6) (lo1 := 149) (N := 2) (As := [.int x1, .int x2]) ok tw_in_X8 tw_im_X8_nextStep tw_se_X8_nextStep tw_co_X8_nextStep tw_ml_X8_260 (by decide +kernel) rfl ob_71 rfl hroom hst d rfl (c_X8_nextStep (xl X) (xG X) h) kk
def BD_X8_step_58 (k58 : Int32 → Int32 → Int32 → Int32 → Int32 → St → Prop) (post : Int32 → St → Prop) (x1 : Int32) (x2 : Int32) (x3 : Int32) (x4 : Int32) (x5 : Int32) (S : St) : Prop :=
  ((x2 < x5 → post x4 S) ∧ (¬ x2 < x5 → vp_in ((4 : Int32) * x1) 28 ∧ (wp_X8_errand x1 S (fun r3 S2 => ((¬ (S 76 (ix ((4 : Int32) * x1))) = r3 → wp_X8_nextStep x1 x3 S2 (fun r6 S5 => k58 x1 x2 x3 r6 (x5 + 1) S5)) ∧ ((S 76 (ix ((4 : Int32) * x1))) = r3 → post (-1) S2))))))
def L_X8_step_58 (post : Int32 → St → Prop) (n : Nat) : Int32 → Int32 → Int32 → Int32 → Int32 → St → Prop := Nat.rec (motive := fun _ => Int32 → Int32 → Int32 → Int32 → Int32 → St → Prop) (fun _ _ _ _ _ _ => False) (fun _ ih => BD_X8_step_58 ih post) n
def B_X8_step_58 (post : Int32 → St → Prop) (x1 : Int32) (x2 : Int32) (x3 : Int32) (x4 : Int32) (x5 : Int32) (S : St) : Prop := ∃ n, L_X8_step_58 post n x1 x2 x3 x4 x5 S
def wp_X8_step (x1 : Int32) (x2 : Int32) (S : St) (post : Int32 → St → Prop) : Prop :=
  ∀ S1 : St, S1 = up S 71 0 0 → wp_X8_isPerson x1 S1 (fun r3 S2 => ((¬ r3 = 0 → wp_X8_in x2 0 99 S2 (fun r6 S5 => ((¬ r6 = 0 → wp_X8_asNow S5 (fun S8 => wp_X8_errand x1 S8 (fun r10 S9 => wp_X8_soonestOf x1 r10 S9 (fun r12 S11 => ((¬ r12 = 100000000 → B_X8_step_58 post x1 x2 r12 (-1) 0 S11) ∧ (r12 = 100000000 → post (-1) S11)))))) ∧ (r6 = 0 → post (-1000000002) S5)))) ∧ (r3 = 0 → post (-1000000001) S2)))
theorem w_B_X8_step_58 {X : Cx} (ok : Ok X cX8_step 6 RX8 7 174) {post : Int32 → St → Prop} (hret : RetI X cX8_step 6 post) {x1 x2 x3 x4 x5 : Int32} {S : St} (h : B_X8_step_58 post x1 x2 x3 x4 x5 S) : Wp X 6 58 [(0, .ref (xad X 71)), (1, .int x1), (2, .int x2), (3, .int x3), (4, .int x4), (5, .int x5)] [] S := by
  obtain ⟨n, h⟩ := h
  induction n generalizing x1 x2 x3 x4 x5 S with
  | zero => exact False.elim h
  | succ n ih =>
    have hk58 : ∀ x1 x2 x3 x4 x5 S, L_X8_step_58 post n x1 x2 x3 x4 x5 S → Wp X 6 58 [(0, .ref (xad X 71)), (1, .int x1), (2, .int x2), (3, .int x3), (4, .int x4), (5, .int x5)] [] S := by intros; apply ih; assumption
    replace h : BD_X8_step_58 (L_X8_step_58 post n) post x1 x2 x3 x4 x5 S := h
    unfold BD_X8_step_58 at h
    generalize L_X8_step_58 post n = k58 at h hk58
    refine r_iload ok dX8_step_58 5 rfl ?_
    refine r_iload_n ok dX8_step_60 2 rfl ?_
    refine r_icmp_gt (tgt := 96) ok dX8_step_61 rfl (fun hc1 => ?_) (fun hc1 => ?_)
    · replace h := h.1 hc1
      refine r_iload ok dX8_step_96 4 rfl ?_
      exact hret _ _ _ _ dX8_step_98 h
    · replace h := h.2 hc1
      refine r_aload_n ok dX8_step_64 0 rfl ?_
      refine gf_X8_26 ok dX8_step_65 ?_
      refine r_iconst (v := 4) ok dX8_step_68 rfl ?_
      refine r_iload_n ok dX8_step_69 1 rfl ?_
      refine r_imul ok dX8_step_70 ?_
      refine r_iald ok ai_76 h.1 rfl dX8_step_71 ?_
      replace h := h.2
      refine r_aload_n ok dX8_step_72 0 rfl ?_
      refine r_iload_n ok dX8_step_73 1 rfl ?_
      refine cl_X8_251 ok dX8_step_74 (by decide) (Nat.le_of_ble_eq_true rfl) h (fun r3 S2 h => ?_)
      refine r_icmp_ne (tgt := 82) ok dX8_step_77 rfl (fun hc4 => ?_) (fun hc4 => ?_)
      · replace h := h.1 hc4
        refine r_aload_n ok dX8_step_82 0 rfl ?_
        refine r_iload_n ok dX8_step_83 1 rfl ?_
        refine r_iload_n ok dX8_step_84 3 rfl ?_
        refine cl_X8_260 ok dX8_step_85 (by decide) (Nat.le_of_ble_eq_true rfl) h (fun r6 S5 h => ?_)
        refine r_istore ok dX8_step_88 (by decide) [(0, .ref (xad X 71)), (1, .int x1), (2, .int x2), (3, .int x3), (4, .int r6), (5, .int x5)] [1, 2, 3, 4, 0, 5] rfl ?_
        refine r_iinc (v := x5 + 1) ok dX8_step_90 5 rfl rfl (by decide) [(0, .ref (xad X 71)), (1, .int x1), (2, .int x2), (3, .int x3), (4, .int r6), (5, .int (x5 + 1))] [1, 2, 3, 4, 5, 0] rfl ?_
        refine r_goto (tgt := 58) ok dX8_step_93 rfl ?_
        exact hk58 _ _ _ _ _ _ h
      · replace h := h.2 hc4
        refine r_iconst (v := (-1)) ok dX8_step_80 rfl ?_
        exact hret _ _ _ _ dX8_step_81 h
theorem w_wp_X8_step {X : Cx} (ok : Ok X cX8_step 6 RX8 7 174) {post : Int32 → St → Prop} (hret : RetI X cX8_step 6 post) {x1 x2 : Int32} {S : St} (h : wp_X8_step x1 x2 S post) : Wp X 6 0 [(0, .ref (xad X 71)), (1, .int x1), (2, .int x2)] [] S := by
  unfold wp_X8_step at h
  refine r_aload_n ok dX8_step_0 0 rfl ?_
  refine r_iconst (v := 0) ok dX8_step_1 rfl ?_
  refine pf_X8_75 ok dX8_step_2 (fun S1 eS1 => ?_)
  replace h := h S1 eS1
  refine r_aload_n ok dX8_step_5 0 rfl ?_
  refine r_iload_n ok dX8_step_6 1 rfl ?_
  refine cl_X8_182 ok dX8_step_7 (by decide) (Nat.le_of_ble_eq_true rfl) h (fun r3 S2 h => ?_)
  refine r_if_ne (tgt := 16) ok dX8_step_10 rfl (fun hc4 => ?_) (fun hc4 => ?_)
  · replace h := h.1 hc4
    refine r_iload_n ok dX8_step_16 2 rfl ?_
    refine r_iconst (v := 0) ok dX8_step_17 rfl ?_
    refine r_bipush (v := 99) ok dX8_step_18 rfl ?_
    refine cl_X8_78 ok dX8_step_20 (by decide) (Nat.le_of_ble_eq_true rfl) h (fun r6 S5 h => ?_)
    refine r_if_ne (tgt := 29) ok dX8_step_23 rfl (fun hc7 => ?_) (fun hc7 => ?_)
    · replace h := h.1 hc7
      refine r_aload_n ok dX8_step_29 0 rfl ?_
      refine cl_X8_238 ok dX8_step_30 (by decide) (Nat.le_of_ble_eq_true rfl) h (fun S8 h => ?_)
      refine r_aload_n ok dX8_step_33 0 rfl ?_
      refine r_iload_n ok dX8_step_34 1 rfl ?_
      refine r_aload_n ok dX8_step_35 0 rfl ?_
      refine r_iload_n ok dX8_step_36 1 rfl ?_
      refine cl_X8_251 ok dX8_step_37 (by decide) (Nat.le_of_ble_eq_true rfl) h (fun r10 S9 h => ?_)
      refine cl_X8_241 ok dX8_step_40 (by decide) (Nat.le_of_ble_eq_true rfl) h (fun r12 S11 h => ?_)
      refine r_istore_n ok dX8_step_43 (by decide) [(0, .ref (xad X 71)), (1, .int x1), (2, .int x2), (3, .int r12)] [1, 2, 3, 0] rfl ?_
      refine r_iload_n ok dX8_step_44 3 rfl ?_
      refine r_ldc (v := 100000000) ok dX8_step_45 tw_k_X8_223 ?_
      refine r_icmp_ne (tgt := 52) ok dX8_step_47 rfl (fun hc13 => ?_) (fun hc13 => ?_)
      · replace h := h.1 hc13
        refine r_iconst (v := (-1)) ok dX8_step_52 rfl ?_
        refine r_istore ok dX8_step_53 (by decide) [(0, .ref (xad X 71)), (1, .int x1), (2, .int x2), (3, .int r12), (4, .int (-1))] [1, 2, 3, 4, 0] rfl ?_
        refine r_iconst (v := 0) ok dX8_step_55 rfl ?_
        refine r_istore ok dX8_step_56 (by decide) [(0, .ref (xad X 71)), (1, .int x1), (2, .int x2), (3, .int r12), (4, .int (-1)), (5, .int 0)] [1, 2, 3, 4, 5, 0] rfl ?_
        exact w_B_X8_step_58 ok hret h
      · replace h := h.2 hc13
        refine r_iconst (v := (-1)) ok dX8_step_50 rfl ?_
        exact hret _ _ _ _ dX8_step_51 h
    · replace h := h.2 hc7
      refine r_ldc (v := (-1000000002)) ok dX8_step_26 tw_k_X8_82 ?_
      exact hret _ _ _ _ dX8_step_28 h
  · replace h := h.2 hc4
    refine r_ldc (v := (-1000000001)) ok dX8_step_13 tw_k_X8_174 ?_
    exact hret _ _ _ _ dX8_step_15 h
theorem c_X8_step (l : Launch) (G : Gx) {x1 x2 : Int32} {S : St} {post : Int32 → St → Prop} (h : wp_X8_step x1 x2 S post) : MtI l yX8_step cX8_step 6 (some .int) 7 174 G [.ref (G.2.2 71), .int x1, .int x2] S post :=
  ctI (by decide) rfl (Nat.le_of_ble_eq_true rfl) (fun X _ hG ok hret => by subst hG; exact w_wp_X8_step ok hret h)

/-! HasteRoadsModel.latest(I)I -/
theorem dX8_latest_0 : decode cX8_latest 0 = .ok (.aload_n 0, 1) := by decide +kernel
theorem dX8_latest_1 : decode cX8_latest 1 = .ok (.iconst 0, 1) := by decide +kernel
theorem dX8_latest_2 : decode cX8_latest 2 = .ok (.putfield 75, 3) := by decide +kernel
theorem dX8_latest_5 : decode cX8_latest 5 = .ok (.aload_n 0, 1) := by decide +kernel
theorem dX8_latest_6 : decode cX8_latest 6 = .ok (.iload_n 1, 1) := by decide +kernel
theorem dX8_latest_7 : decode cX8_latest 7 = .ok (.invokevirtual 182, 3) := by decide +kernel
theorem dX8_latest_10 : decode cX8_latest 10 = .ok (.ifCond .ne 6, 3) := by decide +kernel
theorem dX8_latest_13 : decode cX8_latest 13 = .ok (.ldc 174, 2) := by decide +kernel
theorem dX8_latest_15 : decode cX8_latest 15 = .ok (.ireturn, 1) := by decide +kernel
theorem dX8_latest_16 : decode cX8_latest 16 = .ok (.aload_n 0, 1) := by decide +kernel
theorem dX8_latest_17 : decode cX8_latest 17 = .ok (.invokevirtual 238, 3) := by decide +kernel
theorem dX8_latest_20 : decode cX8_latest 20 = .ok (.aload_n 0, 1) := by decide +kernel
theorem dX8_latest_21 : decode cX8_latest 21 = .ok (.iload_n 1, 1) := by decide +kernel
theorem dX8_latest_22 : decode cX8_latest 22 = .ok (.invokevirtual 175, 3) := by decide +kernel
theorem dX8_latest_25 : decode cX8_latest 25 = .ok (.istore_n 2, 1) := by decide +kernel
theorem dX8_latest_26 : decode cX8_latest 26 = .ok (.iload_n 2, 1) := by decide +kernel
theorem dX8_latest_27 : decode cX8_latest 27 = .ok (.aload_n 0, 1) := by decide +kernel
theorem dX8_latest_28 : decode cX8_latest 28 = .ok (.getfield 23, 3) := by decide +kernel
theorem dX8_latest_31 : decode cX8_latest 31 = .ok (.iconst 4, 1) := by decide +kernel
theorem dX8_latest_32 : decode cX8_latest 32 = .ok (.iload_n 1, 1) := by decide +kernel
theorem dX8_latest_33 : decode cX8_latest 33 = .ok (.imul, 1) := by decide +kernel
theorem dX8_latest_34 : decode cX8_latest 34 = .ok (.iconst 3, 1) := by decide +kernel
theorem dX8_latest_35 : decode cX8_latest 35 = .ok (.iadd, 1) := by decide +kernel
theorem dX8_latest_36 : decode cX8_latest 36 = .ok (.iaload, 1) := by decide +kernel
theorem dX8_latest_37 : decode cX8_latest 37 = .ok (.if_icmp .lt 52, 3) := by decide +kernel
theorem dX8_latest_40 : decode cX8_latest 40 = .ok (.aload_n 0, 1) := by decide +kernel
theorem dX8_latest_41 : decode cX8_latest 41 = .ok (.iload_n 1, 1) := by decide +kernel
theorem dX8_latest_42 : decode cX8_latest 42 = .ok (.aload_n 0, 1) := by decide +kernel
theorem dX8_latest_43 : decode cX8_latest 43 = .ok (.getfield 26, 3) := by decide +kernel
theorem dX8_latest_46 : decode cX8_latest 46 = .ok (.iconst 4, 1) := by decide +kernel
theorem dX8_latest_47 : decode cX8_latest 47 = .ok (.iload_n 1, 1) := by decide +kernel
theorem dX8_latest_48 : decode cX8_latest 48 = .ok (.imul, 1) := by decide +kernel
theorem dX8_latest_49 : decode cX8_latest 49 = .ok (.iaload, 1) := by decide +kernel
theorem dX8_latest_50 : decode cX8_latest 50 = .ok (.iload_n 2, 1) := by decide +kernel
theorem dX8_latest_51 : decode cX8_latest 51 = .ok (.aload_n 0, 1) := by decide +kernel
theorem dX8_latest_52 : decode cX8_latest 52 = .ok (.getfield 26, 3) := by decide +kernel
theorem dX8_latest_55 : decode cX8_latest 55 = .ok (.iconst 4, 1) := by decide +kernel
theorem dX8_latest_56 : decode cX8_latest 56 = .ok (.iload_n 1, 1) := by decide +kernel
theorem dX8_latest_57 : decode cX8_latest 57 = .ok (.imul, 1) := by decide +kernel
theorem dX8_latest_58 : decode cX8_latest 58 = .ok (.iconst 1, 1) := by decide +kernel
theorem dX8_latest_59 : decode cX8_latest 59 = .ok (.iadd, 1) := by decide +kernel
theorem dX8_latest_60 : decode cX8_latest 60 = .ok (.iaload, 1) := by decide +kernel
theorem dX8_latest_61 : decode cX8_latest 61 = .ok (.invokevirtual 231, 3) := by decide +kernel
theorem dX8_latest_64 : decode cX8_latest 64 = .ok (.aload_n 0, 1) := by decide +kernel
theorem dX8_latest_65 : decode cX8_latest 65 = .ok (.aload_n 0, 1) := by decide +kernel
theorem dX8_latest_66 : decode cX8_latest 66 = .ok (.iload_n 1, 1) := by decide +kernel
theorem dX8_latest_67 : decode cX8_latest 67 = .ok (.invokevirtual 251, 3) := by decide +kernel
theorem dX8_latest_70 : decode cX8_latest 70 = .ok (.invokevirtual 235, 3) := by decide +kernel
theorem dX8_latest_73 : decode cX8_latest 73 = .ok (.aload_n 0, 1) := by decide +kernel
theorem dX8_latest_74 : decode cX8_latest 74 = .ok (.iload_n 1, 1) := by decide +kernel
theorem dX8_latest_75 : decode cX8_latest 75 = .ok (.invokevirtual 175, 3) := by decide +kernel
theorem dX8_latest_78 : decode cX8_latest 78 = .ok (.if_icmp .gt 5, 3) := by decide +kernel
theorem dX8_latest_81 : decode cX8_latest 81 = .ok (.iload_n 2, 1) := by decide +kernel
theorem dX8_latest_82 : decode cX8_latest 82 = .ok (.ireturn, 1) := by decide +kernel
theorem dX8_latest_83 : decode cX8_latest 83 = .ok (.iinc 2 (-1), 3) := by decide +kernel
theorem dX8_latest_86 : decode cX8_latest 86 = .ok (.goto (-60), 3) := by decide +kernel
theorem dX8_latest_89 : decode cX8_latest 89 = .ok (.iconst (-1), 1) := by decide +kernel
theorem dX8_latest_90 : decode cX8_latest 90 = .ok (.ireturn, 1) := by decide +kernel

def BD_X8_latest_26 (k26 : Int32 → Int32 → St → Prop) (post : Int32 → St → Prop) (x1 : Int32) (x2 : Int32) (S : St) : Prop :=
  vp_in (((4 : Int32) * x1) + 3) 28 ∧ (((x2 < (S 75 (ix (((4 : Int32) * x1) + 3))) → post (-1) S) ∧ (¬ x2 < (S 75 (ix (((4 : Int32) * x1) + 3))) → vp_in ((4 : Int32) * x1) 28 ∧ (vp_in (((4 : Int32) * x1) + 1) 28 ∧ (wp_X8_spreads x1 (S 76 (ix ((4 : Int32) * x1))) x2 (S 76 (ix (((4 : Int32) * x1) + 1))) S (fun S2 => wp_X8_errand x1 S2 (fun r4 S3 => wp_X8_soonestAt r4 S3 (fun r6 S5 => wp_X8_due x1 S5 (fun r8 S7 => ((r8 < r6 → k26 x1 (x2 + (-1)) S7) ∧ (¬ r8 < r6 → post x2 S7)))))))))))
def L_X8_latest_26 (post : Int32 → St → Prop) (n : Nat) : Int32 → Int32 → St → Prop := Nat.rec (motive := fun _ => Int32 → Int32 → St → Prop) (fun _ _ _ => False) (fun _ ih => BD_X8_latest_26 ih post) n
def B_X8_latest_26 (post : Int32 → St → Prop) (x1 : Int32) (x2 : Int32) (S : St) : Prop := ∃ n, L_X8_latest_26 post n x1 x2 S
def wp_X8_latest (x1 : Int32) (S : St) (post : Int32 → St → Prop) : Prop :=
  ∀ S1 : St, S1 = up S 71 0 0 → wp_X8_isPerson x1 S1 (fun r3 S2 => ((¬ r3 = 0 → wp_X8_asNow S2 (fun S5 => wp_X8_due x1 S5 (fun r7 S6 => B_X8_latest_26 post x1 r7 S6))) ∧ (r3 = 0 → post (-1000000001) S2)))
theorem w_B_X8_latest_26 {X : Cx} (ok : Ok X cX8_latest 3 RX8 4 103) {post : Int32 → St → Prop} (hret : RetI X cX8_latest 3 post) {x1 x2 : Int32} {S : St} (h : B_X8_latest_26 post x1 x2 S) : Wp X 3 26 [(0, .ref (xad X 71)), (1, .int x1), (2, .int x2)] [] S := by
  obtain ⟨n, h⟩ := h
  induction n generalizing x1 x2 S with
  | zero => exact False.elim h
  | succ n ih =>
    have hk26 : ∀ x1 x2 S, L_X8_latest_26 post n x1 x2 S → Wp X 3 26 [(0, .ref (xad X 71)), (1, .int x1), (2, .int x2)] [] S := by intros; apply ih; assumption
    replace h : BD_X8_latest_26 (L_X8_latest_26 post n) post x1 x2 S := h
    unfold BD_X8_latest_26 at h
    generalize L_X8_latest_26 post n = k26 at h hk26
    refine r_iload_n ok dX8_latest_26 2 rfl ?_
    refine r_aload_n ok dX8_latest_27 0 rfl ?_
    refine gf_X8_23 ok dX8_latest_28 ?_
    refine r_iconst (v := 4) ok dX8_latest_31 rfl ?_
    refine r_iload_n ok dX8_latest_32 1 rfl ?_
    refine r_imul ok dX8_latest_33 ?_
    refine r_iconst (v := 3) ok dX8_latest_34 rfl ?_
    refine r_iadd ok dX8_latest_35 ?_
    refine r_iald ok ai_75 h.1 rfl dX8_latest_36 ?_
    replace h := h.2
    refine r_icmp_lt (tgt := 89) ok dX8_latest_37 rfl (fun hc1 => ?_) (fun hc1 => ?_)
    · replace h := h.1 hc1
      refine r_iconst (v := (-1)) ok dX8_latest_89 rfl ?_
      exact hret _ _ _ _ dX8_latest_90 h
    · replace h := h.2 hc1
      refine r_aload_n ok dX8_latest_40 0 rfl ?_
      refine r_iload_n ok dX8_latest_41 1 rfl ?_
      refine r_aload_n ok dX8_latest_42 0 rfl ?_
      refine gf_X8_26 ok dX8_latest_43 ?_
      refine r_iconst (v := 4) ok dX8_latest_46 rfl ?_
      refine r_iload_n ok dX8_latest_47 1 rfl ?_
      refine r_imul ok dX8_latest_48 ?_
      refine r_iald ok ai_76 h.1 rfl dX8_latest_49 ?_
      replace h := h.2
      refine r_iload_n ok dX8_latest_50 2 rfl ?_
      refine r_aload_n ok dX8_latest_51 0 rfl ?_
      refine gf_X8_26 ok dX8_latest_52 ?_
      refine r_iconst (v := 4) ok dX8_latest_55 rfl ?_
      refine r_iload_n ok dX8_latest_56 1 rfl ?_
      refine r_imul ok dX8_latest_57 ?_
      refine r_iconst (v := 1) ok dX8_latest_58 rfl ?_
      refine r_iadd ok dX8_latest_59 ?_
      refine r_iald ok ai_76 h.1 rfl dX8_latest_60 ?_
      replace h := h.2
      refine cl_X8_231 ok dX8_latest_61 (by decide) (Nat.le_of_ble_eq_true rfl) h (fun S2 h => ?_)
      refine r_aload_n ok dX8_latest_64 0 rfl ?_
      refine r_aload_n ok dX8_latest_65 0 rfl ?_
      refine r_iload_n ok dX8_latest_66 1 rfl ?_
      refine cl_X8_251 ok dX8_latest_67 (by decide) (Nat.le_of_ble_eq_true rfl) h (fun r4 S3 h => ?_)
      refine cl_X8_235 ok dX8_latest_70 (by decide) (Nat.le_of_ble_eq_true rfl) h (fun r6 S5 h => ?_)
      refine r_aload_n ok dX8_latest_73 0 rfl ?_
      refine r_iload_n ok dX8_latest_74 1 rfl ?_
      refine cl_X8_175 ok dX8_latest_75 (by decide) (Nat.le_of_ble_eq_true rfl) h (fun r8 S7 h => ?_)
      refine r_icmp_gt (tgt := 83) ok dX8_latest_78 rfl (fun hc9 => ?_) (fun hc9 => ?_)
      · replace h := h.1 hc9
        refine r_iinc (v := x2 + (-1)) ok dX8_latest_83 2 rfl rfl (by decide) [(0, .ref (xad X 71)), (1, .int x1), (2, .int (x2 + (-1)))] [1, 2, 0] rfl ?_
        refine r_goto (tgt := 26) ok dX8_latest_86 rfl ?_
        exact hk26 _ _ _ h
      · replace h := h.2 hc9
        refine r_iload_n ok dX8_latest_81 2 rfl ?_
        exact hret _ _ _ _ dX8_latest_82 h
theorem w_wp_X8_latest {X : Cx} (ok : Ok X cX8_latest 3 RX8 4 103) {post : Int32 → St → Prop} (hret : RetI X cX8_latest 3 post) {x1 : Int32} {S : St} (h : wp_X8_latest x1 S post) : Wp X 3 0 [(0, .ref (xad X 71)), (1, .int x1)] [] S := by
  unfold wp_X8_latest at h
  refine r_aload_n ok dX8_latest_0 0 rfl ?_
  refine r_iconst (v := 0) ok dX8_latest_1 rfl ?_
  refine pf_X8_75 ok dX8_latest_2 (fun S1 eS1 => ?_)
  replace h := h S1 eS1
  refine r_aload_n ok dX8_latest_5 0 rfl ?_
  refine r_iload_n ok dX8_latest_6 1 rfl ?_
  refine cl_X8_182 ok dX8_latest_7 (by decide) (Nat.le_of_ble_eq_true rfl) h (fun r3 S2 h => ?_)
  refine r_if_ne (tgt := 16) ok dX8_latest_10 rfl (fun hc4 => ?_) (fun hc4 => ?_)
  · replace h := h.1 hc4
    refine r_aload_n ok dX8_latest_16 0 rfl ?_
    refine cl_X8_238 ok dX8_latest_17 (by decide) (Nat.le_of_ble_eq_true rfl) h (fun S5 h => ?_)
    refine r_aload_n ok dX8_latest_20 0 rfl ?_
    refine r_iload_n ok dX8_latest_21 1 rfl ?_
    refine cl_X8_175 ok dX8_latest_22 (by decide) (Nat.le_of_ble_eq_true rfl) h (fun r7 S6 h => ?_)
    refine r_istore_n ok dX8_latest_25 (by decide) [(0, .ref (xad X 71)), (1, .int x1), (2, .int r7)] [1, 2, 0] rfl ?_
    exact w_B_X8_latest_26 ok hret h
  · replace h := h.2 hc4
    refine r_ldc (v := (-1000000001)) ok dX8_latest_13 tw_k_X8_174 ?_
    exact hret _ _ _ _ dX8_latest_15 h
theorem c_X8_latest (l : Launch) (G : Gx) {x1 : Int32} {S : St} {post : Int32 → St → Prop} (h : wp_X8_latest x1 S post) : MtI l yX8_latest cX8_latest 3 (some .int) 4 103 G [.ref (G.2.2 71), .int x1] S post :=
  ctI (by decide) rfl (Nat.le_of_ble_eq_true rfl) (fun X _ hG ok hret => by subst hG; exact w_wp_X8_latest ok hret h)

/-! HasteRoadsModel.areInTime()Z -/
theorem dX8_areInTime_0 : decode cX8_areInTime 0 = .ok (.iconst 1, 1) := by decide +kernel
theorem dX8_areInTime_1 : decode cX8_areInTime 1 = .ok (.istore_n 1, 1) := by decide +kernel
theorem dX8_areInTime_2 : decode cX8_areInTime 2 = .ok (.iconst 0, 1) := by decide +kernel
theorem dX8_areInTime_3 : decode cX8_areInTime 3 = .ok (.istore_n 2, 1) := by decide +kernel
theorem dX8_areInTime_4 : decode cX8_areInTime 4 = .ok (.iload_n 2, 1) := by decide +kernel
theorem dX8_areInTime_5 : decode cX8_areInTime 5 = .ok (.aload_n 0, 1) := by decide +kernel
theorem dX8_areInTime_6 : decode cX8_areInTime 6 = .ok (.getfield 161, 3) := by decide +kernel
theorem dX8_areInTime_9 : decode cX8_areInTime 9 = .ok (.if_icmp .ge 37, 3) := by decide +kernel
theorem dX8_areInTime_12 : decode cX8_areInTime 12 = .ok (.iload_n 1, 1) := by decide +kernel
theorem dX8_areInTime_13 : decode cX8_areInTime 13 = .ok (.ifCond .eq 33, 3) := by decide +kernel
theorem dX8_areInTime_16 : decode cX8_areInTime 16 = .ok (.aload_n 0, 1) := by decide +kernel
theorem dX8_areInTime_17 : decode cX8_areInTime 17 = .ok (.iload_n 2, 1) := by decide +kernel
theorem dX8_areInTime_18 : decode cX8_areInTime 18 = .ok (.aload_n 0, 1) := by decide +kernel
theorem dX8_areInTime_19 : decode cX8_areInTime 19 = .ok (.iload_n 2, 1) := by decide +kernel
theorem dX8_areInTime_20 : decode cX8_areInTime 20 = .ok (.invokevirtual 251, 3) := by decide +kernel
theorem dX8_areInTime_23 : decode cX8_areInTime 23 = .ok (.invokevirtual 241, 3) := by decide +kernel
theorem dX8_areInTime_26 : decode cX8_areInTime 26 = .ok (.aload_n 0, 1) := by decide +kernel
theorem dX8_areInTime_27 : decode cX8_areInTime 27 = .ok (.iload_n 2, 1) := by decide +kernel
theorem dX8_areInTime_28 : decode cX8_areInTime 28 = .ok (.invokevirtual 175, 3) := by decide +kernel
theorem dX8_areInTime_31 : decode cX8_areInTime 31 = .ok (.if_icmp .gt 7, 3) := by decide +kernel
theorem dX8_areInTime_34 : decode cX8_areInTime 34 = .ok (.iconst 1, 1) := by decide +kernel
theorem dX8_areInTime_35 : decode cX8_areInTime 35 = .ok (.goto 4, 3) := by decide +kernel
theorem dX8_areInTime_38 : decode cX8_areInTime 38 = .ok (.iconst 0, 1) := by decide +kernel
theorem dX8_areInTime_39 : decode cX8_areInTime 39 = .ok (.istore_n 1, 1) := by decide +kernel
theorem dX8_areInTime_40 : decode cX8_areInTime 40 = .ok (.iinc 2 1, 3) := by decide +kernel
theorem dX8_areInTime_43 : decode cX8_areInTime 43 = .ok (.goto (-39), 3) := by decide +kernel
theorem dX8_areInTime_46 : decode cX8_areInTime 46 = .ok (.iload_n 1, 1) := by decide +kernel
theorem dX8_areInTime_47 : decode cX8_areInTime 47 = .ok (.ireturn, 1) := by decide +kernel

def BD_X8_areInTime_4 (k4 : Int32 → Int32 → St → Prop) (post : Int32 → St → Prop) (x1 : Int32) (x2 : Int32) (S : St) : Prop :=
  (((S 71 12) ≤ x2 → ((x1 = 0 ∨ x1 = 1) ∧ post x1 S)) ∧ (¬ (S 71 12) ≤ x2 → ((x1 = 0 → ((x1 = 0 ∨ x1 = 1) ∧ post x1 S)) ∧ (¬ x1 = 0 → wp_X8_errand x2 S (fun r4 S3 => wp_X8_soonestOf x2 r4 S3 (fun r6 S5 => wp_X8_due x2 S5 (fun r8 S7 => ((r8 < r6 → k4 0 (x2 + 1) S7) ∧ (¬ r8 < r6 → k4 1 (x2 + 1) S7)))))))))
def L_X8_areInTime_4 (post : Int32 → St → Prop) (n : Nat) : Int32 → Int32 → St → Prop := Nat.rec (motive := fun _ => Int32 → Int32 → St → Prop) (fun _ _ _ => False) (fun _ ih => BD_X8_areInTime_4 ih post) n
def B_X8_areInTime_4 (post : Int32 → St → Prop) (x1 : Int32) (x2 : Int32) (S : St) : Prop := ∃ n, L_X8_areInTime_4 post n x1 x2 S
def wp_X8_areInTime (S : St) (post : Int32 → St → Prop) : Prop :=
  B_X8_areInTime_4 post 1 0 S
theorem w_B_X8_areInTime_4 {X : Cx} (ok : Ok X cX8_areInTime 3 RX8 5 125) {post : Int32 → St → Prop} (hret : RetZ X cX8_areInTime 3 post) {x1 x2 : Int32} {S : St} (h : B_X8_areInTime_4 post x1 x2 S) : Wp X 3 4 [(0, .ref (xad X 71)), (1, .int x1), (2, .int x2)] [] S := by
  obtain ⟨n, h⟩ := h
  induction n generalizing x1 x2 S with
  | zero => exact False.elim h
  | succ n ih =>
    have hk4 : ∀ x1 x2 S, L_X8_areInTime_4 post n x1 x2 S → Wp X 3 4 [(0, .ref (xad X 71)), (1, .int x1), (2, .int x2)] [] S := by intros; apply ih; assumption
    replace h : BD_X8_areInTime_4 (L_X8_areInTime_4 post n) post x1 x2 S := h
    unfold BD_X8_areInTime_4 at h
    generalize L_X8_areInTime_4 post n = k4 at h hk4
    refine r_iload_n ok dX8_areInTime_4 2 rfl ?_
    refine r_aload_n ok dX8_areInTime_5 0 rfl ?_
    refine gf_X8_161 ok dX8_areInTime_6 ?_
    refine r_icmp_ge (tgt := 46) ok dX8_areInTime_9 rfl (fun hc1 => ?_) (fun hc1 => ?_)
    · replace h := h.1 hc1
      refine r_iload_n ok dX8_areInTime_46 1 rfl ?_
      exact hret _ _ _ _ dX8_areInTime_47 h.1 h.2
    · replace h := h.2 hc1
      refine r_iload_n ok dX8_areInTime_12 1 rfl ?_
      refine r_if_eq (tgt := 46) ok dX8_areInTime_13 rfl (fun hc2 => ?_) (fun hc2 => ?_)
      · replace h := h.1 hc2
        refine r_iload_n ok dX8_areInTime_46 1 rfl ?_
        exact hret _ _ _ _ dX8_areInTime_47 h.1 h.2
      · replace h := h.2 hc2
        refine r_aload_n ok dX8_areInTime_16 0 rfl ?_
        refine r_iload_n ok dX8_areInTime_17 2 rfl ?_
        refine r_aload_n ok dX8_areInTime_18 0 rfl ?_
        refine r_iload_n ok dX8_areInTime_19 2 rfl ?_
        refine cl_X8_251 ok dX8_areInTime_20 (by decide) (Nat.le_of_ble_eq_true rfl) h (fun r4 S3 h => ?_)
        refine cl_X8_241 ok dX8_areInTime_23 (by decide) (Nat.le_of_ble_eq_true rfl) h (fun r6 S5 h => ?_)
        refine r_aload_n ok dX8_areInTime_26 0 rfl ?_
        refine r_iload_n ok dX8_areInTime_27 2 rfl ?_
        refine cl_X8_175 ok dX8_areInTime_28 (by decide) (Nat.le_of_ble_eq_true rfl) h (fun r8 S7 h => ?_)
        refine r_icmp_gt (tgt := 38) ok dX8_areInTime_31 rfl (fun hc9 => ?_) (fun hc9 => ?_)
        · replace h := h.1 hc9
          refine r_iconst (v := 0) ok dX8_areInTime_38 rfl ?_
          refine r_istore_n ok dX8_areInTime_39 (by decide) [(0, .ref (xad X 71)), (1, .int 0), (2, .int x2)] [1, 0, 2] rfl ?_
          refine r_iinc (v := x2 + 1) ok dX8_areInTime_40 2 rfl rfl (by decide) [(0, .ref (xad X 71)), (1, .int 0), (2, .int (x2 + 1))] [1, 2, 0] rfl ?_
          refine r_goto (tgt := 4) ok dX8_areInTime_43 rfl ?_
          exact hk4 _ _ _ h
        · replace h := h.2 hc9
          refine r_iconst (v := 1) ok dX8_areInTime_34 rfl ?_
          refine r_goto (tgt := 39) ok dX8_areInTime_35 rfl ?_
          refine r_istore_n ok dX8_areInTime_39 (by decide) [(0, .ref (xad X 71)), (1, .int 1), (2, .int x2)] [1, 0, 2] rfl ?_
          refine r_iinc (v := x2 + 1) ok dX8_areInTime_40 2 rfl rfl (by decide) [(0, .ref (xad X 71)), (1, .int 1), (2, .int (x2 + 1))] [1, 2, 0] rfl ?_
          refine r_goto (tgt := 4) ok dX8_areInTime_43 rfl ?_
          exact hk4 _ _ _ h
theorem w_wp_X8_areInTime {X : Cx} (ok : Ok X cX8_areInTime 3 RX8 5 125) {post : Int32 → St → Prop} (hret : RetZ X cX8_areInTime 3 post) {S : St} (h : wp_X8_areInTime S post) : Wp X 3 0 [(0, .ref (xad X 71))] [] S := by
  unfold wp_X8_areInTime at h
  refine r_iconst (v := 1) ok dX8_areInTime_0 rfl ?_
  refine r_istore_n ok dX8_areInTime_1 (by decide) [(0, .ref (xad X 71)), (1, .int 1)] [1, 0] rfl ?_
  refine r_iconst (v := 0) ok dX8_areInTime_2 rfl ?_
  refine r_istore_n ok dX8_areInTime_3 (by decide) [(0, .ref (xad X 71)), (1, .int 1), (2, .int 0)] [1, 2, 0] rfl ?_
  exact w_B_X8_areInTime_4 ok hret h
theorem c_X8_areInTime (l : Launch) (G : Gx) {S : St} {post : Int32 → St → Prop} (h : wp_X8_areInTime S post) : MtI l yX8_areInTime cX8_areInTime 3 (some .boolean) 5 125 G [.ref (G.2.2 71)] S post :=
  ctZ (by decide) rfl (Nat.le_of_ble_eq_true rfl) (fun X _ hG ok hret => by subst hG; exact w_wp_X8_areInTime ok hret h)

/-! HasteRoadsModel.inns(I)I -/
theorem dX8_inns_0 : decode cX8_inns 0 = .ok (.aload_n 0, 1) := by decide +kernel
theorem dX8_inns_1 : decode cX8_inns 1 = .ok (.iconst 0, 1) := by decide +kernel
theorem dX8_inns_2 : decode cX8_inns 2 = .ok (.putfield 75, 3) := by decide +kernel
theorem dX8_inns_5 : decode cX8_inns 5 = .ok (.iload_n 1, 1) := by decide +kernel
theorem dX8_inns_6 : decode cX8_inns 6 = .ok (.iconst 0, 1) := by decide +kernel
theorem dX8_inns_7 : decode cX8_inns 7 = .ok (.iconst 1, 1) := by decide +kernel
theorem dX8_inns_8 : decode cX8_inns 8 = .ok (.invokestatic 78, 3) := by decide +kernel
theorem dX8_inns_11 : decode cX8_inns 11 = .ok (.ifCond .ne 6, 3) := by decide +kernel
theorem dX8_inns_14 : decode cX8_inns 14 = .ok (.ldc 82, 2) := by decide +kernel
theorem dX8_inns_16 : decode cX8_inns 16 = .ok (.ireturn, 1) := by decide +kernel
theorem dX8_inns_17 : decode cX8_inns 17 = .ok (.iconst (-1), 1) := by decide +kernel
theorem dX8_inns_18 : decode cX8_inns 18 = .ok (.istore_n 2, 1) := by decide +kernel
theorem dX8_inns_19 : decode cX8_inns 19 = .ok (.aload_n 0, 1) := by decide +kernel
theorem dX8_inns_20 : decode cX8_inns 20 = .ok (.invokevirtual 238, 3) := by decide +kernel
theorem dX8_inns_23 : decode cX8_inns 23 = .ok (.iconst 0, 1) := by decide +kernel
theorem dX8_inns_24 : decode cX8_inns 24 = .ok (.istore_n 3, 1) := by decide +kernel
theorem dX8_inns_25 : decode cX8_inns 25 = .ok (.iload_n 3, 1) := by decide +kernel
theorem dX8_inns_26 : decode cX8_inns 26 = .ok (.iconst 1, 1) := by decide +kernel
theorem dX8_inns_27 : decode cX8_inns 27 = .ok (.aload_n 0, 1) := by decide +kernel
theorem dX8_inns_28 : decode cX8_inns 28 = .ok (.getfield 155, 3) := by decide +kernel
theorem dX8_inns_31 : decode cX8_inns 31 = .ok (.ishl, 1) := by decide +kernel
theorem dX8_inns_32 : decode cX8_inns 32 = .ok (.if_icmp .ge 46, 3) := by decide +kernel
theorem dX8_inns_35 : decode cX8_inns 35 = .ok (.iload_n 2, 1) := by decide +kernel
theorem dX8_inns_36 : decode cX8_inns 36 = .ok (.iconst (-1), 1) := by decide +kernel
theorem dX8_inns_37 : decode cX8_inns 37 = .ok (.if_icmp .eq 14, 3) := by decide +kernel
theorem dX8_inns_40 : decode cX8_inns 40 = .ok (.iload_n 3, 1) := by decide +kernel
theorem dX8_inns_41 : decode cX8_inns 41 = .ok (.invokestatic 263, 3) := by decide +kernel
theorem dX8_inns_44 : decode cX8_inns 44 = .ok (.iload_n 2, 1) := by decide +kernel
theorem dX8_inns_45 : decode cX8_inns 45 = .ok (.invokestatic 263, 3) := by decide +kernel
theorem dX8_inns_48 : decode cX8_inns 48 = .ok (.if_icmp .ge 24, 3) := by decide +kernel
theorem dX8_inns_51 : decode cX8_inns 51 = .ok (.aload_n 0, 1) := by decide +kernel
theorem dX8_inns_52 : decode cX8_inns 52 = .ok (.getfield 26, 3) := by decide +kernel
theorem dX8_inns_55 : decode cX8_inns 55 = .ok (.bipush 16, 2) := by decide +kernel
theorem dX8_inns_57 : decode cX8_inns 57 = .ok (.iload_n 3, 1) := by decide +kernel
theorem dX8_inns_58 : decode cX8_inns 58 = .ok (.iastore, 1) := by decide +kernel
theorem dX8_inns_59 : decode cX8_inns 59 = .ok (.aload_n 0, 1) := by decide +kernel
theorem dX8_inns_60 : decode cX8_inns 60 = .ok (.invokevirtual 266, 3) := by decide +kernel
theorem dX8_inns_63 : decode cX8_inns 63 = .ok (.ifCond .eq 7, 3) := by decide +kernel
theorem dX8_inns_66 : decode cX8_inns 66 = .ok (.iload_n 3, 1) := by decide +kernel
theorem dX8_inns_67 : decode cX8_inns 67 = .ok (.goto 4, 3) := by decide +kernel
theorem dX8_inns_70 : decode cX8_inns 70 = .ok (.iload_n 2, 1) := by decide +kernel
theorem dX8_inns_71 : decode cX8_inns 71 = .ok (.istore_n 2, 1) := by decide +kernel
theorem dX8_inns_72 : decode cX8_inns 72 = .ok (.iinc 3 1, 3) := by decide +kernel
theorem dX8_inns_75 : decode cX8_inns 75 = .ok (.goto (-50), 3) := by decide +kernel
theorem dX8_inns_78 : decode cX8_inns 78 = .ok (.iload_n 2, 1) := by decide +kernel
theorem dX8_inns_79 : decode cX8_inns 79 = .ok (.iconst (-1), 1) := by decide +kernel
theorem dX8_inns_80 : decode cX8_inns 80 = .ok (.if_icmp .eq 8, 3) := by decide +kernel
theorem dX8_inns_83 : decode cX8_inns 83 = .ok (.iload_n 1, 1) := by decide +kernel
theorem dX8_inns_84 : decode cX8_inns 84 = .ok (.iconst 1, 1) := by decide +kernel
theorem dX8_inns_85 : decode cX8_inns 85 = .ok (.if_icmp .ne 7, 3) := by decide +kernel
theorem dX8_inns_88 : decode cX8_inns 88 = .ok (.iload_n 2, 1) := by decide +kernel
theorem dX8_inns_89 : decode cX8_inns 89 = .ok (.goto 7, 3) := by decide +kernel
theorem dX8_inns_92 : decode cX8_inns 92 = .ok (.iload_n 2, 1) := by decide +kernel
theorem dX8_inns_93 : decode cX8_inns 93 = .ok (.invokestatic 263, 3) := by decide +kernel
theorem dX8_inns_96 : decode cX8_inns 96 = .ok (.ireturn, 1) := by decide +kernel
theorem cl_X8_263 {X : Cx} {cc : ByteArray} {nL pc fr lo : Nat} {L : List (Nat × Value)} {st : List Value} {S : St} (ok : Ok X cc nL RX8 fr lo) {x0 : Int32} (d : decode cc pc = .ok (.invokestatic 263, 3)) (hroom : 1 ≤ fr ∧ 22 ≤ lo) (hst : (st.map fun v => v.category).sum ≤ 8) {post : Int32 → St → Prop} (h : wp_X8_ones x0 S post) (kk : ∀ (r : Int32) (S1 : St), post r S1 → Wp X nL (pc + 3) L (.int r :: st) S1) : Wp X nL pc L (.int x0 :: st) S :=
  r_callSi (n := 3) (f := 0) (lo1 := 0) (N := 1) (As := [.int x0]) ok tw_in_X8 tw_st_X8_ones tw_co_X8_ones tw_ml_X8_263 (by decide +kernel) rfl hroom hst d rfl (c_X8_ones (xl X) (xG X) h) kk
theorem cl_X8_266 {X : Cx} {cc : ByteArray} {nL pc fr lo : Nat} {L : List (Nat × Value)} {st : List Value} {S : St} (ok : Ok X cc nL RX8 fr lo) (d : decode cc pc = .ok (.invokevirtual 266, 3)) (hroom : 6 ≤ fr ∧ 147 ≤ lo) (hst : (st.map fun v => v.category).sum ≤ 8) {post : Int32 → St → Prop} (h : wp_X8_areInTime S post) (kk : ∀ (r : Int32) (S1 : St), post r S1 → Wp X nL (pc + 3) L (.int r :: st) S1) : Wp X nL pc L (.ref (xad X 71) :: st) S :=
  r_callVi (n := 3) (f := 5) (lo1 := 125) (N := 0) (As := []) ok tw_in_X8 tw_im_X8_areInTime tw_se_X8_areInTime tw_co_X8_areInTime tw_ml_X8_266 (by decide +kernel) rfl ob_71 rfl hroom hst d rfl (c_X8_areInTime (xl X) (xG X) h) kk
def B_X8_inns_78 (post : Int32 → St → Prop) (x1 : Int32) (x2 : Int32) (S : St) : Prop :=
  ((x2 = (-1) → post x2 S) ∧ (¬ x2 = (-1) → ((¬ x1 = 1 → wp_X8_ones x2 S (fun r4 S3 => post r4 S3)) ∧ (x1 = 1 → post x2 S))))
def B_X8_inns_51 (k25 : Int32 → Int32 → Int32 → St → Prop) (post : Int32 → St → Prop) (x1 : Int32) (x2 : Int32) (x3 : Int32) (S : St) : Prop :=
  ∀ S1 : St, S1 = up S 76 16 x3 → wp_X8_areInTime S1 (fun r3 S2 => ((r3 = 0 → k25 x1 x2 (x3 + 1) S2) ∧ (¬ r3 = 0 → k25 x1 x3 (x3 + 1) S2)))
def BD_X8_inns_25 (k25 : Int32 → Int32 → Int32 → St → Prop) (post : Int32 → St → Prop) (x1 : Int32) (x2 : Int32) (x3 : Int32) (S : St) : Prop :=
  ((((1 : Int32) <<< ((S 71 10) &&& 31)) ≤ x3 → B_X8_inns_78 post x1 x2 S) ∧ (¬ ((1 : Int32) <<< ((S 71 10) &&& 31)) ≤ x3 → ((x2 = (-1) → B_X8_inns_51 k25 post x1 x2 x3 S) ∧ (¬ x2 = (-1) → wp_X8_ones x3 S (fun r4 S3 => wp_X8_ones x2 S3 (fun r6 S5 => ((r6 ≤ r4 → k25 x1 x2 (x3 + 1) S5) ∧ (¬ r6 ≤ r4 → B_X8_inns_51 k25 post x1 x2 x3 S5))))))))
def L_X8_inns_25 (post : Int32 → St → Prop) (n : Nat) : Int32 → Int32 → Int32 → St → Prop := Nat.rec (motive := fun _ => Int32 → Int32 → Int32 → St → Prop) (fun _ _ _ _ => False) (fun _ ih => BD_X8_inns_25 ih post) n
def B_X8_inns_25 (post : Int32 → St → Prop) (x1 : Int32) (x2 : Int32) (x3 : Int32) (S : St) : Prop := ∃ n, L_X8_inns_25 post n x1 x2 x3 S
def wp_X8_inns (x1 : Int32) (S : St) (post : Int32 → St → Prop) : Prop :=
  ∀ S1 : St, S1 = up S 71 0 0 → wp_X8_in x1 0 1 S1 (fun r3 S2 => ((¬ r3 = 0 → wp_X8_asNow S2 (fun S5 => B_X8_inns_25 post x1 (-1) 0 S5)) ∧ (r3 = 0 → post (-1000000002) S2)))
theorem w_B_X8_inns_78 {X : Cx} (ok : Ok X cX8_inns 4 RX8 6 147) {post : Int32 → St → Prop} (hret : RetI X cX8_inns 4 post) {x1 x2 : Int32} {S : St} (h : B_X8_inns_78 post x1 x2 S) : Wp X 4 78 [(1, .int x1), (2, .int x2)] [] S := by
  unfold B_X8_inns_78 at h
  refine r_iload_n ok dX8_inns_78 1 rfl ?_
  refine r_iconst (v := (-1)) ok dX8_inns_79 rfl ?_
  refine r_icmp_eq (tgt := 88) ok dX8_inns_80 rfl (fun hc1 => ?_) (fun hc1 => ?_)
  · replace h := h.1 hc1
    refine r_iload_n ok dX8_inns_88 1 rfl ?_
    refine r_goto (tgt := 96) ok dX8_inns_89 rfl ?_
    exact hret _ _ _ _ dX8_inns_96 h
  · replace h := h.2 hc1
    refine r_iload_n ok dX8_inns_83 0 rfl ?_
    refine r_iconst (v := 1) ok dX8_inns_84 rfl ?_
    refine r_icmp_ne (tgt := 92) ok dX8_inns_85 rfl (fun hc2 => ?_) (fun hc2 => ?_)
    · replace h := h.1 hc2
      refine r_iload_n ok dX8_inns_92 1 rfl ?_
      refine cl_X8_263 ok dX8_inns_93 (by decide) (Nat.le_of_ble_eq_true rfl) h (fun r4 S3 h => ?_)
      exact hret _ _ _ _ dX8_inns_96 h
    · replace h := h.2 hc2
      refine r_iload_n ok dX8_inns_88 1 rfl ?_
      refine r_goto (tgt := 96) ok dX8_inns_89 rfl ?_
      exact hret _ _ _ _ dX8_inns_96 h
theorem w_B_X8_inns_51 {X : Cx} (ok : Ok X cX8_inns 4 RX8 6 147) {post : Int32 → St → Prop} (hret : RetI X cX8_inns 4 post) {k25 : Int32 → Int32 → Int32 → St → Prop} (hk25 : ∀ x1 x2 x3 S, k25 x1 x2 x3 S → Wp X 4 25 [(0, .ref (xad X 71)), (1, .int x1), (2, .int x2), (3, .int x3)] [] S) {x1 x2 x3 : Int32} {S : St} (h : B_X8_inns_51 k25 post x1 x2 x3 S) : Wp X 4 51 [(0, .ref (xad X 71)), (1, .int x1), (2, .int x2), (3, .int x3)] [] S := by
  unfold B_X8_inns_51 at h
  refine r_aload_n ok dX8_inns_51 0 rfl ?_
  refine gf_X8_26 ok dX8_inns_52 ?_
  refine r_bipush (v := 16) ok dX8_inns_55 rfl ?_
  refine r_iload_n ok dX8_inns_57 3 rfl ?_
  refine r_iast (j := 16) ok ai_76 (in_lit (by decide)) (by decide) dX8_inns_58 (fun S1 eS1 => ?_)
  replace h := h S1 eS1
  refine r_aload_n ok dX8_inns_59 0 rfl ?_
  refine cl_X8_266 ok dX8_inns_60 (by decide) (Nat.le_of_ble_eq_true rfl) h (fun r3 S2 h => ?_)
  refine r_if_eq (tgt := 70) ok dX8_inns_63 rfl (fun hc4 => ?_) (fun hc4 => ?_)
  · replace h := h.1 hc4
    refine r_iload_n ok dX8_inns_70 2 rfl ?_
    refine r_istore_n ok dX8_inns_71 (by decide) [(0, .ref (xad X 71)), (1, .int x1), (2, .int x2), (3, .int x3)] [1, 2, 0, 3] rfl ?_
    refine r_iinc (v := x3 + 1) ok dX8_inns_72 3 rfl rfl (by decide) [(0, .ref (xad X 71)), (1, .int x1), (2, .int x2), (3, .int (x3 + 1))] [1, 2, 3, 0] rfl ?_
    refine r_goto (tgt := 25) ok dX8_inns_75 rfl ?_
    exact hk25 _ _ _ _ h
  · replace h := h.2 hc4
    refine r_iload_n ok dX8_inns_66 3 rfl ?_
    refine r_goto (tgt := 71) ok dX8_inns_67 rfl ?_
    refine r_istore_n ok dX8_inns_71 (by decide) [(0, .ref (xad X 71)), (1, .int x1), (2, .int x3), (3, .int x3)] [1, 2, 0, 3] rfl ?_
    refine r_iinc (v := x3 + 1) ok dX8_inns_72 3 rfl rfl (by decide) [(0, .ref (xad X 71)), (1, .int x1), (2, .int x3), (3, .int (x3 + 1))] [1, 2, 3, 0] rfl ?_
    refine r_goto (tgt := 25) ok dX8_inns_75 rfl ?_
    exact hk25 _ _ _ _ h
theorem w_B_X8_inns_25 {X : Cx} (ok : Ok X cX8_inns 4 RX8 6 147) {post : Int32 → St → Prop} (hret : RetI X cX8_inns 4 post) {x1 x2 x3 : Int32} {S : St} (h : B_X8_inns_25 post x1 x2 x3 S) : Wp X 4 25 [(0, .ref (xad X 71)), (1, .int x1), (2, .int x2), (3, .int x3)] [] S := by
  obtain ⟨n, h⟩ := h
  induction n generalizing x1 x2 x3 S with
  | zero => exact False.elim h
  | succ n ih =>
    have hk25 : ∀ x1 x2 x3 S, L_X8_inns_25 post n x1 x2 x3 S → Wp X 4 25 [(0, .ref (xad X 71)), (1, .int x1), (2, .int x2), (3, .int x3)] [] S := by intros; apply ih; assumption
    replace h : BD_X8_inns_25 (L_X8_inns_25 post n) post x1 x2 x3 S := h
    unfold BD_X8_inns_25 at h
    generalize L_X8_inns_25 post n = k25 at h hk25
    refine r_iload_n ok dX8_inns_25 3 rfl ?_
    refine r_iconst (v := 1) ok dX8_inns_26 rfl ?_
    refine r_aload_n ok dX8_inns_27 0 rfl ?_
    refine gf_X8_155 ok dX8_inns_28 ?_
    refine r_ishl ok dX8_inns_31 ?_
    refine r_icmp_ge (tgt := 78) ok dX8_inns_32 rfl (fun hc1 => ?_) (fun hc1 => ?_)
    · replace h := h.1 hc1
      refine r_sub [(1, .int x1), (2, .int x2)] [1, 2] rfl ?_
      exact w_B_X8_inns_78 ok hret h
    · replace h := h.2 hc1
      refine r_iload_n ok dX8_inns_35 2 rfl ?_
      refine r_iconst (v := (-1)) ok dX8_inns_36 rfl ?_
      refine r_icmp_eq (tgt := 51) ok dX8_inns_37 rfl (fun hc2 => ?_) (fun hc2 => ?_)
      · replace h := h.1 hc2
        exact w_B_X8_inns_51 ok hret hk25 h
      · replace h := h.2 hc2
        refine r_iload_n ok dX8_inns_40 3 rfl ?_
        refine cl_X8_263 ok dX8_inns_41 (by decide) (Nat.le_of_ble_eq_true rfl) h (fun r4 S3 h => ?_)
        refine r_iload_n ok dX8_inns_44 2 rfl ?_
        refine cl_X8_263 ok dX8_inns_45 (by decide) (Nat.le_of_ble_eq_true rfl) h (fun r6 S5 h => ?_)
        refine r_icmp_ge (tgt := 72) ok dX8_inns_48 rfl (fun hc7 => ?_) (fun hc7 => ?_)
        · replace h := h.1 hc7
          refine r_iinc (v := x3 + 1) ok dX8_inns_72 3 rfl rfl (by decide) [(0, .ref (xad X 71)), (1, .int x1), (2, .int x2), (3, .int (x3 + 1))] [1, 2, 3, 0] rfl ?_
          refine r_goto (tgt := 25) ok dX8_inns_75 rfl ?_
          exact hk25 _ _ _ _ h
        · replace h := h.2 hc7
          exact w_B_X8_inns_51 ok hret hk25 h
theorem w_wp_X8_inns {X : Cx} (ok : Ok X cX8_inns 4 RX8 6 147) {post : Int32 → St → Prop} (hret : RetI X cX8_inns 4 post) {x1 : Int32} {S : St} (h : wp_X8_inns x1 S post) : Wp X 4 0 [(0, .ref (xad X 71)), (1, .int x1)] [] S := by
  unfold wp_X8_inns at h
  refine r_aload_n ok dX8_inns_0 0 rfl ?_
  refine r_iconst (v := 0) ok dX8_inns_1 rfl ?_
  refine pf_X8_75 ok dX8_inns_2 (fun S1 eS1 => ?_)
  replace h := h S1 eS1
  refine r_iload_n ok dX8_inns_5 1 rfl ?_
  refine r_iconst (v := 0) ok dX8_inns_6 rfl ?_
  refine r_iconst (v := 1) ok dX8_inns_7 rfl ?_
  refine cl_X8_78 ok dX8_inns_8 (by decide) (Nat.le_of_ble_eq_true rfl) h (fun r3 S2 h => ?_)
  refine r_if_ne (tgt := 17) ok dX8_inns_11 rfl (fun hc4 => ?_) (fun hc4 => ?_)
  · replace h := h.1 hc4
    refine r_iconst (v := (-1)) ok dX8_inns_17 rfl ?_
    refine r_istore_n ok dX8_inns_18 (by decide) [(0, .ref (xad X 71)), (1, .int x1), (2, .int (-1))] [1, 2, 0] rfl ?_
    refine r_aload_n ok dX8_inns_19 0 rfl ?_
    refine cl_X8_238 ok dX8_inns_20 (by decide) (Nat.le_of_ble_eq_true rfl) h (fun S5 h => ?_)
    refine r_iconst (v := 0) ok dX8_inns_23 rfl ?_
    refine r_istore_n ok dX8_inns_24 (by decide) [(0, .ref (xad X 71)), (1, .int x1), (2, .int (-1)), (3, .int 0)] [1, 2, 3, 0] rfl ?_
    exact w_B_X8_inns_25 ok hret h
  · replace h := h.2 hc4
    refine r_ldc (v := (-1000000002)) ok dX8_inns_14 tw_k_X8_82 ?_
    exact hret _ _ _ _ dX8_inns_16 h
theorem c_X8_inns (l : Launch) (G : Gx) {x1 : Int32} {S : St} {post : Int32 → St → Prop} (h : wp_X8_inns x1 S post) : MtI l yX8_inns cX8_inns 4 (some .int) 6 147 G [.ref (G.2.2 71), .int x1] S post :=
  ctI (by decide) rfl (Nat.le_of_ble_eq_true rfl) (fun X _ hG ok hret => by subst hG; exact w_wp_X8_inns ok hret h)
