/-! HasteRoadsModel.fault()I -/
theorem dX8_fault_0 : decode cX8_fault 0 = .ok (.aload_n 0, 1) := by decide +kernel
theorem dX8_fault_1 : decode cX8_fault 1 = .ok (.iconst 0, 1) := by decide +kernel
theorem dX8_fault_2 : decode cX8_fault 2 = .ok (.putfield 75, 3) := by decide +kernel
theorem dX8_fault_5 : decode cX8_fault 5 = .ok (.aload_n 0, 1) := by decide +kernel
theorem dX8_fault_6 : decode cX8_fault 6 = .ok (.getfield 13, 3) := by decide +kernel
theorem dX8_fault_9 : decode cX8_fault 9 = .ok (.ireturn, 1) := by decide +kernel
theorem gf_X8_13 {X : Cx} {cc : ByteArray} {nL pc fr lo : Nat} {L : List (Nat × Value)} {st : List Value} {S : St} (ok : Ok X cc nL RX8 fr lo) (d : decode cc pc = .ok (.getfield 13, 3)) (k : Wp X nL (pc + 3) L (.int (S 71 9) :: st) S) : Wp X nL pc L (.ref (xad X 71) :: st) S :=
  r_get (C := RX8) (T := TX8) ok ob_71 rfl i_X8 9 (by decide) tw_fl_X8_13 d (by rw [show fvl (xad X) S 71 9 = .int (S 71 9) from (fvl_int (by decide))]; exact k)
def wp_X8_fault (S : St) (post : Int32 → St → Prop) : Prop :=
  ∀ S1 : St, S1 = up S 71 0 0 → post (S1 71 9) S1
theorem w_wp_X8_fault {X : Cx} (ok : Ok X cX8_fault 1 RX8 0 0) {post : Int32 → St → Prop} (hret : RetI X cX8_fault 1 post) {S : St} (h : wp_X8_fault S post) : Wp X 1 0 [(0, .ref (xad X 71))] [] S := by
  unfold wp_X8_fault at h
  refine r_aload_n ok dX8_fault_0 0 rfl ?_
  refine r_iconst (v := 0) ok dX8_fault_1 rfl ?_
  refine pf_X8_75 ok dX8_fault_2 (fun S1 eS1 => ?_)
  replace h := h S1 eS1
  refine r_aload_n ok dX8_fault_5 0 rfl ?_
  refine gf_X8_13 ok dX8_fault_6 ?_
  exact hret _ _ _ _ dX8_fault_9 h
theorem c_X8_fault (l : Launch) (G : Gx) {S : St} {post : Int32 → St → Prop} (h : wp_X8_fault S post) : MtI l yX8_fault cX8_fault 1 (some .int) 0 0 G [.ref (G.2.2 71)] S post :=
  ctI (by decide) rfl (Nat.le_of_ble_eq_true rfl) (fun X _ hG ok hret => by subst hG; exact w_wp_X8_fault ok hret h)

/-! HasteRoadsModel.told(I)I -/
theorem dX8_told_0 : decode cX8_told 0 = .ok (.aload_n 0, 1) := by decide +kernel
theorem dX8_told_1 : decode cX8_told 1 = .ok (.iconst 0, 1) := by decide +kernel
theorem dX8_told_2 : decode cX8_told 2 = .ok (.putfield 75, 3) := by decide +kernel
theorem dX8_told_5 : decode cX8_told 5 = .ok (.iload_n 1, 1) := by decide +kernel
theorem dX8_told_6 : decode cX8_told 6 = .ok (.iconst 0, 1) := by decide +kernel
theorem dX8_told_7 : decode cX8_told 7 = .ok (.bipush 7, 2) := by decide +kernel
theorem dX8_told_9 : decode cX8_told 9 = .ok (.invokestatic 78, 3) := by decide +kernel
theorem dX8_told_12 : decode cX8_told 12 = .ok (.ifCond .ne 6, 3) := by decide +kernel
theorem dX8_told_15 : decode cX8_told 15 = .ok (.ldc 82, 2) := by decide +kernel
theorem dX8_told_17 : decode cX8_told 17 = .ok (.ireturn, 1) := by decide +kernel
theorem dX8_told_18 : decode cX8_told 18 = .ok (.iload_n 1, 1) := by decide +kernel
theorem dX8_told_19 : decode cX8_told 19 = .ok (.iconst 4, 1) := by decide +kernel
theorem dX8_told_20 : decode cX8_told 20 = .ok (.if_icmp .ge 43, 3) := by decide +kernel
theorem dX8_told_23 : decode cX8_told 23 = .ok (.iload_n 1, 1) := by decide +kernel
theorem dX8_told_24 : decode cX8_told 24 = .ok (.ifCond .ne 10, 3) := by decide +kernel
theorem dX8_told_27 : decode cX8_told 27 = .ok (.aload_n 0, 1) := by decide +kernel
theorem dX8_told_28 : decode cX8_told 28 = .ok (.getfield 155, 3) := by decide +kernel
theorem dX8_told_31 : decode cX8_told 31 = .ok (.goto 31, 3) := by decide +kernel
theorem dX8_told_34 : decode cX8_told 34 = .ok (.iload_n 1, 1) := by decide +kernel
theorem dX8_told_35 : decode cX8_told 35 = .ok (.iconst 1, 1) := by decide +kernel
theorem dX8_told_36 : decode cX8_told 36 = .ok (.if_icmp .ne 10, 3) := by decide +kernel
theorem dX8_told_39 : decode cX8_told 39 = .ok (.aload_n 0, 1) := by decide +kernel
theorem dX8_told_40 : decode cX8_told 40 = .ok (.getfield 158, 3) := by decide +kernel
theorem dX8_told_43 : decode cX8_told 43 = .ok (.goto 19, 3) := by decide +kernel
theorem dX8_told_46 : decode cX8_told 46 = .ok (.iload_n 1, 1) := by decide +kernel
theorem dX8_told_47 : decode cX8_told 47 = .ok (.iconst 2, 1) := by decide +kernel
theorem dX8_told_48 : decode cX8_told 48 = .ok (.if_icmp .ne 10, 3) := by decide +kernel
theorem dX8_told_51 : decode cX8_told 51 = .ok (.aload_n 0, 1) := by decide +kernel
theorem dX8_told_52 : decode cX8_told 52 = .ok (.getfield 161, 3) := by decide +kernel
theorem dX8_told_55 : decode cX8_told 55 = .ok (.goto 7, 3) := by decide +kernel
theorem dX8_told_58 : decode cX8_told 58 = .ok (.aload_n 0, 1) := by decide +kernel
theorem dX8_told_59 : decode cX8_told 59 = .ok (.getfield 83, 3) := by decide +kernel
theorem dX8_told_62 : decode cX8_told 62 = .ok (.ireturn, 1) := by decide +kernel
theorem dX8_told_63 : decode cX8_told 63 = .ok (.iload_n 1, 1) := by decide +kernel
theorem dX8_told_64 : decode cX8_told 64 = .ok (.iconst 4, 1) := by decide +kernel
theorem dX8_told_65 : decode cX8_told 65 = .ok (.if_icmp .ne 13, 3) := by decide +kernel
theorem dX8_told_68 : decode cX8_told 68 = .ok (.aload_n 0, 1) := by decide +kernel
theorem dX8_told_69 : decode cX8_told 69 = .ok (.getfield 23, 3) := by decide +kernel
theorem dX8_told_72 : decode cX8_told 72 = .ok (.bipush 16, 2) := by decide +kernel
theorem dX8_told_74 : decode cX8_told 74 = .ok (.iaload, 1) := by decide +kernel
theorem dX8_told_75 : decode cX8_told 75 = .ok (.goto 35, 3) := by decide +kernel
theorem dX8_told_78 : decode cX8_told 78 = .ok (.iload_n 1, 1) := by decide +kernel
theorem dX8_told_79 : decode cX8_told 79 = .ok (.iconst 5, 1) := by decide +kernel
theorem dX8_told_80 : decode cX8_told 80 = .ok (.if_icmp .ne 13, 3) := by decide +kernel
theorem dX8_told_83 : decode cX8_told 83 = .ok (.aload_n 0, 1) := by decide +kernel
theorem dX8_told_84 : decode cX8_told 84 = .ok (.getfield 23, 3) := by decide +kernel
theorem dX8_told_87 : decode cX8_told 87 = .ok (.bipush 17, 2) := by decide +kernel
theorem dX8_told_89 : decode cX8_told 89 = .ok (.iaload, 1) := by decide +kernel
theorem dX8_told_90 : decode cX8_told 90 = .ok (.goto 20, 3) := by decide +kernel
theorem dX8_told_93 : decode cX8_told 93 = .ok (.iload_n 1, 1) := by decide +kernel
theorem dX8_told_94 : decode cX8_told 94 = .ok (.bipush 6, 2) := by decide +kernel
theorem dX8_told_96 : decode cX8_told 96 = .ok (.if_icmp .ne 10, 3) := by decide +kernel
theorem dX8_told_99 : decode cX8_told 99 = .ok (.aload_n 0, 1) := by decide +kernel
theorem dX8_told_100 : decode cX8_told 100 = .ok (.getfield 164, 3) := by decide +kernel
theorem dX8_told_103 : decode cX8_told 103 = .ok (.goto 7, 3) := by decide +kernel
theorem dX8_told_106 : decode cX8_told 106 = .ok (.aload_n 0, 1) := by decide +kernel
theorem dX8_told_107 : decode cX8_told 107 = .ok (.getfield 167, 3) := by decide +kernel
theorem dX8_told_110 : decode cX8_told 110 = .ok (.ireturn, 1) := by decide +kernel
theorem gf_X8_167 {X : Cx} {cc : ByteArray} {nL pc fr lo : Nat} {L : List (Nat × Value)} {st : List Value} {S : St} (ok : Ok X cc nL RX8 fr lo) (d : decode cc pc = .ok (.getfield 167, 3)) (k : Wp X nL (pc + 3) L (.int (S 71 27) :: st) S) : Wp X nL pc L (.ref (xad X 71) :: st) S :=
  r_get (C := RX8) (T := TX8) ok ob_71 rfl i_X8 27 (by decide) tw_fl_X8_167 d (by rw [show fvl (xad X) S 71 27 = .int (S 71 27) from (fvl_int (by decide))]; exact k)
theorem gf_X8_164 {X : Cx} {cc : ByteArray} {nL pc fr lo : Nat} {L : List (Nat × Value)} {st : List Value} {S : St} (ok : Ok X cc nL RX8 fr lo) (d : decode cc pc = .ok (.getfield 164, 3)) (k : Wp X nL (pc + 3) L (.int (S 71 25) :: st) S) : Wp X nL pc L (.ref (xad X 71) :: st) S :=
  r_get (C := RX8) (T := TX8) ok ob_71 rfl i_X8 25 (by decide) tw_fl_X8_164 d (by rw [show fvl (xad X) S 71 25 = .int (S 71 25) from (fvl_int (by decide))]; exact k)
def wp_X8_told (x1 : Int32) (S : St) (post : Int32 → St → Prop) : Prop :=
  ∀ S1 : St, S1 = up S 71 0 0 → wp_X8_in x1 0 7 S1 (fun r3 S2 => ((¬ r3 = 0 → ((4 ≤ x1 → ((¬ x1 = 4 → ((¬ x1 = 5 → ((¬ x1 = 6 → post (S2 71 27) S2) ∧ (x1 = 6 → post (S2 71 25) S2))) ∧ (x1 = 5 → post (S2 75 17) S2))) ∧ (x1 = 4 → post (S2 75 16) S2))) ∧ (¬ 4 ≤ x1 → ((¬ x1 = 0 → ((¬ x1 = 1 → ((¬ x1 = 2 → post (S2 71 2) S2) ∧ (x1 = 2 → post (S2 71 12) S2))) ∧ (x1 = 1 → post (S2 71 11) S2))) ∧ (x1 = 0 → post (S2 71 10) S2))))) ∧ (r3 = 0 → post (-1000000002) S2)))
theorem w_wp_X8_told {X : Cx} (ok : Ok X cX8_told 2 RX8 1 22) {post : Int32 → St → Prop} (hret : RetI X cX8_told 2 post) {x1 : Int32} {S : St} (h : wp_X8_told x1 S post) : Wp X 2 0 [(0, .ref (xad X 71)), (1, .int x1)] [] S := by
  unfold wp_X8_told at h
  refine r_aload_n ok dX8_told_0 0 rfl ?_
  refine r_iconst (v := 0) ok dX8_told_1 rfl ?_
  refine pf_X8_75 ok dX8_told_2 (fun S1 eS1 => ?_)
  replace h := h S1 eS1
  refine r_iload_n ok dX8_told_5 1 rfl ?_
  refine r_iconst (v := 0) ok dX8_told_6 rfl ?_
  refine r_bipush (v := 7) ok dX8_told_7 rfl ?_
  refine cl_X8_78 ok dX8_told_9 (by decide) (Nat.le_of_ble_eq_true rfl) h (fun r3 S2 h => ?_)
  refine r_if_ne (tgt := 18) ok dX8_told_12 rfl (fun hc4 => ?_) (fun hc4 => ?_)
  · replace h := h.1 hc4
    refine r_iload_n ok dX8_told_18 1 rfl ?_
    refine r_iconst (v := 4) ok dX8_told_19 rfl ?_
    refine r_icmp_ge (tgt := 63) ok dX8_told_20 rfl (fun hc5 => ?_) (fun hc5 => ?_)
    · replace h := h.1 hc5
      refine r_iload_n ok dX8_told_63 1 rfl ?_
      refine r_iconst (v := 4) ok dX8_told_64 rfl ?_
      refine r_icmp_ne (tgt := 78) ok dX8_told_65 rfl (fun hc6 => ?_) (fun hc6 => ?_)
      · replace h := h.1 hc6
        refine r_iload_n ok dX8_told_78 1 rfl ?_
        refine r_iconst (v := 5) ok dX8_told_79 rfl ?_
        refine r_icmp_ne (tgt := 93) ok dX8_told_80 rfl (fun hc7 => ?_) (fun hc7 => ?_)
        · replace h := h.1 hc7
          refine r_iload_n ok dX8_told_93 1 rfl ?_
          refine r_bipush (v := 6) ok dX8_told_94 rfl ?_
          refine r_icmp_ne (tgt := 106) ok dX8_told_96 rfl (fun hc8 => ?_) (fun hc8 => ?_)
          · replace h := h.1 hc8
            refine r_aload_n ok dX8_told_106 0 rfl ?_
            refine gf_X8_167 ok dX8_told_107 ?_
            exact hret _ _ _ _ dX8_told_110 h
          · replace h := h.2 hc8
            refine r_aload_n ok dX8_told_99 0 rfl ?_
            refine gf_X8_164 ok dX8_told_100 ?_
            refine r_goto (tgt := 110) ok dX8_told_103 rfl ?_
            exact hret _ _ _ _ dX8_told_110 h
        · replace h := h.2 hc7
          refine r_aload_n ok dX8_told_83 0 rfl ?_
          refine gf_X8_23 ok dX8_told_84 ?_
          refine r_bipush (v := 17) ok dX8_told_87 rfl ?_
          refine r_iald (j := 17) ok ai_75 (in_lit (by decide)) (by decide) dX8_told_89 ?_
          refine r_goto (tgt := 110) ok dX8_told_90 rfl ?_
          exact hret _ _ _ _ dX8_told_110 h
      · replace h := h.2 hc6
        refine r_aload_n ok dX8_told_68 0 rfl ?_
        refine gf_X8_23 ok dX8_told_69 ?_
        refine r_bipush (v := 16) ok dX8_told_72 rfl ?_
        refine r_iald (j := 16) ok ai_75 (in_lit (by decide)) (by decide) dX8_told_74 ?_
        refine r_goto (tgt := 110) ok dX8_told_75 rfl ?_
        exact hret _ _ _ _ dX8_told_110 h
    · replace h := h.2 hc5
      refine r_iload_n ok dX8_told_23 1 rfl ?_
      refine r_if_ne (tgt := 34) ok dX8_told_24 rfl (fun hc9 => ?_) (fun hc9 => ?_)
      · replace h := h.1 hc9
        refine r_iload_n ok dX8_told_34 1 rfl ?_
        refine r_iconst (v := 1) ok dX8_told_35 rfl ?_
        refine r_icmp_ne (tgt := 46) ok dX8_told_36 rfl (fun hc10 => ?_) (fun hc10 => ?_)
        · replace h := h.1 hc10
          refine r_iload_n ok dX8_told_46 1 rfl ?_
          refine r_iconst (v := 2) ok dX8_told_47 rfl ?_
          refine r_icmp_ne (tgt := 58) ok dX8_told_48 rfl (fun hc11 => ?_) (fun hc11 => ?_)
          · replace h := h.1 hc11
            refine r_aload_n ok dX8_told_58 0 rfl ?_
            refine gf_X8_83 ok dX8_told_59 ?_
            exact hret _ _ _ _ dX8_told_62 h
          · replace h := h.2 hc11
            refine r_aload_n ok dX8_told_51 0 rfl ?_
            refine gf_X8_161 ok dX8_told_52 ?_
            refine r_goto (tgt := 62) ok dX8_told_55 rfl ?_
            exact hret _ _ _ _ dX8_told_62 h
        · replace h := h.2 hc10
          refine r_aload_n ok dX8_told_39 0 rfl ?_
          refine gf_X8_158 ok dX8_told_40 ?_
          refine r_goto (tgt := 62) ok dX8_told_43 rfl ?_
          exact hret _ _ _ _ dX8_told_62 h
      · replace h := h.2 hc9
        refine r_aload_n ok dX8_told_27 0 rfl ?_
        refine gf_X8_155 ok dX8_told_28 ?_
        refine r_goto (tgt := 62) ok dX8_told_31 rfl ?_
        exact hret _ _ _ _ dX8_told_62 h
  · replace h := h.2 hc4
    refine r_ldc (v := (-1000000002)) ok dX8_told_15 tw_k_X8_82 ?_
    exact hret _ _ _ _ dX8_told_17 h
theorem c_X8_told (l : Launch) (G : Gx) {x1 : Int32} {S : St} {post : Int32 → St → Prop} (h : wp_X8_told x1 S post) : MtI l yX8_told cX8_told 2 (some .int) 1 22 G [.ref (G.2.2 71), .int x1] S post :=
  ctI (by decide) rfl (Nat.le_of_ble_eq_true rfl) (fun X _ hG ok hret => by subst hG; exact w_wp_X8_told ok hret h)

/-! HasteRoadsModel.isPlace(I)Z -/
theorem dX8_isPlace_0 : decode cX8_isPlace 0 = .ok (.iload_n 1, 1) := by decide +kernel
theorem dX8_isPlace_1 : decode cX8_isPlace 1 = .ok (.iconst 0, 1) := by decide +kernel
theorem dX8_isPlace_2 : decode cX8_isPlace 2 = .ok (.aload_n 0, 1) := by decide +kernel
theorem dX8_isPlace_3 : decode cX8_isPlace 3 = .ok (.getfield 155, 3) := by decide +kernel
theorem dX8_isPlace_6 : decode cX8_isPlace 6 = .ok (.iconst 1, 1) := by decide +kernel
theorem dX8_isPlace_7 : decode cX8_isPlace 7 = .ok (.isub, 1) := by decide +kernel
theorem dX8_isPlace_8 : decode cX8_isPlace 8 = .ok (.invokestatic 78, 3) := by decide +kernel
theorem dX8_isPlace_11 : decode cX8_isPlace 11 = .ok (.ireturn, 1) := by decide +kernel

def wp_X8_isPlace (x1 : Int32) (S : St) (post : Int32 → St → Prop) : Prop :=
  wp_X8_in x1 0 ((S 71 10) - 1) S (fun r2 S1 => ((r2 = 0 ∨ r2 = 1) ∧ post r2 S1))
theorem w_wp_X8_isPlace {X : Cx} (ok : Ok X cX8_isPlace 2 RX8 1 22) {post : Int32 → St → Prop} (hret : RetZ X cX8_isPlace 2 post) {x1 : Int32} {S : St} (h : wp_X8_isPlace x1 S post) : Wp X 2 0 [(0, .ref (xad X 71)), (1, .int x1)] [] S := by
  unfold wp_X8_isPlace at h
  refine r_iload_n ok dX8_isPlace_0 1 rfl ?_
  refine r_iconst (v := 0) ok dX8_isPlace_1 rfl ?_
  refine r_aload_n ok dX8_isPlace_2 0 rfl ?_
  refine gf_X8_155 ok dX8_isPlace_3 ?_
  refine r_iconst (v := 1) ok dX8_isPlace_6 rfl ?_
  refine r_isub ok dX8_isPlace_7 ?_
  refine cl_X8_78 ok dX8_isPlace_8 (by decide) (Nat.le_of_ble_eq_true rfl) h (fun r2 S1 h => ?_)
  exact hret _ _ _ _ dX8_isPlace_11 h.1 h.2
theorem c_X8_isPlace (l : Launch) (G : Gx) {x1 : Int32} {S : St} {post : Int32 → St → Prop} (h : wp_X8_isPlace x1 S post) : MtI l yX8_isPlace cX8_isPlace 2 (some .boolean) 1 22 G [.ref (G.2.2 71), .int x1] S post :=
  ctZ (by decide) rfl (Nat.le_of_ble_eq_true rfl) (fun X _ hG ok hret => by subst hG; exact w_wp_X8_isPlace ok hret h)

/-! HasteRoadsModel.isRoad(I)Z -/
theorem dX8_isRoad_0 : decode cX8_isRoad 0 = .ok (.iload_n 1, 1) := by decide +kernel
theorem dX8_isRoad_1 : decode cX8_isRoad 1 = .ok (.iconst 0, 1) := by decide +kernel
theorem dX8_isRoad_2 : decode cX8_isRoad 2 = .ok (.aload_n 0, 1) := by decide +kernel
theorem dX8_isRoad_3 : decode cX8_isRoad 3 = .ok (.getfield 158, 3) := by decide +kernel
theorem dX8_isRoad_6 : decode cX8_isRoad 6 = .ok (.iconst 1, 1) := by decide +kernel
theorem dX8_isRoad_7 : decode cX8_isRoad 7 = .ok (.isub, 1) := by decide +kernel
theorem dX8_isRoad_8 : decode cX8_isRoad 8 = .ok (.invokestatic 78, 3) := by decide +kernel
theorem dX8_isRoad_11 : decode cX8_isRoad 11 = .ok (.ireturn, 1) := by decide +kernel

def wp_X8_isRoad (x1 : Int32) (S : St) (post : Int32 → St → Prop) : Prop :=
  wp_X8_in x1 0 ((S 71 11) - 1) S (fun r2 S1 => ((r2 = 0 ∨ r2 = 1) ∧ post r2 S1))
theorem w_wp_X8_isRoad {X : Cx} (ok : Ok X cX8_isRoad 2 RX8 1 22) {post : Int32 → St → Prop} (hret : RetZ X cX8_isRoad 2 post) {x1 : Int32} {S : St} (h : wp_X8_isRoad x1 S post) : Wp X 2 0 [(0, .ref (xad X 71)), (1, .int x1)] [] S := by
  unfold wp_X8_isRoad at h
  refine r_iload_n ok dX8_isRoad_0 1 rfl ?_
  refine r_iconst (v := 0) ok dX8_isRoad_1 rfl ?_
  refine r_aload_n ok dX8_isRoad_2 0 rfl ?_
  refine gf_X8_158 ok dX8_isRoad_3 ?_
  refine r_iconst (v := 1) ok dX8_isRoad_6 rfl ?_
  refine r_isub ok dX8_isRoad_7 ?_
  refine cl_X8_78 ok dX8_isRoad_8 (by decide) (Nat.le_of_ble_eq_true rfl) h (fun r2 S1 h => ?_)
  exact hret _ _ _ _ dX8_isRoad_11 h.1 h.2
theorem c_X8_isRoad (l : Launch) (G : Gx) {x1 : Int32} {S : St} {post : Int32 → St → Prop} (h : wp_X8_isRoad x1 S post) : MtI l yX8_isRoad cX8_isRoad 2 (some .boolean) 1 22 G [.ref (G.2.2 71), .int x1] S post :=
  ctZ (by decide) rfl (Nat.le_of_ble_eq_true rfl) (fun X _ hG ok hret => by subst hG; exact w_wp_X8_isRoad ok hret h)

/-! HasteRoadsModel.isPerson(I)Z -/
theorem dX8_isPerson_0 : decode cX8_isPerson 0 = .ok (.iload_n 1, 1) := by decide +kernel
theorem dX8_isPerson_1 : decode cX8_isPerson 1 = .ok (.iconst 0, 1) := by decide +kernel
theorem dX8_isPerson_2 : decode cX8_isPerson 2 = .ok (.aload_n 0, 1) := by decide +kernel
theorem dX8_isPerson_3 : decode cX8_isPerson 3 = .ok (.getfield 161, 3) := by decide +kernel
theorem dX8_isPerson_6 : decode cX8_isPerson 6 = .ok (.iconst 1, 1) := by decide +kernel
theorem dX8_isPerson_7 : decode cX8_isPerson 7 = .ok (.isub, 1) := by decide +kernel
theorem dX8_isPerson_8 : decode cX8_isPerson 8 = .ok (.invokestatic 78, 3) := by decide +kernel
theorem dX8_isPerson_11 : decode cX8_isPerson 11 = .ok (.ireturn, 1) := by decide +kernel

def wp_X8_isPerson (x1 : Int32) (S : St) (post : Int32 → St → Prop) : Prop :=
  wp_X8_in x1 0 ((S 71 12) - 1) S (fun r2 S1 => ((r2 = 0 ∨ r2 = 1) ∧ post r2 S1))
theorem w_wp_X8_isPerson {X : Cx} (ok : Ok X cX8_isPerson 2 RX8 1 22) {post : Int32 → St → Prop} (hret : RetZ X cX8_isPerson 2 post) {x1 : Int32} {S : St} (h : wp_X8_isPerson x1 S post) : Wp X 2 0 [(0, .ref (xad X 71)), (1, .int x1)] [] S := by
  unfold wp_X8_isPerson at h
  refine r_iload_n ok dX8_isPerson_0 1 rfl ?_
  refine r_iconst (v := 0) ok dX8_isPerson_1 rfl ?_
  refine r_aload_n ok dX8_isPerson_2 0 rfl ?_
  refine gf_X8_161 ok dX8_isPerson_3 ?_
  refine r_iconst (v := 1) ok dX8_isPerson_6 rfl ?_
  refine r_isub ok dX8_isPerson_7 ?_
  refine cl_X8_78 ok dX8_isPerson_8 (by decide) (Nat.le_of_ble_eq_true rfl) h (fun r2 S1 h => ?_)
  exact hret _ _ _ _ dX8_isPerson_11 h.1 h.2
theorem c_X8_isPerson (l : Launch) (G : Gx) {x1 : Int32} {S : St} {post : Int32 → St → Prop} (h : wp_X8_isPerson x1 S post) : MtI l yX8_isPerson cX8_isPerson 2 (some .boolean) 1 22 G [.ref (G.2.2 71), .int x1] S post :=
  ctZ (by decide) rfl (Nat.le_of_ble_eq_true rfl) (fun X _ hG ok hret => by subst hG; exact w_wp_X8_isPerson ok hret h)

/-! HasteRoadsModel.road(II)I -/
theorem dX8_road_0 : decode cX8_road 0 = .ok (.aload_n 0, 1) := by decide +kernel
theorem dX8_road_1 : decode cX8_road 1 = .ok (.iconst 0, 1) := by decide +kernel
theorem dX8_road_2 : decode cX8_road 2 = .ok (.putfield 75, 3) := by decide +kernel
theorem dX8_road_5 : decode cX8_road 5 = .ok (.aload_n 0, 1) := by decide +kernel
theorem dX8_road_6 : decode cX8_road 6 = .ok (.iload_n 1, 1) := by decide +kernel
theorem dX8_road_7 : decode cX8_road 7 = .ok (.invokevirtual 170, 3) := by decide +kernel
theorem dX8_road_10 : decode cX8_road 10 = .ok (.ifCond .ne 6, 3) := by decide +kernel
theorem dX8_road_13 : decode cX8_road 13 = .ok (.ldc 174, 2) := by decide +kernel
theorem dX8_road_15 : decode cX8_road 15 = .ok (.ireturn, 1) := by decide +kernel
theorem dX8_road_16 : decode cX8_road 16 = .ok (.iload_n 2, 1) := by decide +kernel
theorem dX8_road_17 : decode cX8_road 17 = .ok (.iconst 0, 1) := by decide +kernel
theorem dX8_road_18 : decode cX8_road 18 = .ok (.iconst 2, 1) := by decide +kernel
theorem dX8_road_19 : decode cX8_road 19 = .ok (.invokestatic 78, 3) := by decide +kernel
theorem dX8_road_22 : decode cX8_road 22 = .ok (.ifCond .ne 8, 3) := by decide +kernel
theorem dX8_road_25 : decode cX8_road 25 = .ok (.ldc 82, 2) := by decide +kernel
theorem dX8_road_27 : decode cX8_road 27 = .ok (.goto 30, 3) := by decide +kernel
theorem dX8_road_30 : decode cX8_road 30 = .ok (.iload_n 2, 1) := by decide +kernel
theorem dX8_road_31 : decode cX8_road 31 = .ok (.iconst 2, 1) := by decide +kernel
theorem dX8_road_32 : decode cX8_road 32 = .ok (.if_icmp .ne 15, 3) := by decide +kernel
theorem dX8_road_35 : decode cX8_road 35 = .ok (.aload_n 0, 1) := by decide +kernel
theorem dX8_road_36 : decode cX8_road 36 = .ok (.getfield 23, 3) := by decide +kernel
theorem dX8_road_39 : decode cX8_road 39 = .ok (.bipush 18, 2) := by decide +kernel
theorem dX8_road_41 : decode cX8_road 41 = .ok (.iload_n 1, 1) := by decide +kernel
theorem dX8_road_42 : decode cX8_road 42 = .ok (.iadd, 1) := by decide +kernel
theorem dX8_road_43 : decode cX8_road 43 = .ok (.iaload, 1) := by decide +kernel
theorem dX8_road_44 : decode cX8_road 44 = .ok (.goto 13, 3) := by decide +kernel
theorem dX8_road_47 : decode cX8_road 47 = .ok (.aload_n 0, 1) := by decide +kernel
theorem dX8_road_48 : decode cX8_road 48 = .ok (.getfield 17, 3) := by decide +kernel
theorem dX8_road_51 : decode cX8_road 51 = .ok (.iconst 3, 1) := by decide +kernel
theorem dX8_road_52 : decode cX8_road 52 = .ok (.iload_n 1, 1) := by decide +kernel
theorem dX8_road_53 : decode cX8_road 53 = .ok (.imul, 1) := by decide +kernel
theorem dX8_road_54 : decode cX8_road 54 = .ok (.iload_n 2, 1) := by decide +kernel
theorem dX8_road_55 : decode cX8_road 55 = .ok (.iadd, 1) := by decide +kernel
theorem dX8_road_56 : decode cX8_road 56 = .ok (.iaload, 1) := by decide +kernel
theorem dX8_road_57 : decode cX8_road 57 = .ok (.ireturn, 1) := by decide +kernel
theorem cl_X8_170 {X : Cx} {cc : ByteArray} {nL pc fr lo : Nat} {L : List (Nat × Value)} {st : List Value} {S : St} (ok : Ok X cc nL RX8 fr lo) {x1 : Int32} (d : decode cc pc = .ok (.invokevirtual 170, 3)) (hroom : 2 ≤ fr ∧ 43 ≤ lo) (hst : (st.map fun v => v.category).sum ≤ 8) {post : Int32 → St → Prop} (h : wp_X8_isRoad x1 S post) (kk : ∀ (r : Int32) (S1 : St), post r S1 → Wp X nL (pc + 3) L (.int r :: st) S1) : Wp X nL pc L (.int x1 :: .ref (xad X 71) :: st) S :=
  r_callVi (n := 2) (f := 1) (lo1 := 22) (N := 1) (As := [.int x1]) ok tw_in_X8 tw_im_X8_isRoad tw_se_X8_isRoad tw_co_X8_isRoad tw_ml_X8_170 (by decide +kernel) rfl ob_71 rfl hroom hst d rfl (c_X8_isRoad (xl X) (xG X) h) kk
def wp_X8_road (x1 : Int32) (x2 : Int32) (S : St) (post : Int32 → St → Prop) : Prop :=
  ∀ S1 : St, S1 = up S 71 0 0 → wp_X8_isRoad x1 S1 (fun r3 S2 => ((¬ r3 = 0 → wp_X8_in x2 0 2 S2 (fun r6 S5 => ((¬ r6 = 0 → ((¬ x2 = 2 → vp_in (((3 : Int32) * x1) + x2) 54 ∧ (post (S5 73 (ix (((3 : Int32) * x1) + x2))) S5)) ∧ (x2 = 2 → vp_in ((18 : Int32) + x1) 28 ∧ (post (S5 75 (ix ((18 : Int32) + x1))) S5)))) ∧ (r6 = 0 → post (-1000000002) S5)))) ∧ (r3 = 0 → post (-1000000001) S2)))
theorem w_wp_X8_road {X : Cx} (ok : Ok X cX8_road 3 RX8 2 43) {post : Int32 → St → Prop} (hret : RetI X cX8_road 3 post) {x1 x2 : Int32} {S : St} (h : wp_X8_road x1 x2 S post) : Wp X 3 0 [(0, .ref (xad X 71)), (1, .int x1), (2, .int x2)] [] S := by
  unfold wp_X8_road at h
  refine r_aload_n ok dX8_road_0 0 rfl ?_
  refine r_iconst (v := 0) ok dX8_road_1 rfl ?_
  refine pf_X8_75 ok dX8_road_2 (fun S1 eS1 => ?_)
  replace h := h S1 eS1
  refine r_aload_n ok dX8_road_5 0 rfl ?_
  refine r_iload_n ok dX8_road_6 1 rfl ?_
  refine cl_X8_170 ok dX8_road_7 (by decide) (Nat.le_of_ble_eq_true rfl) h (fun r3 S2 h => ?_)
  refine r_if_ne (tgt := 16) ok dX8_road_10 rfl (fun hc4 => ?_) (fun hc4 => ?_)
  · replace h := h.1 hc4
    refine r_iload_n ok dX8_road_16 2 rfl ?_
    refine r_iconst (v := 0) ok dX8_road_17 rfl ?_
    refine r_iconst (v := 2) ok dX8_road_18 rfl ?_
    refine cl_X8_78 ok dX8_road_19 (by decide) (Nat.le_of_ble_eq_true rfl) h (fun r6 S5 h => ?_)
    refine r_if_ne (tgt := 30) ok dX8_road_22 rfl (fun hc7 => ?_) (fun hc7 => ?_)
    · replace h := h.1 hc7
      refine r_iload_n ok dX8_road_30 2 rfl ?_
      refine r_iconst (v := 2) ok dX8_road_31 rfl ?_
      refine r_icmp_ne (tgt := 47) ok dX8_road_32 rfl (fun hc8 => ?_) (fun hc8 => ?_)
      · replace h := h.1 hc8
        refine r_aload_n ok dX8_road_47 0 rfl ?_
        refine gf_X8_17 ok dX8_road_48 ?_
        refine r_iconst (v := 3) ok dX8_road_51 rfl ?_
        refine r_iload_n ok dX8_road_52 1 rfl ?_
        refine r_imul ok dX8_road_53 ?_
        refine r_iload_n ok dX8_road_54 2 rfl ?_
        refine r_iadd ok dX8_road_55 ?_
        refine r_iald ok ai_73 h.1 rfl dX8_road_56 ?_
        replace h := h.2
        exact hret _ _ _ _ dX8_road_57 h
      · replace h := h.2 hc8
        refine r_aload_n ok dX8_road_35 0 rfl ?_
        refine gf_X8_23 ok dX8_road_36 ?_
        refine r_bipush (v := 18) ok dX8_road_39 rfl ?_
        refine r_iload_n ok dX8_road_41 1 rfl ?_
        refine r_iadd ok dX8_road_42 ?_
        refine r_iald ok ai_75 h.1 rfl dX8_road_43 ?_
        replace h := h.2
        refine r_goto (tgt := 57) ok dX8_road_44 rfl ?_
        exact hret _ _ _ _ dX8_road_57 h
    · replace h := h.2 hc7
      refine r_ldc (v := (-1000000002)) ok dX8_road_25 tw_k_X8_82 ?_
      refine r_goto (tgt := 57) ok dX8_road_27 rfl ?_
      exact hret _ _ _ _ dX8_road_57 h
  · replace h := h.2 hc4
    refine r_ldc (v := (-1000000001)) ok dX8_road_13 tw_k_X8_174 ?_
    exact hret _ _ _ _ dX8_road_15 h
theorem c_X8_road (l : Launch) (G : Gx) {x1 x2 : Int32} {S : St} {post : Int32 → St → Prop} (h : wp_X8_road x1 x2 S post) : MtI l yX8_road cX8_road 3 (some .int) 2 43 G [.ref (G.2.2 71), .int x1, .int x2] S post :=
  ctI (by decide) rfl (Nat.le_of_ble_eq_true rfl) (fun X _ hG ok hret => by subst hG; exact w_wp_X8_road ok hret h)

/-! HasteRoadsModel.errand(I)I -/
theorem dX8_errand_0 : decode cX8_errand 0 = .ok (.aload_n 0, 1) := by decide +kernel
theorem dX8_errand_1 : decode cX8_errand 1 = .ok (.getfield 20, 3) := by decide +kernel
theorem dX8_errand_4 : decode cX8_errand 4 = .ok (.iconst 5, 1) := by decide +kernel
theorem dX8_errand_5 : decode cX8_errand 5 = .ok (.iload_n 1, 1) := by decide +kernel
theorem dX8_errand_6 : decode cX8_errand 6 = .ok (.imul, 1) := by decide +kernel
theorem dX8_errand_7 : decode cX8_errand 7 = .ok (.iconst 1, 1) := by decide +kernel
theorem dX8_errand_8 : decode cX8_errand 8 = .ok (.iadd, 1) := by decide +kernel
theorem dX8_errand_9 : decode cX8_errand 9 = .ok (.iaload, 1) := by decide +kernel
theorem dX8_errand_10 : decode cX8_errand 10 = .ok (.ireturn, 1) := by decide +kernel

def wp_X8_errand (x1 : Int32) (S : St) (post : Int32 → St → Prop) : Prop :=
  vp_in (((5 : Int32) * x1) + 1) 40 ∧ (post (S 74 (ix (((5 : Int32) * x1) + 1))) S)
theorem w_wp_X8_errand {X : Cx} (ok : Ok X cX8_errand 2 RX8 0 0) {post : Int32 → St → Prop} (hret : RetI X cX8_errand 2 post) {x1 : Int32} {S : St} (h : wp_X8_errand x1 S post) : Wp X 2 0 [(0, .ref (xad X 71)), (1, .int x1)] [] S := by
  unfold wp_X8_errand at h
  refine r_aload_n ok dX8_errand_0 0 rfl ?_
  refine gf_X8_20 ok dX8_errand_1 ?_
  refine r_iconst (v := 5) ok dX8_errand_4 rfl ?_
  refine r_iload_n ok dX8_errand_5 1 rfl ?_
  refine r_imul ok dX8_errand_6 ?_
  refine r_iconst (v := 1) ok dX8_errand_7 rfl ?_
  refine r_iadd ok dX8_errand_8 ?_
  refine r_iald ok ai_74 h.1 rfl dX8_errand_9 ?_
  replace h := h.2
  exact hret _ _ _ _ dX8_errand_10 h
theorem c_X8_errand (l : Launch) (G : Gx) {x1 : Int32} {S : St} {post : Int32 → St → Prop} (h : wp_X8_errand x1 S post) : MtI l yX8_errand cX8_errand 2 (some .int) 0 0 G [.ref (G.2.2 71), .int x1] S post :=
  ctI (by decide) rfl (Nat.le_of_ble_eq_true rfl) (fun X _ hG ok hret => by subst hG; exact w_wp_X8_errand ok hret h)

/-! HasteRoadsModel.due(I)I -/
theorem dX8_due_0 : decode cX8_due 0 = .ok (.aload_n 0, 1) := by decide +kernel
theorem dX8_due_1 : decode cX8_due 1 = .ok (.getfield 20, 3) := by decide +kernel
theorem dX8_due_4 : decode cX8_due 4 = .ok (.iconst 5, 1) := by decide +kernel
theorem dX8_due_5 : decode cX8_due 5 = .ok (.iload_n 1, 1) := by decide +kernel
theorem dX8_due_6 : decode cX8_due 6 = .ok (.imul, 1) := by decide +kernel
theorem dX8_due_7 : decode cX8_due 7 = .ok (.iconst 4, 1) := by decide +kernel
theorem dX8_due_8 : decode cX8_due 8 = .ok (.iadd, 1) := by decide +kernel
theorem dX8_due_9 : decode cX8_due 9 = .ok (.iaload, 1) := by decide +kernel
theorem dX8_due_10 : decode cX8_due 10 = .ok (.ireturn, 1) := by decide +kernel

def wp_X8_due (x1 : Int32) (S : St) (post : Int32 → St → Prop) : Prop :=
  vp_in (((5 : Int32) * x1) + 4) 40 ∧ (post (S 74 (ix (((5 : Int32) * x1) + 4))) S)
theorem w_wp_X8_due {X : Cx} (ok : Ok X cX8_due 2 RX8 0 0) {post : Int32 → St → Prop} (hret : RetI X cX8_due 2 post) {x1 : Int32} {S : St} (h : wp_X8_due x1 S post) : Wp X 2 0 [(0, .ref (xad X 71)), (1, .int x1)] [] S := by
  unfold wp_X8_due at h
  refine r_aload_n ok dX8_due_0 0 rfl ?_
  refine gf_X8_20 ok dX8_due_1 ?_
  refine r_iconst (v := 5) ok dX8_due_4 rfl ?_
  refine r_iload_n ok dX8_due_5 1 rfl ?_
  refine r_imul ok dX8_due_6 ?_
  refine r_iconst (v := 4) ok dX8_due_7 rfl ?_
  refine r_iadd ok dX8_due_8 ?_
  refine r_iald ok ai_74 h.1 rfl dX8_due_9 ?_
  replace h := h.2
  exact hret _ _ _ _ dX8_due_10 h
theorem c_X8_due (l : Launch) (G : Gx) {x1 : Int32} {S : St} {post : Int32 → St → Prop} (h : wp_X8_due x1 S post) : MtI l yX8_due cX8_due 2 (some .int) 0 0 G [.ref (G.2.2 71), .int x1] S post :=
  ctI (by decide) rfl (Nat.le_of_ble_eq_true rfl) (fun X _ hG ok hret => by subst hG; exact w_wp_X8_due ok hret h)

/-! HasteRoadsModel.hurry([IIIII)I -/
theorem dX8_hurry_0 : decode cX8_hurry 0 = .ok (.aload_n 0, 1) := by decide +kernel
theorem dX8_hurry_1 : decode cX8_hurry 1 = .ok (.getfield 20, 3) := by decide +kernel
theorem dX8_hurry_4 : decode cX8_hurry 4 = .ok (.iconst 5, 1) := by decide +kernel
theorem dX8_hurry_5 : decode cX8_hurry 5 = .ok (.iload_n 2, 1) := by decide +kernel
theorem dX8_hurry_6 : decode cX8_hurry 6 = .ok (.imul, 1) := by decide +kernel
theorem dX8_hurry_7 : decode cX8_hurry 7 = .ok (.iconst 2, 1) := by decide +kernel
theorem dX8_hurry_8 : decode cX8_hurry 8 = .ok (.iadd, 1) := by decide +kernel
theorem dX8_hurry_9 : decode cX8_hurry 9 = .ok (.iaload, 1) := by decide +kernel
theorem dX8_hurry_10 : decode cX8_hurry 10 = .ok (.aload_n 1, 1) := by decide +kernel
theorem dX8_hurry_11 : decode cX8_hurry 11 = .ok (.iconst 4, 1) := by decide +kernel
theorem dX8_hurry_12 : decode cX8_hurry 12 = .ok (.iload_n 2, 1) := by decide +kernel
theorem dX8_hurry_13 : decode cX8_hurry 13 = .ok (.imul, 1) := by decide +kernel
theorem dX8_hurry_14 : decode cX8_hurry 14 = .ok (.iconst 2, 1) := by decide +kernel
theorem dX8_hurry_15 : decode cX8_hurry 15 = .ok (.iadd, 1) := by decide +kernel
theorem dX8_hurry_16 : decode cX8_hurry 16 = .ok (.iaload, 1) := by decide +kernel
theorem dX8_hurry_17 : decode cX8_hurry 17 = .ok (.iadd, 1) := by decide +kernel
theorem dX8_hurry_18 : decode cX8_hurry 18 = .ok (.aload_n 1, 1) := by decide +kernel
theorem dX8_hurry_19 : decode cX8_hurry 19 = .ok (.bipush 17, 2) := by decide +kernel
theorem dX8_hurry_21 : decode cX8_hurry 21 = .ok (.iaload, 1) := by decide +kernel
theorem dX8_hurry_22 : decode cX8_hurry 22 = .ok (.iload_n 3, 1) := by decide +kernel
theorem dX8_hurry_23 : decode cX8_hurry 23 = .ok (.ishr, 1) := by decide +kernel
theorem dX8_hurry_24 : decode cX8_hurry 24 = .ok (.iconst 1, 1) := by decide +kernel
theorem dX8_hurry_25 : decode cX8_hurry 25 = .ok (.iand, 1) := by decide +kernel
theorem dX8_hurry_26 : decode cX8_hurry 26 = .ok (.iadd, 1) := by decide +kernel
theorem dX8_hurry_27 : decode cX8_hurry 27 = .ok (.istore 6, 2) := by decide +kernel
theorem dX8_hurry_29 : decode cX8_hurry 29 = .ok (.iload 6, 2) := by decide +kernel
theorem dX8_hurry_31 : decode cX8_hurry 31 = .ok (.aload_n 0, 1) := by decide +kernel
theorem dX8_hurry_32 : decode cX8_hurry 32 = .ok (.iload_n 2, 1) := by decide +kernel
theorem dX8_hurry_33 : decode cX8_hurry 33 = .ok (.invokevirtual 175, 3) := by decide +kernel
theorem dX8_hurry_36 : decode cX8_hurry 36 = .ok (.iload 4, 2) := by decide +kernel
theorem dX8_hurry_38 : decode cX8_hurry 38 = .ok (.isub, 1) := by decide +kernel
theorem dX8_hurry_39 : decode cX8_hurry 39 = .ok (.bipush 10, 2) := by decide +kernel
theorem dX8_hurry_41 : decode cX8_hurry 41 = .ok (.if_icmp .ge 7, 3) := by decide +kernel
theorem dX8_hurry_44 : decode cX8_hurry 44 = .ok (.iconst 1, 1) := by decide +kernel
theorem dX8_hurry_45 : decode cX8_hurry 45 = .ok (.goto 4, 3) := by decide +kernel
theorem dX8_hurry_48 : decode cX8_hurry 48 = .ok (.iconst 0, 1) := by decide +kernel
theorem dX8_hurry_49 : decode cX8_hurry 49 = .ok (.iadd, 1) := by decide +kernel
theorem dX8_hurry_50 : decode cX8_hurry 50 = .ok (.istore 6, 2) := by decide +kernel
theorem dX8_hurry_52 : decode cX8_hurry 52 = .ok (.iload 6, 2) := by decide +kernel
theorem dX8_hurry_54 : decode cX8_hurry 54 = .ok (.iload 4, 2) := by decide +kernel
theorem dX8_hurry_56 : decode cX8_hurry 56 = .ok (.aload_n 0, 1) := by decide +kernel
theorem dX8_hurry_57 : decode cX8_hurry 57 = .ok (.iload_n 2, 1) := by decide +kernel
theorem dX8_hurry_58 : decode cX8_hurry 58 = .ok (.invokevirtual 175, 3) := by decide +kernel
theorem dX8_hurry_61 : decode cX8_hurry 61 = .ok (.if_icmp .le 7, 3) := by decide +kernel
theorem dX8_hurry_64 : decode cX8_hurry 64 = .ok (.iconst 2, 1) := by decide +kernel
theorem dX8_hurry_65 : decode cX8_hurry 65 = .ok (.goto 4, 3) := by decide +kernel
theorem dX8_hurry_68 : decode cX8_hurry 68 = .ok (.iconst 0, 1) := by decide +kernel
theorem dX8_hurry_69 : decode cX8_hurry 69 = .ok (.iadd, 1) := by decide +kernel
theorem dX8_hurry_70 : decode cX8_hurry 70 = .ok (.istore 6, 2) := by decide +kernel
theorem dX8_hurry_72 : decode cX8_hurry 72 = .ok (.iload 6, 2) := by decide +kernel
theorem dX8_hurry_74 : decode cX8_hurry 74 = .ok (.iload 5, 2) := by decide +kernel
theorem dX8_hurry_76 : decode cX8_hurry 76 = .ok (.if_icmp .ge 7, 3) := by decide +kernel
theorem dX8_hurry_79 : decode cX8_hurry 79 = .ok (.iconst 0, 1) := by decide +kernel
theorem dX8_hurry_80 : decode cX8_hurry 80 = .ok (.goto 8, 3) := by decide +kernel
theorem dX8_hurry_83 : decode cX8_hurry 83 = .ok (.iload 6, 2) := by decide +kernel
theorem dX8_hurry_85 : decode cX8_hurry 85 = .ok (.iload 5, 2) := by decide +kernel
theorem dX8_hurry_87 : decode cX8_hurry 87 = .ok (.isub, 1) := by decide +kernel
theorem dX8_hurry_88 : decode cX8_hurry 88 = .ok (.ireturn, 1) := by decide +kernel
theorem cl_X8_175 {X : Cx} {cc : ByteArray} {nL pc fr lo : Nat} {L : List (Nat × Value)} {st : List Value} {S : St} (ok : Ok X cc nL RX8 fr lo) {x1 : Int32} (d : decode cc pc = .ok (.invokevirtual 175, 3)) (hroom : 1 ≤ fr ∧ 21 ≤ lo) (hst : (st.map fun v => v.category).sum ≤ 8) {post : Int32 → St → Prop} (h : wp_X8_due x1 S post) (kk : ∀ (r : Int32) (S1 : St), post r S1 → Wp X nL (pc + 3) L (.int r :: st) S1) : Wp X nL pc L (.int x1 :: .ref (xad X 71) :: st) S :=
  r_callVi (n := 2) (f := 0) (lo1 := 0) (N := 1) (As := [.int x1]) ok tw_in_X8 tw_im_X8_due tw_se_X8_due tw_co_X8_due tw_ml_X8_175 (by decide +kernel) rfl ob_71 rfl hroom hst d rfl (c_X8_due (xl X) (xG X) h) kk
def B_X8_hurry_69 (post : Int32 → St → Prop) (a : Nat) (x5 : Int32) (s0 : Int32) (s1 : Int32) (S : St) : Prop :=
  ∀ v1 : Int32, v1 = (s1 + s0) → ((x5 ≤ v1 → post (v1 - x5) S) ∧ (¬ x5 ≤ v1 → post 0 S))
def B_X8_hurry_49 (post : Int32 → St → Prop) (a : Nat) (x2 : Int32) (x4 : Int32) (x5 : Int32) (s0 : Int32) (s1 : Int32) (S : St) : Prop :=
  ∀ v1 : Int32, v1 = (s1 + s0) → wp_X8_due x2 S (fun r3 S2 => ((x4 ≤ r3 → B_X8_hurry_69 post a x5 0 v1 S2) ∧ (¬ x4 ≤ r3 → B_X8_hurry_69 post a x5 2 v1 S2)))
def wp_X8_hurry (a : Nat) (x2 : Int32) (x3 : Int32) (x4 : Int32) (x5 : Int32) (S : St) (post : Int32 → St → Prop) : Prop :=
  vp_in (((5 : Int32) * x2) + 2) 40 ∧ (vp_in (((4 : Int32) * x2) + 2) 28 ∧ (∀ v1 : Int32, v1 = (((S 74 (ix (((5 : Int32) * x2) + 2))) + (S a (ix (((4 : Int32) * x2) + 2)))) + (((S a 17) >>> (x3 &&& 31)) &&& 1)) → wp_X8_due x2 S (fun r3 S2 => ((10 ≤ (r3 - x4) → B_X8_hurry_49 post a x2 x4 x5 0 v1 S2) ∧ (¬ 10 ≤ (r3 - x4) → B_X8_hurry_49 post a x2 x4 x5 1 v1 S2)))))
theorem w_B_X8_hurry_69 {X : Cx} (ok : Ok X cX8_hurry 7 RX8 1 21) {post : Int32 → St → Prop} (hret : RetI X cX8_hurry 7 post) {a : Nat} (ha : AI a 28) {x5 s0 s1 : Int32} {S : St} (h : B_X8_hurry_69 post a x5 s0 s1 S) : Wp X 7 69 [(5, .int x5)] [.int s0, .int s1] S := by
  unfold B_X8_hurry_69 at h
  refine r_iadd ok dX8_hurry_69 ?_
  refine r_top (fun v1 ev1 => ?_)
  replace h := h v1 ev1
  refine r_istore ok dX8_hurry_70 (by decide) [(5, .int x5), (6, .int v1)] [1, 0] rfl ?_
  refine r_iload ok dX8_hurry_72 1 rfl ?_
  refine r_iload ok dX8_hurry_74 0 rfl ?_
  refine r_icmp_ge (tgt := 83) ok dX8_hurry_76 rfl (fun hc2 => ?_) (fun hc2 => ?_)
  · replace h := h.1 hc2
    refine r_iload ok dX8_hurry_83 1 rfl ?_
    refine r_iload ok dX8_hurry_85 0 rfl ?_
    refine r_isub ok dX8_hurry_87 ?_
    exact hret _ _ _ _ dX8_hurry_88 h
  · replace h := h.2 hc2
    refine r_iconst (v := 0) ok dX8_hurry_79 rfl ?_
    refine r_goto (tgt := 88) ok dX8_hurry_80 rfl ?_
    exact hret _ _ _ _ dX8_hurry_88 h
theorem w_B_X8_hurry_49 {X : Cx} (ok : Ok X cX8_hurry 7 RX8 1 21) {post : Int32 → St → Prop} (hret : RetI X cX8_hurry 7 post) {a : Nat} (ha : AI a 28) {x2 x4 x5 s0 s1 : Int32} {S : St} (h : B_X8_hurry_49 post a x2 x4 x5 s0 s1 S) : Wp X 7 49 [(0, .ref (xad X 71)), (2, .int x2), (4, .int x4), (5, .int x5)] [.int s0, .int s1] S := by
  unfold B_X8_hurry_49 at h
  refine r_iadd ok dX8_hurry_49 ?_
  refine r_top (fun v1 ev1 => ?_)
  replace h := h v1 ev1
  refine r_istore ok dX8_hurry_50 (by decide) [(0, .ref (xad X 71)), (2, .int x2), (4, .int x4), (5, .int x5), (6, .int v1)] [1, 2, 3, 4, 0] rfl ?_
  refine r_iload ok dX8_hurry_52 4 rfl ?_
  refine r_iload ok dX8_hurry_54 2 rfl ?_
  refine r_aload_n ok dX8_hurry_56 0 rfl ?_
  refine r_iload_n ok dX8_hurry_57 1 rfl ?_
  refine cl_X8_175 ok dX8_hurry_58 (by decide) (Nat.le_of_ble_eq_true rfl) h (fun r3 S2 h => ?_)
  refine r_icmp_le (tgt := 68) ok dX8_hurry_61 rfl (fun hc4 => ?_) (fun hc4 => ?_)
  · replace h := h.1 hc4
    refine r_iconst (v := 0) ok dX8_hurry_68 rfl ?_
    refine r_sub [(5, .int x5)] [3] rfl ?_
    exact w_B_X8_hurry_69 ok hret ha h
  · replace h := h.2 hc4
    refine r_iconst (v := 2) ok dX8_hurry_64 rfl ?_
    refine r_goto (tgt := 69) ok dX8_hurry_65 rfl ?_
    refine r_sub [(5, .int x5)] [3] rfl ?_
    exact w_B_X8_hurry_69 ok hret ha h
theorem w_wp_X8_hurry {X : Cx} (ok : Ok X cX8_hurry 7 RX8 1 21) {post : Int32 → St → Prop} (hret : RetI X cX8_hurry 7 post) {a : Nat} (ha : AI a 28) {x2 x3 x4 x5 : Int32} {S : St} (h : wp_X8_hurry a x2 x3 x4 x5 S post) : Wp X 7 0 [(0, .ref (xad X 71)), (1, .ref (xad X a)), (2, .int x2), (3, .int x3), (4, .int x4), (5, .int x5)] [] S := by
  unfold wp_X8_hurry at h
  refine r_aload_n ok dX8_hurry_0 0 rfl ?_
  refine gf_X8_20 ok dX8_hurry_1 ?_
  refine r_iconst (v := 5) ok dX8_hurry_4 rfl ?_
  refine r_iload_n ok dX8_hurry_5 2 rfl ?_
  refine r_imul ok dX8_hurry_6 ?_
  refine r_iconst (v := 2) ok dX8_hurry_7 rfl ?_
  refine r_iadd ok dX8_hurry_8 ?_
  refine r_iald ok ai_74 h.1 rfl dX8_hurry_9 ?_
  replace h := h.2
  refine r_aload_n ok dX8_hurry_10 1 rfl ?_
  refine r_iconst (v := 4) ok dX8_hurry_11 rfl ?_
  refine r_iload_n ok dX8_hurry_12 2 rfl ?_
  refine r_imul ok dX8_hurry_13 ?_
  refine r_iconst (v := 2) ok dX8_hurry_14 rfl ?_
  refine r_iadd ok dX8_hurry_15 ?_
  refine r_iald ok ha h.1 rfl dX8_hurry_16 ?_
  replace h := h.2
  refine r_iadd ok dX8_hurry_17 ?_
  refine r_aload_n ok dX8_hurry_18 1 rfl ?_
  refine r_bipush (v := 17) ok dX8_hurry_19 rfl ?_
  refine r_iald (j := 17) ok ha (in_lit (by decide)) (by decide) dX8_hurry_21 ?_
  refine r_iload_n ok dX8_hurry_22 3 rfl ?_
  refine r_ishr ok dX8_hurry_23 ?_
  refine r_iconst (v := 1) ok dX8_hurry_24 rfl ?_
  refine r_iand ok dX8_hurry_25 ?_
  refine r_iadd ok dX8_hurry_26 ?_
  refine r_top (fun v1 ev1 => ?_)
  replace h := h v1 ev1
  refine r_istore ok dX8_hurry_27 (by decide) [(0, .ref (xad X 71)), (2, .int x2), (4, .int x4), (5, .int x5), (6, .int v1)] [1, 3, 5, 6, 0] rfl ?_
  refine r_iload ok dX8_hurry_29 4 rfl ?_
  refine r_aload_n ok dX8_hurry_31 0 rfl ?_
  refine r_iload_n ok dX8_hurry_32 1 rfl ?_
  refine cl_X8_175 ok dX8_hurry_33 (by decide) (Nat.le_of_ble_eq_true rfl) h (fun r3 S2 h => ?_)
  refine r_iload ok dX8_hurry_36 2 rfl ?_
  refine r_isub ok dX8_hurry_38 ?_
  refine r_bipush (v := 10) ok dX8_hurry_39 rfl ?_
  refine r_icmp_ge (tgt := 48) ok dX8_hurry_41 rfl (fun hc4 => ?_) (fun hc4 => ?_)
  · replace h := h.1 hc4
    refine r_iconst (v := 0) ok dX8_hurry_48 rfl ?_
    refine r_sub [(0, .ref (xad X 71)), (2, .int x2), (4, .int x4), (5, .int x5)] [0, 1, 2, 3] rfl ?_
    exact w_B_X8_hurry_49 ok hret ha h
  · replace h := h.2 hc4
    refine r_iconst (v := 1) ok dX8_hurry_44 rfl ?_
    refine r_goto (tgt := 49) ok dX8_hurry_45 rfl ?_
    refine r_sub [(0, .ref (xad X 71)), (2, .int x2), (4, .int x4), (5, .int x5)] [0, 1, 2, 3] rfl ?_
    exact w_B_X8_hurry_49 ok hret ha h
theorem c_X8_hurry (l : Launch) (G : Gx) {a : Nat} (ha : AI a 28) {x2 x3 x4 x5 : Int32} {S : St} {post : Int32 → St → Prop} (h : wp_X8_hurry a x2 x3 x4 x5 S post) : MtI l yX8_hurry cX8_hurry 7 (some .int) 1 21 G [.ref (G.2.2 71), .ref (G.2.2 a), .int x2, .int x3, .int x4, .int x5] S post :=
  ctI (by decide) rfl (Nat.le_of_ble_eq_true rfl) (fun X _ hG ok hret => by subst hG; exact w_wp_X8_hurry ok hret ha h)

/-! HasteRoadsModel.time([IIIIII)I -/
theorem dX8_time_0 : decode cX8_time 0 = .ok (.aload_n 1, 1) := by decide +kernel
theorem dX8_time_1 : decode cX8_time 1 = .ok (.bipush 18, 2) := by decide +kernel
theorem dX8_time_3 : decode cX8_time 3 = .ok (.iload_n 3, 1) := by decide +kernel
theorem dX8_time_4 : decode cX8_time 4 = .ok (.iadd, 1) := by decide +kernel
theorem dX8_time_5 : decode cX8_time 5 = .ok (.iaload, 1) := by decide +kernel
theorem dX8_time_6 : decode cX8_time 6 = .ok (.iconst 2, 1) := by decide +kernel
theorem dX8_time_7 : decode cX8_time 7 = .ok (.aload_n 0, 1) := by decide +kernel
theorem dX8_time_8 : decode cX8_time 8 = .ok (.aload_n 1, 1) := by decide +kernel
theorem dX8_time_9 : decode cX8_time 9 = .ok (.iload_n 2, 1) := by decide +kernel
theorem dX8_time_10 : decode cX8_time 10 = .ok (.iload 4, 2) := by decide +kernel
theorem dX8_time_12 : decode cX8_time 12 = .ok (.iload 5, 2) := by decide +kernel
theorem dX8_time_14 : decode cX8_time 14 = .ok (.iload 6, 2) := by decide +kernel
theorem dX8_time_16 : decode cX8_time 16 = .ok (.invokevirtual 178, 3) := by decide +kernel
theorem dX8_time_19 : decode cX8_time 19 = .ok (.iadd, 1) := by decide +kernel
theorem dX8_time_20 : decode cX8_time 20 = .ok (.imul, 1) := by decide +kernel
theorem dX8_time_21 : decode cX8_time 21 = .ok (.iconst 1, 1) := by decide +kernel
theorem dX8_time_22 : decode cX8_time 22 = .ok (.iadd, 1) := by decide +kernel
theorem dX8_time_23 : decode cX8_time 23 = .ok (.iconst 2, 1) := by decide +kernel
theorem dX8_time_24 : decode cX8_time 24 = .ok (.idiv, 1) := by decide +kernel
theorem dX8_time_25 : decode cX8_time 25 = .ok (.ireturn, 1) := by decide +kernel
theorem cl_X8_178 {X : Cx} {cc : ByteArray} {nL pc fr lo : Nat} {L : List (Nat × Value)} {st : List Value} {S : St} (ok : Ok X cc nL RX8 fr lo) {a : Nat} (ha : AI a 28) {x2 x3 x4 x5 : Int32} (d : decode cc pc = .ok (.invokevirtual 178, 3)) (hroom : 2 ≤ fr ∧ 47 ≤ lo) (hst : (st.map fun v => v.category).sum ≤ 8) {post : Int32 → St → Prop} (h : wp_X8_hurry a x2 x3 x4 x5 S post) (kk : ∀ (r : Int32) (S1 : St), post r S1 → Wp X nL (pc + 3) L (.int r :: st) S1) : Wp X nL pc L (.int x5 :: .int x4 :: .int x3 :: .int x2 :: .ref (xad X a) :: .ref (xad X 71) :: st) S :=
  r_callVi (n := 7) (f := 1) (lo1 := 21) (N := 5) (As := [.ref (xad X a), .int x2, .int x3, .int x4, .int x5]) ok tw_in_X8 tw_im_X8_hurry tw_se_X8_hurry tw_co_X8_hurry tw_ml_X8_178 (by decide +kernel) rfl ob_71 rfl hroom hst d rfl (c_X8_hurry (xl X) (xG X) ha h) kk
def wp_X8_time (a : Nat) (x2 : Int32) (x3 : Int32) (x4 : Int32) (x5 : Int32) (x6 : Int32) (S : St) (post : Int32 → St → Prop) : Prop :=
  vp_in ((18 : Int32) + x3) 28 ∧ (wp_X8_hurry a x2 x4 x5 x6 S (fun r2 S1 => post ((((S a (ix ((18 : Int32) + x3))) * ((2 : Int32) + r2)) + 1) / 2) S1))
theorem w_wp_X8_time {X : Cx} (ok : Ok X cX8_time 7 RX8 2 47) {post : Int32 → St → Prop} (hret : RetI X cX8_time 7 post) {a : Nat} (ha : AI a 28) {x2 x3 x4 x5 x6 : Int32} {S : St} (h : wp_X8_time a x2 x3 x4 x5 x6 S post) : Wp X 7 0 [(0, .ref (xad X 71)), (1, .ref (xad X a)), (2, .int x2), (3, .int x3), (4, .int x4), (5, .int x5), (6, .int x6)] [] S := by
  unfold wp_X8_time at h
  refine r_aload_n ok dX8_time_0 1 rfl ?_
  refine r_bipush (v := 18) ok dX8_time_1 rfl ?_
  refine r_iload_n ok dX8_time_3 3 rfl ?_
  refine r_iadd ok dX8_time_4 ?_
  refine r_iald ok ha h.1 rfl dX8_time_5 ?_
  replace h := h.2
  refine r_iconst (v := 2) ok dX8_time_6 rfl ?_
  refine r_aload_n ok dX8_time_7 0 rfl ?_
  refine r_aload_n ok dX8_time_8 1 rfl ?_
  refine r_iload_n ok dX8_time_9 2 rfl ?_
  refine r_iload ok dX8_time_10 4 rfl ?_
  refine r_iload ok dX8_time_12 5 rfl ?_
  refine r_iload ok dX8_time_14 6 rfl ?_
  refine cl_X8_178 ok ha dX8_time_16 (by decide) (Nat.le_of_ble_eq_true rfl) h (fun r2 S1 h => ?_)
  refine r_iadd ok dX8_time_19 ?_
  refine r_imul ok dX8_time_20 ?_
  refine r_iconst (v := 1) ok dX8_time_21 rfl ?_
  refine r_iadd ok dX8_time_22 ?_
  refine r_iconst (v := 2) ok dX8_time_23 rfl ?_
  refine r_idiv ok dX8_time_24 (by decide) ?_
  exact hret _ _ _ _ dX8_time_25 h
theorem c_X8_time (l : Launch) (G : Gx) {a : Nat} (ha : AI a 28) {x2 x3 x4 x5 x6 : Int32} {S : St} {post : Int32 → St → Prop} (h : wp_X8_time a x2 x3 x4 x5 x6 S post) : MtI l yX8_time cX8_time 7 (some .int) 2 47 G [.ref (G.2.2 71), .ref (G.2.2 a), .int x2, .int x3, .int x4, .int x5, .int x6] S post :=
  ctI (by decide) rfl (Nat.le_of_ble_eq_true rfl) (fun X _ hG ok hret => by subst hG; exact w_wp_X8_time ok hret ha h)

/-! HasteRoadsModel.person(II)I -/
theorem dX8_person_0 : decode cX8_person 0 = .ok (.aload_n 0, 1) := by decide +kernel
theorem dX8_person_1 : decode cX8_person 1 = .ok (.iconst 0, 1) := by decide +kernel
theorem dX8_person_2 : decode cX8_person 2 = .ok (.putfield 75, 3) := by decide +kernel
theorem dX8_person_5 : decode cX8_person 5 = .ok (.aload_n 0, 1) := by decide +kernel
theorem dX8_person_6 : decode cX8_person 6 = .ok (.iload_n 1, 1) := by decide +kernel
theorem dX8_person_7 : decode cX8_person 7 = .ok (.invokevirtual 182, 3) := by decide +kernel
theorem dX8_person_10 : decode cX8_person 10 = .ok (.ifCond .ne 6, 3) := by decide +kernel
theorem dX8_person_13 : decode cX8_person 13 = .ok (.ldc 174, 2) := by decide +kernel
theorem dX8_person_15 : decode cX8_person 15 = .ok (.ireturn, 1) := by decide +kernel
theorem dX8_person_16 : decode cX8_person 16 = .ok (.iload_n 2, 1) := by decide +kernel
theorem dX8_person_17 : decode cX8_person 17 = .ok (.iconst 0, 1) := by decide +kernel
theorem dX8_person_18 : decode cX8_person 18 = .ok (.bipush 7, 2) := by decide +kernel
theorem dX8_person_20 : decode cX8_person 20 = .ok (.invokestatic 78, 3) := by decide +kernel
theorem dX8_person_23 : decode cX8_person 23 = .ok (.ifCond .ne 6, 3) := by decide +kernel
theorem dX8_person_26 : decode cX8_person 26 = .ok (.ldc 82, 2) := by decide +kernel
theorem dX8_person_28 : decode cX8_person 28 = .ok (.ireturn, 1) := by decide +kernel
theorem dX8_person_29 : decode cX8_person 29 = .ok (.iload_n 2, 1) := by decide +kernel
theorem dX8_person_30 : decode cX8_person 30 = .ok (.ifCond .eq 19, 3) := by decide +kernel
theorem dX8_person_33 : decode cX8_person 33 = .ok (.iload_n 2, 1) := by decide +kernel
theorem dX8_person_34 : decode cX8_person 34 = .ok (.iconst 3, 1) := by decide +kernel
theorem dX8_person_35 : decode cX8_person 35 = .ok (.if_icmp .eq 14, 3) := by decide +kernel
theorem dX8_person_38 : decode cX8_person 38 = .ok (.iload_n 2, 1) := by decide +kernel
theorem dX8_person_39 : decode cX8_person 39 = .ok (.iconst 4, 1) := by decide +kernel
theorem dX8_person_40 : decode cX8_person 40 = .ok (.if_icmp .le 46, 3) := by decide +kernel
theorem dX8_person_43 : decode cX8_person 43 = .ok (.iload_n 2, 1) := by decide +kernel
theorem dX8_person_44 : decode cX8_person 44 = .ok (.bipush 7, 2) := by decide +kernel
theorem dX8_person_46 : decode cX8_person 46 = .ok (.if_icmp .ge 40, 3) := by decide +kernel
theorem dX8_person_49 : decode cX8_person 49 = .ok (.aload_n 0, 1) := by decide +kernel
theorem dX8_person_50 : decode cX8_person 50 = .ok (.getfield 23, 3) := by decide +kernel
theorem dX8_person_53 : decode cX8_person 53 = .ok (.iconst 4, 1) := by decide +kernel
theorem dX8_person_54 : decode cX8_person 54 = .ok (.iload_n 1, 1) := by decide +kernel
theorem dX8_person_55 : decode cX8_person 55 = .ok (.imul, 1) := by decide +kernel
theorem dX8_person_56 : decode cX8_person 56 = .ok (.iload_n 2, 1) := by decide +kernel
theorem dX8_person_57 : decode cX8_person 57 = .ok (.ifCond .ne 7, 3) := by decide +kernel
theorem dX8_person_60 : decode cX8_person 60 = .ok (.iconst 0, 1) := by decide +kernel
theorem dX8_person_61 : decode cX8_person 61 = .ok (.goto 22, 3) := by decide +kernel
theorem dX8_person_64 : decode cX8_person 64 = .ok (.iload_n 2, 1) := by decide +kernel
theorem dX8_person_65 : decode cX8_person 65 = .ok (.iconst 3, 1) := by decide +kernel
theorem dX8_person_66 : decode cX8_person 66 = .ok (.if_icmp .ne 7, 3) := by decide +kernel
theorem dX8_person_69 : decode cX8_person 69 = .ok (.iconst 1, 1) := by decide +kernel
theorem dX8_person_70 : decode cX8_person 70 = .ok (.goto 13, 3) := by decide +kernel
theorem dX8_person_73 : decode cX8_person 73 = .ok (.iload_n 2, 1) := by decide +kernel
theorem dX8_person_74 : decode cX8_person 74 = .ok (.iconst 5, 1) := by decide +kernel
theorem dX8_person_75 : decode cX8_person 75 = .ok (.if_icmp .ne 7, 3) := by decide +kernel
theorem dX8_person_78 : decode cX8_person 78 = .ok (.iconst 2, 1) := by decide +kernel
theorem dX8_person_79 : decode cX8_person 79 = .ok (.goto 4, 3) := by decide +kernel
theorem dX8_person_82 : decode cX8_person 82 = .ok (.iconst 3, 1) := by decide +kernel
theorem dX8_person_83 : decode cX8_person 83 = .ok (.iadd, 1) := by decide +kernel
theorem dX8_person_84 : decode cX8_person 84 = .ok (.iaload, 1) := by decide +kernel
theorem dX8_person_85 : decode cX8_person 85 = .ok (.ireturn, 1) := by decide +kernel
theorem dX8_person_86 : decode cX8_person 86 = .ok (.iload_n 2, 1) := by decide +kernel
theorem dX8_person_87 : decode cX8_person 87 = .ok (.bipush 7, 2) := by decide +kernel
theorem dX8_person_89 : decode cX8_person 89 = .ok (.if_icmp .ne 34, 3) := by decide +kernel
theorem dX8_person_92 : decode cX8_person 92 = .ok (.aload_n 0, 1) := by decide +kernel
theorem dX8_person_93 : decode cX8_person 93 = .ok (.aload_n 0, 1) := by decide +kernel
theorem dX8_person_94 : decode cX8_person 94 = .ok (.getfield 23, 3) := by decide +kernel
theorem dX8_person_97 : decode cX8_person 97 = .ok (.iload_n 1, 1) := by decide +kernel
theorem dX8_person_98 : decode cX8_person 98 = .ok (.aload_n 0, 1) := by decide +kernel
theorem dX8_person_99 : decode cX8_person 99 = .ok (.getfield 23, 3) := by decide +kernel
theorem dX8_person_102 : decode cX8_person 102 = .ok (.iconst 4, 1) := by decide +kernel
theorem dX8_person_103 : decode cX8_person 103 = .ok (.iload_n 1, 1) := by decide +kernel
theorem dX8_person_104 : decode cX8_person 104 = .ok (.imul, 1) := by decide +kernel
theorem dX8_person_105 : decode cX8_person 105 = .ok (.iaload, 1) := by decide +kernel
theorem dX8_person_106 : decode cX8_person 106 = .ok (.aload_n 0, 1) := by decide +kernel
theorem dX8_person_107 : decode cX8_person 107 = .ok (.getfield 23, 3) := by decide +kernel
theorem dX8_person_110 : decode cX8_person 110 = .ok (.iconst 4, 1) := by decide +kernel
theorem dX8_person_111 : decode cX8_person 111 = .ok (.iload_n 1, 1) := by decide +kernel
theorem dX8_person_112 : decode cX8_person 112 = .ok (.imul, 1) := by decide +kernel
theorem dX8_person_113 : decode cX8_person 113 = .ok (.iconst 3, 1) := by decide +kernel
theorem dX8_person_114 : decode cX8_person 114 = .ok (.iadd, 1) := by decide +kernel
theorem dX8_person_115 : decode cX8_person 115 = .ok (.iaload, 1) := by decide +kernel
theorem dX8_person_116 : decode cX8_person 116 = .ok (.iconst 0, 1) := by decide +kernel
theorem dX8_person_117 : decode cX8_person 117 = .ok (.invokevirtual 178, 3) := by decide +kernel
theorem dX8_person_120 : decode cX8_person 120 = .ok (.goto 13, 3) := by decide +kernel
theorem dX8_person_123 : decode cX8_person 123 = .ok (.aload_n 0, 1) := by decide +kernel
theorem dX8_person_124 : decode cX8_person 124 = .ok (.getfield 20, 3) := by decide +kernel
theorem dX8_person_127 : decode cX8_person 127 = .ok (.iconst 5, 1) := by decide +kernel
theorem dX8_person_128 : decode cX8_person 128 = .ok (.iload_n 1, 1) := by decide +kernel
theorem dX8_person_129 : decode cX8_person 129 = .ok (.imul, 1) := by decide +kernel
theorem dX8_person_130 : decode cX8_person 130 = .ok (.iload_n 2, 1) := by decide +kernel
theorem dX8_person_131 : decode cX8_person 131 = .ok (.iadd, 1) := by decide +kernel
theorem dX8_person_132 : decode cX8_person 132 = .ok (.iaload, 1) := by decide +kernel
theorem dX8_person_133 : decode cX8_person 133 = .ok (.ireturn, 1) := by decide +kernel
theorem cl_X8_182 {X : Cx} {cc : ByteArray} {nL pc fr lo : Nat} {L : List (Nat × Value)} {st : List Value} {S : St} (ok : Ok X cc nL RX8 fr lo) {x1 : Int32} (d : decode cc pc = .ok (.invokevirtual 182, 3)) (hroom : 2 ≤ fr ∧ 43 ≤ lo) (hst : (st.map fun v => v.category).sum ≤ 8) {post : Int32 → St → Prop} (h : wp_X8_isPerson x1 S post) (kk : ∀ (r : Int32) (S1 : St), post r S1 → Wp X nL (pc + 3) L (.int r :: st) S1) : Wp X nL pc L (.int x1 :: .ref (xad X 71) :: st) S :=
  r_callVi (n := 2) (f := 1) (lo1 := 22) (N := 1) (As := [.int x1]) ok tw_in_X8 tw_im_X8_isPerson tw_se_X8_isPerson tw_co_X8_isPerson tw_ml_X8_182 (by decide +kernel) rfl ob_71 rfl hroom hst d rfl (c_X8_isPerson (xl X) (xG X) h) kk
def B_X8_person_86 (post : Int32 → St → Prop) (x1 : Int32) (x2 : Int32) (S : St) : Prop :=
  ((¬ x2 = 7 → vp_in (((5 : Int32) * x1) + x2) 40 ∧ (post (S 74 (ix (((5 : Int32) * x1) + x2))) S)) ∧ (x2 = 7 → vp_in ((4 : Int32) * x1) 28 ∧ (vp_in (((4 : Int32) * x1) + 3) 28 ∧ (wp_X8_hurry 75 x1 (S 75 (ix ((4 : Int32) * x1))) (S 75 (ix (((4 : Int32) * x1) + 3))) 0 S (fun r3 S2 => post r3 S2)))))
def B_X8_person_49 (post : Int32 → St → Prop) (x1 : Int32) (x2 : Int32) (S : St) : Prop :=
  ((¬ x2 = 0 → ((¬ x2 = 3 → ((¬ x2 = 5 → vp_in (((4 : Int32) * x1) + 3) 28 ∧ (post (S 75 (ix (((4 : Int32) * x1) + 3))) S)) ∧ (x2 = 5 → vp_in (((4 : Int32) * x1) + 2) 28 ∧ (post (S 75 (ix (((4 : Int32) * x1) + 2))) S)))) ∧ (x2 = 3 → vp_in (((4 : Int32) * x1) + 1) 28 ∧ (post (S 75 (ix (((4 : Int32) * x1) + 1))) S)))) ∧ (x2 = 0 → vp_in (((4 : Int32) * x1) + 0) 28 ∧ (post (S 75 (ix (((4 : Int32) * x1) + 0))) S)))
def wp_X8_person (x1 : Int32) (x2 : Int32) (S : St) (post : Int32 → St → Prop) : Prop :=
  ∀ S1 : St, S1 = up S 71 0 0 → wp_X8_isPerson x1 S1 (fun r3 S2 => ((¬ r3 = 0 → wp_X8_in x2 0 7 S2 (fun r6 S5 => ((¬ r6 = 0 → ((x2 = 0 → B_X8_person_49 post x1 x2 S5) ∧ (¬ x2 = 0 → ((x2 = 3 → B_X8_person_49 post x1 x2 S5) ∧ (¬ x2 = 3 → ((x2 ≤ 4 → B_X8_person_86 post x1 x2 S5) ∧ (¬ x2 ≤ 4 → ((7 ≤ x2 → B_X8_person_86 post x1 x2 S5) ∧ (¬ 7 ≤ x2 → B_X8_person_49 post x1 x2 S5))))))))) ∧ (r6 = 0 → post (-1000000002) S5)))) ∧ (r3 = 0 → post (-1000000001) S2)))
theorem w_B_X8_person_86 {X : Cx} (ok : Ok X cX8_person 3 RX8 2 47) {post : Int32 → St → Prop} (hret : RetI X cX8_person 3 post) {x1 x2 : Int32} {S : St} (h : B_X8_person_86 post x1 x2 S) : Wp X 3 86 [(0, .ref (xad X 71)), (1, .int x1), (2, .int x2)] [] S := by
  unfold B_X8_person_86 at h
  refine r_iload_n ok dX8_person_86 2 rfl ?_
  refine r_bipush (v := 7) ok dX8_person_87 rfl ?_
  refine r_icmp_ne (tgt := 123) ok dX8_person_89 rfl (fun hc1 => ?_) (fun hc1 => ?_)
  · replace h := h.1 hc1
    refine r_aload_n ok dX8_person_123 0 rfl ?_
    refine gf_X8_20 ok dX8_person_124 ?_
    refine r_iconst (v := 5) ok dX8_person_127 rfl ?_
    refine r_iload_n ok dX8_person_128 1 rfl ?_
    refine r_imul ok dX8_person_129 ?_
    refine r_iload_n ok dX8_person_130 2 rfl ?_
    refine r_iadd ok dX8_person_131 ?_
    refine r_iald ok ai_74 h.1 rfl dX8_person_132 ?_
    replace h := h.2
    exact hret _ _ _ _ dX8_person_133 h
  · replace h := h.2 hc1
    refine r_aload_n ok dX8_person_92 0 rfl ?_
    refine r_aload_n ok dX8_person_93 0 rfl ?_
    refine gf_X8_23 ok dX8_person_94 ?_
    refine r_iload_n ok dX8_person_97 1 rfl ?_
    refine r_aload_n ok dX8_person_98 0 rfl ?_
    refine gf_X8_23 ok dX8_person_99 ?_
    refine r_iconst (v := 4) ok dX8_person_102 rfl ?_
    refine r_iload_n ok dX8_person_103 1 rfl ?_
    refine r_imul ok dX8_person_104 ?_
    refine r_iald ok ai_75 h.1 rfl dX8_person_105 ?_
    replace h := h.2
    refine r_aload_n ok dX8_person_106 0 rfl ?_
    refine gf_X8_23 ok dX8_person_107 ?_
    refine r_iconst (v := 4) ok dX8_person_110 rfl ?_
    refine r_iload_n ok dX8_person_111 1 rfl ?_
    refine r_imul ok dX8_person_112 ?_
    refine r_iconst (v := 3) ok dX8_person_113 rfl ?_
    refine r_iadd ok dX8_person_114 ?_
    refine r_iald ok ai_75 h.1 rfl dX8_person_115 ?_
    replace h := h.2
    refine r_iconst (v := 0) ok dX8_person_116 rfl ?_
    refine cl_X8_178 ok ai_75 dX8_person_117 (by decide) (Nat.le_of_ble_eq_true rfl) h (fun r3 S2 h => ?_)
    refine r_goto (tgt := 133) ok dX8_person_120 rfl ?_
    exact hret _ _ _ _ dX8_person_133 h
theorem w_B_X8_person_49 {X : Cx} (ok : Ok X cX8_person 3 RX8 2 47) {post : Int32 → St → Prop} (hret : RetI X cX8_person 3 post) {x1 x2 : Int32} {S : St} (h : B_X8_person_49 post x1 x2 S) : Wp X 3 49 [(0, .ref (xad X 71)), (1, .int x1), (2, .int x2)] [] S := by
  unfold B_X8_person_49 at h
  refine r_aload_n ok dX8_person_49 0 rfl ?_
  refine gf_X8_23 ok dX8_person_50 ?_
  refine r_iconst (v := 4) ok dX8_person_53 rfl ?_
  refine r_iload_n ok dX8_person_54 1 rfl ?_
  refine r_imul ok dX8_person_55 ?_
  refine r_iload_n ok dX8_person_56 2 rfl ?_
  refine r_if_ne (tgt := 64) ok dX8_person_57 rfl (fun hc1 => ?_) (fun hc1 => ?_)
  · replace h := h.1 hc1
    refine r_iload_n ok dX8_person_64 2 rfl ?_
    refine r_iconst (v := 3) ok dX8_person_65 rfl ?_
    refine r_icmp_ne (tgt := 73) ok dX8_person_66 rfl (fun hc2 => ?_) (fun hc2 => ?_)
    · replace h := h.1 hc2
      refine r_iload_n ok dX8_person_73 2 rfl ?_
      refine r_iconst (v := 5) ok dX8_person_74 rfl ?_
      refine r_icmp_ne (tgt := 82) ok dX8_person_75 rfl (fun hc3 => ?_) (fun hc3 => ?_)
      · replace h := h.1 hc3
        refine r_iconst (v := 3) ok dX8_person_82 rfl ?_
        refine r_iadd ok dX8_person_83 ?_
        refine r_iald ok ai_75 h.1 rfl dX8_person_84 ?_
        replace h := h.2
        exact hret _ _ _ _ dX8_person_85 h
      · replace h := h.2 hc3
        refine r_iconst (v := 2) ok dX8_person_78 rfl ?_
        refine r_goto (tgt := 83) ok dX8_person_79 rfl ?_
        refine r_iadd ok dX8_person_83 ?_
        refine r_iald ok ai_75 h.1 rfl dX8_person_84 ?_
        replace h := h.2
        exact hret _ _ _ _ dX8_person_85 h
    · replace h := h.2 hc2
      refine r_iconst (v := 1) ok dX8_person_69 rfl ?_
      refine r_goto (tgt := 83) ok dX8_person_70 rfl ?_
      refine r_iadd ok dX8_person_83 ?_
      refine r_iald ok ai_75 h.1 rfl dX8_person_84 ?_
      replace h := h.2
      exact hret _ _ _ _ dX8_person_85 h
  · replace h := h.2 hc1
    refine r_iconst (v := 0) ok dX8_person_60 rfl ?_
    refine r_goto (tgt := 83) ok dX8_person_61 rfl ?_
    refine r_iadd ok dX8_person_83 ?_
    refine r_iald ok ai_75 h.1 rfl dX8_person_84 ?_
    replace h := h.2
    exact hret _ _ _ _ dX8_person_85 h
theorem w_wp_X8_person {X : Cx} (ok : Ok X cX8_person 3 RX8 2 47) {post : Int32 → St → Prop} (hret : RetI X cX8_person 3 post) {x1 x2 : Int32} {S : St} (h : wp_X8_person x1 x2 S post) : Wp X 3 0 [(0, .ref (xad X 71)), (1, .int x1), (2, .int x2)] [] S := by
  unfold wp_X8_person at h
  refine r_aload_n ok dX8_person_0 0 rfl ?_
  refine r_iconst (v := 0) ok dX8_person_1 rfl ?_
  refine pf_X8_75 ok dX8_person_2 (fun S1 eS1 => ?_)
  replace h := h S1 eS1
  refine r_aload_n ok dX8_person_5 0 rfl ?_
  refine r_iload_n ok dX8_person_6 1 rfl ?_
  refine cl_X8_182 ok dX8_person_7 (by decide) (Nat.le_of_ble_eq_true rfl) h (fun r3 S2 h => ?_)
  refine r_if_ne (tgt := 16) ok dX8_person_10 rfl (fun hc4 => ?_) (fun hc4 => ?_)
  · replace h := h.1 hc4
    refine r_iload_n ok dX8_person_16 2 rfl ?_
    refine r_iconst (v := 0) ok dX8_person_17 rfl ?_
    refine r_bipush (v := 7) ok dX8_person_18 rfl ?_
    refine cl_X8_78 ok dX8_person_20 (by decide) (Nat.le_of_ble_eq_true rfl) h (fun r6 S5 h => ?_)
    refine r_if_ne (tgt := 29) ok dX8_person_23 rfl (fun hc7 => ?_) (fun hc7 => ?_)
    · replace h := h.1 hc7
      refine r_iload_n ok dX8_person_29 2 rfl ?_
      refine r_if_eq (tgt := 49) ok dX8_person_30 rfl (fun hc8 => ?_) (fun hc8 => ?_)
      · replace h := h.1 hc8
        exact w_B_X8_person_49 ok hret h
      · replace h := h.2 hc8
        refine r_iload_n ok dX8_person_33 2 rfl ?_
        refine r_iconst (v := 3) ok dX8_person_34 rfl ?_
        refine r_icmp_eq (tgt := 49) ok dX8_person_35 rfl (fun hc9 => ?_) (fun hc9 => ?_)
        · replace h := h.1 hc9
          exact w_B_X8_person_49 ok hret h
        · replace h := h.2 hc9
          refine r_iload_n ok dX8_person_38 2 rfl ?_
          refine r_iconst (v := 4) ok dX8_person_39 rfl ?_
          refine r_icmp_le (tgt := 86) ok dX8_person_40 rfl (fun hc10 => ?_) (fun hc10 => ?_)
          · replace h := h.1 hc10
            exact w_B_X8_person_86 ok hret h
          · replace h := h.2 hc10
            refine r_iload_n ok dX8_person_43 2 rfl ?_
            refine r_bipush (v := 7) ok dX8_person_44 rfl ?_
            refine r_icmp_ge (tgt := 86) ok dX8_person_46 rfl (fun hc11 => ?_) (fun hc11 => ?_)
            · replace h := h.1 hc11
              exact w_B_X8_person_86 ok hret h
            · replace h := h.2 hc11
              exact w_B_X8_person_49 ok hret h
    · replace h := h.2 hc7
      refine r_ldc (v := (-1000000002)) ok dX8_person_26 tw_k_X8_82 ?_
      exact hret _ _ _ _ dX8_person_28 h
  · replace h := h.2 hc4
    refine r_ldc (v := (-1000000001)) ok dX8_person_13 tw_k_X8_174 ?_
    exact hret _ _ _ _ dX8_person_15 h
theorem c_X8_person (l : Launch) (G : Gx) {x1 x2 : Int32} {S : St} {post : Int32 → St → Prop} (h : wp_X8_person x1 x2 S post) : MtI l yX8_person cX8_person 3 (some .int) 2 47 G [.ref (G.2.2 71), .int x1, .int x2] S post :=
  ctI (by decide) rfl (Nat.le_of_ble_eq_true rfl) (fun X _ hG ok hret => by subst hG; exact w_wp_X8_person ok hret h)

/-! HasteRoadsModel.otherEnd(II)I -/
theorem dX8_otherEnd_0 : decode cX8_otherEnd 0 = .ok (.aload_n 0, 1) := by decide +kernel
theorem dX8_otherEnd_1 : decode cX8_otherEnd 1 = .ok (.getfield 17, 3) := by decide +kernel
theorem dX8_otherEnd_4 : decode cX8_otherEnd 4 = .ok (.iconst 3, 1) := by decide +kernel
theorem dX8_otherEnd_5 : decode cX8_otherEnd 5 = .ok (.iload_n 1, 1) := by decide +kernel
theorem dX8_otherEnd_6 : decode cX8_otherEnd 6 = .ok (.imul, 1) := by decide +kernel
theorem dX8_otherEnd_7 : decode cX8_otherEnd 7 = .ok (.iaload, 1) := by decide +kernel
theorem dX8_otherEnd_8 : decode cX8_otherEnd 8 = .ok (.iload_n 2, 1) := by decide +kernel
theorem dX8_otherEnd_9 : decode cX8_otherEnd 9 = .ok (.if_icmp .ne 16, 3) := by decide +kernel
theorem dX8_otherEnd_12 : decode cX8_otherEnd 12 = .ok (.aload_n 0, 1) := by decide +kernel
theorem dX8_otherEnd_13 : decode cX8_otherEnd 13 = .ok (.getfield 17, 3) := by decide +kernel
theorem dX8_otherEnd_16 : decode cX8_otherEnd 16 = .ok (.iconst 3, 1) := by decide +kernel
theorem dX8_otherEnd_17 : decode cX8_otherEnd 17 = .ok (.iload_n 1, 1) := by decide +kernel
theorem dX8_otherEnd_18 : decode cX8_otherEnd 18 = .ok (.imul, 1) := by decide +kernel
theorem dX8_otherEnd_19 : decode cX8_otherEnd 19 = .ok (.iconst 1, 1) := by decide +kernel
theorem dX8_otherEnd_20 : decode cX8_otherEnd 20 = .ok (.iadd, 1) := by decide +kernel
theorem dX8_otherEnd_21 : decode cX8_otherEnd 21 = .ok (.iaload, 1) := by decide +kernel
theorem dX8_otherEnd_22 : decode cX8_otherEnd 22 = .ok (.goto 29, 3) := by decide +kernel
theorem dX8_otherEnd_25 : decode cX8_otherEnd 25 = .ok (.aload_n 0, 1) := by decide +kernel
theorem dX8_otherEnd_26 : decode cX8_otherEnd 26 = .ok (.getfield 17, 3) := by decide +kernel
theorem dX8_otherEnd_29 : decode cX8_otherEnd 29 = .ok (.iconst 3, 1) := by decide +kernel
theorem dX8_otherEnd_30 : decode cX8_otherEnd 30 = .ok (.iload_n 1, 1) := by decide +kernel
theorem dX8_otherEnd_31 : decode cX8_otherEnd 31 = .ok (.imul, 1) := by decide +kernel
theorem dX8_otherEnd_32 : decode cX8_otherEnd 32 = .ok (.iconst 1, 1) := by decide +kernel
theorem dX8_otherEnd_33 : decode cX8_otherEnd 33 = .ok (.iadd, 1) := by decide +kernel
theorem dX8_otherEnd_34 : decode cX8_otherEnd 34 = .ok (.iaload, 1) := by decide +kernel
theorem dX8_otherEnd_35 : decode cX8_otherEnd 35 = .ok (.iload_n 2, 1) := by decide +kernel
theorem dX8_otherEnd_36 : decode cX8_otherEnd 36 = .ok (.if_icmp .ne 14, 3) := by decide +kernel
theorem dX8_otherEnd_39 : decode cX8_otherEnd 39 = .ok (.aload_n 0, 1) := by decide +kernel
theorem dX8_otherEnd_40 : decode cX8_otherEnd 40 = .ok (.getfield 17, 3) := by decide +kernel
theorem dX8_otherEnd_43 : decode cX8_otherEnd 43 = .ok (.iconst 3, 1) := by decide +kernel
theorem dX8_otherEnd_44 : decode cX8_otherEnd 44 = .ok (.iload_n 1, 1) := by decide +kernel
theorem dX8_otherEnd_45 : decode cX8_otherEnd 45 = .ok (.imul, 1) := by decide +kernel
theorem dX8_otherEnd_46 : decode cX8_otherEnd 46 = .ok (.iaload, 1) := by decide +kernel
theorem dX8_otherEnd_47 : decode cX8_otherEnd 47 = .ok (.goto 4, 3) := by decide +kernel
theorem dX8_otherEnd_50 : decode cX8_otherEnd 50 = .ok (.iconst (-1), 1) := by decide +kernel
theorem dX8_otherEnd_51 : decode cX8_otherEnd 51 = .ok (.ireturn, 1) := by decide +kernel

def wp_X8_otherEnd (x1 : Int32) (x2 : Int32) (S : St) (post : Int32 → St → Prop) : Prop :=
  vp_in ((3 : Int32) * x1) 54 ∧ (((¬ (S 73 (ix ((3 : Int32) * x1))) = x2 → vp_in (((3 : Int32) * x1) + 1) 54 ∧ (((¬ (S 73 (ix (((3 : Int32) * x1) + 1))) = x2 → post (-1) S) ∧ ((S 73 (ix (((3 : Int32) * x1) + 1))) = x2 → vp_in ((3 : Int32) * x1) 54 ∧ (post (S 73 (ix ((3 : Int32) * x1))) S))))) ∧ ((S 73 (ix ((3 : Int32) * x1))) = x2 → vp_in (((3 : Int32) * x1) + 1) 54 ∧ (post (S 73 (ix (((3 : Int32) * x1) + 1))) S))))
theorem w_wp_X8_otherEnd {X : Cx} (ok : Ok X cX8_otherEnd 3 RX8 0 0) {post : Int32 → St → Prop} (hret : RetI X cX8_otherEnd 3 post) {x1 x2 : Int32} {S : St} (h : wp_X8_otherEnd x1 x2 S post) : Wp X 3 0 [(0, .ref (xad X 71)), (1, .int x1), (2, .int x2)] [] S := by
  unfold wp_X8_otherEnd at h
  refine r_aload_n ok dX8_otherEnd_0 0 rfl ?_
  refine gf_X8_17 ok dX8_otherEnd_1 ?_
  refine r_iconst (v := 3) ok dX8_otherEnd_4 rfl ?_
  refine r_iload_n ok dX8_otherEnd_5 1 rfl ?_
  refine r_imul ok dX8_otherEnd_6 ?_
  refine r_iald ok ai_73 h.1 rfl dX8_otherEnd_7 ?_
  replace h := h.2
  refine r_iload_n ok dX8_otherEnd_8 2 rfl ?_
  refine r_icmp_ne (tgt := 25) ok dX8_otherEnd_9 rfl (fun hc1 => ?_) (fun hc1 => ?_)
  · replace h := h.1 hc1
    refine r_aload_n ok dX8_otherEnd_25 0 rfl ?_
    refine gf_X8_17 ok dX8_otherEnd_26 ?_
    refine r_iconst (v := 3) ok dX8_otherEnd_29 rfl ?_
    refine r_iload_n ok dX8_otherEnd_30 1 rfl ?_
    refine r_imul ok dX8_otherEnd_31 ?_
    refine r_iconst (v := 1) ok dX8_otherEnd_32 rfl ?_
    refine r_iadd ok dX8_otherEnd_33 ?_
    refine r_iald ok ai_73 h.1 rfl dX8_otherEnd_34 ?_
    replace h := h.2
    refine r_iload_n ok dX8_otherEnd_35 2 rfl ?_
    refine r_icmp_ne (tgt := 50) ok dX8_otherEnd_36 rfl (fun hc2 => ?_) (fun hc2 => ?_)
    · replace h := h.1 hc2
      refine r_iconst (v := (-1)) ok dX8_otherEnd_50 rfl ?_
      exact hret _ _ _ _ dX8_otherEnd_51 h
    · replace h := h.2 hc2
      refine r_aload_n ok dX8_otherEnd_39 0 rfl ?_
      refine gf_X8_17 ok dX8_otherEnd_40 ?_
      refine r_iconst (v := 3) ok dX8_otherEnd_43 rfl ?_
      refine r_iload_n ok dX8_otherEnd_44 1 rfl ?_
      refine r_imul ok dX8_otherEnd_45 ?_
      refine r_iald ok ai_73 h.1 rfl dX8_otherEnd_46 ?_
      replace h := h.2
      refine r_goto (tgt := 51) ok dX8_otherEnd_47 rfl ?_
      exact hret _ _ _ _ dX8_otherEnd_51 h
  · replace h := h.2 hc1
    refine r_aload_n ok dX8_otherEnd_12 0 rfl ?_
    refine gf_X8_17 ok dX8_otherEnd_13 ?_
    refine r_iconst (v := 3) ok dX8_otherEnd_16 rfl ?_
    refine r_iload_n ok dX8_otherEnd_17 1 rfl ?_
    refine r_imul ok dX8_otherEnd_18 ?_
    refine r_iconst (v := 1) ok dX8_otherEnd_19 rfl ?_
    refine r_iadd ok dX8_otherEnd_20 ?_
    refine r_iald ok ai_73 h.1 rfl dX8_otherEnd_21 ?_
    replace h := h.2
    refine r_goto (tgt := 51) ok dX8_otherEnd_22 rfl ?_
    exact hret _ _ _ _ dX8_otherEnd_51 h
theorem c_X8_otherEnd (l : Launch) (G : Gx) {x1 x2 : Int32} {S : St} {post : Int32 → St → Prop} (h : wp_X8_otherEnd x1 x2 S post) : MtI l yX8_otherEnd cX8_otherEnd 3 (some .int) 0 0 G [.ref (G.2.2 71), .int x1, .int x2] S post :=
  ctI (by decide) rfl (Nat.le_of_ble_eq_true rfl) (fun X _ hG ok hret => by subst hG; exact w_wp_X8_otherEnd ok hret h)

/-! HasteRoadsModel.takes(IIIII)I -/
theorem dX8_takes_0 : decode cX8_takes 0 = .ok (.aload_n 0, 1) := by decide +kernel
theorem dX8_takes_1 : decode cX8_takes 1 = .ok (.iconst 0, 1) := by decide +kernel
theorem dX8_takes_2 : decode cX8_takes 2 = .ok (.putfield 75, 3) := by decide +kernel
theorem dX8_takes_5 : decode cX8_takes 5 = .ok (.aload_n 0, 1) := by decide +kernel
theorem dX8_takes_6 : decode cX8_takes 6 = .ok (.iload_n 1, 1) := by decide +kernel
theorem dX8_takes_7 : decode cX8_takes 7 = .ok (.invokevirtual 182, 3) := by decide +kernel
theorem dX8_takes_10 : decode cX8_takes 10 = .ok (.ifCond .eq 19, 3) := by decide +kernel
theorem dX8_takes_13 : decode cX8_takes 13 = .ok (.aload_n 0, 1) := by decide +kernel
theorem dX8_takes_14 : decode cX8_takes 14 = .ok (.iload_n 2, 1) := by decide +kernel
theorem dX8_takes_15 : decode cX8_takes 15 = .ok (.invokevirtual 170, 3) := by decide +kernel
theorem dX8_takes_18 : decode cX8_takes 18 = .ok (.ifCond .eq 11, 3) := by decide +kernel
theorem dX8_takes_21 : decode cX8_takes 21 = .ok (.aload_n 0, 1) := by decide +kernel
theorem dX8_takes_22 : decode cX8_takes 22 = .ok (.iload_n 3, 1) := by decide +kernel
theorem dX8_takes_23 : decode cX8_takes 23 = .ok (.invokevirtual 185, 3) := by decide +kernel
theorem dX8_takes_26 : decode cX8_takes 26 = .ok (.ifCond .ne 6, 3) := by decide +kernel
theorem dX8_takes_29 : decode cX8_takes 29 = .ok (.ldc 174, 2) := by decide +kernel
theorem dX8_takes_31 : decode cX8_takes 31 = .ok (.ireturn, 1) := by decide +kernel
theorem dX8_takes_32 : decode cX8_takes 32 = .ok (.iload 4, 2) := by decide +kernel
theorem dX8_takes_34 : decode cX8_takes 34 = .ok (.iconst 0, 1) := by decide +kernel
theorem dX8_takes_35 : decode cX8_takes 35 = .ok (.ldc 188, 2) := by decide +kernel
theorem dX8_takes_37 : decode cX8_takes 37 = .ok (.invokestatic 78, 3) := by decide +kernel
theorem dX8_takes_40 : decode cX8_takes 40 = .ok (.ifCond .eq 13, 3) := by decide +kernel
theorem dX8_takes_43 : decode cX8_takes 43 = .ok (.iload 5, 2) := by decide +kernel
theorem dX8_takes_45 : decode cX8_takes 45 = .ok (.iconst 0, 1) := by decide +kernel
theorem dX8_takes_46 : decode cX8_takes 46 = .ok (.iconst 5, 1) := by decide +kernel
theorem dX8_takes_47 : decode cX8_takes 47 = .ok (.invokestatic 78, 3) := by decide +kernel
theorem dX8_takes_50 : decode cX8_takes 50 = .ok (.ifCond .ne 6, 3) := by decide +kernel
theorem dX8_takes_53 : decode cX8_takes 53 = .ok (.ldc 82, 2) := by decide +kernel
theorem dX8_takes_55 : decode cX8_takes 55 = .ok (.ireturn, 1) := by decide +kernel
theorem dX8_takes_56 : decode cX8_takes 56 = .ok (.aload_n 0, 1) := by decide +kernel
theorem dX8_takes_57 : decode cX8_takes 57 = .ok (.iload_n 2, 1) := by decide +kernel
theorem dX8_takes_58 : decode cX8_takes 58 = .ok (.iload_n 3, 1) := by decide +kernel
theorem dX8_takes_59 : decode cX8_takes 59 = .ok (.invokevirtual 189, 3) := by decide +kernel
theorem dX8_takes_62 : decode cX8_takes 62 = .ok (.iconst (-1), 1) := by decide +kernel
theorem dX8_takes_63 : decode cX8_takes 63 = .ok (.if_icmp .ne 8, 3) := by decide +kernel
theorem dX8_takes_66 : decode cX8_takes 66 = .ok (.ldc 193, 2) := by decide +kernel
theorem dX8_takes_68 : decode cX8_takes 68 = .ok (.goto 18, 3) := by decide +kernel
theorem dX8_takes_71 : decode cX8_takes 71 = .ok (.aload_n 0, 1) := by decide +kernel
theorem dX8_takes_72 : decode cX8_takes 72 = .ok (.aload_n 0, 1) := by decide +kernel
theorem dX8_takes_73 : decode cX8_takes 73 = .ok (.getfield 23, 3) := by decide +kernel
theorem dX8_takes_76 : decode cX8_takes 76 = .ok (.iload_n 1, 1) := by decide +kernel
theorem dX8_takes_77 : decode cX8_takes 77 = .ok (.iload_n 2, 1) := by decide +kernel
theorem dX8_takes_78 : decode cX8_takes 78 = .ok (.iload_n 3, 1) := by decide +kernel
theorem dX8_takes_79 : decode cX8_takes 79 = .ok (.iload 4, 2) := by decide +kernel
theorem dX8_takes_81 : decode cX8_takes 81 = .ok (.iload 5, 2) := by decide +kernel
theorem dX8_takes_83 : decode cX8_takes 83 = .ok (.invokevirtual 194, 3) := by decide +kernel
theorem dX8_takes_86 : decode cX8_takes 86 = .ok (.ireturn, 1) := by decide +kernel
theorem cl_X8_185 {X : Cx} {cc : ByteArray} {nL pc fr lo : Nat} {L : List (Nat × Value)} {st : List Value} {S : St} (ok : Ok X cc nL RX8 fr lo) {x1 : Int32} (d : decode cc pc = .ok (.invokevirtual 185, 3)) (hroom : 2 ≤ fr ∧ 43 ≤ lo) (hst : (st.map fun v => v.category).sum ≤ 8) {post : Int32 → St → Prop} (h : wp_X8_isPlace x1 S post) (kk : ∀ (r : Int32) (S1 : St), post r S1 → Wp X nL (pc + 3) L (.int r :: st) S1) : Wp X nL pc L (.int x1 :: .ref (xad X 71) :: st) S :=
  r_callVi (n := 2) (f := 1) (lo1 := 22) (N := 1) (As := [.int x1]) ok tw_in_X8 tw_im_X8_isPlace tw_se_X8_isPlace tw_co_X8_isPlace tw_ml_X8_185 (by decide +kernel) rfl ob_71 rfl hroom hst d rfl (c_X8_isPlace (xl X) (xG X) h) kk
theorem cl_X8_189 {X : Cx} {cc : ByteArray} {nL pc fr lo : Nat} {L : List (Nat × Value)} {st : List Value} {S : St} (ok : Ok X cc nL RX8 fr lo) {x1 x2 : Int32} (d : decode cc pc = .ok (.invokevirtual 189, 3)) (hroom : 1 ≤ fr ∧ 22 ≤ lo) (hst : (st.map fun v => v.category).sum ≤ 8) {post : Int32 → St → Prop} (h : wp_X8_otherEnd x1 x2 S post) (kk : ∀ (r : Int32) (S1 : St), post r S1 → Wp X nL (pc + 3) L (.int r :: st) S1) : Wp X nL pc L (.int x2 :: .int x1 :: .ref (xad X 71) :: st) S :=
  r_callVi (n := 3) (f := 0) (lo1 := 0) (N := 2) (As := [.int x1, .int x2]) ok tw_in_X8 tw_im_X8_otherEnd tw_se_X8_otherEnd tw_co_X8_otherEnd tw_ml_X8_189 (by decide +kernel) rfl ob_71 rfl hroom hst d rfl (c_X8_otherEnd (xl X) (xG X) h) kk
theorem cl_X8_194 {X : Cx} {cc : ByteArray} {nL pc fr lo : Nat} {L : List (Nat × Value)} {st : List Value} {S : St} (ok : Ok X cc nL RX8 fr lo) {a : Nat} (ha : AI a 28) {x2 x3 x4 x5 x6 : Int32} (d : decode cc pc = .ok (.invokevirtual 194, 3)) (hroom : 3 ≤ fr ∧ 73 ≤ lo) (hst : (st.map fun v => v.category).sum ≤ 8) {post : Int32 → St → Prop} (h : wp_X8_time a x2 x3 x4 x5 x6 S post) (kk : ∀ (r : Int32) (S1 : St), post r S1 → Wp X nL (pc + 3) L (.int r :: st) S1) : Wp X nL pc L (.int x6 :: .int x5 :: .int x4 :: .int x3 :: .int x2 :: .ref (xad X a) :: .ref (xad X 71) :: st) S :=
  r_callVi (n := 7) (f := 2) (lo1 := 47) (N := 6) (As := [.ref (xad X a), .int x2, .int x3, .int x4, .int x5, .int x6]) ok tw_in_X8 tw_im_X8_time tw_se_X8_time tw_co_X8_time tw_ml_X8_194 (by decide +kernel) rfl ob_71 rfl hroom hst d rfl (c_X8_time (xl X) (xG X) ha h) kk
def wp_X8_takes (x1 : Int32) (x2 : Int32) (x3 : Int32) (x4 : Int32) (x5 : Int32) (S : St) (post : Int32 → St → Prop) : Prop :=
  ∀ S1 : St, S1 = up S 71 0 0 → wp_X8_isPerson x1 S1 (fun r3 S2 => ((r3 = 0 → post (-1000000001) S2) ∧ (¬ r3 = 0 → wp_X8_isRoad x2 S2 (fun r6 S5 => ((r6 = 0 → post (-1000000001) S5) ∧ (¬ r6 = 0 → wp_X8_isPlace x3 S5 (fun r9 S8 => ((¬ r9 = 0 → wp_X8_in x4 0 99999 S8 (fun r12 S11 => ((r12 = 0 → post (-1000000002) S11) ∧ (¬ r12 = 0 → wp_X8_in x5 0 5 S11 (fun r15 S14 => ((¬ r15 = 0 → wp_X8_otherEnd x2 x3 S14 (fun r18 S17 => ((¬ r18 = (-1) → wp_X8_time 75 x1 x2 x3 x4 x5 S17 (fun r21 S20 => post r21 S20)) ∧ (r18 = (-1) → post (-1000000003) S17)))) ∧ (r15 = 0 → post (-1000000002) S14))))))) ∧ (r9 = 0 → post (-1000000001) S8)))))))))
theorem w_wp_X8_takes {X : Cx} (ok : Ok X cX8_takes 6 RX8 3 73) {post : Int32 → St → Prop} (hret : RetI X cX8_takes 6 post) {x1 x2 x3 x4 x5 : Int32} {S : St} (h : wp_X8_takes x1 x2 x3 x4 x5 S post) : Wp X 6 0 [(0, .ref (xad X 71)), (1, .int x1), (2, .int x2), (3, .int x3), (4, .int x4), (5, .int x5)] [] S := by
  unfold wp_X8_takes at h
  refine r_aload_n ok dX8_takes_0 0 rfl ?_
  refine r_iconst (v := 0) ok dX8_takes_1 rfl ?_
  refine pf_X8_75 ok dX8_takes_2 (fun S1 eS1 => ?_)
  replace h := h S1 eS1
  refine r_aload_n ok dX8_takes_5 0 rfl ?_
  refine r_iload_n ok dX8_takes_6 1 rfl ?_
  refine cl_X8_182 ok dX8_takes_7 (by decide) (Nat.le_of_ble_eq_true rfl) h (fun r3 S2 h => ?_)
  refine r_if_eq (tgt := 29) ok dX8_takes_10 rfl (fun hc4 => ?_) (fun hc4 => ?_)
  · replace h := h.1 hc4
    refine r_ldc (v := (-1000000001)) ok dX8_takes_29 tw_k_X8_174 ?_
    exact hret _ _ _ _ dX8_takes_31 h
  · replace h := h.2 hc4
    refine r_aload_n ok dX8_takes_13 0 rfl ?_
    refine r_iload_n ok dX8_takes_14 2 rfl ?_
    refine cl_X8_170 ok dX8_takes_15 (by decide) (Nat.le_of_ble_eq_true rfl) h (fun r6 S5 h => ?_)
    refine r_if_eq (tgt := 29) ok dX8_takes_18 rfl (fun hc7 => ?_) (fun hc7 => ?_)
    · replace h := h.1 hc7
      refine r_ldc (v := (-1000000001)) ok dX8_takes_29 tw_k_X8_174 ?_
      exact hret _ _ _ _ dX8_takes_31 h
    · replace h := h.2 hc7
      refine r_aload_n ok dX8_takes_21 0 rfl ?_
      refine r_iload_n ok dX8_takes_22 3 rfl ?_
      refine cl_X8_185 ok dX8_takes_23 (by decide) (Nat.le_of_ble_eq_true rfl) h (fun r9 S8 h => ?_)
      refine r_if_ne (tgt := 32) ok dX8_takes_26 rfl (fun hc10 => ?_) (fun hc10 => ?_)
      · replace h := h.1 hc10
        refine r_iload ok dX8_takes_32 4 rfl ?_
        refine r_iconst (v := 0) ok dX8_takes_34 rfl ?_
        refine r_ldc (v := 99999) ok dX8_takes_35 tw_k_X8_188 ?_
        refine cl_X8_78 ok dX8_takes_37 (by decide) (Nat.le_of_ble_eq_true rfl) h (fun r12 S11 h => ?_)
        refine r_if_eq (tgt := 53) ok dX8_takes_40 rfl (fun hc13 => ?_) (fun hc13 => ?_)
        · replace h := h.1 hc13
          refine r_ldc (v := (-1000000002)) ok dX8_takes_53 tw_k_X8_82 ?_
          exact hret _ _ _ _ dX8_takes_55 h
        · replace h := h.2 hc13
          refine r_iload ok dX8_takes_43 5 rfl ?_
          refine r_iconst (v := 0) ok dX8_takes_45 rfl ?_
          refine r_iconst (v := 5) ok dX8_takes_46 rfl ?_
          refine cl_X8_78 ok dX8_takes_47 (by decide) (Nat.le_of_ble_eq_true rfl) h (fun r15 S14 h => ?_)
          refine r_if_ne (tgt := 56) ok dX8_takes_50 rfl (fun hc16 => ?_) (fun hc16 => ?_)
          · replace h := h.1 hc16
            refine r_aload_n ok dX8_takes_56 0 rfl ?_
            refine r_iload_n ok dX8_takes_57 2 rfl ?_
            refine r_iload_n ok dX8_takes_58 3 rfl ?_
            refine cl_X8_189 ok dX8_takes_59 (by decide) (Nat.le_of_ble_eq_true rfl) h (fun r18 S17 h => ?_)
            refine r_iconst (v := (-1)) ok dX8_takes_62 rfl ?_
            refine r_icmp_ne (tgt := 71) ok dX8_takes_63 rfl (fun hc19 => ?_) (fun hc19 => ?_)
            · replace h := h.1 hc19
              refine r_aload_n ok dX8_takes_71 0 rfl ?_
              refine r_aload_n ok dX8_takes_72 0 rfl ?_
              refine gf_X8_23 ok dX8_takes_73 ?_
              refine r_iload_n ok dX8_takes_76 1 rfl ?_
              refine r_iload_n ok dX8_takes_77 2 rfl ?_
              refine r_iload_n ok dX8_takes_78 3 rfl ?_
              refine r_iload ok dX8_takes_79 4 rfl ?_
              refine r_iload ok dX8_takes_81 5 rfl ?_
              refine cl_X8_194 ok ai_75 dX8_takes_83 (by decide) (Nat.le_of_ble_eq_true rfl) h (fun r21 S20 h => ?_)
              exact hret _ _ _ _ dX8_takes_86 h
            · replace h := h.2 hc19
              refine r_ldc (v := (-1000000003)) ok dX8_takes_66 tw_k_X8_193 ?_
              refine r_goto (tgt := 86) ok dX8_takes_68 rfl ?_
              exact hret _ _ _ _ dX8_takes_86 h
          · replace h := h.2 hc16
            refine r_ldc (v := (-1000000002)) ok dX8_takes_53 tw_k_X8_82 ?_
            exact hret _ _ _ _ dX8_takes_55 h
      · replace h := h.2 hc10
        refine r_ldc (v := (-1000000001)) ok dX8_takes_29 tw_k_X8_174 ?_
        exact hret _ _ _ _ dX8_takes_31 h
theorem c_X8_takes (l : Launch) (G : Gx) {x1 x2 x3 x4 x5 : Int32} {S : St} {post : Int32 → St → Prop} (h : wp_X8_takes x1 x2 x3 x4 x5 S post) : MtI l yX8_takes cX8_takes 6 (some .int) 3 73 G [.ref (G.2.2 71), .int x1, .int x2, .int x3, .int x4, .int x5] S post :=
  ctI (by decide) rfl (Nat.le_of_ble_eq_true rfl) (fun X _ hG ok hret => by subst hG; exact w_wp_X8_takes ok hret h)

/-! HasteRoadsModel.goes([IIII)V -/
theorem dX8_goes_0 : decode cX8_goes 0 = .ok (.aload_n 1, 1) := by decide +kernel
theorem dX8_goes_1 : decode cX8_goes 1 = .ok (.iconst 4, 1) := by decide +kernel
theorem dX8_goes_2 : decode cX8_goes 2 = .ok (.iload_n 2, 1) := by decide +kernel
theorem dX8_goes_3 : decode cX8_goes 3 = .ok (.imul, 1) := by decide +kernel
theorem dX8_goes_4 : decode cX8_goes 4 = .ok (.iaload, 1) := by decide +kernel
theorem dX8_goes_5 : decode cX8_goes 5 = .ok (.istore 5, 2) := by decide +kernel
theorem dX8_goes_7 : decode cX8_goes 7 = .ok (.aload_n 1, 1) := by decide +kernel
theorem dX8_goes_8 : decode cX8_goes 8 = .ok (.iconst 4, 1) := by decide +kernel
theorem dX8_goes_9 : decode cX8_goes 9 = .ok (.iload_n 2, 1) := by decide +kernel
theorem dX8_goes_10 : decode cX8_goes 10 = .ok (.imul, 1) := by decide +kernel
theorem dX8_goes_11 : decode cX8_goes 11 = .ok (.iconst 3, 1) := by decide +kernel
theorem dX8_goes_12 : decode cX8_goes 12 = .ok (.iadd, 1) := by decide +kernel
theorem dX8_goes_13 : decode cX8_goes 13 = .ok (.dup2, 1) := by decide +kernel
theorem dX8_goes_14 : decode cX8_goes 14 = .ok (.iaload, 1) := by decide +kernel
theorem dX8_goes_15 : decode cX8_goes 15 = .ok (.aload_n 0, 1) := by decide +kernel
theorem dX8_goes_16 : decode cX8_goes 16 = .ok (.aload_n 1, 1) := by decide +kernel
theorem dX8_goes_17 : decode cX8_goes 17 = .ok (.iload_n 2, 1) := by decide +kernel
theorem dX8_goes_18 : decode cX8_goes 18 = .ok (.iload_n 3, 1) := by decide +kernel
theorem dX8_goes_19 : decode cX8_goes 19 = .ok (.iload 5, 2) := by decide +kernel
theorem dX8_goes_21 : decode cX8_goes 21 = .ok (.aload_n 1, 1) := by decide +kernel
theorem dX8_goes_22 : decode cX8_goes 22 = .ok (.iconst 4, 1) := by decide +kernel
theorem dX8_goes_23 : decode cX8_goes 23 = .ok (.iload_n 2, 1) := by decide +kernel
theorem dX8_goes_24 : decode cX8_goes 24 = .ok (.imul, 1) := by decide +kernel
theorem dX8_goes_25 : decode cX8_goes 25 = .ok (.iconst 3, 1) := by decide +kernel
theorem dX8_goes_26 : decode cX8_goes 26 = .ok (.iadd, 1) := by decide +kernel
theorem dX8_goes_27 : decode cX8_goes 27 = .ok (.iaload, 1) := by decide +kernel
theorem dX8_goes_28 : decode cX8_goes 28 = .ok (.iload 4, 2) := by decide +kernel
theorem dX8_goes_30 : decode cX8_goes 30 = .ok (.invokevirtual 194, 3) := by decide +kernel
theorem dX8_goes_33 : decode cX8_goes 33 = .ok (.iadd, 1) := by decide +kernel
theorem dX8_goes_34 : decode cX8_goes 34 = .ok (.iastore, 1) := by decide +kernel
theorem dX8_goes_35 : decode cX8_goes 35 = .ok (.aload_n 1, 1) := by decide +kernel
theorem dX8_goes_36 : decode cX8_goes 36 = .ok (.iconst 4, 1) := by decide +kernel
theorem dX8_goes_37 : decode cX8_goes 37 = .ok (.iload_n 2, 1) := by decide +kernel
theorem dX8_goes_38 : decode cX8_goes 38 = .ok (.imul, 1) := by decide +kernel
theorem dX8_goes_39 : decode cX8_goes 39 = .ok (.iconst 1, 1) := by decide +kernel
theorem dX8_goes_40 : decode cX8_goes 40 = .ok (.iadd, 1) := by decide +kernel
theorem dX8_goes_41 : decode cX8_goes 41 = .ok (.dup2, 1) := by decide +kernel
theorem dX8_goes_42 : decode cX8_goes 42 = .ok (.iaload, 1) := by decide +kernel
theorem dX8_goes_43 : decode cX8_goes 43 = .ok (.iload 4, 2) := by decide +kernel
theorem dX8_goes_45 : decode cX8_goes 45 = .ok (.isub, 1) := by decide +kernel
theorem dX8_goes_46 : decode cX8_goes 46 = .ok (.iastore, 1) := by decide +kernel
theorem dX8_goes_47 : decode cX8_goes 47 = .ok (.aload_n 1, 1) := by decide +kernel
theorem dX8_goes_48 : decode cX8_goes 48 = .ok (.iconst 4, 1) := by decide +kernel
theorem dX8_goes_49 : decode cX8_goes 49 = .ok (.iload_n 2, 1) := by decide +kernel
theorem dX8_goes_50 : decode cX8_goes 50 = .ok (.imul, 1) := by decide +kernel
theorem dX8_goes_51 : decode cX8_goes 51 = .ok (.aload_n 0, 1) := by decide +kernel
theorem dX8_goes_52 : decode cX8_goes 52 = .ok (.iload_n 3, 1) := by decide +kernel
theorem dX8_goes_53 : decode cX8_goes 53 = .ok (.iload 5, 2) := by decide +kernel
theorem dX8_goes_55 : decode cX8_goes 55 = .ok (.invokevirtual 189, 3) := by decide +kernel
theorem dX8_goes_58 : decode cX8_goes 58 = .ok (.iastore, 1) := by decide +kernel
theorem dX8_goes_59 : decode cX8_goes 59 = .ok (.return_, 1) := by decide +kernel

def wp_X8_goes (a : Nat) (x2 : Int32) (x3 : Int32) (x4 : Int32) (S : St) (post : St → Prop) : Prop :=
  vp_in ((4 : Int32) * x2) 28 ∧ (∀ v1 : Int32, v1 = (S a (ix ((4 : Int32) * x2))) → vp_in (((4 : Int32) * x2) + 3) 28 ∧ (vp_in (((4 : Int32) * x2) + 3) 28 ∧ (wp_X8_time a x2 x3 v1 (S a (ix (((4 : Int32) * x2) + 3))) x4 S (fun r3 S2 => vp_in (((4 : Int32) * x2) + 3) 28 ∧ (∀ S4 : St, S4 = up S2 a (ix (((4 : Int32) * x2) + 3)) ((S a (ix (((4 : Int32) * x2) + 3))) + r3) → vp_in (((4 : Int32) * x2) + 1) 28 ∧ (vp_in (((4 : Int32) * x2) + 1) 28 ∧ (∀ S6 : St, S6 = up S4 a (ix (((4 : Int32) * x2) + 1)) ((S4 a (ix (((4 : Int32) * x2) + 1))) - x4) → wp_X8_otherEnd x3 v1 S6 (fun r9 S8 => vp_in ((4 : Int32) * x2) 28 ∧ (∀ S10 : St, S10 = up S8 a (ix ((4 : Int32) * x2)) r9 → post S10)))))))))
theorem w_wp_X8_goes {X : Cx} (ok : Ok X cX8_goes 6 RX8 3 73) {post : St → Prop} (hret : RetV X cX8_goes 6 post) {a : Nat} (ha : AI a 28) {x2 x3 x4 : Int32} {S : St} (h : wp_X8_goes a x2 x3 x4 S post) : Wp X 6 0 [(0, .ref (xad X 71)), (1, .ref (xad X a)), (2, .int x2), (3, .int x3), (4, .int x4)] [] S := by
  unfold wp_X8_goes at h
  refine r_aload_n ok dX8_goes_0 1 rfl ?_
  refine r_iconst (v := 4) ok dX8_goes_1 rfl ?_
  refine r_iload_n ok dX8_goes_2 2 rfl ?_
  refine r_imul ok dX8_goes_3 ?_
  refine r_iald ok ha h.1 rfl dX8_goes_4 ?_
  replace h := h.2
  refine r_top (fun v1 ev1 => ?_)
  replace h := h v1 ev1
  refine r_istore ok dX8_goes_5 (by decide) [(0, .ref (xad X 71)), (1, .ref (xad X a)), (2, .int x2), (3, .int x3), (4, .int x4), (5, .int v1)] [1, 2, 3, 4, 5, 0] rfl ?_
  refine r_aload_n ok dX8_goes_7 1 rfl ?_
  refine r_iconst (v := 4) ok dX8_goes_8 rfl ?_
  refine r_iload_n ok dX8_goes_9 2 rfl ?_
  refine r_imul ok dX8_goes_10 ?_
  refine r_iconst (v := 3) ok dX8_goes_11 rfl ?_
  refine r_iadd ok dX8_goes_12 ?_
  refine r_dup2 ok dX8_goes_13 rfl rfl ?_
  refine r_iald ok ha h.1 rfl dX8_goes_14 ?_
  replace h := h.2
  refine r_aload_n ok dX8_goes_15 0 rfl ?_
  refine r_aload_n ok dX8_goes_16 1 rfl ?_
  refine r_iload_n ok dX8_goes_17 2 rfl ?_
  refine r_iload_n ok dX8_goes_18 3 rfl ?_
  refine r_iload ok dX8_goes_19 5 rfl ?_
  refine r_aload_n ok dX8_goes_21 1 rfl ?_
  refine r_iconst (v := 4) ok dX8_goes_22 rfl ?_
  refine r_iload_n ok dX8_goes_23 2 rfl ?_
  refine r_imul ok dX8_goes_24 ?_
  refine r_iconst (v := 3) ok dX8_goes_25 rfl ?_
  refine r_iadd ok dX8_goes_26 ?_
  refine r_iald ok ha h.1 rfl dX8_goes_27 ?_
  replace h := h.2
  refine r_iload ok dX8_goes_28 4 rfl ?_
  refine cl_X8_194 ok ha dX8_goes_30 (by decide) (Nat.le_of_ble_eq_true rfl) h (fun r3 S2 h => ?_)
  refine r_iadd ok dX8_goes_33 ?_
  have hi5 := h.1
  replace h := h.2
  refine r_iast ok ha hi5 rfl dX8_goes_34 (fun S4 eS4 => ?_)
  replace h := h S4 eS4
  refine r_aload_n ok dX8_goes_35 1 rfl ?_
  refine r_iconst (v := 4) ok dX8_goes_36 rfl ?_
  refine r_iload_n ok dX8_goes_37 2 rfl ?_
  refine r_imul ok dX8_goes_38 ?_
  refine r_iconst (v := 1) ok dX8_goes_39 rfl ?_
  refine r_iadd ok dX8_goes_40 ?_
  refine r_dup2 ok dX8_goes_41 rfl rfl ?_
  refine r_iald ok ha h.1 rfl dX8_goes_42 ?_
  replace h := h.2
  refine r_iload ok dX8_goes_43 4 rfl ?_
  refine r_isub ok dX8_goes_45 ?_
  have hi7 := h.1
  replace h := h.2
  refine r_iast ok ha hi7 rfl dX8_goes_46 (fun S6 eS6 => ?_)
  replace h := h S6 eS6
  refine r_aload_n ok dX8_goes_47 1 rfl ?_
  refine r_iconst (v := 4) ok dX8_goes_48 rfl ?_
  refine r_iload_n ok dX8_goes_49 2 rfl ?_
  refine r_imul ok dX8_goes_50 ?_
  refine r_aload_n ok dX8_goes_51 0 rfl ?_
  refine r_iload_n ok dX8_goes_52 3 rfl ?_
  refine r_iload ok dX8_goes_53 5 rfl ?_
  refine cl_X8_189 ok dX8_goes_55 (by decide) (Nat.le_of_ble_eq_true rfl) h (fun r9 S8 h => ?_)
  have hi11 := h.1
  replace h := h.2
  refine r_iast ok ha hi11 rfl dX8_goes_58 (fun S10 eS10 => ?_)
  replace h := h S10 eS10
  exact hret _ _ _ dX8_goes_59 h
theorem c_X8_goes (l : Launch) (G : Gx) {a : Nat} (ha : AI a 28) {x2 x3 x4 : Int32} {S : St} {post : St → Prop} (h : wp_X8_goes a x2 x3 x4 S post) : MtV l yX8_goes cX8_goes 6 3 73 G [.ref (G.2.2 71), .ref (G.2.2 a), .int x2, .int x3, .int x4] S post :=
  ctV (by decide) rfl (Nat.le_of_ble_eq_true rfl) (fun X _ hG ok hret => by subst hG; exact w_wp_X8_goes ok hret ha h)
