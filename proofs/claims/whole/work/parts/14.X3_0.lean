/-! HasteRoads$Message.nearest()I -/
theorem dX3_nearest_0 : decode cX3_nearest 0 = .ok (.iconst (-1), 1) := by decide +kernel
theorem dX3_nearest_1 : decode cX3_nearest 1 = .ok (.istore_n 1, 1) := by decide +kernel
theorem dX3_nearest_2 : decode cX3_nearest 2 = .ok (.ldc 30, 2) := by decide +kernel
theorem dX3_nearest_4 : decode cX3_nearest 4 = .ok (.istore_n 2, 1) := by decide +kernel
theorem dX3_nearest_5 : decode cX3_nearest 5 = .ok (.iconst 0, 1) := by decide +kernel
theorem dX3_nearest_6 : decode cX3_nearest 6 = .ok (.istore_n 3, 1) := by decide +kernel
theorem dX3_nearest_7 : decode cX3_nearest 7 = .ok (.iload_n 3, 1) := by decide +kernel
theorem dX3_nearest_8 : decode cX3_nearest 8 = .ok (.aload_n 0, 1) := by decide +kernel
theorem dX3_nearest_9 : decode cX3_nearest 9 = .ok (.getfield 22, 3) := by decide +kernel
theorem dX3_nearest_12 : decode cX3_nearest 12 = .ok (.getfield 31, 3) := by decide +kernel
theorem dX3_nearest_15 : decode cX3_nearest 15 = .ok (.if_icmp .ge 37, 3) := by decide +kernel
theorem dX3_nearest_18 : decode cX3_nearest 18 = .ok (.aload_n 0, 1) := by decide +kernel
theorem dX3_nearest_19 : decode cX3_nearest 19 = .ok (.getfield 18, 3) := by decide +kernel
theorem dX3_nearest_22 : decode cX3_nearest 22 = .ok (.iload_n 3, 1) := by decide +kernel
theorem dX3_nearest_23 : decode cX3_nearest 23 = .ok (.baload, 1) := by decide +kernel
theorem dX3_nearest_24 : decode cX3_nearest 24 = .ok (.ifCond .ne 22, 3) := by decide +kernel
theorem dX3_nearest_27 : decode cX3_nearest 27 = .ok (.aload_n 0, 1) := by decide +kernel
theorem dX3_nearest_28 : decode cX3_nearest 28 = .ok (.getfield 9, 3) := by decide +kernel
theorem dX3_nearest_31 : decode cX3_nearest 31 = .ok (.iload_n 3, 1) := by decide +kernel
theorem dX3_nearest_32 : decode cX3_nearest 32 = .ok (.iaload, 1) := by decide +kernel
theorem dX3_nearest_33 : decode cX3_nearest 33 = .ok (.iload_n 2, 1) := by decide +kernel
theorem dX3_nearest_34 : decode cX3_nearest 34 = .ok (.if_icmp .ge 12, 3) := by decide +kernel
theorem dX3_nearest_37 : decode cX3_nearest 37 = .ok (.aload_n 0, 1) := by decide +kernel
theorem dX3_nearest_38 : decode cX3_nearest 38 = .ok (.getfield 9, 3) := by decide +kernel
theorem dX3_nearest_41 : decode cX3_nearest 41 = .ok (.iload_n 3, 1) := by decide +kernel
theorem dX3_nearest_42 : decode cX3_nearest 42 = .ok (.iaload, 1) := by decide +kernel
theorem dX3_nearest_43 : decode cX3_nearest 43 = .ok (.istore_n 2, 1) := by decide +kernel
theorem dX3_nearest_44 : decode cX3_nearest 44 = .ok (.iload_n 3, 1) := by decide +kernel
theorem dX3_nearest_45 : decode cX3_nearest 45 = .ok (.istore_n 1, 1) := by decide +kernel
theorem dX3_nearest_46 : decode cX3_nearest 46 = .ok (.iinc 3 1, 3) := by decide +kernel
theorem dX3_nearest_49 : decode cX3_nearest 49 = .ok (.goto (-42), 3) := by decide +kernel
theorem dX3_nearest_52 : decode cX3_nearest 52 = .ok (.iload_n 1, 1) := by decide +kernel
theorem dX3_nearest_53 : decode cX3_nearest 53 = .ok (.ireturn, 1) := by decide +kernel
theorem gf_X3_22 {X : Cx} {cc : ByteArray} {nL pc fr lo : Nat} {L : List (Nat × Value)} {st : List Value} {S : St} (ok : Ok X cc nL RX3 fr lo) (d : decode cc pc = .ok (.getfield 22, 3)) (k : Wp X nL (pc + 3) L (.ref (xad X 11) :: st) S) : Wp X nL pc L (.ref (xad X 55) :: st) S :=
  r_get (C := RX3) (T := TX3) ok ob_55 rfl i_X3 0 (by decide) tw_fl_X3_22 d (by rw [show fvl (xad X) S 55 0 = .ref (xad X 11) from (fvl_ref (d := 11) (by decide))]; exact k)
theorem gf_X3_31 {X : Cx} {cc : ByteArray} {nL pc fr lo : Nat} {L : List (Nat × Value)} {st : List Value} {S : St} (ok : Ok X cc nL RX3 fr lo) {o : Nat} (ho : isW o) (d : decode cc pc = .ok (.getfield 31, 3)) (k : Wp X nL (pc + 3) L (.int (S o 0) :: st) S) : Wp X nL pc L (.ref (xad X o) :: st) S :=
  r_get (C := RX6) (T := TX6) ok ho.ob rfl i_X6 0 (by decide) tw_fl_X3_31 d (by rw [show fvl (xad X) S o 0 = .int (S o 0) from (fvl_int (ho.ri 0 (by decide)))]; exact k)
theorem gf_X3_18 {X : Cx} {cc : ByteArray} {nL pc fr lo : Nat} {L : List (Nat × Value)} {st : List Value} {S : St} (ok : Ok X cc nL RX3 fr lo) (d : decode cc pc = .ok (.getfield 18, 3)) (k : Wp X nL (pc + 3) L (.ref (xad X 58) :: st) S) : Wp X nL pc L (.ref (xad X 55) :: st) S :=
  r_get (C := RX3) (T := TX3) ok ob_55 rfl i_X3 4 (by decide) tw_fl_X3_18 d (by rw [show fvl (xad X) S 55 4 = .ref (xad X 58) from (fvl_ref (d := 58) (by decide))]; exact k)
theorem gf_X3_9 {X : Cx} {cc : ByteArray} {nL pc fr lo : Nat} {L : List (Nat × Value)} {st : List Value} {S : St} (ok : Ok X cc nL RX3 fr lo) (d : decode cc pc = .ok (.getfield 9, 3)) (k : Wp X nL (pc + 3) L (.ref (xad X 56) :: st) S) : Wp X nL pc L (.ref (xad X 55) :: st) S :=
  r_get (C := RX3) (T := TX3) ok ob_55 rfl i_X3 2 (by decide) tw_fl_X3_9 d (by rw [show fvl (xad X) S 55 2 = .ref (xad X 56) from (fvl_ref (d := 56) (by decide))]; exact k)
def BD_X3_nearest_7 (k7 : Int32 → Int32 → Int32 → St → Prop) (post : Int32 → St → Prop) (x1 : Int32) (x2 : Int32) (x3 : Int32) (S : St) : Prop :=
  (((S 11 0) ≤ x3 → post x1 S) ∧ (¬ (S 11 0) ≤ x3 → vp_in x3 6 ∧ (((¬ (S 58 (ix x3)) = 0 → k7 x1 x2 (x3 + 1) S) ∧ ((S 58 (ix x3)) = 0 → vp_in x3 6 ∧ (((x2 ≤ (S 56 (ix x3)) → k7 x1 x2 (x3 + 1) S) ∧ (¬ x2 ≤ (S 56 (ix x3)) → vp_in x3 6 ∧ (∀ v4 : Int32, v4 = (S 56 (ix x3)) → k7 x3 v4 (x3 + 1) S)))))))))
def L_X3_nearest_7 (post : Int32 → St → Prop) (n : Nat) : Int32 → Int32 → Int32 → St → Prop := Nat.rec (motive := fun _ => Int32 → Int32 → Int32 → St → Prop) (fun _ _ _ _ => False) (fun _ ih => BD_X3_nearest_7 ih post) n
def B_X3_nearest_7 (post : Int32 → St → Prop) (x1 : Int32) (x2 : Int32) (x3 : Int32) (S : St) : Prop := ∃ n, L_X3_nearest_7 post n x1 x2 x3 S
def wp_X3_nearest (S : St) (post : Int32 → St → Prop) : Prop :=
  B_X3_nearest_7 post (-1) 1000000000 0 S
theorem w_B_X3_nearest_7 {X : Cx} (ok : Ok X cX3_nearest 4 RX3 0 0) {post : Int32 → St → Prop} (hret : RetI X cX3_nearest 4 post) {x1 x2 x3 : Int32} {S : St} (h : B_X3_nearest_7 post x1 x2 x3 S) : Wp X 4 7 [(0, .ref (xad X 55)), (1, .int x1), (2, .int x2), (3, .int x3)] [] S := by
  obtain ⟨n, h⟩ := h
  induction n generalizing x1 x2 x3 S with
  | zero => exact False.elim h
  | succ n ih =>
    have hk7 : ∀ x1 x2 x3 S, L_X3_nearest_7 post n x1 x2 x3 S → Wp X 4 7 [(0, .ref (xad X 55)), (1, .int x1), (2, .int x2), (3, .int x3)] [] S := by intros; apply ih; assumption
    replace h : BD_X3_nearest_7 (L_X3_nearest_7 post n) post x1 x2 x3 S := h
    unfold BD_X3_nearest_7 at h
    generalize L_X3_nearest_7 post n = k7 at h hk7
    refine r_iload_n ok dX3_nearest_7 3 rfl ?_
    refine r_aload_n ok dX3_nearest_8 0 rfl ?_
    refine gf_X3_22 ok dX3_nearest_9 ?_
    refine gf_X3_31 ok isW_11 dX3_nearest_12 ?_
    refine r_icmp_ge (tgt := 52) ok dX3_nearest_15 rfl (fun hc1 => ?_) (fun hc1 => ?_)
    · replace h := h.1 hc1
      refine r_iload_n ok dX3_nearest_52 1 rfl ?_
      exact hret _ _ _ _ dX3_nearest_53 h
    · replace h := h.2 hc1
      refine r_aload_n ok dX3_nearest_18 0 rfl ?_
      refine gf_X3_18 ok dX3_nearest_19 ?_
      refine r_iload_n ok dX3_nearest_22 3 rfl ?_
      refine r_zald ok az_58 h.1 rfl dX3_nearest_23 ?_
      replace h := h.2
      refine r_if_ne (tgt := 46) ok dX3_nearest_24 rfl (fun hc2 => ?_) (fun hc2 => ?_)
      · replace h := h.1 hc2
        refine r_iinc (v := x3 + 1) ok dX3_nearest_46 3 rfl rfl (by decide) [(0, .ref (xad X 55)), (1, .int x1), (2, .int x2), (3, .int (x3 + 1))] [1, 2, 3, 0] rfl ?_
        refine r_goto (tgt := 7) ok dX3_nearest_49 rfl ?_
        exact hk7 _ _ _ _ h
      · replace h := h.2 hc2
        refine r_aload_n ok dX3_nearest_27 0 rfl ?_
        refine gf_X3_9 ok dX3_nearest_28 ?_
        refine r_iload_n ok dX3_nearest_31 3 rfl ?_
        refine r_iald ok ai_56 h.1 rfl dX3_nearest_32 ?_
        replace h := h.2
        refine r_iload_n ok dX3_nearest_33 2 rfl ?_
        refine r_icmp_ge (tgt := 46) ok dX3_nearest_34 rfl (fun hc3 => ?_) (fun hc3 => ?_)
        · replace h := h.1 hc3
          refine r_iinc (v := x3 + 1) ok dX3_nearest_46 3 rfl rfl (by decide) [(0, .ref (xad X 55)), (1, .int x1), (2, .int x2), (3, .int (x3 + 1))] [1, 2, 3, 0] rfl ?_
          refine r_goto (tgt := 7) ok dX3_nearest_49 rfl ?_
          exact hk7 _ _ _ _ h
        · replace h := h.2 hc3
          refine r_aload_n ok dX3_nearest_37 0 rfl ?_
          refine gf_X3_9 ok dX3_nearest_38 ?_
          refine r_iload_n ok dX3_nearest_41 3 rfl ?_
          refine r_iald ok ai_56 h.1 rfl dX3_nearest_42 ?_
          replace h := h.2
          refine r_top (fun v4 ev4 => ?_)
          replace h := h v4 ev4
          refine r_istore_n ok dX3_nearest_43 (by decide) [(0, .ref (xad X 55)), (2, .int v4), (3, .int x3)] [1, 0, 3] rfl ?_
          refine r_iload_n ok dX3_nearest_44 2 rfl ?_
          refine r_istore_n ok dX3_nearest_45 (by decide) [(0, .ref (xad X 55)), (1, .int x3), (2, .int v4), (3, .int x3)] [1, 0, 2, 3] rfl ?_
          refine r_iinc (v := x3 + 1) ok dX3_nearest_46 3 rfl rfl (by decide) [(0, .ref (xad X 55)), (1, .int x3), (2, .int v4), (3, .int (x3 + 1))] [1, 2, 3, 0] rfl ?_
          refine r_goto (tgt := 7) ok dX3_nearest_49 rfl ?_
          exact hk7 _ _ _ _ h
theorem w_wp_X3_nearest {X : Cx} (ok : Ok X cX3_nearest 4 RX3 0 0) {post : Int32 → St → Prop} (hret : RetI X cX3_nearest 4 post) {S : St} (h : wp_X3_nearest S post) : Wp X 4 0 [(0, .ref (xad X 55))] [] S := by
  unfold wp_X3_nearest at h
  refine r_iconst (v := (-1)) ok dX3_nearest_0 rfl ?_
  refine r_istore_n ok dX3_nearest_1 (by decide) [(0, .ref (xad X 55)), (1, .int (-1))] [1, 0] rfl ?_
  refine r_ldc (v := 1000000000) ok dX3_nearest_2 tw_k_X3_30 ?_
  refine r_istore_n ok dX3_nearest_4 (by decide) [(0, .ref (xad X 55)), (1, .int (-1)), (2, .int 1000000000)] [1, 2, 0] rfl ?_
  refine r_iconst (v := 0) ok dX3_nearest_5 rfl ?_
  refine r_istore_n ok dX3_nearest_6 (by decide) [(0, .ref (xad X 55)), (1, .int (-1)), (2, .int 1000000000), (3, .int 0)] [1, 2, 3, 0] rfl ?_
  exact w_B_X3_nearest_7 ok hret h
theorem c_X3_nearest (l : Launch) (G : Gx) {S : St} {post : Int32 → St → Prop} (h : wp_X3_nearest S post) : MtI l yX3_nearest cX3_nearest 4 (some .int) 0 0 G [.ref (G.2.2 55)] S post :=
  ctI (by decide) rfl (Nat.le_of_ble_eq_true rfl) (fun X _ hG ok hret => by subst hG; exact w_wp_X3_nearest ok hret h)

/-! HasteRoads$Message.takeOn(II)V -/
theorem dX3_takeOn_0 : decode cX3_takeOn 0 = .ok (.aload_n 0, 1) := by decide +kernel
theorem dX3_takeOn_1 : decode cX3_takeOn 1 = .ok (.getfield 22, 3) := by decide +kernel
theorem dX3_takeOn_4 : decode cX3_takeOn 4 = .ok (.getfield 51, 3) := by decide +kernel
theorem dX3_takeOn_7 : decode cX3_takeOn 7 = .ok (.iload_n 1, 1) := by decide +kernel
theorem dX3_takeOn_8 : decode cX3_takeOn 8 = .ok (.aload_n 0, 1) := by decide +kernel
theorem dX3_takeOn_9 : decode cX3_takeOn 9 = .ok (.getfield 9, 3) := by decide +kernel
theorem dX3_takeOn_12 : decode cX3_takeOn 12 = .ok (.iload_n 2, 1) := by decide +kernel
theorem dX3_takeOn_13 : decode cX3_takeOn 13 = .ok (.iaload, 1) := by decide +kernel
theorem dX3_takeOn_14 : decode cX3_takeOn 14 = .ok (.iastore, 1) := by decide +kernel
theorem dX3_takeOn_15 : decode cX3_takeOn 15 = .ok (.aload_n 0, 1) := by decide +kernel
theorem dX3_takeOn_16 : decode cX3_takeOn 16 = .ok (.getfield 26, 3) := by decide +kernel
theorem dX3_takeOn_19 : decode cX3_takeOn 19 = .ok (.iload_n 1, 1) := by decide +kernel
theorem dX3_takeOn_20 : decode cX3_takeOn 20 = .ok (.iconst 0, 1) := by decide +kernel
theorem dX3_takeOn_21 : decode cX3_takeOn 21 = .ok (.iconst (-1), 1) := by decide +kernel
theorem dX3_takeOn_22 : decode cX3_takeOn 22 = .ok (.invokevirtual 52, 3) := by decide +kernel
theorem dX3_takeOn_25 : decode cX3_takeOn 25 = .ok (.iconst 0, 1) := by decide +kernel
theorem dX3_takeOn_26 : decode cX3_takeOn 26 = .ok (.istore_n 3, 1) := by decide +kernel
theorem dX3_takeOn_27 : decode cX3_takeOn 27 = .ok (.iload_n 3, 1) := by decide +kernel
theorem dX3_takeOn_28 : decode cX3_takeOn 28 = .ok (.aload_n 0, 1) := by decide +kernel
theorem dX3_takeOn_29 : decode cX3_takeOn 29 = .ok (.getfield 22, 3) := by decide +kernel
theorem dX3_takeOn_32 : decode cX3_takeOn 32 = .ok (.getfield 31, 3) := by decide +kernel
theorem dX3_takeOn_35 : decode cX3_takeOn 35 = .ok (.if_icmp .ge 98, 3) := by decide +kernel
theorem dX3_takeOn_38 : decode cX3_takeOn 38 = .ok (.aload_n 0, 1) := by decide +kernel
theorem dX3_takeOn_39 : decode cX3_takeOn 39 = .ok (.getfield 26, 3) := by decide +kernel
theorem dX3_takeOn_42 : decode cX3_takeOn 42 = .ok (.iload_n 3, 1) := by decide +kernel
theorem dX3_takeOn_43 : decode cX3_takeOn 43 = .ok (.invokevirtual 58, 3) := by decide +kernel
theorem dX3_takeOn_46 : decode cX3_takeOn 46 = .ok (.istore 4, 2) := by decide +kernel
theorem dX3_takeOn_48 : decode cX3_takeOn 48 = .ok (.aload_n 0, 1) := by decide +kernel
theorem dX3_takeOn_49 : decode cX3_takeOn 49 = .ok (.getfield 18, 3) := by decide +kernel
theorem dX3_takeOn_52 : decode cX3_takeOn 52 = .ok (.iload_n 3, 1) := by decide +kernel
theorem dX3_takeOn_53 : decode cX3_takeOn 53 = .ok (.baload, 1) := by decide +kernel
theorem dX3_takeOn_54 : decode cX3_takeOn 54 = .ok (.ifCond .ne 73, 3) := by decide +kernel
theorem dX3_takeOn_57 : decode cX3_takeOn 57 = .ok (.iload 4, 2) := by decide +kernel
theorem dX3_takeOn_59 : decode cX3_takeOn 59 = .ok (.iconst (-1), 1) := by decide +kernel
theorem dX3_takeOn_60 : decode cX3_takeOn 60 = .ok (.if_icmp .ne 6, 3) := by decide +kernel
theorem dX3_takeOn_63 : decode cX3_takeOn 63 = .ok (.goto 64, 3) := by decide +kernel
theorem dX3_takeOn_66 : decode cX3_takeOn 66 = .ok (.iload 4, 2) := by decide +kernel
theorem dX3_takeOn_68 : decode cX3_takeOn 68 = .ok (.aload_n 0, 1) := by decide +kernel
theorem dX3_takeOn_69 : decode cX3_takeOn 69 = .ok (.getfield 9, 3) := by decide +kernel
theorem dX3_takeOn_72 : decode cX3_takeOn 72 = .ok (.iload_n 3, 1) := by decide +kernel
theorem dX3_takeOn_73 : decode cX3_takeOn 73 = .ok (.iaload, 1) := by decide +kernel
theorem dX3_takeOn_74 : decode cX3_takeOn 74 = .ok (.if_icmp .lt 31, 3) := by decide +kernel
theorem dX3_takeOn_77 : decode cX3_takeOn 77 = .ok (.iload 4, 2) := by decide +kernel
theorem dX3_takeOn_79 : decode cX3_takeOn 79 = .ok (.aload_n 0, 1) := by decide +kernel
theorem dX3_takeOn_80 : decode cX3_takeOn 80 = .ok (.getfield 9, 3) := by decide +kernel
theorem dX3_takeOn_83 : decode cX3_takeOn 83 = .ok (.iload_n 3, 1) := by decide +kernel
theorem dX3_takeOn_84 : decode cX3_takeOn 84 = .ok (.iaload, 1) := by decide +kernel
theorem dX3_takeOn_85 : decode cX3_takeOn 85 = .ok (.if_icmp .ne 42, 3) := by decide +kernel
theorem dX3_takeOn_88 : decode cX3_takeOn 88 = .ok (.aload_n 0, 1) := by decide +kernel
theorem dX3_takeOn_89 : decode cX3_takeOn 89 = .ok (.getfield 15, 3) := by decide +kernel
theorem dX3_takeOn_92 : decode cX3_takeOn 92 = .ok (.iload_n 2, 1) := by decide +kernel
theorem dX3_takeOn_93 : decode cX3_takeOn 93 = .ok (.iaload, 1) := by decide +kernel
theorem dX3_takeOn_94 : decode cX3_takeOn 94 = .ok (.iconst 1, 1) := by decide +kernel
theorem dX3_takeOn_95 : decode cX3_takeOn 95 = .ok (.iadd, 1) := by decide +kernel
theorem dX3_takeOn_96 : decode cX3_takeOn 96 = .ok (.aload_n 0, 1) := by decide +kernel
theorem dX3_takeOn_97 : decode cX3_takeOn 97 = .ok (.getfield 15, 3) := by decide +kernel
theorem dX3_takeOn_100 : decode cX3_takeOn 100 = .ok (.iload_n 3, 1) := by decide +kernel
theorem dX3_takeOn_101 : decode cX3_takeOn 101 = .ok (.iaload, 1) := by decide +kernel
theorem dX3_takeOn_102 : decode cX3_takeOn 102 = .ok (.if_icmp .ge 25, 3) := by decide +kernel
theorem dX3_takeOn_105 : decode cX3_takeOn 105 = .ok (.aload_n 0, 1) := by decide +kernel
theorem dX3_takeOn_106 : decode cX3_takeOn 106 = .ok (.getfield 9, 3) := by decide +kernel
theorem dX3_takeOn_109 : decode cX3_takeOn 109 = .ok (.iload_n 3, 1) := by decide +kernel
theorem dX3_takeOn_110 : decode cX3_takeOn 110 = .ok (.iload 4, 2) := by decide +kernel
theorem dX3_takeOn_112 : decode cX3_takeOn 112 = .ok (.iastore, 1) := by decide +kernel
theorem dX3_takeOn_113 : decode cX3_takeOn 113 = .ok (.aload_n 0, 1) := by decide +kernel
theorem dX3_takeOn_114 : decode cX3_takeOn 114 = .ok (.getfield 15, 3) := by decide +kernel
theorem dX3_takeOn_117 : decode cX3_takeOn 117 = .ok (.iload_n 3, 1) := by decide +kernel
theorem dX3_takeOn_118 : decode cX3_takeOn 118 = .ok (.aload_n 0, 1) := by decide +kernel
theorem dX3_takeOn_119 : decode cX3_takeOn 119 = .ok (.getfield 15, 3) := by decide +kernel
theorem dX3_takeOn_122 : decode cX3_takeOn 122 = .ok (.iload_n 2, 1) := by decide +kernel
theorem dX3_takeOn_123 : decode cX3_takeOn 123 = .ok (.iaload, 1) := by decide +kernel
theorem dX3_takeOn_124 : decode cX3_takeOn 124 = .ok (.iconst 1, 1) := by decide +kernel
theorem dX3_takeOn_125 : decode cX3_takeOn 125 = .ok (.iadd, 1) := by decide +kernel
theorem dX3_takeOn_126 : decode cX3_takeOn 126 = .ok (.iastore, 1) := by decide +kernel
theorem dX3_takeOn_127 : decode cX3_takeOn 127 = .ok (.iinc 3 1, 3) := by decide +kernel
theorem dX3_takeOn_130 : decode cX3_takeOn 130 = .ok (.goto (-103), 3) := by decide +kernel
theorem dX3_takeOn_133 : decode cX3_takeOn 133 = .ok (.return_, 1) := by decide +kernel
theorem gf_X3_51 {X : Cx} {cc : ByteArray} {nL pc fr lo : Nat} {L : List (Nat × Value)} {st : List Value} {S : St} (ok : Ok X cc nL RX3 fr lo) {o : Nat} (ho : isW o) (d : decode cc pc = .ok (.getfield 51, 3)) (k : Wp X nL (pc + 3) L (.ref (xad X (o + 10)) :: st) S) : Wp X nL pc L (.ref (xad X o) :: st) S :=
  r_get (C := RX6) (T := TX6) ok ho.ob rfl i_X6 15 (by decide) tw_fl_X3_51 d (by rw [show fvl (xad X) S o 15 = .ref (xad X (o + 10)) from (fvl_ref (d := o + 10) (ho.rr 9 (by decide)))]; exact k)
theorem gf_X3_26 {X : Cx} {cc : ByteArray} {nL pc fr lo : Nat} {L : List (Nat × Value)} {st : List Value} {S : St} (ok : Ok X cc nL RX3 fr lo) (d : decode cc pc = .ok (.getfield 26, 3)) (k : Wp X nL (pc + 3) L (.ref (xad X 50) :: st) S) : Wp X nL pc L (.ref (xad X 55) :: st) S :=
  r_get (C := RX3) (T := TX3) ok ob_55 rfl i_X3 1 (by decide) tw_fl_X3_26 d (by rw [show fvl (xad X) S 55 1 = .ref (xad X 50) from (fvl_ref (d := 50) (by decide))]; exact k)
theorem gf_X3_15 {X : Cx} {cc : ByteArray} {nL pc fr lo : Nat} {L : List (Nat × Value)} {st : List Value} {S : St} (ok : Ok X cc nL RX3 fr lo) (d : decode cc pc = .ok (.getfield 15, 3)) (k : Wp X nL (pc + 3) L (.ref (xad X 57) :: st) S) : Wp X nL pc L (.ref (xad X 55) :: st) S :=
  r_get (C := RX3) (T := TX3) ok ob_55 rfl i_X3 3 (by decide) tw_fl_X3_15 d (by rw [show fvl (xad X) S 55 3 = .ref (xad X 57) from (fvl_ref (d := 57) (by decide))]; exact k)
theorem cl_X3_52 {X : Cx} {cc : ByteArray} {nL pc fr lo : Nat} {L : List (Nat × Value)} {st : List Value} {S : St} (ok : Ok X cc nL RX3 fr lo) {x1 x2 x3 : Int32} (d : decode cc pc = .ok (.invokevirtual 52, 3)) (hroom : 4 ≤ fr ∧ 112 ≤ lo) (hst : (st.map fun v => v.category).sum ≤ 8) {post : St → Prop} (h : wp_X4_explore x1 x2 x3 S post) (kk : ∀ S1 : St, post S1 → Wp X nL (pc + 3) L st S1) : Wp X nL pc L (.int x3 :: .int x2 :: .int x1 :: .ref (xad X 50) :: st) S :=
  r_callVv (n := 8) (f := 3) (lo1 := 85) (N := 3) (As := [.int x1, .int x2, .int x3]) ok tw_in_X4 tw_im_X4_explore tw_se_X4_explore tw_co_X4_explore tw_ml_X3_52 (by decide +kernel) rfl ob_50 rfl hroom hst d rfl (c_X4_explore (xl X) (xG X) h) kk
theorem cl_X3_58 {X : Cx} {cc : ByteArray} {nL pc fr lo : Nat} {L : List (Nat × Value)} {st : List Value} {S : St} (ok : Ok X cc nL RX3 fr lo) {x1 : Int32} (d : decode cc pc = .ok (.invokevirtual 58, 3)) (hroom : 2 ≤ fr ∧ 44 ≤ lo) (hst : (st.map fun v => v.category).sum ≤ 8) {post : Int32 → St → Prop} (h : wp_X4_soonestAt x1 S post) (kk : ∀ (r : Int32) (S1 : St), post r S1 → Wp X nL (pc + 3) L (.int r :: st) S1) : Wp X nL pc L (.int x1 :: .ref (xad X 50) :: st) S :=
  r_callVi (n := 4) (f := 1) (lo1 := 21) (N := 1) (As := [.int x1]) ok tw_in_X4 tw_im_X4_soonestAt tw_se_X4_soonestAt tw_co_X4_soonestAt tw_ml_X3_58 (by decide +kernel) rfl ob_50 rfl hroom hst d rfl (c_X4_soonestAt (xl X) (xG X) h) kk
def B_X3_takeOn_105 (k27 : Int32 → Int32 → St → Prop) (post : St → Prop) (x2 : Int32) (x3 : Int32) (x4 : Int32) (S : St) : Prop :=
  vp_in x3 6 ∧ (∀ S1 : St, S1 = up S 56 (ix x3) x4 → vp_in x2 6 ∧ (vp_in x3 6 ∧ (∀ S3 : St, S3 = up S1 57 (ix x3) ((S1 57 (ix x2)) + 1) → k27 x2 (x3 + 1) S3)))
def BD_X3_takeOn_27 (k27 : Int32 → Int32 → St → Prop) (post : St → Prop) (x2 : Int32) (x3 : Int32) (S : St) : Prop :=
  (((S 11 0) ≤ x3 → post S) ∧ (¬ (S 11 0) ≤ x3 → wp_X4_soonestAt x3 S (fun r3 S2 => vp_in x3 6 ∧ (((¬ (S2 58 (ix x3)) = 0 → k27 x2 (x3 + 1) S2) ∧ ((S2 58 (ix x3)) = 0 → ((¬ r3 = (-1) → vp_in x3 6 ∧ (((r3 < (S2 56 (ix x3)) → B_X3_takeOn_105 k27 post x2 x3 r3 S2) ∧ (¬ r3 < (S2 56 (ix x3)) → vp_in x3 6 ∧ (((¬ r3 = (S2 56 (ix x3)) → k27 x2 (x3 + 1) S2) ∧ (r3 = (S2 56 (ix x3)) → vp_in x2 6 ∧ (vp_in x3 6 ∧ ((((S2 57 (ix x3)) ≤ ((S2 57 (ix x2)) + 1) → k27 x2 (x3 + 1) S2) ∧ (¬ (S2 57 (ix x3)) ≤ ((S2 57 (ix x2)) + 1) → B_X3_takeOn_105 k27 post x2 x3 r3 S2))))))))))) ∧ (r3 = (-1) → k27 x2 (x3 + 1) S2))))))))
def L_X3_takeOn_27 (post : St → Prop) (n : Nat) : Int32 → Int32 → St → Prop := Nat.rec (motive := fun _ => Int32 → Int32 → St → Prop) (fun _ _ _ => False) (fun _ ih => BD_X3_takeOn_27 ih post) n
def B_X3_takeOn_27 (post : St → Prop) (x2 : Int32) (x3 : Int32) (S : St) : Prop := ∃ n, L_X3_takeOn_27 post n x2 x3 S
def wp_X3_takeOn (x1 : Int32) (x2 : Int32) (S : St) (post : St → Prop) : Prop :=
  vp_in x2 6 ∧ (vp_in x1 4 ∧ (∀ S1 : St, S1 = up S 21 (ix x1) (S 56 (ix x2)) → wp_X4_explore x1 0 (-1) S1 (fun S3 => B_X3_takeOn_27 post x2 0 S3)))
theorem w_B_X3_takeOn_105 {X : Cx} (ok : Ok X cX3_takeOn 5 RX3 4 112) {post : St → Prop} (hret : RetV X cX3_takeOn 5 post) {k27 : Int32 → Int32 → St → Prop} (hk27 : ∀ x2 x3 S, k27 x2 x3 S → Wp X 5 27 [(0, .ref (xad X 55)), (2, .int x2), (3, .int x3)] [] S) {x2 x3 x4 : Int32} {S : St} (h : B_X3_takeOn_105 k27 post x2 x3 x4 S) : Wp X 5 105 [(0, .ref (xad X 55)), (2, .int x2), (3, .int x3), (4, .int x4)] [] S := by
  unfold B_X3_takeOn_105 at h
  refine r_aload_n ok dX3_takeOn_105 0 rfl ?_
  refine gf_X3_9 ok dX3_takeOn_106 ?_
  refine r_iload_n ok dX3_takeOn_109 2 rfl ?_
  refine r_iload ok dX3_takeOn_110 3 rfl ?_
  have hi2 := h.1
  replace h := h.2
  refine r_iast ok ai_56 hi2 rfl dX3_takeOn_112 (fun S1 eS1 => ?_)
  replace h := h S1 eS1
  refine r_aload_n ok dX3_takeOn_113 0 rfl ?_
  refine gf_X3_15 ok dX3_takeOn_114 ?_
  refine r_iload_n ok dX3_takeOn_117 2 rfl ?_
  refine r_aload_n ok dX3_takeOn_118 0 rfl ?_
  refine gf_X3_15 ok dX3_takeOn_119 ?_
  refine r_iload_n ok dX3_takeOn_122 1 rfl ?_
  refine r_iald ok ai_57 h.1 rfl dX3_takeOn_123 ?_
  replace h := h.2
  refine r_iconst (v := 1) ok dX3_takeOn_124 rfl ?_
  refine r_iadd ok dX3_takeOn_125 ?_
  have hi4 := h.1
  replace h := h.2
  refine r_iast ok ai_57 hi4 rfl dX3_takeOn_126 (fun S3 eS3 => ?_)
  replace h := h S3 eS3
  refine r_iinc (v := x3 + 1) ok dX3_takeOn_127 2 rfl rfl (by decide) [(0, .ref (xad X 55)), (2, .int x2), (3, .int (x3 + 1))] [1, 2, 0] rfl ?_
  refine r_goto (tgt := 27) ok dX3_takeOn_130 rfl ?_
  exact hk27 _ _ _ h
theorem w_B_X3_takeOn_27 {X : Cx} (ok : Ok X cX3_takeOn 5 RX3 4 112) {post : St → Prop} (hret : RetV X cX3_takeOn 5 post) {x2 x3 : Int32} {S : St} (h : B_X3_takeOn_27 post x2 x3 S) : Wp X 5 27 [(0, .ref (xad X 55)), (2, .int x2), (3, .int x3)] [] S := by
  obtain ⟨n, h⟩ := h
  induction n generalizing x2 x3 S with
  | zero => exact False.elim h
  | succ n ih =>
    have hk27 : ∀ x2 x3 S, L_X3_takeOn_27 post n x2 x3 S → Wp X 5 27 [(0, .ref (xad X 55)), (2, .int x2), (3, .int x3)] [] S := by intros; apply ih; assumption
    replace h : BD_X3_takeOn_27 (L_X3_takeOn_27 post n) post x2 x3 S := h
    unfold BD_X3_takeOn_27 at h
    generalize L_X3_takeOn_27 post n = k27 at h hk27
    refine r_iload_n ok dX3_takeOn_27 2 rfl ?_
    refine r_aload_n ok dX3_takeOn_28 0 rfl ?_
    refine gf_X3_22 ok dX3_takeOn_29 ?_
    refine gf_X3_31 ok isW_11 dX3_takeOn_32 ?_
    refine r_icmp_ge (tgt := 133) ok dX3_takeOn_35 rfl (fun hc1 => ?_) (fun hc1 => ?_)
    · replace h := h.1 hc1
      exact hret _ _ _ dX3_takeOn_133 h
    · replace h := h.2 hc1
      refine r_aload_n ok dX3_takeOn_38 0 rfl ?_
      refine gf_X3_26 ok dX3_takeOn_39 ?_
      refine r_iload_n ok dX3_takeOn_42 2 rfl ?_
      refine cl_X3_58 ok dX3_takeOn_43 (by decide) (Nat.le_of_ble_eq_true rfl) h (fun r3 S2 h => ?_)
      refine r_istore ok dX3_takeOn_46 (by decide) [(0, .ref (xad X 55)), (2, .int x2), (3, .int x3), (4, .int r3)] [1, 2, 3, 0] rfl ?_
      refine r_aload_n ok dX3_takeOn_48 0 rfl ?_
      refine gf_X3_18 ok dX3_takeOn_49 ?_
      refine r_iload_n ok dX3_takeOn_52 2 rfl ?_
      refine r_zald ok az_58 h.1 rfl dX3_takeOn_53 ?_
      replace h := h.2
      refine r_if_ne (tgt := 127) ok dX3_takeOn_54 rfl (fun hc4 => ?_) (fun hc4 => ?_)
      · replace h := h.1 hc4
        refine r_iinc (v := x3 + 1) ok dX3_takeOn_127 2 rfl rfl (by decide) [(0, .ref (xad X 55)), (2, .int x2), (3, .int (x3 + 1))] [1, 2, 0] rfl ?_
        refine r_goto (tgt := 27) ok dX3_takeOn_130 rfl ?_
        exact hk27 _ _ _ h
      · replace h := h.2 hc4
        refine r_iload ok dX3_takeOn_57 3 rfl ?_
        refine r_iconst (v := (-1)) ok dX3_takeOn_59 rfl ?_
        refine r_icmp_ne (tgt := 66) ok dX3_takeOn_60 rfl (fun hc5 => ?_) (fun hc5 => ?_)
        · replace h := h.1 hc5
          refine r_iload ok dX3_takeOn_66 3 rfl ?_
          refine r_aload_n ok dX3_takeOn_68 0 rfl ?_
          refine gf_X3_9 ok dX3_takeOn_69 ?_
          refine r_iload_n ok dX3_takeOn_72 2 rfl ?_
          refine r_iald ok ai_56 h.1 rfl dX3_takeOn_73 ?_
          replace h := h.2
          refine r_icmp_lt (tgt := 105) ok dX3_takeOn_74 rfl (fun hc6 => ?_) (fun hc6 => ?_)
          · replace h := h.1 hc6
            exact w_B_X3_takeOn_105 ok hret hk27 h
          · replace h := h.2 hc6
            refine r_iload ok dX3_takeOn_77 3 rfl ?_
            refine r_aload_n ok dX3_takeOn_79 0 rfl ?_
            refine gf_X3_9 ok dX3_takeOn_80 ?_
            refine r_iload_n ok dX3_takeOn_83 2 rfl ?_
            refine r_iald ok ai_56 h.1 rfl dX3_takeOn_84 ?_
            replace h := h.2
            refine r_icmp_ne (tgt := 127) ok dX3_takeOn_85 rfl (fun hc7 => ?_) (fun hc7 => ?_)
            · replace h := h.1 hc7
              refine r_iinc (v := x3 + 1) ok dX3_takeOn_127 2 rfl rfl (by decide) [(0, .ref (xad X 55)), (2, .int x2), (3, .int (x3 + 1))] [1, 2, 0] rfl ?_
              refine r_goto (tgt := 27) ok dX3_takeOn_130 rfl ?_
              exact hk27 _ _ _ h
            · replace h := h.2 hc7
              refine r_aload_n ok dX3_takeOn_88 0 rfl ?_
              refine gf_X3_15 ok dX3_takeOn_89 ?_
              refine r_iload_n ok dX3_takeOn_92 1 rfl ?_
              refine r_iald ok ai_57 h.1 rfl dX3_takeOn_93 ?_
              replace h := h.2
              refine r_iconst (v := 1) ok dX3_takeOn_94 rfl ?_
              refine r_iadd ok dX3_takeOn_95 ?_
              refine r_aload_n ok dX3_takeOn_96 0 rfl ?_
              refine gf_X3_15 ok dX3_takeOn_97 ?_
              refine r_iload_n ok dX3_takeOn_100 2 rfl ?_
              refine r_iald ok ai_57 h.1 rfl dX3_takeOn_101 ?_
              replace h := h.2
              refine r_icmp_ge (tgt := 127) ok dX3_takeOn_102 rfl (fun hc8 => ?_) (fun hc8 => ?_)
              · replace h := h.1 hc8
                refine r_iinc (v := x3 + 1) ok dX3_takeOn_127 2 rfl rfl (by decide) [(0, .ref (xad X 55)), (2, .int x2), (3, .int (x3 + 1))] [1, 2, 0] rfl ?_
                refine r_goto (tgt := 27) ok dX3_takeOn_130 rfl ?_
                exact hk27 _ _ _ h
              · replace h := h.2 hc8
                exact w_B_X3_takeOn_105 ok hret hk27 h
        · replace h := h.2 hc5
          refine r_goto (tgt := 127) ok dX3_takeOn_63 rfl ?_
          refine r_iinc (v := x3 + 1) ok dX3_takeOn_127 2 rfl rfl (by decide) [(0, .ref (xad X 55)), (2, .int x2), (3, .int (x3 + 1))] [1, 2, 0] rfl ?_
          refine r_goto (tgt := 27) ok dX3_takeOn_130 rfl ?_
          exact hk27 _ _ _ h
theorem w_wp_X3_takeOn {X : Cx} (ok : Ok X cX3_takeOn 5 RX3 4 112) {post : St → Prop} (hret : RetV X cX3_takeOn 5 post) {x1 x2 : Int32} {S : St} (h : wp_X3_takeOn x1 x2 S post) : Wp X 5 0 [(0, .ref (xad X 55)), (1, .int x1), (2, .int x2)] [] S := by
  unfold wp_X3_takeOn at h
  refine r_aload_n ok dX3_takeOn_0 0 rfl ?_
  refine gf_X3_22 ok dX3_takeOn_1 ?_
  refine gf_X3_51 ok isW_11 dX3_takeOn_4 ?_
  refine r_iload_n ok dX3_takeOn_7 1 rfl ?_
  refine r_aload_n ok dX3_takeOn_8 0 rfl ?_
  refine gf_X3_9 ok dX3_takeOn_9 ?_
  refine r_iload_n ok dX3_takeOn_12 2 rfl ?_
  refine r_iald ok ai_56 h.1 rfl dX3_takeOn_13 ?_
  replace h := h.2
  have hi2 := h.1
  replace h := h.2
  refine r_iast ok ai_21 hi2 rfl dX3_takeOn_14 (fun S1 eS1 => ?_)
  replace h := h S1 eS1
  refine r_aload_n ok dX3_takeOn_15 0 rfl ?_
  refine gf_X3_26 ok dX3_takeOn_16 ?_
  refine r_iload_n ok dX3_takeOn_19 1 rfl ?_
  refine r_iconst (v := 0) ok dX3_takeOn_20 rfl ?_
  refine r_iconst (v := (-1)) ok dX3_takeOn_21 rfl ?_
  refine cl_X3_52 ok dX3_takeOn_22 (by decide) (Nat.le_of_ble_eq_true rfl) h (fun S3 h => ?_)
  refine r_iconst (v := 0) ok dX3_takeOn_25 rfl ?_
  refine r_istore_n ok dX3_takeOn_26 (by decide) [(0, .ref (xad X 55)), (2, .int x2), (3, .int 0)] [1, 3, 0] rfl ?_
  exact w_B_X3_takeOn_27 ok hret h
theorem c_X3_takeOn (l : Launch) (G : Gx) {x1 x2 : Int32} {S : St} {post : St → Prop} (h : wp_X3_takeOn x1 x2 S post) : MtV l yX3_takeOn cX3_takeOn 5 4 112 G [.ref (G.2.2 55), .int x1, .int x2] S post :=
  ctV (by decide) rfl (Nat.le_of_ble_eq_true rfl) (fun X _ hG ok hret => by subst hG; exact w_wp_X3_takeOn ok hret h)

/-! HasteRoads$Message.carry(I)V -/
theorem dX3_carry_0 : decode cX3_carry 0 = .ok (.iconst 0, 1) := by decide +kernel
theorem dX3_carry_1 : decode cX3_carry 1 = .ok (.istore_n 2, 1) := by decide +kernel
theorem dX3_carry_2 : decode cX3_carry 2 = .ok (.iload_n 2, 1) := by decide +kernel
theorem dX3_carry_3 : decode cX3_carry 3 = .ok (.bipush 6, 2) := by decide +kernel
theorem dX3_carry_5 : decode cX3_carry 5 = .ok (.if_icmp .ge 31, 3) := by decide +kernel
theorem dX3_carry_8 : decode cX3_carry 8 = .ok (.aload_n 0, 1) := by decide +kernel
theorem dX3_carry_9 : decode cX3_carry 9 = .ok (.getfield 9, 3) := by decide +kernel
theorem dX3_carry_12 : decode cX3_carry 12 = .ok (.iload_n 2, 1) := by decide +kernel
theorem dX3_carry_13 : decode cX3_carry 13 = .ok (.ldc 30, 2) := by decide +kernel
theorem dX3_carry_15 : decode cX3_carry 15 = .ok (.iastore, 1) := by decide +kernel
theorem dX3_carry_16 : decode cX3_carry 16 = .ok (.aload_n 0, 1) := by decide +kernel
theorem dX3_carry_17 : decode cX3_carry 17 = .ok (.getfield 15, 3) := by decide +kernel
theorem dX3_carry_20 : decode cX3_carry 20 = .ok (.iload_n 2, 1) := by decide +kernel
theorem dX3_carry_21 : decode cX3_carry 21 = .ok (.iconst 0, 1) := by decide +kernel
theorem dX3_carry_22 : decode cX3_carry 22 = .ok (.iastore, 1) := by decide +kernel
theorem dX3_carry_23 : decode cX3_carry 23 = .ok (.aload_n 0, 1) := by decide +kernel
theorem dX3_carry_24 : decode cX3_carry 24 = .ok (.getfield 18, 3) := by decide +kernel
theorem dX3_carry_27 : decode cX3_carry 27 = .ok (.iload_n 2, 1) := by decide +kernel
theorem dX3_carry_28 : decode cX3_carry 28 = .ok (.iconst 0, 1) := by decide +kernel
theorem dX3_carry_29 : decode cX3_carry 29 = .ok (.bastore, 1) := by decide +kernel
theorem dX3_carry_30 : decode cX3_carry 30 = .ok (.iinc 2 1, 3) := by decide +kernel
theorem dX3_carry_33 : decode cX3_carry 33 = .ok (.goto (-31), 3) := by decide +kernel
theorem dX3_carry_36 : decode cX3_carry 36 = .ok (.aload_n 0, 1) := by decide +kernel
theorem dX3_carry_37 : decode cX3_carry 37 = .ok (.getfield 9, 3) := by decide +kernel
theorem dX3_carry_40 : decode cX3_carry 40 = .ok (.iload_n 1, 1) := by decide +kernel
theorem dX3_carry_41 : decode cX3_carry 41 = .ok (.iconst 0, 1) := by decide +kernel
theorem dX3_carry_42 : decode cX3_carry 42 = .ok (.iastore, 1) := by decide +kernel
theorem dX3_carry_43 : decode cX3_carry 43 = .ok (.iconst 0, 1) := by decide +kernel
theorem dX3_carry_44 : decode cX3_carry 44 = .ok (.istore_n 2, 1) := by decide +kernel
theorem dX3_carry_45 : decode cX3_carry 45 = .ok (.iload_n 2, 1) := by decide +kernel
theorem dX3_carry_46 : decode cX3_carry 46 = .ok (.aload_n 0, 1) := by decide +kernel
theorem dX3_carry_47 : decode cX3_carry 47 = .ok (.getfield 22, 3) := by decide +kernel
theorem dX3_carry_50 : decode cX3_carry 50 = .ok (.getfield 31, 3) := by decide +kernel
theorem dX3_carry_53 : decode cX3_carry 53 = .ok (.if_icmp .ge 69, 3) := by decide +kernel
theorem dX3_carry_56 : decode cX3_carry 56 = .ok (.aload_n 0, 1) := by decide +kernel
theorem dX3_carry_57 : decode cX3_carry 57 = .ok (.invokevirtual 37, 3) := by decide +kernel
theorem dX3_carry_60 : decode cX3_carry 60 = .ok (.istore_n 3, 1) := by decide +kernel
theorem dX3_carry_61 : decode cX3_carry 61 = .ok (.iload_n 3, 1) := by decide +kernel
theorem dX3_carry_62 : decode cX3_carry 62 = .ok (.iconst (-1), 1) := by decide +kernel
theorem dX3_carry_63 : decode cX3_carry 63 = .ok (.if_icmp .ne 4, 3) := by decide +kernel
theorem dX3_carry_66 : decode cX3_carry 66 = .ok (.return_, 1) := by decide +kernel
theorem dX3_carry_67 : decode cX3_carry 67 = .ok (.aload_n 0, 1) := by decide +kernel
theorem dX3_carry_68 : decode cX3_carry 68 = .ok (.getfield 18, 3) := by decide +kernel
theorem dX3_carry_71 : decode cX3_carry 71 = .ok (.iload_n 3, 1) := by decide +kernel
theorem dX3_carry_72 : decode cX3_carry 72 = .ok (.iconst 1, 1) := by decide +kernel
theorem dX3_carry_73 : decode cX3_carry 73 = .ok (.bastore, 1) := by decide +kernel
theorem dX3_carry_74 : decode cX3_carry 74 = .ok (.iconst 0, 1) := by decide +kernel
theorem dX3_carry_75 : decode cX3_carry 75 = .ok (.istore 4, 2) := by decide +kernel
theorem dX3_carry_77 : decode cX3_carry 77 = .ok (.iload 4, 2) := by decide +kernel
theorem dX3_carry_79 : decode cX3_carry 79 = .ok (.aload_n 0, 1) := by decide +kernel
theorem dX3_carry_80 : decode cX3_carry 80 = .ok (.getfield 22, 3) := by decide +kernel
theorem dX3_carry_83 : decode cX3_carry 83 = .ok (.getfield 41, 3) := by decide +kernel
theorem dX3_carry_86 : decode cX3_carry 86 = .ok (.if_icmp .ge 30, 3) := by decide +kernel
theorem dX3_carry_89 : decode cX3_carry 89 = .ok (.aload_n 0, 1) := by decide +kernel
theorem dX3_carry_90 : decode cX3_carry 90 = .ok (.getfield 22, 3) := by decide +kernel
theorem dX3_carry_93 : decode cX3_carry 93 = .ok (.getfield 44, 3) := by decide +kernel
theorem dX3_carry_96 : decode cX3_carry 96 = .ok (.iload 4, 2) := by decide +kernel
theorem dX3_carry_98 : decode cX3_carry 98 = .ok (.iaload, 1) := by decide +kernel
theorem dX3_carry_99 : decode cX3_carry 99 = .ok (.iload_n 3, 1) := by decide +kernel
theorem dX3_carry_100 : decode cX3_carry 100 = .ok (.if_icmp .ne 10, 3) := by decide +kernel
theorem dX3_carry_103 : decode cX3_carry 103 = .ok (.aload_n 0, 1) := by decide +kernel
theorem dX3_carry_104 : decode cX3_carry 104 = .ok (.iload 4, 2) := by decide +kernel
theorem dX3_carry_106 : decode cX3_carry 106 = .ok (.iload_n 3, 1) := by decide +kernel
theorem dX3_carry_107 : decode cX3_carry 107 = .ok (.invokevirtual 47, 3) := by decide +kernel
theorem dX3_carry_110 : decode cX3_carry 110 = .ok (.iinc 4 1, 3) := by decide +kernel
theorem dX3_carry_113 : decode cX3_carry 113 = .ok (.goto (-36), 3) := by decide +kernel
theorem dX3_carry_116 : decode cX3_carry 116 = .ok (.iinc 2 1, 3) := by decide +kernel
theorem dX3_carry_119 : decode cX3_carry 119 = .ok (.goto (-74), 3) := by decide +kernel
theorem dX3_carry_122 : decode cX3_carry 122 = .ok (.return_, 1) := by decide +kernel
theorem gf_X3_41 {X : Cx} {cc : ByteArray} {nL pc fr lo : Nat} {L : List (Nat × Value)} {st : List Value} {S : St} (ok : Ok X cc nL RX3 fr lo) {o : Nat} (ho : isW o) (d : decode cc pc = .ok (.getfield 41, 3)) (k : Wp X nL (pc + 3) L (.int (S o 2) :: st) S) : Wp X nL pc L (.ref (xad X o) :: st) S :=
  r_get (C := RX6) (T := TX6) ok ho.ob rfl i_X6 2 (by decide) tw_fl_X3_41 d (by rw [show fvl (xad X) S o 2 = .int (S o 2) from (fvl_int (ho.ri 2 (by decide)))]; exact k)
theorem gf_X3_44 {X : Cx} {cc : ByteArray} {nL pc fr lo : Nat} {L : List (Nat × Value)} {st : List Value} {S : St} (ok : Ok X cc nL RX3 fr lo) {o : Nat} (ho : isW o) (d : decode cc pc = .ok (.getfield 44, 3)) (k : Wp X nL (pc + 3) L (.ref (xad X (o + 7)) :: st) S) : Wp X nL pc L (.ref (xad X o) :: st) S :=
  r_get (C := RX6) (T := TX6) ok ho.ob rfl i_X6 12 (by decide) tw_fl_X3_44 d (by rw [show fvl (xad X) S o 12 = .ref (xad X (o + 7)) from (fvl_ref (d := o + 7) (ho.rr 6 (by decide)))]; exact k)
theorem cl_X3_37 {X : Cx} {cc : ByteArray} {nL pc fr lo : Nat} {L : List (Nat × Value)} {st : List Value} {S : St} (ok : Ok X cc nL RX3 fr lo) (d : decode cc pc = .ok (.invokevirtual 37, 3)) (hroom : 1 ≤ fr ∧ 23 ≤ lo) (hst : (st.map fun v => v.category).sum ≤ 8) {post : Int32 → St → Prop} (h : wp_X3_nearest S post) (kk : ∀ (r : Int32) (S1 : St), post r S1 → Wp X nL (pc + 3) L (.int r :: st) S1) : Wp X nL pc L (.ref (xad X 55) :: st) S :=
  r_callVi (n := 4) (f := 0) (lo1 := 0) (N := 0) (As := []) ok tw_in_X3 tw_im_X3_nearest tw_se_X3_nearest tw_co_X3_nearest tw_ml_X3_37 (by decide +kernel) rfl ob_55 rfl hroom hst d rfl (c_X3_nearest (xl X) (xG X) h) kk
theorem cl_X3_47 {X : Cx} {cc : ByteArray} {nL pc fr lo : Nat} {L : List (Nat × Value)} {st : List Value} {S : St} (ok : Ok X cc nL RX3 fr lo) {x1 x2 : Int32} (d : decode cc pc = .ok (.invokevirtual 47, 3)) (hroom : 5 ≤ fr ∧ 136 ≤ lo) (hst : (st.map fun v => v.category).sum ≤ 8) {post : St → Prop} (h : wp_X3_takeOn x1 x2 S post) (kk : ∀ S1 : St, post S1 → Wp X nL (pc + 3) L st S1) : Wp X nL pc L (.int x2 :: .int x1 :: .ref (xad X 55) :: st) S :=
  r_callVv (n := 5) (f := 4) (lo1 := 112) (N := 2) (As := [.int x1, .int x2]) ok tw_in_X3 tw_im_X3_takeOn tw_se_X3_takeOn tw_co_X3_takeOn tw_ml_X3_47 (by decide +kernel) rfl ob_55 rfl hroom hst d rfl (c_X3_takeOn (xl X) (xG X) h) kk
def BD_X3_carry_77 (k45 : Int32 → St → Prop) (k77 : Int32 → Int32 → Int32 → St → Prop) (post : St → Prop) (x2 : Int32) (x3 : Int32) (x4 : Int32) (S : St) : Prop :=
  (((S 11 2) ≤ x4 → k45 (x2 + 1) S) ∧ (¬ (S 11 2) ≤ x4 → vp_in x4 4 ∧ (((¬ (S 18 (ix x4)) = x3 → k77 x2 x3 (x4 + 1) S) ∧ ((S 18 (ix x4)) = x3 → wp_X3_takeOn x4 x3 S (fun S3 => k77 x2 x3 (x4 + 1) S3))))))
def L_X3_carry_77 (k45 : Int32 → St → Prop) (post : St → Prop) (n : Nat) : Int32 → Int32 → Int32 → St → Prop := Nat.rec (motive := fun _ => Int32 → Int32 → Int32 → St → Prop) (fun _ _ _ _ => False) (fun _ ih => BD_X3_carry_77 k45 ih post) n
def B_X3_carry_77 (k45 : Int32 → St → Prop) (post : St → Prop) (x2 : Int32) (x3 : Int32) (x4 : Int32) (S : St) : Prop := ∃ n, L_X3_carry_77 k45 post n x2 x3 x4 S
def BD_X3_carry_45 (k45 : Int32 → St → Prop) (post : St → Prop) (x2 : Int32) (S : St) : Prop :=
  (((S 11 0) ≤ x2 → post S) ∧ (¬ (S 11 0) ≤ x2 → wp_X3_nearest S (fun r3 S2 => ((¬ r3 = (-1) → vp_in r3 6 ∧ (∀ S5 : St, S5 = up S2 58 (ix r3) 1 → B_X3_carry_77 k45 post x2 r3 0 S5)) ∧ (r3 = (-1) → post S2)))))
def L_X3_carry_45 (post : St → Prop) (n : Nat) : Int32 → St → Prop := Nat.rec (motive := fun _ => Int32 → St → Prop) (fun _ _ => False) (fun _ ih => BD_X3_carry_45 ih post) n
def B_X3_carry_45 (post : St → Prop) (x2 : Int32) (S : St) : Prop := ∃ n, L_X3_carry_45 post n x2 S
def B_X3_carry_36 (post : St → Prop) (x1 : Int32) (S : St) : Prop :=
  vp_in x1 6 ∧ (∀ S1 : St, S1 = up S 56 (ix x1) 0 → B_X3_carry_45 post 0 S1)
def BD_X3_carry_2 (k2 : Int32 → Int32 → St → Prop) (post : St → Prop) (x1 : Int32) (x2 : Int32) (S : St) : Prop :=
  ((6 ≤ x2 → B_X3_carry_36 post x1 S) ∧ (¬ 6 ≤ x2 → vp_in x2 6 ∧ (∀ S2 : St, S2 = up S 56 (ix x2) 1000000000 → vp_in x2 6 ∧ (∀ S4 : St, S4 = up S2 57 (ix x2) 0 → vp_in x2 6 ∧ (∀ S6 : St, S6 = up S4 58 (ix x2) 0 → k2 x1 (x2 + 1) S6)))))
def L_X3_carry_2 (post : St → Prop) (n : Nat) : Int32 → Int32 → St → Prop := Nat.rec (motive := fun _ => Int32 → Int32 → St → Prop) (fun _ _ _ => False) (fun _ ih => BD_X3_carry_2 ih post) n
def B_X3_carry_2 (post : St → Prop) (x1 : Int32) (x2 : Int32) (S : St) : Prop := ∃ n, L_X3_carry_2 post n x1 x2 S
def wp_X3_carry (x1 : Int32) (S : St) (post : St → Prop) : Prop :=
  B_X3_carry_2 post x1 0 S
theorem w_B_X3_carry_77 {X : Cx} (ok : Ok X cX3_carry 5 RX3 5 136) {post : St → Prop} (hret : RetV X cX3_carry 5 post) {k45 : Int32 → St → Prop} (hk45 : ∀ x2 S, k45 x2 S → Wp X 5 45 [(0, .ref (xad X 55)), (2, .int x2)] [] S) {x2 x3 x4 : Int32} {S : St} (h : B_X3_carry_77 k45 post x2 x3 x4 S) : Wp X 5 77 [(0, .ref (xad X 55)), (2, .int x2), (3, .int x3), (4, .int x4)] [] S := by
  obtain ⟨n, h⟩ := h
  induction n generalizing x2 x3 x4 S with
  | zero => exact False.elim h
  | succ n ih =>
    have hk77 : ∀ x2 x3 x4 S, L_X3_carry_77 k45 post n x2 x3 x4 S → Wp X 5 77 [(0, .ref (xad X 55)), (2, .int x2), (3, .int x3), (4, .int x4)] [] S := by intros; apply ih; assumption
    replace h : BD_X3_carry_77 k45 (L_X3_carry_77 k45 post n) post x2 x3 x4 S := h
    unfold BD_X3_carry_77 at h
    generalize L_X3_carry_77 k45 post n = k77 at h hk77
    refine r_iload ok dX3_carry_77 3 rfl ?_
    refine r_aload_n ok dX3_carry_79 0 rfl ?_
    refine gf_X3_22 ok dX3_carry_80 ?_
    refine gf_X3_41 ok isW_11 dX3_carry_83 ?_
    refine r_icmp_ge (tgt := 116) ok dX3_carry_86 rfl (fun hc1 => ?_) (fun hc1 => ?_)
    · replace h := h.1 hc1
      refine r_iinc (v := x2 + 1) ok dX3_carry_116 1 rfl rfl (by decide) [(0, .ref (xad X 55)), (2, .int (x2 + 1))] [1, 0] rfl ?_
      refine r_goto (tgt := 45) ok dX3_carry_119 rfl ?_
      exact hk45 _ _ h
    · replace h := h.2 hc1
      refine r_aload_n ok dX3_carry_89 0 rfl ?_
      refine gf_X3_22 ok dX3_carry_90 ?_
      refine gf_X3_44 ok isW_11 dX3_carry_93 ?_
      refine r_iload ok dX3_carry_96 3 rfl ?_
      refine r_iald ok ai_18 h.1 rfl dX3_carry_98 ?_
      replace h := h.2
      refine r_iload_n ok dX3_carry_99 2 rfl ?_
      refine r_icmp_ne (tgt := 110) ok dX3_carry_100 rfl (fun hc2 => ?_) (fun hc2 => ?_)
      · replace h := h.1 hc2
        refine r_iinc (v := x4 + 1) ok dX3_carry_110 3 rfl rfl (by decide) [(0, .ref (xad X 55)), (2, .int x2), (3, .int x3), (4, .int (x4 + 1))] [1, 2, 3, 0] rfl ?_
        refine r_goto (tgt := 77) ok dX3_carry_113 rfl ?_
        exact hk77 _ _ _ _ h
      · replace h := h.2 hc2
        refine r_aload_n ok dX3_carry_103 0 rfl ?_
        refine r_iload ok dX3_carry_104 3 rfl ?_
        refine r_iload_n ok dX3_carry_106 2 rfl ?_
        refine cl_X3_47 ok dX3_carry_107 (by decide) (Nat.le_of_ble_eq_true rfl) h (fun S3 h => ?_)
        refine r_iinc (v := x4 + 1) ok dX3_carry_110 3 rfl rfl (by decide) [(0, .ref (xad X 55)), (2, .int x2), (3, .int x3), (4, .int (x4 + 1))] [1, 2, 3, 0] rfl ?_
        refine r_goto (tgt := 77) ok dX3_carry_113 rfl ?_
        exact hk77 _ _ _ _ h
theorem w_B_X3_carry_45 {X : Cx} (ok : Ok X cX3_carry 5 RX3 5 136) {post : St → Prop} (hret : RetV X cX3_carry 5 post) {x2 : Int32} {S : St} (h : B_X3_carry_45 post x2 S) : Wp X 5 45 [(0, .ref (xad X 55)), (2, .int x2)] [] S := by
  obtain ⟨n, h⟩ := h
  induction n generalizing x2 S with
  | zero => exact False.elim h
  | succ n ih =>
    have hk45 : ∀ x2 S, L_X3_carry_45 post n x2 S → Wp X 5 45 [(0, .ref (xad X 55)), (2, .int x2)] [] S := by intros; apply ih; assumption
    replace h : BD_X3_carry_45 (L_X3_carry_45 post n) post x2 S := h
    unfold BD_X3_carry_45 at h
    generalize L_X3_carry_45 post n = k45 at h hk45
    refine r_iload_n ok dX3_carry_45 1 rfl ?_
    refine r_aload_n ok dX3_carry_46 0 rfl ?_
    refine gf_X3_22 ok dX3_carry_47 ?_
    refine gf_X3_31 ok isW_11 dX3_carry_50 ?_
    refine r_icmp_ge (tgt := 122) ok dX3_carry_53 rfl (fun hc1 => ?_) (fun hc1 => ?_)
    · replace h := h.1 hc1
      exact hret _ _ _ dX3_carry_122 h
    · replace h := h.2 hc1
      refine r_aload_n ok dX3_carry_56 0 rfl ?_
      refine cl_X3_37 ok dX3_carry_57 (by decide) (Nat.le_of_ble_eq_true rfl) h (fun r3 S2 h => ?_)
      refine r_istore_n ok dX3_carry_60 (by decide) [(0, .ref (xad X 55)), (2, .int x2), (3, .int r3)] [1, 2, 0] rfl ?_
      refine r_iload_n ok dX3_carry_61 2 rfl ?_
      refine r_iconst (v := (-1)) ok dX3_carry_62 rfl ?_
      refine r_icmp_ne (tgt := 67) ok dX3_carry_63 rfl (fun hc4 => ?_) (fun hc4 => ?_)
      · replace h := h.1 hc4
        refine r_aload_n ok dX3_carry_67 0 rfl ?_
        refine gf_X3_18 ok dX3_carry_68 ?_
        refine r_iload_n ok dX3_carry_71 2 rfl ?_
        refine r_iconst (v := 1) ok dX3_carry_72 rfl ?_
        have hi6 := h.1
        replace h := h.2
        refine r_zast ok az_58 hi6 rfl (Or.inr rfl) dX3_carry_73 (fun S5 eS5 => ?_)
        replace h := h S5 eS5
        refine r_iconst (v := 0) ok dX3_carry_74 rfl ?_
        refine r_istore ok dX3_carry_75 (by decide) [(0, .ref (xad X 55)), (2, .int x2), (3, .int r3), (4, .int 0)] [1, 2, 3, 0] rfl ?_
        exact w_B_X3_carry_77 ok hret hk45 h
      · replace h := h.2 hc4
        exact hret _ _ _ dX3_carry_66 h
theorem w_B_X3_carry_36 {X : Cx} (ok : Ok X cX3_carry 5 RX3 5 136) {post : St → Prop} (hret : RetV X cX3_carry 5 post) {x1 : Int32} {S : St} (h : B_X3_carry_36 post x1 S) : Wp X 5 36 [(0, .ref (xad X 55)), (1, .int x1)] [] S := by
  unfold B_X3_carry_36 at h
  refine r_aload_n ok dX3_carry_36 0 rfl ?_
  refine gf_X3_9 ok dX3_carry_37 ?_
  refine r_iload_n ok dX3_carry_40 1 rfl ?_
  refine r_iconst (v := 0) ok dX3_carry_41 rfl ?_
  have hi2 := h.1
  replace h := h.2
  refine r_iast ok ai_56 hi2 rfl dX3_carry_42 (fun S1 eS1 => ?_)
  replace h := h S1 eS1
  refine r_iconst (v := 0) ok dX3_carry_43 rfl ?_
  refine r_istore_n ok dX3_carry_44 (by decide) [(0, .ref (xad X 55)), (2, .int 0)] [1, 0] rfl ?_
  exact w_B_X3_carry_45 ok hret h
theorem w_B_X3_carry_2 {X : Cx} (ok : Ok X cX3_carry 5 RX3 5 136) {post : St → Prop} (hret : RetV X cX3_carry 5 post) {x1 x2 : Int32} {S : St} (h : B_X3_carry_2 post x1 x2 S) : Wp X 5 2 [(0, .ref (xad X 55)), (1, .int x1), (2, .int x2)] [] S := by
  obtain ⟨n, h⟩ := h
  induction n generalizing x1 x2 S with
  | zero => exact False.elim h
  | succ n ih =>
    have hk2 : ∀ x1 x2 S, L_X3_carry_2 post n x1 x2 S → Wp X 5 2 [(0, .ref (xad X 55)), (1, .int x1), (2, .int x2)] [] S := by intros; apply ih; assumption
    replace h : BD_X3_carry_2 (L_X3_carry_2 post n) post x1 x2 S := h
    unfold BD_X3_carry_2 at h
    generalize L_X3_carry_2 post n = k2 at h hk2
    refine r_iload_n ok dX3_carry_2 2 rfl ?_
    refine r_bipush (v := 6) ok dX3_carry_3 rfl ?_
    refine r_icmp_ge (tgt := 36) ok dX3_carry_5 rfl (fun hc1 => ?_) (fun hc1 => ?_)
    · replace h := h.1 hc1
      refine r_sub [(0, .ref (xad X 55)), (1, .int x1)] [0, 1] rfl ?_
      exact w_B_X3_carry_36 ok hret h
    · replace h := h.2 hc1
      refine r_aload_n ok dX3_carry_8 0 rfl ?_
      refine gf_X3_9 ok dX3_carry_9 ?_
      refine r_iload_n ok dX3_carry_12 2 rfl ?_
      refine r_ldc (v := 1000000000) ok dX3_carry_13 tw_k_X3_30 ?_
      have hi3 := h.1
      replace h := h.2
      refine r_iast ok ai_56 hi3 rfl dX3_carry_15 (fun S2 eS2 => ?_)
      replace h := h S2 eS2
      refine r_aload_n ok dX3_carry_16 0 rfl ?_
      refine gf_X3_15 ok dX3_carry_17 ?_
      refine r_iload_n ok dX3_carry_20 2 rfl ?_
      refine r_iconst (v := 0) ok dX3_carry_21 rfl ?_
      have hi5 := h.1
      replace h := h.2
      refine r_iast ok ai_57 hi5 rfl dX3_carry_22 (fun S4 eS4 => ?_)
      replace h := h S4 eS4
      refine r_aload_n ok dX3_carry_23 0 rfl ?_
      refine gf_X3_18 ok dX3_carry_24 ?_
      refine r_iload_n ok dX3_carry_27 2 rfl ?_
      refine r_iconst (v := 0) ok dX3_carry_28 rfl ?_
      have hi7 := h.1
      replace h := h.2
      refine r_zast ok az_58 hi7 rfl (Or.inl rfl) dX3_carry_29 (fun S6 eS6 => ?_)
      replace h := h S6 eS6
      refine r_iinc (v := x2 + 1) ok dX3_carry_30 2 rfl rfl (by decide) [(0, .ref (xad X 55)), (1, .int x1), (2, .int (x2 + 1))] [1, 2, 0] rfl ?_
      refine r_goto (tgt := 2) ok dX3_carry_33 rfl ?_
      exact hk2 _ _ _ h
theorem w_wp_X3_carry {X : Cx} (ok : Ok X cX3_carry 5 RX3 5 136) {post : St → Prop} (hret : RetV X cX3_carry 5 post) {x1 : Int32} {S : St} (h : wp_X3_carry x1 S post) : Wp X 5 0 [(0, .ref (xad X 55)), (1, .int x1)] [] S := by
  unfold wp_X3_carry at h
  refine r_iconst (v := 0) ok dX3_carry_0 rfl ?_
  refine r_istore_n ok dX3_carry_1 (by decide) [(0, .ref (xad X 55)), (1, .int x1), (2, .int 0)] [1, 2, 0] rfl ?_
  exact w_B_X3_carry_2 ok hret h
theorem c_X3_carry (l : Launch) (G : Gx) {x1 : Int32} {S : St} {post : St → Prop} (h : wp_X3_carry x1 S post) : MtV l yX3_carry cX3_carry 5 5 136 G [.ref (G.2.2 55), .int x1] S post :=
  ctV (by decide) rfl (Nat.le_of_ble_eq_true rfl) (fun X _ hG ok hret => by subst hG; exact w_wp_X3_carry ok hret h)

/-! HasteRoads$Message.minuteAt(I)I -/
theorem dX3_minuteAt_0 : decode cX3_minuteAt 0 = .ok (.aload_n 0, 1) := by decide +kernel
theorem dX3_minuteAt_1 : decode cX3_minuteAt 1 = .ok (.getfield 9, 3) := by decide +kernel
theorem dX3_minuteAt_4 : decode cX3_minuteAt 4 = .ok (.iload_n 1, 1) := by decide +kernel
theorem dX3_minuteAt_5 : decode cX3_minuteAt 5 = .ok (.iaload, 1) := by decide +kernel
theorem dX3_minuteAt_6 : decode cX3_minuteAt 6 = .ok (.ldc 30, 2) := by decide +kernel
theorem dX3_minuteAt_8 : decode cX3_minuteAt 8 = .ok (.if_icmp .ne 7, 3) := by decide +kernel
theorem dX3_minuteAt_11 : decode cX3_minuteAt 11 = .ok (.iconst (-1), 1) := by decide +kernel
theorem dX3_minuteAt_12 : decode cX3_minuteAt 12 = .ok (.goto 9, 3) := by decide +kernel
theorem dX3_minuteAt_15 : decode cX3_minuteAt 15 = .ok (.aload_n 0, 1) := by decide +kernel
theorem dX3_minuteAt_16 : decode cX3_minuteAt 16 = .ok (.getfield 9, 3) := by decide +kernel
theorem dX3_minuteAt_19 : decode cX3_minuteAt 19 = .ok (.iload_n 1, 1) := by decide +kernel
theorem dX3_minuteAt_20 : decode cX3_minuteAt 20 = .ok (.iaload, 1) := by decide +kernel
theorem dX3_minuteAt_21 : decode cX3_minuteAt 21 = .ok (.ireturn, 1) := by decide +kernel

def wp_X3_minuteAt (x1 : Int32) (S : St) (post : Int32 → St → Prop) : Prop :=
  vp_in x1 6 ∧ (((¬ (S 56 (ix x1)) = 1000000000 → vp_in x1 6 ∧ (post (S 56 (ix x1)) S)) ∧ ((S 56 (ix x1)) = 1000000000 → post (-1) S)))
theorem w_wp_X3_minuteAt {X : Cx} (ok : Ok X cX3_minuteAt 2 RX3 0 0) {post : Int32 → St → Prop} (hret : RetI X cX3_minuteAt 2 post) {x1 : Int32} {S : St} (h : wp_X3_minuteAt x1 S post) : Wp X 2 0 [(0, .ref (xad X 55)), (1, .int x1)] [] S := by
  unfold wp_X3_minuteAt at h
  refine r_aload_n ok dX3_minuteAt_0 0 rfl ?_
  refine gf_X3_9 ok dX3_minuteAt_1 ?_
  refine r_iload_n ok dX3_minuteAt_4 1 rfl ?_
  refine r_iald ok ai_56 h.1 rfl dX3_minuteAt_5 ?_
  replace h := h.2
  refine r_ldc (v := 1000000000) ok dX3_minuteAt_6 tw_k_X3_30 ?_
  refine r_icmp_ne (tgt := 15) ok dX3_minuteAt_8 rfl (fun hc1 => ?_) (fun hc1 => ?_)
  · replace h := h.1 hc1
    refine r_aload_n ok dX3_minuteAt_15 0 rfl ?_
    refine gf_X3_9 ok dX3_minuteAt_16 ?_
    refine r_iload_n ok dX3_minuteAt_19 1 rfl ?_
    refine r_iald ok ai_56 h.1 rfl dX3_minuteAt_20 ?_
    replace h := h.2
    exact hret _ _ _ _ dX3_minuteAt_21 h
  · replace h := h.2 hc1
    refine r_iconst (v := (-1)) ok dX3_minuteAt_11 rfl ?_
    refine r_goto (tgt := 21) ok dX3_minuteAt_12 rfl ?_
    exact hret _ _ _ _ dX3_minuteAt_21 h
theorem c_X3_minuteAt (l : Launch) (G : Gx) {x1 : Int32} {S : St} {post : Int32 → St → Prop} (h : wp_X3_minuteAt x1 S post) : MtI l yX3_minuteAt cX3_minuteAt 2 (some .int) 0 0 G [.ref (G.2.2 55), .int x1] S post :=
  ctI (by decide) rfl (Nat.le_of_ble_eq_true rfl) (fun X _ hG ok hret => by subst hG; exact w_wp_X3_minuteAt ok hret h)

/-! HasteRoads$Message.carriersTo(I)I -/
theorem dX3_carriersTo_0 : decode cX3_carriersTo 0 = .ok (.aload_n 0, 1) := by decide +kernel
theorem dX3_carriersTo_1 : decode cX3_carriersTo 1 = .ok (.getfield 9, 3) := by decide +kernel
theorem dX3_carriersTo_4 : decode cX3_carriersTo 4 = .ok (.iload_n 1, 1) := by decide +kernel
theorem dX3_carriersTo_5 : decode cX3_carriersTo 5 = .ok (.iaload, 1) := by decide +kernel
theorem dX3_carriersTo_6 : decode cX3_carriersTo 6 = .ok (.ldc 30, 2) := by decide +kernel
theorem dX3_carriersTo_8 : decode cX3_carriersTo 8 = .ok (.if_icmp .ne 7, 3) := by decide +kernel
theorem dX3_carriersTo_11 : decode cX3_carriersTo 11 = .ok (.iconst (-1), 1) := by decide +kernel
theorem dX3_carriersTo_12 : decode cX3_carriersTo 12 = .ok (.goto 9, 3) := by decide +kernel
theorem dX3_carriersTo_15 : decode cX3_carriersTo 15 = .ok (.aload_n 0, 1) := by decide +kernel
theorem dX3_carriersTo_16 : decode cX3_carriersTo 16 = .ok (.getfield 15, 3) := by decide +kernel
theorem dX3_carriersTo_19 : decode cX3_carriersTo 19 = .ok (.iload_n 1, 1) := by decide +kernel
theorem dX3_carriersTo_20 : decode cX3_carriersTo 20 = .ok (.iaload, 1) := by decide +kernel
theorem dX3_carriersTo_21 : decode cX3_carriersTo 21 = .ok (.ireturn, 1) := by decide +kernel

def wp_X3_carriersTo (x1 : Int32) (S : St) (post : Int32 → St → Prop) : Prop :=
  vp_in x1 6 ∧ (((¬ (S 56 (ix x1)) = 1000000000 → vp_in x1 6 ∧ (post (S 57 (ix x1)) S)) ∧ ((S 56 (ix x1)) = 1000000000 → post (-1) S)))
theorem w_wp_X3_carriersTo {X : Cx} (ok : Ok X cX3_carriersTo 2 RX3 0 0) {post : Int32 → St → Prop} (hret : RetI X cX3_carriersTo 2 post) {x1 : Int32} {S : St} (h : wp_X3_carriersTo x1 S post) : Wp X 2 0 [(0, .ref (xad X 55)), (1, .int x1)] [] S := by
  unfold wp_X3_carriersTo at h
  refine r_aload_n ok dX3_carriersTo_0 0 rfl ?_
  refine gf_X3_9 ok dX3_carriersTo_1 ?_
  refine r_iload_n ok dX3_carriersTo_4 1 rfl ?_
  refine r_iald ok ai_56 h.1 rfl dX3_carriersTo_5 ?_
  replace h := h.2
  refine r_ldc (v := 1000000000) ok dX3_carriersTo_6 tw_k_X3_30 ?_
  refine r_icmp_ne (tgt := 15) ok dX3_carriersTo_8 rfl (fun hc1 => ?_) (fun hc1 => ?_)
  · replace h := h.1 hc1
    refine r_aload_n ok dX3_carriersTo_15 0 rfl ?_
    refine gf_X3_15 ok dX3_carriersTo_16 ?_
    refine r_iload_n ok dX3_carriersTo_19 1 rfl ?_
    refine r_iald ok ai_57 h.1 rfl dX3_carriersTo_20 ?_
    replace h := h.2
    exact hret _ _ _ _ dX3_carriersTo_21 h
  · replace h := h.2 hc1
    refine r_iconst (v := (-1)) ok dX3_carriersTo_11 rfl ?_
    refine r_goto (tgt := 21) ok dX3_carriersTo_12 rfl ?_
    exact hret _ _ _ _ dX3_carriersTo_21 h
theorem c_X3_carriersTo (l : Launch) (G : Gx) {x1 : Int32} {S : St} {post : Int32 → St → Prop} (h : wp_X3_carriersTo x1 S post) : MtI l yX3_carriersTo cX3_carriersTo 2 (some .int) 0 0 G [.ref (G.2.2 55), .int x1] S post :=
  ctI (by decide) rfl (Nat.le_of_ble_eq_true rfl) (fun X _ hG ok hret => by subst hG; exact w_wp_X3_carriersTo ok hret h)
