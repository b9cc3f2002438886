/-! HasteRoadsModel.nextPlace()I -/
theorem dX8_nextPlace_0 : decode cX8_nextPlace 0 = .ok (.iconst (-1), 1) := by decide +kernel
theorem dX8_nextPlace_1 : decode cX8_nextPlace 1 = .ok (.istore_n 1, 1) := by decide +kernel
theorem dX8_nextPlace_2 : decode cX8_nextPlace 2 = .ok (.iconst 0, 1) := by decide +kernel
theorem dX8_nextPlace_3 : decode cX8_nextPlace 3 = .ok (.istore_n 2, 1) := by decide +kernel
theorem dX8_nextPlace_4 : decode cX8_nextPlace 4 = .ok (.iload_n 2, 1) := by decide +kernel
theorem dX8_nextPlace_5 : decode cX8_nextPlace 5 = .ok (.aload_n 0, 1) := by decide +kernel
theorem dX8_nextPlace_6 : decode cX8_nextPlace 6 = .ok (.getfield 155, 3) := by decide +kernel
theorem dX8_nextPlace_9 : decode cX8_nextPlace 9 = .ok (.if_icmp .ge 55, 3) := by decide +kernel
theorem dX8_nextPlace_12 : decode cX8_nextPlace 12 = .ok (.aload_n 0, 1) := by decide +kernel
theorem dX8_nextPlace_13 : decode cX8_nextPlace 13 = .ok (.getfield 63, 3) := by decide +kernel
theorem dX8_nextPlace_16 : decode cX8_nextPlace 16 = .ok (.iload_n 2, 1) := by decide +kernel
theorem dX8_nextPlace_17 : decode cX8_nextPlace 17 = .ok (.baload, 1) := by decide +kernel
theorem dX8_nextPlace_18 : decode cX8_nextPlace 18 = .ok (.ifCond .ne 38, 3) := by decide +kernel
theorem dX8_nextPlace_21 : decode cX8_nextPlace 21 = .ok (.aload_n 0, 1) := by decide +kernel
theorem dX8_nextPlace_22 : decode cX8_nextPlace 22 = .ok (.getfield 57, 3) := by decide +kernel
theorem dX8_nextPlace_25 : decode cX8_nextPlace 25 = .ok (.iload_n 2, 1) := by decide +kernel
theorem dX8_nextPlace_26 : decode cX8_nextPlace 26 = .ok (.iaload, 1) := by decide +kernel
theorem dX8_nextPlace_27 : decode cX8_nextPlace 27 = .ok (.ldc 223, 2) := by decide +kernel
theorem dX8_nextPlace_29 : decode cX8_nextPlace 29 = .ok (.if_icmp .ge 27, 3) := by decide +kernel
theorem dX8_nextPlace_32 : decode cX8_nextPlace 32 = .ok (.iload_n 1, 1) := by decide +kernel
theorem dX8_nextPlace_33 : decode cX8_nextPlace 33 = .ok (.iconst (-1), 1) := by decide +kernel
theorem dX8_nextPlace_34 : decode cX8_nextPlace 34 = .ok (.if_icmp .eq 18, 3) := by decide +kernel
theorem dX8_nextPlace_37 : decode cX8_nextPlace 37 = .ok (.aload_n 0, 1) := by decide +kernel
theorem dX8_nextPlace_38 : decode cX8_nextPlace 38 = .ok (.getfield 57, 3) := by decide +kernel
theorem dX8_nextPlace_41 : decode cX8_nextPlace 41 = .ok (.iload_n 2, 1) := by decide +kernel
theorem dX8_nextPlace_42 : decode cX8_nextPlace 42 = .ok (.iaload, 1) := by decide +kernel
theorem dX8_nextPlace_43 : decode cX8_nextPlace 43 = .ok (.aload_n 0, 1) := by decide +kernel
theorem dX8_nextPlace_44 : decode cX8_nextPlace 44 = .ok (.getfield 57, 3) := by decide +kernel
theorem dX8_nextPlace_47 : decode cX8_nextPlace 47 = .ok (.iload_n 1, 1) := by decide +kernel
theorem dX8_nextPlace_48 : decode cX8_nextPlace 48 = .ok (.iaload, 1) := by decide +kernel
theorem dX8_nextPlace_49 : decode cX8_nextPlace 49 = .ok (.if_icmp .ge 7, 3) := by decide +kernel
theorem dX8_nextPlace_52 : decode cX8_nextPlace 52 = .ok (.iload_n 2, 1) := by decide +kernel
theorem dX8_nextPlace_53 : decode cX8_nextPlace 53 = .ok (.goto 4, 3) := by decide +kernel
theorem dX8_nextPlace_56 : decode cX8_nextPlace 56 = .ok (.iload_n 1, 1) := by decide +kernel
theorem dX8_nextPlace_57 : decode cX8_nextPlace 57 = .ok (.istore_n 1, 1) := by decide +kernel
theorem dX8_nextPlace_58 : decode cX8_nextPlace 58 = .ok (.iinc 2 1, 3) := by decide +kernel
theorem dX8_nextPlace_61 : decode cX8_nextPlace 61 = .ok (.goto (-57), 3) := by decide +kernel
theorem dX8_nextPlace_64 : decode cX8_nextPlace 64 = .ok (.iload_n 1, 1) := by decide +kernel
theorem dX8_nextPlace_65 : decode cX8_nextPlace 65 = .ok (.ireturn, 1) := by decide +kernel
theorem gf_X8_63 {X : Cx} {cc : ByteArray} {nL pc fr lo : Nat} {L : List (Nat × Value)} {st : List Value} {S : St} (ok : Ok X cc nL RX8 fr lo) (d : decode cc pc = .ok (.getfield 63, 3)) (k : Wp X nL (pc + 3) L (.ref (xad X 88) :: st) S) : Wp X nL pc L (.ref (xad X 71) :: st) S :=
  r_get (C := RX8) (T := TX8) ok ob_71 rfl i_X8 35 (by decide) tw_fl_X8_63 d (by rw [show fvl (xad X) S 71 35 = .ref (xad X 88) from (fvl_ref (d := 88) (by decide))]; exact k)
theorem gf_X8_57 {X : Cx} {cc : ByteArray} {nL pc fr lo : Nat} {L : List (Nat × Value)} {st : List Value} {S : St} (ok : Ok X cc nL RX8 fr lo) (d : decode cc pc = .ok (.getfield 57, 3)) (k : Wp X nL (pc + 3) L (.ref (xad X 86) :: st) S) : Wp X nL pc L (.ref (xad X 71) :: st) S :=
  r_get (C := RX8) (T := TX8) ok ob_71 rfl i_X8 33 (by decide) tw_fl_X8_57 d (by rw [show fvl (xad X) S 71 33 = .ref (xad X 86) from (fvl_ref (d := 86) (by decide))]; exact k)
def BD_X8_nextPlace_4 (k4 : Int32 → Int32 → St → Prop) (post : Int32 → St → Prop) (x1 : Int32) (x2 : Int32) (S : St) : Prop :=
  (((S 71 10) ≤ x2 → post x1 S) ∧ (¬ (S 71 10) ≤ x2 → vp_in x2 6 ∧ (((¬ (S 88 (ix x2)) = 0 → k4 x1 (x2 + 1) S) ∧ ((S 88 (ix x2)) = 0 → vp_in x2 6 ∧ (((100000000 ≤ (S 86 (ix x2)) → k4 x1 (x2 + 1) S) ∧ (¬ 100000000 ≤ (S 86 (ix x2)) → ((x1 = (-1) → k4 x2 (x2 + 1) S) ∧ (¬ x1 = (-1) → vp_in x2 6 ∧ (vp_in x1 6 ∧ ((((S 86 (ix x1)) ≤ (S 86 (ix x2)) → k4 x1 (x2 + 1) S) ∧ (¬ (S 86 (ix x1)) ≤ (S 86 (ix x2)) → k4 x2 (x2 + 1) S))))))))))))))
def L_X8_nextPlace_4 (post : Int32 → St → Prop) (n : Nat) : Int32 → Int32 → St → Prop := Nat.rec (motive := fun _ => Int32 → Int32 → St → Prop) (fun _ _ _ => False) (fun _ ih => BD_X8_nextPlace_4 ih post) n
def B_X8_nextPlace_4 (post : Int32 → St → Prop) (x1 : Int32) (x2 : Int32) (S : St) : Prop := ∃ n, L_X8_nextPlace_4 post n x1 x2 S
def wp_X8_nextPlace (S : St) (post : Int32 → St → Prop) : Prop :=
  B_X8_nextPlace_4 post (-1) 0 S
theorem w_B_X8_nextPlace_4 {X : Cx} (ok : Ok X cX8_nextPlace 3 RX8 0 0) {post : Int32 → St → Prop} (hret : RetI X cX8_nextPlace 3 post) {x1 x2 : Int32} {S : St} (h : B_X8_nextPlace_4 post x1 x2 S) : Wp X 3 4 [(0, .ref (xad X 71)), (1, .int x1), (2, .int x2)] [] S := by
  obtain ⟨n, h⟩ := h
  induction n generalizing x1 x2 S with
  | zero => exact False.elim h
  | succ n ih =>
    have hk4 : ∀ x1 x2 S, L_X8_nextPlace_4 post n x1 x2 S → Wp X 3 4 [(0, .ref (xad X 71)), (1, .int x1), (2, .int x2)] [] S := by intros; apply ih; assumption
    replace h : BD_X8_nextPlace_4 (L_X8_nextPlace_4 post n) post x1 x2 S := h
    unfold BD_X8_nextPlace_4 at h
    generalize L_X8_nextPlace_4 post n = k4 at h hk4
    refine r_iload_n ok dX8_nextPlace_4 2 rfl ?_
    refine r_aload_n ok dX8_nextPlace_5 0 rfl ?_
    refine gf_X8_155 ok dX8_nextPlace_6 ?_
    refine r_icmp_ge (tgt := 64) ok dX8_nextPlace_9 rfl (fun hc1 => ?_) (fun hc1 => ?_)
    · replace h := h.1 hc1
      refine r_iload_n ok dX8_nextPlace_64 1 rfl ?_
      exact hret _ _ _ _ dX8_nextPlace_65 h
    · replace h := h.2 hc1
      refine r_aload_n ok dX8_nextPlace_12 0 rfl ?_
      refine gf_X8_63 ok dX8_nextPlace_13 ?_
      refine r_iload_n ok dX8_nextPlace_16 2 rfl ?_
      refine r_zald ok az_88 h.1 rfl dX8_nextPlace_17 ?_
      replace h := h.2
      refine r_if_ne (tgt := 56) ok dX8_nextPlace_18 rfl (fun hc2 => ?_) (fun hc2 => ?_)
      · replace h := h.1 hc2
        refine r_iload_n ok dX8_nextPlace_56 1 rfl ?_
        refine r_istore_n ok dX8_nextPlace_57 (by decide) [(0, .ref (xad X 71)), (1, .int x1), (2, .int x2)] [1, 0, 2] rfl ?_
        refine r_iinc (v := x2 + 1) ok dX8_nextPlace_58 2 rfl rfl (by decide) [(0, .ref (xad X 71)), (1, .int x1), (2, .int (x2 + 1))] [1, 2, 0] rfl ?_
        refine r_goto (tgt := 4) ok dX8_nextPlace_61 rfl ?_
        exact hk4 _ _ _ h
      · replace h := h.2 hc2
        refine r_aload_n ok dX8_nextPlace_21 0 rfl ?_
        refine gf_X8_57 ok dX8_nextPlace_22 ?_
        refine r_iload_n ok dX8_nextPlace_25 2 rfl ?_
        refine r_iald ok ai_86 h.1 rfl dX8_nextPlace_26 ?_
        replace h := h.2
        refine r_ldc (v := 100000000) ok dX8_nextPlace_27 tw_k_X8_223 ?_
        refine r_icmp_ge (tgt := 56) ok dX8_nextPlace_29 rfl (fun hc3 => ?_) (fun hc3 => ?_)
        · replace h := h.1 hc3
          refine r_iload_n ok dX8_nextPlace_56 1 rfl ?_
          refine r_istore_n ok dX8_nextPlace_57 (by decide) [(0, .ref (xad X 71)), (1, .int x1), (2, .int x2)] [1, 0, 2] rfl ?_
          refine r_iinc (v := x2 + 1) ok dX8_nextPlace_58 2 rfl rfl (by decide) [(0, .ref (xad X 71)), (1, .int x1), (2, .int (x2 + 1))] [1, 2, 0] rfl ?_
          refine r_goto (tgt := 4) ok dX8_nextPlace_61 rfl ?_
          exact hk4 _ _ _ h
        · replace h := h.2 hc3
          refine r_iload_n ok dX8_nextPlace_32 1 rfl ?_
          refine r_iconst (v := (-1)) ok dX8_nextPlace_33 rfl ?_
          refine r_icmp_eq (tgt := 52) ok dX8_nextPlace_34 rfl (fun hc4 => ?_) (fun hc4 => ?_)
          · replace h := h.1 hc4
            refine r_iload_n ok dX8_nextPlace_52 2 rfl ?_
            refine r_goto (tgt := 57) ok dX8_nextPlace_53 rfl ?_
            refine r_istore_n ok dX8_nextPlace_57 (by decide) [(0, .ref (xad X 71)), (1, .int x2), (2, .int x2)] [1, 0, 2] rfl ?_
            refine r_iinc (v := x2 + 1) ok dX8_nextPlace_58 2 rfl rfl (by decide) [(0, .ref (xad X 71)), (1, .int x2), (2, .int (x2 + 1))] [1, 2, 0] rfl ?_
            refine r_goto (tgt := 4) ok dX8_nextPlace_61 rfl ?_
            exact hk4 _ _ _ h
          · replace h := h.2 hc4
            refine r_aload_n ok dX8_nextPlace_37 0 rfl ?_
            refine gf_X8_57 ok dX8_nextPlace_38 ?_
            refine r_iload_n ok dX8_nextPlace_41 2 rfl ?_
            refine r_iald ok ai_86 h.1 rfl dX8_nextPlace_42 ?_
            replace h := h.2
            refine r_aload_n ok dX8_nextPlace_43 0 rfl ?_
            refine gf_X8_57 ok dX8_nextPlace_44 ?_
            refine r_iload_n ok dX8_nextPlace_47 1 rfl ?_
            refine r_iald ok ai_86 h.1 rfl dX8_nextPlace_48 ?_
            replace h := h.2
            refine r_icmp_ge (tgt := 56) ok dX8_nextPlace_49 rfl (fun hc5 => ?_) (fun hc5 => ?_)
            · replace h := h.1 hc5
              refine r_iload_n ok dX8_nextPlace_56 1 rfl ?_
              refine r_istore_n ok dX8_nextPlace_57 (by decide) [(0, .ref (xad X 71)), (1, .int x1), (2, .int x2)] [1, 0, 2] rfl ?_
              refine r_iinc (v := x2 + 1) ok dX8_nextPlace_58 2 rfl rfl (by decide) [(0, .ref (xad X 71)), (1, .int x1), (2, .int (x2 + 1))] [1, 2, 0] rfl ?_
              refine r_goto (tgt := 4) ok dX8_nextPlace_61 rfl ?_
              exact hk4 _ _ _ h
            · replace h := h.2 hc5
              refine r_iload_n ok dX8_nextPlace_52 2 rfl ?_
              refine r_goto (tgt := 57) ok dX8_nextPlace_53 rfl ?_
              refine r_istore_n ok dX8_nextPlace_57 (by decide) [(0, .ref (xad X 71)), (1, .int x2), (2, .int x2)] [1, 0, 2] rfl ?_
              refine r_iinc (v := x2 + 1) ok dX8_nextPlace_58 2 rfl rfl (by decide) [(0, .ref (xad X 71)), (1, .int x2), (2, .int (x2 + 1))] [1, 2, 0] rfl ?_
              refine r_goto (tgt := 4) ok dX8_nextPlace_61 rfl ?_
              exact hk4 _ _ _ h
theorem w_wp_X8_nextPlace {X : Cx} (ok : Ok X cX8_nextPlace 3 RX8 0 0) {post : Int32 → St → Prop} (hret : RetI X cX8_nextPlace 3 post) {S : St} (h : wp_X8_nextPlace S post) : Wp X 3 0 [(0, .ref (xad X 71))] [] S := by
  unfold wp_X8_nextPlace at h
  refine r_iconst (v := (-1)) ok dX8_nextPlace_0 rfl ?_
  refine r_istore_n ok dX8_nextPlace_1 (by decide) [(0, .ref (xad X 71)), (1, .int (-1))] [1, 0] rfl ?_
  refine r_iconst (v := 0) ok dX8_nextPlace_2 rfl ?_
  refine r_istore_n ok dX8_nextPlace_3 (by decide) [(0, .ref (xad X 71)), (1, .int (-1)), (2, .int 0)] [1, 2, 0] rfl ?_
  exact w_B_X8_nextPlace_4 ok hret h
theorem c_X8_nextPlace (l : Launch) (G : Gx) {S : St} {post : Int32 → St → Prop} (h : wp_X8_nextPlace S post) : MtI l yX8_nextPlace cX8_nextPlace 3 (some .int) 0 0 G [.ref (G.2.2 71)] S post :=
  ctI (by decide) rfl (Nat.le_of_ble_eq_true rfl) (fun X _ hG ok hret => by subst hG; exact w_wp_X8_nextPlace ok hret h)

/-! HasteRoadsModel.carries(II)V -/
theorem dX8_carries_0 : decode cX8_carries 0 = .ok (.aload_n 0, 1) := by decide +kernel
theorem dX8_carries_1 : decode cX8_carries 1 = .ok (.iload_n 1, 1) := by decide +kernel
theorem dX8_carries_2 : decode cX8_carries 2 = .ok (.iload_n 2, 1) := by decide +kernel
theorem dX8_carries_3 : decode cX8_carries 3 = .ok (.aload_n 0, 1) := by decide +kernel
theorem dX8_carries_4 : decode cX8_carries 4 = .ok (.getfield 57, 3) := by decide +kernel
theorem dX8_carries_7 : decode cX8_carries 7 = .ok (.iload_n 2, 1) := by decide +kernel
theorem dX8_carries_8 : decode cX8_carries 8 = .ok (.iaload, 1) := by decide +kernel
theorem dX8_carries_9 : decode cX8_carries 9 = .ok (.aload_n 0, 1) := by decide +kernel
theorem dX8_carries_10 : decode cX8_carries 10 = .ok (.getfield 26, 3) := by decide +kernel
theorem dX8_carries_13 : decode cX8_carries 13 = .ok (.iconst 4, 1) := by decide +kernel
theorem dX8_carries_14 : decode cX8_carries 14 = .ok (.iload_n 1, 1) := by decide +kernel
theorem dX8_carries_15 : decode cX8_carries 15 = .ok (.imul, 1) := by decide +kernel
theorem dX8_carries_16 : decode cX8_carries 16 = .ok (.iconst 1, 1) := by decide +kernel
theorem dX8_carries_17 : decode cX8_carries 17 = .ok (.iadd, 1) := by decide +kernel
theorem dX8_carries_18 : decode cX8_carries 18 = .ok (.iaload, 1) := by decide +kernel
theorem dX8_carries_19 : decode cX8_carries 19 = .ok (.invokevirtual 231, 3) := by decide +kernel
theorem dX8_carries_22 : decode cX8_carries 22 = .ok (.iconst 0, 1) := by decide +kernel
theorem dX8_carries_23 : decode cX8_carries 23 = .ok (.istore_n 3, 1) := by decide +kernel
theorem dX8_carries_24 : decode cX8_carries 24 = .ok (.iload_n 3, 1) := by decide +kernel
theorem dX8_carries_25 : decode cX8_carries 25 = .ok (.aload_n 0, 1) := by decide +kernel
theorem dX8_carries_26 : decode cX8_carries 26 = .ok (.getfield 155, 3) := by decide +kernel
theorem dX8_carries_29 : decode cX8_carries 29 = .ok (.if_icmp .ge 84, 3) := by decide +kernel
theorem dX8_carries_32 : decode cX8_carries 32 = .ok (.aload_n 0, 1) := by decide +kernel
theorem dX8_carries_33 : decode cX8_carries 33 = .ok (.iload_n 3, 1) := by decide +kernel
theorem dX8_carries_34 : decode cX8_carries 34 = .ok (.invokevirtual 235, 3) := by decide +kernel
theorem dX8_carries_37 : decode cX8_carries 37 = .ok (.istore 4, 2) := by decide +kernel
theorem dX8_carries_39 : decode cX8_carries 39 = .ok (.iload 4, 2) := by decide +kernel
theorem dX8_carries_41 : decode cX8_carries 41 = .ok (.aload_n 0, 1) := by decide +kernel
theorem dX8_carries_42 : decode cX8_carries 42 = .ok (.getfield 57, 3) := by decide +kernel
theorem dX8_carries_45 : decode cX8_carries 45 = .ok (.iload_n 3, 1) := by decide +kernel
theorem dX8_carries_46 : decode cX8_carries 46 = .ok (.iaload, 1) := by decide +kernel
theorem dX8_carries_47 : decode cX8_carries 47 = .ok (.if_icmp .lt 38, 3) := by decide +kernel
theorem dX8_carries_50 : decode cX8_carries 50 = .ok (.iload 4, 2) := by decide +kernel
theorem dX8_carries_52 : decode cX8_carries 52 = .ok (.aload_n 0, 1) := by decide +kernel
theorem dX8_carries_53 : decode cX8_carries 53 = .ok (.getfield 57, 3) := by decide +kernel
theorem dX8_carries_56 : decode cX8_carries 56 = .ok (.iload_n 3, 1) := by decide +kernel
theorem dX8_carries_57 : decode cX8_carries 57 = .ok (.iaload, 1) := by decide +kernel
theorem dX8_carries_58 : decode cX8_carries 58 = .ok (.if_icmp .ne 49, 3) := by decide +kernel
theorem dX8_carries_61 : decode cX8_carries 61 = .ok (.iload 4, 2) := by decide +kernel
theorem dX8_carries_63 : decode cX8_carries 63 = .ok (.ldc 223, 2) := by decide +kernel
theorem dX8_carries_65 : decode cX8_carries 65 = .ok (.if_icmp .ge 42, 3) := by decide +kernel
theorem dX8_carries_68 : decode cX8_carries 68 = .ok (.aload_n 0, 1) := by decide +kernel
theorem dX8_carries_69 : decode cX8_carries 69 = .ok (.getfield 60, 3) := by decide +kernel
theorem dX8_carries_72 : decode cX8_carries 72 = .ok (.iload_n 2, 1) := by decide +kernel
theorem dX8_carries_73 : decode cX8_carries 73 = .ok (.iaload, 1) := by decide +kernel
theorem dX8_carries_74 : decode cX8_carries 74 = .ok (.iconst 1, 1) := by decide +kernel
theorem dX8_carries_75 : decode cX8_carries 75 = .ok (.iadd, 1) := by decide +kernel
theorem dX8_carries_76 : decode cX8_carries 76 = .ok (.aload_n 0, 1) := by decide +kernel
theorem dX8_carries_77 : decode cX8_carries 77 = .ok (.getfield 60, 3) := by decide +kernel
theorem dX8_carries_80 : decode cX8_carries 80 = .ok (.iload_n 3, 1) := by decide +kernel
theorem dX8_carries_81 : decode cX8_carries 81 = .ok (.iaload, 1) := by decide +kernel
theorem dX8_carries_82 : decode cX8_carries 82 = .ok (.if_icmp .ge 25, 3) := by decide +kernel
theorem dX8_carries_85 : decode cX8_carries 85 = .ok (.aload_n 0, 1) := by decide +kernel
theorem dX8_carries_86 : decode cX8_carries 86 = .ok (.getfield 57, 3) := by decide +kernel
theorem dX8_carries_89 : decode cX8_carries 89 = .ok (.iload_n 3, 1) := by decide +kernel
theorem dX8_carries_90 : decode cX8_carries 90 = .ok (.iload 4, 2) := by decide +kernel
theorem dX8_carries_92 : decode cX8_carries 92 = .ok (.iastore, 1) := by decide +kernel
theorem dX8_carries_93 : decode cX8_carries 93 = .ok (.aload_n 0, 1) := by decide +kernel
theorem dX8_carries_94 : decode cX8_carries 94 = .ok (.getfield 60, 3) := by decide +kernel
theorem dX8_carries_97 : decode cX8_carries 97 = .ok (.iload_n 3, 1) := by decide +kernel
theorem dX8_carries_98 : decode cX8_carries 98 = .ok (.aload_n 0, 1) := by decide +kernel
theorem dX8_carries_99 : decode cX8_carries 99 = .ok (.getfield 60, 3) := by decide +kernel
theorem dX8_carries_102 : decode cX8_carries 102 = .ok (.iload_n 2, 1) := by decide +kernel
theorem dX8_carries_103 : decode cX8_carries 103 = .ok (.iaload, 1) := by decide +kernel
theorem dX8_carries_104 : decode cX8_carries 104 = .ok (.iconst 1, 1) := by decide +kernel
theorem dX8_carries_105 : decode cX8_carries 105 = .ok (.iadd, 1) := by decide +kernel
theorem dX8_carries_106 : decode cX8_carries 106 = .ok (.iastore, 1) := by decide +kernel
theorem dX8_carries_107 : decode cX8_carries 107 = .ok (.iinc 3 1, 3) := by decide +kernel
theorem dX8_carries_110 : decode cX8_carries 110 = .ok (.goto (-86), 3) := by decide +kernel
theorem dX8_carries_113 : decode cX8_carries 113 = .ok (.return_, 1) := by decide +kernel
theorem gf_X8_60 {X : Cx} {cc : ByteArray} {nL pc fr lo : Nat} {L : List (Nat × Value)} {st : List Value} {S : St} (ok : Ok X cc nL RX8 fr lo) (d : decode cc pc = .ok (.getfield 60, 3)) (k : Wp X nL (pc + 3) L (.ref (xad X 87) :: st) S) : Wp X nL pc L (.ref (xad X 71) :: st) S :=
  r_get (C := RX8) (T := TX8) ok ob_71 rfl i_X8 34 (by decide) tw_fl_X8_60 d (by rw [show fvl (xad X) S 71 34 = .ref (xad X 87) from (fvl_ref (d := 87) (by decide))]; exact k)
def B_X8_carries_85 (k24 : Int32 → Int32 → St → Prop) (post : St → Prop) (x2 : Int32) (x3 : Int32) (x4 : Int32) (S : St) : Prop :=
  vp_in x3 6 ∧ (∀ S1 : St, S1 = up S 86 (ix x3) x4 → vp_in x2 6 ∧ (vp_in x3 6 ∧ (∀ S3 : St, S3 = up S1 87 (ix x3) ((S1 87 (ix x2)) + 1) → k24 x2 (x3 + 1) S3)))
def BD_X8_carries_24 (k24 : Int32 → Int32 → St → Prop) (post : St → Prop) (x2 : Int32) (x3 : Int32) (S : St) : Prop :=
  (((S 71 10) ≤ x3 → post S) ∧ (¬ (S 71 10) ≤ x3 → wp_X8_soonestAt x3 S (fun r3 S2 => vp_in x3 6 ∧ (((r3 < (S2 86 (ix x3)) → B_X8_carries_85 k24 post x2 x3 r3 S2) ∧ (¬ r3 < (S2 86 (ix x3)) → vp_in x3 6 ∧ (((¬ r3 = (S2 86 (ix x3)) → k24 x2 (x3 + 1) S2) ∧ (r3 = (S2 86 (ix x3)) → ((100000000 ≤ r3 → k24 x2 (x3 + 1) S2) ∧ (¬ 100000000 ≤ r3 → vp_in x2 6 ∧ (vp_in x3 6 ∧ ((((S2 87 (ix x3)) ≤ ((S2 87 (ix x2)) + 1) → k24 x2 (x3 + 1) S2) ∧ (¬ (S2 87 (ix x3)) ≤ ((S2 87 (ix x2)) + 1) → B_X8_carries_85 k24 post x2 x3 r3 S2)))))))))))))))
def L_X8_carries_24 (post : St → Prop) (n : Nat) : Int32 → Int32 → St → Prop := Nat.rec (motive := fun _ => Int32 → Int32 → St → Prop) (fun _ _ _ => False) (fun _ ih => BD_X8_carries_24 ih post) n
def B_X8_carries_24 (post : St → Prop) (x2 : Int32) (x3 : Int32) (S : St) : Prop := ∃ n, L_X8_carries_24 post n x2 x3 S
def wp_X8_carries (x1 : Int32) (x2 : Int32) (S : St) (post : St → Prop) : Prop :=
  vp_in x2 6 ∧ (vp_in (((4 : Int32) * x1) + 1) 28 ∧ (wp_X8_spreads x1 x2 (S 86 (ix x2)) (S 76 (ix (((4 : Int32) * x1) + 1))) S (fun S1 => B_X8_carries_24 post x2 0 S1)))
theorem w_B_X8_carries_85 {X : Cx} (ok : Ok X cX8_carries 5 RX8 4 103) {post : St → Prop} (hret : RetV X cX8_carries 5 post) {k24 : Int32 → Int32 → St → Prop} (hk24 : ∀ x2 x3 S, k24 x2 x3 S → Wp X 5 24 [(0, .ref (xad X 71)), (2, .int x2), (3, .int x3)] [] S) {x2 x3 x4 : Int32} {S : St} (h : B_X8_carries_85 k24 post x2 x3 x4 S) : Wp X 5 85 [(0, .ref (xad X 71)), (2, .int x2), (3, .int x3), (4, .int x4)] [] S := by
  unfold B_X8_carries_85 at h
  refine r_aload_n ok dX8_carries_85 0 rfl ?_
  refine gf_X8_57 ok dX8_carries_86 ?_
  refine r_iload_n ok dX8_carries_89 2 rfl ?_
  refine r_iload ok dX8_carries_90 3 rfl ?_
  have hi2 := h.1
  replace h := h.2
  refine r_iast ok ai_86 hi2 rfl dX8_carries_92 (fun S1 eS1 => ?_)
  replace h := h S1 eS1
  refine r_aload_n ok dX8_carries_93 0 rfl ?_
  refine gf_X8_60 ok dX8_carries_94 ?_
  refine r_iload_n ok dX8_carries_97 2 rfl ?_
  refine r_aload_n ok dX8_carries_98 0 rfl ?_
  refine gf_X8_60 ok dX8_carries_99 ?_
  refine r_iload_n ok dX8_carries_102 1 rfl ?_
  refine r_iald ok ai_87 h.1 rfl dX8_carries_103 ?_
  replace h := h.2
  refine r_iconst (v := 1) ok dX8_carries_104 rfl ?_
  refine r_iadd ok dX8_carries_105 ?_
  have hi4 := h.1
  replace h := h.2
  refine r_iast ok ai_87 hi4 rfl dX8_carries_106 (fun S3 eS3 => ?_)
  replace h := h S3 eS3
  refine r_iinc (v := x3 + 1) ok dX8_carries_107 2 rfl rfl (by decide) [(0, .ref (xad X 71)), (2, .int x2), (3, .int (x3 + 1))] [1, 2, 0] rfl ?_
  refine r_goto (tgt := 24) ok dX8_carries_110 rfl ?_
  exact hk24 _ _ _ h
theorem w_B_X8_carries_24 {X : Cx} (ok : Ok X cX8_carries 5 RX8 4 103) {post : St → Prop} (hret : RetV X cX8_carries 5 post) {x2 x3 : Int32} {S : St} (h : B_X8_carries_24 post x2 x3 S) : Wp X 5 24 [(0, .ref (xad X 71)), (2, .int x2), (3, .int x3)] [] S := by
  obtain ⟨n, h⟩ := h
  induction n generalizing x2 x3 S with
  | zero => exact False.elim h
  | succ n ih =>
    have hk24 : ∀ x2 x3 S, L_X8_carries_24 post n x2 x3 S → Wp X 5 24 [(0, .ref (xad X 71)), (2, .int x2), (3, .int x3)] [] S := by intros; apply ih; assumption
    replace h : BD_X8_carries_24 (L_X8_carries_24 post n) post x2 x3 S := h
    unfold BD_X8_carries_24 at h
    generalize L_X8_carries_24 post n = k24 at h hk24
    refine r_iload_n ok dX8_carries_24 2 rfl ?_
    refine r_aload_n ok dX8_carries_25 0 rfl ?_
    refine gf_X8_155 ok dX8_carries_26 ?_
    refine r_icmp_ge (tgt := 113) ok dX8_carries_29 rfl (fun hc1 => ?_) (fun hc1 => ?_)
    · replace h := h.1 hc1
      exact hret _ _ _ dX8_carries_113 h
    · replace h := h.2 hc1
      refine r_aload_n ok dX8_carries_32 0 rfl ?_
      refine r_iload_n ok dX8_carries_33 2 rfl ?_
      refine cl_X8_235 ok dX8_carries_34 (by decide) (Nat.le_of_ble_eq_true rfl) h (fun r3 S2 h => ?_)
      refine r_istore ok dX8_carries_37 (by decide) [(0, .ref (xad X 71)), (2, .int x2), (3, .int x3), (4, .int r3)] [1, 2, 3, 0] rfl ?_
      refine r_iload ok dX8_carries_39 3 rfl ?_
      refine r_aload_n ok dX8_carries_41 0 rfl ?_
      refine gf_X8_57 ok dX8_carries_42 ?_
      refine r_iload_n ok dX8_carries_45 2 rfl ?_
      refine r_iald ok ai_86 h.1 rfl dX8_carries_46 ?_
      replace h := h.2
      refine r_icmp_lt (tgt := 85) ok dX8_carries_47 rfl (fun hc4 => ?_) (fun hc4 => ?_)
      · replace h := h.1 hc4
        exact w_B_X8_carries_85 ok hret hk24 h
      · replace h := h.2 hc4
        refine r_iload ok dX8_carries_50 3 rfl ?_
        refine r_aload_n ok dX8_carries_52 0 rfl ?_
        refine gf_X8_57 ok dX8_carries_53 ?_
        refine r_iload_n ok dX8_carries_56 2 rfl ?_
        refine r_iald ok ai_86 h.1 rfl dX8_carries_57 ?_
        replace h := h.2
        refine r_icmp_ne (tgt := 107) ok dX8_carries_58 rfl (fun hc5 => ?_) (fun hc5 => ?_)
        · replace h := h.1 hc5
          refine r_iinc (v := x3 + 1) ok dX8_carries_107 2 rfl rfl (by decide) [(0, .ref (xad X 71)), (2, .int x2), (3, .int (x3 + 1))] [1, 2, 0] rfl ?_
          refine r_goto (tgt := 24) ok dX8_carries_110 rfl ?_
          exact hk24 _ _ _ h
        · replace h := h.2 hc5
          refine r_iload ok dX8_carries_61 3 rfl ?_
          refine r_ldc (v := 100000000) ok dX8_carries_63 tw_k_X8_223 ?_
          refine r_icmp_ge (tgt := 107) ok dX8_carries_65 rfl (fun hc6 => ?_) (fun hc6 => ?_)
          · replace h := h.1 hc6
            refine r_iinc (v := x3 + 1) ok dX8_carries_107 2 rfl rfl (by decide) [(0, .ref (xad X 71)), (2, .int x2), (3, .int (x3 + 1))] [1, 2, 0] rfl ?_
            refine r_goto (tgt := 24) ok dX8_carries_110 rfl ?_
            exact hk24 _ _ _ h
          · replace h := h.2 hc6
            refine r_aload_n ok dX8_carries_68 0 rfl ?_
            refine gf_X8_60 ok dX8_carries_69 ?_
            refine r_iload_n ok dX8_carries_72 1 rfl ?_
            refine r_iald ok ai_87 h.1 rfl dX8_carries_73 ?_
            replace h := h.2
            refine r_iconst (v := 1) ok dX8_carries_74 rfl ?_
            refine r_iadd ok dX8_carries_75 ?_
            refine r_aload_n ok dX8_carries_76 0 rfl ?_
            refine gf_X8_60 ok dX8_carries_77 ?_
            refine r_iload_n ok dX8_carries_80 2 rfl ?_
            refine r_iald ok ai_87 h.1 rfl dX8_carries_81 ?_
            replace h := h.2
            refine r_icmp_ge (tgt := 107) ok dX8_carries_82 rfl (fun hc7 => ?_) (fun hc7 => ?_)
            · replace h := h.1 hc7
              refine r_iinc (v := x3 + 1) ok dX8_carries_107 2 rfl rfl (by decide) [(0, .ref (xad X 71)), (2, .int x2), (3, .int (x3 + 1))] [1, 2, 0] rfl ?_
              refine r_goto (tgt := 24) ok dX8_carries_110 rfl ?_
              exact hk24 _ _ _ h
            · replace h := h.2 hc7
              exact w_B_X8_carries_85 ok hret hk24 h
theorem w_wp_X8_carries {X : Cx} (ok : Ok X cX8_carries 5 RX8 4 103) {post : St → Prop} (hret : RetV X cX8_carries 5 post) {x1 x2 : Int32} {S : St} (h : wp_X8_carries x1 x2 S post) : Wp X 5 0 [(0, .ref (xad X 71)), (1, .int x1), (2, .int x2)] [] S := by
  unfold wp_X8_carries at h
  refine r_aload_n ok dX8_carries_0 0 rfl ?_
  refine r_iload_n ok dX8_carries_1 1 rfl ?_
  refine r_iload_n ok dX8_carries_2 2 rfl ?_
  refine r_aload_n ok dX8_carries_3 0 rfl ?_
  refine gf_X8_57 ok dX8_carries_4 ?_
  refine r_iload_n ok dX8_carries_7 2 rfl ?_
  refine r_iald ok ai_86 h.1 rfl dX8_carries_8 ?_
  replace h := h.2
  refine r_aload_n ok dX8_carries_9 0 rfl ?_
  refine gf_X8_26 ok dX8_carries_10 ?_
  refine r_iconst (v := 4) ok dX8_carries_13 rfl ?_
  refine r_iload_n ok dX8_carries_14 1 rfl ?_
  refine r_imul ok dX8_carries_15 ?_
  refine r_iconst (v := 1) ok dX8_carries_16 rfl ?_
  refine r_iadd ok dX8_carries_17 ?_
  refine r_iald ok ai_76 h.1 rfl dX8_carries_18 ?_
  replace h := h.2
  refine cl_X8_231 ok dX8_carries_19 (by decide) (Nat.le_of_ble_eq_true rfl) h (fun S1 h => ?_)
  refine r_iconst (v := 0) ok dX8_carries_22 rfl ?_
  refine r_istore_n ok dX8_carries_23 (by decide) [(0, .ref (xad X 71)), (2, .int x2), (3, .int 0)] [1, 3, 0] rfl ?_
  exact w_B_X8_carries_24 ok hret h
theorem c_X8_carries (l : Launch) (G : Gx) {x1 x2 : Int32} {S : St} {post : St → Prop} (h : wp_X8_carries x1 x2 S post) : MtV l yX8_carries cX8_carries 5 4 103 G [.ref (G.2.2 71), .int x1, .int x2] S post :=
  ctV (by decide) rfl (Nat.le_of_ble_eq_true rfl) (fun X _ hG ok hret => by subst hG; exact w_wp_X8_carries ok hret h)

/-! HasteRoadsModel.relay(III)I -/
theorem dX8_relay_0 : decode cX8_relay 0 = .ok (.aload_n 0, 1) := by decide +kernel
theorem dX8_relay_1 : decode cX8_relay 1 = .ok (.iconst 0, 1) := by decide +kernel
theorem dX8_relay_2 : decode cX8_relay 2 = .ok (.putfield 75, 3) := by decide +kernel
theorem dX8_relay_5 : decode cX8_relay 5 = .ok (.aload_n 0, 1) := by decide +kernel
theorem dX8_relay_6 : decode cX8_relay 6 = .ok (.iload_n 1, 1) := by decide +kernel
theorem dX8_relay_7 : decode cX8_relay 7 = .ok (.invokevirtual 185, 3) := by decide +kernel
theorem dX8_relay_10 : decode cX8_relay 10 = .ok (.ifCond .eq 16, 3) := by decide +kernel
theorem dX8_relay_13 : decode cX8_relay 13 = .ok (.aload_n 0, 1) := by decide +kernel
theorem dX8_relay_14 : decode cX8_relay 14 = .ok (.iload_n 2, 1) := by decide +kernel
theorem dX8_relay_15 : decode cX8_relay 15 = .ok (.invokevirtual 185, 3) := by decide +kernel
theorem dX8_relay_18 : decode cX8_relay 18 = .ok (.ifCond .eq 8, 3) := by decide +kernel
theorem dX8_relay_21 : decode cX8_relay 21 = .ok (.iload_n 1, 1) := by decide +kernel
theorem dX8_relay_22 : decode cX8_relay 22 = .ok (.iload_n 2, 1) := by decide +kernel
theorem dX8_relay_23 : decode cX8_relay 23 = .ok (.if_icmp .ne 6, 3) := by decide +kernel
theorem dX8_relay_26 : decode cX8_relay 26 = .ok (.ldc 174, 2) := by decide +kernel
theorem dX8_relay_28 : decode cX8_relay 28 = .ok (.ireturn, 1) := by decide +kernel
theorem dX8_relay_29 : decode cX8_relay 29 = .ok (.iload_n 3, 1) := by decide +kernel
theorem dX8_relay_30 : decode cX8_relay 30 = .ok (.iconst 0, 1) := by decide +kernel
theorem dX8_relay_31 : decode cX8_relay 31 = .ok (.iconst 1, 1) := by decide +kernel
theorem dX8_relay_32 : decode cX8_relay 32 = .ok (.invokestatic 78, 3) := by decide +kernel
theorem dX8_relay_35 : decode cX8_relay 35 = .ok (.ifCond .ne 6, 3) := by decide +kernel
theorem dX8_relay_38 : decode cX8_relay 38 = .ok (.ldc 82, 2) := by decide +kernel
theorem dX8_relay_40 : decode cX8_relay 40 = .ok (.ireturn, 1) := by decide +kernel
theorem dX8_relay_41 : decode cX8_relay 41 = .ok (.aload_n 0, 1) := by decide +kernel
theorem dX8_relay_42 : decode cX8_relay 42 = .ok (.invokevirtual 238, 3) := by decide +kernel
theorem dX8_relay_45 : decode cX8_relay 45 = .ok (.iconst 0, 1) := by decide +kernel
theorem dX8_relay_46 : decode cX8_relay 46 = .ok (.istore 4, 2) := by decide +kernel
theorem dX8_relay_48 : decode cX8_relay 48 = .ok (.iload 4, 2) := by decide +kernel
theorem dX8_relay_50 : decode cX8_relay 50 = .ok (.bipush 6, 2) := by decide +kernel
theorem dX8_relay_52 : decode cX8_relay 52 = .ok (.if_icmp .ge 44, 3) := by decide +kernel
theorem dX8_relay_55 : decode cX8_relay 55 = .ok (.aload_n 0, 1) := by decide +kernel
theorem dX8_relay_56 : decode cX8_relay 56 = .ok (.getfield 57, 3) := by decide +kernel
theorem dX8_relay_59 : decode cX8_relay 59 = .ok (.iload 4, 2) := by decide +kernel
theorem dX8_relay_61 : decode cX8_relay 61 = .ok (.iload 4, 2) := by decide +kernel
theorem dX8_relay_63 : decode cX8_relay 63 = .ok (.iload_n 1, 1) := by decide +kernel
theorem dX8_relay_64 : decode cX8_relay 64 = .ok (.if_icmp .ne 7, 3) := by decide +kernel
theorem dX8_relay_67 : decode cX8_relay 67 = .ok (.iconst 0, 1) := by decide +kernel
theorem dX8_relay_68 : decode cX8_relay 68 = .ok (.goto 5, 3) := by decide +kernel
theorem dX8_relay_71 : decode cX8_relay 71 = .ok (.ldc 223, 2) := by decide +kernel
theorem dX8_relay_73 : decode cX8_relay 73 = .ok (.iastore, 1) := by decide +kernel
theorem dX8_relay_74 : decode cX8_relay 74 = .ok (.aload_n 0, 1) := by decide +kernel
theorem dX8_relay_75 : decode cX8_relay 75 = .ok (.getfield 60, 3) := by decide +kernel
theorem dX8_relay_78 : decode cX8_relay 78 = .ok (.iload 4, 2) := by decide +kernel
theorem dX8_relay_80 : decode cX8_relay 80 = .ok (.iconst 0, 1) := by decide +kernel
theorem dX8_relay_81 : decode cX8_relay 81 = .ok (.iastore, 1) := by decide +kernel
theorem dX8_relay_82 : decode cX8_relay 82 = .ok (.aload_n 0, 1) := by decide +kernel
theorem dX8_relay_83 : decode cX8_relay 83 = .ok (.getfield 63, 3) := by decide +kernel
theorem dX8_relay_86 : decode cX8_relay 86 = .ok (.iload 4, 2) := by decide +kernel
theorem dX8_relay_88 : decode cX8_relay 88 = .ok (.iconst 0, 1) := by decide +kernel
theorem dX8_relay_89 : decode cX8_relay 89 = .ok (.bastore, 1) := by decide +kernel
theorem dX8_relay_90 : decode cX8_relay 90 = .ok (.iinc 4 1, 3) := by decide +kernel
theorem dX8_relay_93 : decode cX8_relay 93 = .ok (.goto (-45), 3) := by decide +kernel
theorem dX8_relay_96 : decode cX8_relay 96 = .ok (.iload_n 1, 1) := by decide +kernel
theorem dX8_relay_97 : decode cX8_relay 97 = .ok (.istore 4, 2) := by decide +kernel
theorem dX8_relay_99 : decode cX8_relay 99 = .ok (.iload 4, 2) := by decide +kernel
theorem dX8_relay_101 : decode cX8_relay 101 = .ok (.iconst (-1), 1) := by decide +kernel
theorem dX8_relay_102 : decode cX8_relay 102 = .ok (.if_icmp .eq 60, 3) := by decide +kernel
theorem dX8_relay_105 : decode cX8_relay 105 = .ok (.aload_n 0, 1) := by decide +kernel
theorem dX8_relay_106 : decode cX8_relay 106 = .ok (.getfield 63, 3) := by decide +kernel
theorem dX8_relay_109 : decode cX8_relay 109 = .ok (.iload 4, 2) := by decide +kernel
theorem dX8_relay_111 : decode cX8_relay 111 = .ok (.iconst 1, 1) := by decide +kernel
theorem dX8_relay_112 : decode cX8_relay 112 = .ok (.bastore, 1) := by decide +kernel
theorem dX8_relay_113 : decode cX8_relay 113 = .ok (.iconst 0, 1) := by decide +kernel
theorem dX8_relay_114 : decode cX8_relay 114 = .ok (.istore 5, 2) := by decide +kernel
theorem dX8_relay_116 : decode cX8_relay 116 = .ok (.iload 5, 2) := by decide +kernel
theorem dX8_relay_118 : decode cX8_relay 118 = .ok (.aload_n 0, 1) := by decide +kernel
theorem dX8_relay_119 : decode cX8_relay 119 = .ok (.getfield 161, 3) := by decide +kernel
theorem dX8_relay_122 : decode cX8_relay 122 = .ok (.if_icmp .ge 31, 3) := by decide +kernel
theorem dX8_relay_125 : decode cX8_relay 125 = .ok (.aload_n 0, 1) := by decide +kernel
theorem dX8_relay_126 : decode cX8_relay 126 = .ok (.getfield 26, 3) := by decide +kernel
theorem dX8_relay_129 : decode cX8_relay 129 = .ok (.iconst 4, 1) := by decide +kernel
theorem dX8_relay_130 : decode cX8_relay 130 = .ok (.iload 5, 2) := by decide +kernel
theorem dX8_relay_132 : decode cX8_relay 132 = .ok (.imul, 1) := by decide +kernel
theorem dX8_relay_133 : decode cX8_relay 133 = .ok (.iaload, 1) := by decide +kernel
theorem dX8_relay_134 : decode cX8_relay 134 = .ok (.iload 4, 2) := by decide +kernel
theorem dX8_relay_136 : decode cX8_relay 136 = .ok (.if_icmp .ne 11, 3) := by decide +kernel
theorem dX8_relay_139 : decode cX8_relay 139 = .ok (.aload_n 0, 1) := by decide +kernel
theorem dX8_relay_140 : decode cX8_relay 140 = .ok (.iload 5, 2) := by decide +kernel
theorem dX8_relay_142 : decode cX8_relay 142 = .ok (.iload 4, 2) := by decide +kernel
theorem dX8_relay_144 : decode cX8_relay 144 = .ok (.invokevirtual 269, 3) := by decide +kernel
theorem dX8_relay_147 : decode cX8_relay 147 = .ok (.iinc 5 1, 3) := by decide +kernel
theorem dX8_relay_150 : decode cX8_relay 150 = .ok (.goto (-34), 3) := by decide +kernel
theorem dX8_relay_153 : decode cX8_relay 153 = .ok (.aload_n 0, 1) := by decide +kernel
theorem dX8_relay_154 : decode cX8_relay 154 = .ok (.invokevirtual 272, 3) := by decide +kernel
theorem dX8_relay_157 : decode cX8_relay 157 = .ok (.istore 4, 2) := by decide +kernel
theorem dX8_relay_159 : decode cX8_relay 159 = .ok (.goto (-60), 3) := by decide +kernel
theorem dX8_relay_162 : decode cX8_relay 162 = .ok (.aload_n 0, 1) := by decide +kernel
theorem dX8_relay_163 : decode cX8_relay 163 = .ok (.getfield 57, 3) := by decide +kernel
theorem dX8_relay_166 : decode cX8_relay 166 = .ok (.iload_n 2, 1) := by decide +kernel
theorem dX8_relay_167 : decode cX8_relay 167 = .ok (.iaload, 1) := by decide +kernel
theorem dX8_relay_168 : decode cX8_relay 168 = .ok (.ldc 223, 2) := by decide +kernel
theorem dX8_relay_170 : decode cX8_relay 170 = .ok (.if_icmp .ne 7, 3) := by decide +kernel
theorem dX8_relay_173 : decode cX8_relay 173 = .ok (.iconst (-1), 1) := by decide +kernel
theorem dX8_relay_174 : decode cX8_relay 174 = .ok (.goto 22, 3) := by decide +kernel
theorem dX8_relay_177 : decode cX8_relay 177 = .ok (.iload_n 3, 1) := by decide +kernel
theorem dX8_relay_178 : decode cX8_relay 178 = .ok (.ifCond .ne 12, 3) := by decide +kernel
theorem dX8_relay_181 : decode cX8_relay 181 = .ok (.aload_n 0, 1) := by decide +kernel
theorem dX8_relay_182 : decode cX8_relay 182 = .ok (.getfield 57, 3) := by decide +kernel
theorem dX8_relay_185 : decode cX8_relay 185 = .ok (.iload_n 2, 1) := by decide +kernel
theorem dX8_relay_186 : decode cX8_relay 186 = .ok (.iaload, 1) := by decide +kernel
theorem dX8_relay_187 : decode cX8_relay 187 = .ok (.goto 9, 3) := by decide +kernel
theorem dX8_relay_190 : decode cX8_relay 190 = .ok (.aload_n 0, 1) := by decide +kernel
theorem dX8_relay_191 : decode cX8_relay 191 = .ok (.getfield 60, 3) := by decide +kernel
theorem dX8_relay_194 : decode cX8_relay 194 = .ok (.iload_n 2, 1) := by decide +kernel
theorem dX8_relay_195 : decode cX8_relay 195 = .ok (.iaload, 1) := by decide +kernel
theorem dX8_relay_196 : decode cX8_relay 196 = .ok (.ireturn, 1) := by decide +kernel
theorem cl_X8_269 {X : Cx} {cc : ByteArray} {nL pc fr lo : Nat} {L : List (Nat × Value)} {st : List Value} {S : St} (ok : Ok X cc nL RX8 fr lo) {x1 x2 : Int32} (d : decode cc pc = .ok (.invokevirtual 269, 3)) (hroom : 5 ≤ fr ∧ 127 ≤ lo) (hst : (st.map fun v => v.category).sum ≤ 8) {post : St → Prop} (h : wp_X8_carries x1 x2 S post) (kk : ∀ S1 : St, post S1 → Wp X nL (pc + 3) L st S1) : Wp X nL pc L (.int x2 :: .int x1 :: .ref (xad X 71) :: st) S :=
  r_callVv (n := 5) (f := 4) (lo1 := 103) (N := 2) (As := [.int x1, .int x2]) ok tw_in_X8 tw_im_X8_carries tw_se_X8_carries tw_co_X8_carries tw_ml_X8_269 (by decide +kernel) rfl ob_71 rfl hroom hst d rfl (c_X8_carries (xl X) (xG X) h) kk
theorem cl_X8_272 {X : Cx} {cc : ByteArray} {nL pc fr lo : Nat} {L : List (Nat × Value)} {st : List Value} {S : St} (ok : Ok X cc nL RX8 fr lo) (d : decode cc pc = .ok (.invokevirtual 272, 3)) (hroom : 1 ≤ fr ∧ 22 ≤ lo) (hst : (st.map fun v => v.category).sum ≤ 8) {post : Int32 → St → Prop} (h : wp_X8_nextPlace S post) (kk : ∀ (r : Int32) (S1 : St), post r S1 → Wp X nL (pc + 3) L (.int r :: st) S1) : Wp X nL pc L (.ref (xad X 71) :: st) S :=
  r_callVi (n := 3) (f := 0) (lo1 := 0) (N := 0) (As := []) ok tw_in_X8 tw_im_X8_nextPlace tw_se_X8_nextPlace tw_co_X8_nextPlace tw_ml_X8_272 (by decide +kernel) rfl ob_71 rfl hroom hst d rfl (c_X8_nextPlace (xl X) (xG X) h) kk
def B_X8_relay_162 (post : Int32 → St → Prop) (x2 : Int32) (x3 : Int32) (S : St) : Prop :=
  vp_in x2 6 ∧ (((¬ (S 86 (ix x2)) = 100000000 → ((¬ x3 = 0 → vp_in x2 6 ∧ (post (S 87 (ix x2)) S)) ∧ (x3 = 0 → vp_in x2 6 ∧ (post (S 86 (ix x2)) S)))) ∧ ((S 86 (ix x2)) = 100000000 → post (-1) S)))
def B_X8_relay_153 (k99 : Int32 → Int32 → Int32 → St → Prop) (post : Int32 → St → Prop) (x2 : Int32) (x3 : Int32) (S : St) : Prop :=
  wp_X8_nextPlace S (fun r2 S1 => k99 x2 x3 r2 S1)
def BD_X8_relay_116 (k99 : Int32 → Int32 → Int32 → St → Prop) (k116 : Int32 → Int32 → Int32 → Int32 → St → Prop) (post : Int32 → St → Prop) (x2 : Int32) (x3 : Int32) (x4 : Int32) (x5 : Int32) (S : St) : Prop :=
  (((S 71 12) ≤ x5 → B_X8_relay_153 k99 post x2 x3 S) ∧ (¬ (S 71 12) ≤ x5 → vp_in ((4 : Int32) * x5) 28 ∧ (((¬ (S 76 (ix ((4 : Int32) * x5))) = x4 → k116 x2 x3 x4 (x5 + 1) S) ∧ ((S 76 (ix ((4 : Int32) * x5))) = x4 → wp_X8_carries x5 x4 S (fun S3 => k116 x2 x3 x4 (x5 + 1) S3))))))
def L_X8_relay_116 (k99 : Int32 → Int32 → Int32 → St → Prop) (post : Int32 → St → Prop) (n : Nat) : Int32 → Int32 → Int32 → Int32 → St → Prop := Nat.rec (motive := fun _ => Int32 → Int32 → Int32 → Int32 → St → Prop) (fun _ _ _ _ _ => False) (fun _ ih => BD_X8_relay_116 k99 ih post) n
def B_X8_relay_116 (k99 : Int32 → Int32 → Int32 → St → Prop) (post : Int32 → St → Prop) (x2 : Int32) (x3 : Int32) (x4 : Int32) (x5 : Int32) (S : St) : Prop := ∃ n, L_X8_relay_116 k99 post n x2 x3 x4 x5 S
def BD_X8_relay_99 (k99 : Int32 → Int32 → Int32 → St → Prop) (post : Int32 → St → Prop) (x2 : Int32) (x3 : Int32) (x4 : Int32) (S : St) : Prop :=
  ((x4 = (-1) → B_X8_relay_162 post x2 x3 S) ∧ (¬ x4 = (-1) → vp_in x4 6 ∧ (∀ S2 : St, S2 = up S 88 (ix x4) 1 → B_X8_relay_116 k99 post x2 x3 x4 0 S2)))
def L_X8_relay_99 (post : Int32 → St → Prop) (n : Nat) : Int32 → Int32 → Int32 → St → Prop := Nat.rec (motive := fun _ => Int32 → Int32 → Int32 → St → Prop) (fun _ _ _ _ => False) (fun _ ih => BD_X8_relay_99 ih post) n
def B_X8_relay_99 (post : Int32 → St → Prop) (x2 : Int32) (x3 : Int32) (x4 : Int32) (S : St) : Prop := ∃ n, L_X8_relay_99 post n x2 x3 x4 S
def B_X8_relay_73 (k48 : Int32 → Int32 → Int32 → Int32 → St → Prop) (post : Int32 → St → Prop) (x1 : Int32) (x2 : Int32) (x3 : Int32) (x4 : Int32) (s0 : Int32) (s1 : Int32) (S : St) : Prop :=
  vp_in s1 6 ∧ (∀ S1 : St, S1 = up S 86 (ix s1) s0 → vp_in x4 6 ∧ (∀ S3 : St, S3 = up S1 87 (ix x4) 0 → vp_in x4 6 ∧ (∀ S5 : St, S5 = up S3 88 (ix x4) 0 → k48 x1 x2 x3 (x4 + 1) S5)))
def BD_X8_relay_48 (k48 : Int32 → Int32 → Int32 → Int32 → St → Prop) (post : Int32 → St → Prop) (x1 : Int32) (x2 : Int32) (x3 : Int32) (x4 : Int32) (S : St) : Prop :=
  ((6 ≤ x4 → B_X8_relay_99 post x2 x3 x1 S) ∧ (¬ 6 ≤ x4 → ((¬ x4 = x1 → B_X8_relay_73 k48 post x1 x2 x3 x4 100000000 x4 S) ∧ (x4 = x1 → B_X8_relay_73 k48 post x1 x2 x3 x4 0 x4 S))))
def L_X8_relay_48 (post : Int32 → St → Prop) (n : Nat) : Int32 → Int32 → Int32 → Int32 → St → Prop := Nat.rec (motive := fun _ => Int32 → Int32 → Int32 → Int32 → St → Prop) (fun _ _ _ _ _ => False) (fun _ ih => BD_X8_relay_48 ih post) n
def B_X8_relay_48 (post : Int32 → St → Prop) (x1 : Int32) (x2 : Int32) (x3 : Int32) (x4 : Int32) (S : St) : Prop := ∃ n, L_X8_relay_48 post n x1 x2 x3 x4 S
def wp_X8_relay (x1 : Int32) (x2 : Int32) (x3 : Int32) (S : St) (post : Int32 → St → Prop) : Prop :=
  ∀ S1 : St, S1 = up S 71 0 0 → wp_X8_isPlace x1 S1 (fun r3 S2 => ((r3 = 0 → post (-1000000001) S2) ∧ (¬ r3 = 0 → wp_X8_isPlace x2 S2 (fun r6 S5 => ((r6 = 0 → post (-1000000001) S5) ∧ (¬ r6 = 0 → ((¬ x1 = x2 → wp_X8_in x3 0 1 S5 (fun r10 S9 => ((¬ r10 = 0 → wp_X8_asNow S9 (fun S12 => B_X8_relay_48 post x1 x2 x3 0 S12)) ∧ (r10 = 0 → post (-1000000002) S9)))) ∧ (x1 = x2 → post (-1000000001) S5))))))))
theorem w_B_X8_relay_162 {X : Cx} (ok : Ok X cX8_relay 6 RX8 5 127) {post : Int32 → St → Prop} (hret : RetI X cX8_relay 6 post) {x2 x3 : Int32} {S : St} (h : B_X8_relay_162 post x2 x3 S) : Wp X 6 162 [(0, .ref (xad X 71)), (2, .int x2), (3, .int x3)] [] S := by
  unfold B_X8_relay_162 at h
  refine r_aload_n ok dX8_relay_162 0 rfl ?_
  refine gf_X8_57 ok dX8_relay_163 ?_
  refine r_iload_n ok dX8_relay_166 1 rfl ?_
  refine r_iald ok ai_86 h.1 rfl dX8_relay_167 ?_
  replace h := h.2
  refine r_ldc (v := 100000000) ok dX8_relay_168 tw_k_X8_223 ?_
  refine r_icmp_ne (tgt := 177) ok dX8_relay_170 rfl (fun hc1 => ?_) (fun hc1 => ?_)
  · replace h := h.1 hc1
    refine r_iload_n ok dX8_relay_177 2 rfl ?_
    refine r_if_ne (tgt := 190) ok dX8_relay_178 rfl (fun hc2 => ?_) (fun hc2 => ?_)
    · replace h := h.1 hc2
      refine r_aload_n ok dX8_relay_190 0 rfl ?_
      refine gf_X8_60 ok dX8_relay_191 ?_
      refine r_iload_n ok dX8_relay_194 1 rfl ?_
      refine r_iald ok ai_87 h.1 rfl dX8_relay_195 ?_
      replace h := h.2
      exact hret _ _ _ _ dX8_relay_196 h
    · replace h := h.2 hc2
      refine r_aload_n ok dX8_relay_181 0 rfl ?_
      refine gf_X8_57 ok dX8_relay_182 ?_
      refine r_iload_n ok dX8_relay_185 1 rfl ?_
      refine r_iald ok ai_86 h.1 rfl dX8_relay_186 ?_
      replace h := h.2
      refine r_goto (tgt := 196) ok dX8_relay_187 rfl ?_
      exact hret _ _ _ _ dX8_relay_196 h
  · replace h := h.2 hc1
    refine r_iconst (v := (-1)) ok dX8_relay_173 rfl ?_
    refine r_goto (tgt := 196) ok dX8_relay_174 rfl ?_
    exact hret _ _ _ _ dX8_relay_196 h
theorem w_B_X8_relay_153 {X : Cx} (ok : Ok X cX8_relay 6 RX8 5 127) {post : Int32 → St → Prop} (hret : RetI X cX8_relay 6 post) {k99 : Int32 → Int32 → Int32 → St → Prop} (hk99 : ∀ x2 x3 x4 S, k99 x2 x3 x4 S → Wp X 6 99 [(0, .ref (xad X 71)), (2, .int x2), (3, .int x3), (4, .int x4)] [] S) {x2 x3 : Int32} {S : St} (h : B_X8_relay_153 k99 post x2 x3 S) : Wp X 6 153 [(0, .ref (xad X 71)), (2, .int x2), (3, .int x3)] [] S := by
  unfold B_X8_relay_153 at h
  refine r_aload_n ok dX8_relay_153 0 rfl ?_
  refine cl_X8_272 ok dX8_relay_154 (by decide) (Nat.le_of_ble_eq_true rfl) h (fun r2 S1 h => ?_)
  refine r_istore ok dX8_relay_157 (by decide) [(0, .ref (xad X 71)), (2, .int x2), (3, .int x3), (4, .int r2)] [1, 2, 3, 0] rfl ?_
  refine r_goto (tgt := 99) ok dX8_relay_159 rfl ?_
  exact hk99 _ _ _ _ h
theorem w_B_X8_relay_116 {X : Cx} (ok : Ok X cX8_relay 6 RX8 5 127) {post : Int32 → St → Prop} (hret : RetI X cX8_relay 6 post) {k99 : Int32 → Int32 → Int32 → St → Prop} (hk99 : ∀ x2 x3 x4 S, k99 x2 x3 x4 S → Wp X 6 99 [(0, .ref (xad X 71)), (2, .int x2), (3, .int x3), (4, .int x4)] [] S) {x2 x3 x4 x5 : Int32} {S : St} (h : B_X8_relay_116 k99 post x2 x3 x4 x5 S) : Wp X 6 116 [(0, .ref (xad X 71)), (2, .int x2), (3, .int x3), (4, .int x4), (5, .int x5)] [] S := by
  obtain ⟨n, h⟩ := h
  induction n generalizing x2 x3 x4 x5 S with
  | zero => exact False.elim h
  | succ n ih =>
    have hk116 : ∀ x2 x3 x4 x5 S, L_X8_relay_116 k99 post n x2 x3 x4 x5 S → Wp X 6 116 [(0, .ref (xad X 71)), (2, .int x2), (3, .int x3), (4, .int x4), (5, .int x5)] [] S := by intros; apply ih; assumption
    replace h : BD_X8_relay_116 k99 (L_X8_relay_116 k99 post n) post x2 x3 x4 x5 S := h
    unfold BD_X8_relay_116 at h
    generalize L_X8_relay_116 k99 post n = k116 at h hk116
    refine r_iload ok dX8_relay_116 4 rfl ?_
    refine r_aload_n ok dX8_relay_118 0 rfl ?_
    refine gf_X8_161 ok dX8_relay_119 ?_
    refine r_icmp_ge (tgt := 153) ok dX8_relay_122 rfl (fun hc1 => ?_) (fun hc1 => ?_)
    · replace h := h.1 hc1
      refine r_sub [(0, .ref (xad X 71)), (2, .int x2), (3, .int x3)] [0, 1, 2] rfl ?_
      exact w_B_X8_relay_153 ok hret hk99 h
    · replace h := h.2 hc1
      refine r_aload_n ok dX8_relay_125 0 rfl ?_
      refine gf_X8_26 ok dX8_relay_126 ?_
      refine r_iconst (v := 4) ok dX8_relay_129 rfl ?_
      refine r_iload ok dX8_relay_130 4 rfl ?_
      refine r_imul ok dX8_relay_132 ?_
      refine r_iald ok ai_76 h.1 rfl dX8_relay_133 ?_
      replace h := h.2
      refine r_iload ok dX8_relay_134 3 rfl ?_
      refine r_icmp_ne (tgt := 147) ok dX8_relay_136 rfl (fun hc2 => ?_) (fun hc2 => ?_)
      · replace h := h.1 hc2
        refine r_iinc (v := x5 + 1) ok dX8_relay_147 4 rfl rfl (by decide) [(0, .ref (xad X 71)), (2, .int x2), (3, .int x3), (4, .int x4), (5, .int (x5 + 1))] [1, 2, 3, 4, 0] rfl ?_
        refine r_goto (tgt := 116) ok dX8_relay_150 rfl ?_
        exact hk116 _ _ _ _ _ h
      · replace h := h.2 hc2
        refine r_aload_n ok dX8_relay_139 0 rfl ?_
        refine r_iload ok dX8_relay_140 4 rfl ?_
        refine r_iload ok dX8_relay_142 3 rfl ?_
        refine cl_X8_269 ok dX8_relay_144 (by decide) (Nat.le_of_ble_eq_true rfl) h (fun S3 h => ?_)
        refine r_iinc (v := x5 + 1) ok dX8_relay_147 4 rfl rfl (by decide) [(0, .ref (xad X 71)), (2, .int x2), (3, .int x3), (4, .int x4), (5, .int (x5 + 1))] [1, 2, 3, 4, 0] rfl ?_
        refine r_goto (tgt := 116) ok dX8_relay_150 rfl ?_
        exact hk116 _ _ _ _ _ h
theorem w_B_X8_relay_99 {X : Cx} (ok : Ok X cX8_relay 6 RX8 5 127) {post : Int32 → St → Prop} (hret : RetI X cX8_relay 6 post) {x2 x3 x4 : Int32} {S : St} (h : B_X8_relay_99 post x2 x3 x4 S) : Wp X 6 99 [(0, .ref (xad X 71)), (2, .int x2), (3, .int x3), (4, .int x4)] [] S := by
  obtain ⟨n, h⟩ := h
  induction n generalizing x2 x3 x4 S with
  | zero => exact False.elim h
  | succ n ih =>
    have hk99 : ∀ x2 x3 x4 S, L_X8_relay_99 post n x2 x3 x4 S → Wp X 6 99 [(0, .ref (xad X 71)), (2, .int x2), (3, .int x3), (4, .int x4)] [] S := by intros; apply ih; assumption
    replace h : BD_X8_relay_99 (L_X8_relay_99 post n) post x2 x3 x4 S := h
    unfold BD_X8_relay_99 at h
    generalize L_X8_relay_99 post n = k99 at h hk99
    refine r_iload ok dX8_relay_99 3 rfl ?_
    refine r_iconst (v := (-1)) ok dX8_relay_101 rfl ?_
    refine r_icmp_eq (tgt := 162) ok dX8_relay_102 rfl (fun hc1 => ?_) (fun hc1 => ?_)
    · replace h := h.1 hc1
      refine r_sub [(0, .ref (xad X 71)), (2, .int x2), (3, .int x3)] [0, 1, 2] rfl ?_
      exact w_B_X8_relay_162 ok hret h
    · replace h := h.2 hc1
      refine r_aload_n ok dX8_relay_105 0 rfl ?_
      refine gf_X8_63 ok dX8_relay_106 ?_
      refine r_iload ok dX8_relay_109 3 rfl ?_
      refine r_iconst (v := 1) ok dX8_relay_111 rfl ?_
      have hi3 := h.1
      replace h := h.2
      refine r_zast ok az_88 hi3 rfl (Or.inr rfl) dX8_relay_112 (fun S2 eS2 => ?_)
      replace h := h S2 eS2
      refine r_iconst (v := 0) ok dX8_relay_113 rfl ?_
      refine r_istore ok dX8_relay_114 (by decide) [(0, .ref (xad X 71)), (2, .int x2), (3, .int x3), (4, .int x4), (5, .int 0)] [1, 2, 3, 4, 0] rfl ?_
      exact w_B_X8_relay_116 ok hret hk99 h
theorem w_B_X8_relay_73 {X : Cx} (ok : Ok X cX8_relay 6 RX8 5 127) {post : Int32 → St → Prop} (hret : RetI X cX8_relay 6 post) {k48 : Int32 → Int32 → Int32 → Int32 → St → Prop} (hk48 : ∀ x1 x2 x3 x4 S, k48 x1 x2 x3 x4 S → Wp X 6 48 [(0, .ref (xad X 71)), (1, .int x1), (2, .int x2), (3, .int x3), (4, .int x4)] [] S) {x1 x2 x3 x4 s0 s1 : Int32} {S : St} (h : B_X8_relay_73 k48 post x1 x2 x3 x4 s0 s1 S) : Wp X 6 73 [(0, .ref (xad X 71)), (1, .int x1), (2, .int x2), (3, .int x3), (4, .int x4)] [.int s0, .int s1, .ref (xad X 86)] S := by
  unfold B_X8_relay_73 at h
  have hi2 := h.1
  replace h := h.2
  refine r_iast ok ai_86 hi2 rfl dX8_relay_73 (fun S1 eS1 => ?_)
  replace h := h S1 eS1
  refine r_aload_n ok dX8_relay_74 0 rfl ?_
  refine gf_X8_60 ok dX8_relay_75 ?_
  refine r_iload ok dX8_relay_78 4 rfl ?_
  refine r_iconst (v := 0) ok dX8_relay_80 rfl ?_
  have hi4 := h.1
  replace h := h.2
  refine r_iast ok ai_87 hi4 rfl dX8_relay_81 (fun S3 eS3 => ?_)
  replace h := h S3 eS3
  refine r_aload_n ok dX8_relay_82 0 rfl ?_
  refine gf_X8_63 ok dX8_relay_83 ?_
  refine r_iload ok dX8_relay_86 4 rfl ?_
  refine r_iconst (v := 0) ok dX8_relay_88 rfl ?_
  have hi6 := h.1
  replace h := h.2
  refine r_zast ok az_88 hi6 rfl (Or.inl rfl) dX8_relay_89 (fun S5 eS5 => ?_)
  replace h := h S5 eS5
  refine r_iinc (v := x4 + 1) ok dX8_relay_90 4 rfl rfl (by decide) [(0, .ref (xad X 71)), (1, .int x1), (2, .int x2), (3, .int x3), (4, .int (x4 + 1))] [1, 2, 3, 4, 0] rfl ?_
  refine r_goto (tgt := 48) ok dX8_relay_93 rfl ?_
  exact hk48 _ _ _ _ _ h
theorem w_B_X8_relay_48 {X : Cx} (ok : Ok X cX8_relay 6 RX8 5 127) {post : Int32 → St → Prop} (hret : RetI X cX8_relay 6 post) {x1 x2 x3 x4 : Int32} {S : St} (h : B_X8_relay_48 post x1 x2 x3 x4 S) : Wp X 6 48 [(0, .ref (xad X 71)), (1, .int x1), (2, .int x2), (3, .int x3), (4, .int x4)] [] S := by
  obtain ⟨n, h⟩ := h
  induction n generalizing x1 x2 x3 x4 S with
  | zero => exact False.elim h
  | succ n ih =>
    have hk48 : ∀ x1 x2 x3 x4 S, L_X8_relay_48 post n x1 x2 x3 x4 S → Wp X 6 48 [(0, .ref (xad X 71)), (1, .int x1), (2, .int x2), (3, .int x3), (4, .int x4)] [] S := by intros; apply ih; assumption
    replace h : BD_X8_relay_48 (L_X8_relay_48 post n) post x1 x2 x3 x4 S := h
    unfold BD_X8_relay_48 at h
    generalize L_X8_relay_48 post n = k48 at h hk48
    refine r_iload ok dX8_relay_48 4 rfl ?_
    refine r_bipush (v := 6) ok dX8_relay_50 rfl ?_
    refine r_icmp_ge (tgt := 96) ok dX8_relay_52 rfl (fun hc1 => ?_) (fun hc1 => ?_)
    · replace h := h.1 hc1
      refine r_iload_n ok dX8_relay_96 1 rfl ?_
      refine r_istore ok dX8_relay_97 (by decide) [(0, .ref (xad X 71)), (2, .int x2), (3, .int x3), (4, .int x1)] [1, 3, 4, 0] rfl ?_
      exact w_B_X8_relay_99 ok hret h
    · replace h := h.2 hc1
      refine r_aload_n ok dX8_relay_55 0 rfl ?_
      refine gf_X8_57 ok dX8_relay_56 ?_
      refine r_iload ok dX8_relay_59 4 rfl ?_
      refine r_iload ok dX8_relay_61 4 rfl ?_
      refine r_iload_n ok dX8_relay_63 1 rfl ?_
      refine r_icmp_ne (tgt := 71) ok dX8_relay_64 rfl (fun hc2 => ?_) (fun hc2 => ?_)
      · replace h := h.1 hc2
        refine r_ldc (v := 100000000) ok dX8_relay_71 tw_k_X8_223 ?_
        exact w_B_X8_relay_73 ok hret hk48 h
      · replace h := h.2 hc2
        refine r_iconst (v := 0) ok dX8_relay_67 rfl ?_
        refine r_goto (tgt := 73) ok dX8_relay_68 rfl ?_
        exact w_B_X8_relay_73 ok hret hk48 h
theorem w_wp_X8_relay {X : Cx} (ok : Ok X cX8_relay 6 RX8 5 127) {post : Int32 → St → Prop} (hret : RetI X cX8_relay 6 post) {x1 x2 x3 : Int32} {S : St} (h : wp_X8_relay x1 x2 x3 S post) : Wp X 6 0 [(0, .ref (xad X 71)), (1, .int x1), (2, .int x2), (3, .int x3)] [] S := by
  unfold wp_X8_relay at h
  refine r_aload_n ok dX8_relay_0 0 rfl ?_
  refine r_iconst (v := 0) ok dX8_relay_1 rfl ?_
  refine pf_X8_75 ok dX8_relay_2 (fun S1 eS1 => ?_)
  replace h := h S1 eS1
  refine r_aload_n ok dX8_relay_5 0 rfl ?_
  refine r_iload_n ok dX8_relay_6 1 rfl ?_
  refine cl_X8_185 ok dX8_relay_7 (by decide) (Nat.le_of_ble_eq_true rfl) h (fun r3 S2 h => ?_)
  refine r_if_eq (tgt := 26) ok dX8_relay_10 rfl (fun hc4 => ?_) (fun hc4 => ?_)
  · replace h := h.1 hc4
    refine r_ldc (v := (-1000000001)) ok dX8_relay_26 tw_k_X8_174 ?_
    exact hret _ _ _ _ dX8_relay_28 h
  · replace h := h.2 hc4
    refine r_aload_n ok dX8_relay_13 0 rfl ?_
    refine r_iload_n ok dX8_relay_14 2 rfl ?_
    refine cl_X8_185 ok dX8_relay_15 (by decide) (Nat.le_of_ble_eq_true rfl) h (fun r6 S5 h => ?_)
    refine r_if_eq (tgt := 26) ok dX8_relay_18 rfl (fun hc7 => ?_) (fun hc7 => ?_)
    · replace h := h.1 hc7
      refine r_ldc (v := (-1000000001)) ok dX8_relay_26 tw_k_X8_174 ?_
      exact hret _ _ _ _ dX8_relay_28 h
    · replace h := h.2 hc7
      refine r_iload_n ok dX8_relay_21 1 rfl ?_
      refine r_iload_n ok dX8_relay_22 2 rfl ?_
      refine r_icmp_ne (tgt := 29) ok dX8_relay_23 rfl (fun hc8 => ?_) (fun hc8 => ?_)
      · replace h := h.1 hc8
        refine r_iload_n ok dX8_relay_29 3 rfl ?_
        refine r_iconst (v := 0) ok dX8_relay_30 rfl ?_
        refine r_iconst (v := 1) ok dX8_relay_31 rfl ?_
        refine cl_X8_78 ok dX8_relay_32 (by decide) (Nat.le_of_ble_eq_true rfl) h (fun r10 S9 h => ?_)
        refine r_if_ne (tgt := 41) ok dX8_relay_35 rfl (fun hc11 => ?_) (fun hc11 => ?_)
        · replace h := h.1 hc11
          refine r_aload_n ok dX8_relay_41 0 rfl ?_
          refine cl_X8_238 ok dX8_relay_42 (by decide) (Nat.le_of_ble_eq_true rfl) h (fun S12 h => ?_)
          refine r_iconst (v := 0) ok dX8_relay_45 rfl ?_
          refine r_istore ok dX8_relay_46 (by decide) [(0, .ref (xad X 71)), (1, .int x1), (2, .int x2), (3, .int x3), (4, .int 0)] [1, 2, 3, 4, 0] rfl ?_
          exact w_B_X8_relay_48 ok hret h
        · replace h := h.2 hc11
          refine r_ldc (v := (-1000000002)) ok dX8_relay_38 tw_k_X8_82 ?_
          exact hret _ _ _ _ dX8_relay_40 h
      · replace h := h.2 hc8
        refine r_ldc (v := (-1000000001)) ok dX8_relay_26 tw_k_X8_174 ?_
        exact hret _ _ _ _ dX8_relay_28 h
theorem c_X8_relay (l : Launch) (G : Gx) {x1 x2 x3 : Int32} {S : St} {post : Int32 → St → Prop} (h : wp_X8_relay x1 x2 x3 S post) : MtI l yX8_relay cX8_relay 6 (some .int) 5 127 G [.ref (G.2.2 71), .int x1, .int x2, .int x3] S post :=
  ctI (by decide) rfl (Nat.le_of_ble_eq_true rfl) (fun X _ hG ok hret => by subst hG; exact w_wp_X8_relay ok hret h)

/-! HasteRoadsModel.meet(III)I -/
theorem dX8_meet_0 : decode cX8_meet 0 = .ok (.aload_n 0, 1) := by decide +kernel
theorem dX8_meet_1 : decode cX8_meet 1 = .ok (.iconst 0, 1) := by decide +kernel
theorem dX8_meet_2 : decode cX8_meet 2 = .ok (.putfield 75, 3) := by decide +kernel
theorem dX8_meet_5 : decode cX8_meet 5 = .ok (.aload_n 0, 1) := by decide +kernel
theorem dX8_meet_6 : decode cX8_meet 6 = .ok (.iload_n 1, 1) := by decide +kernel
theorem dX8_meet_7 : decode cX8_meet 7 = .ok (.invokevirtual 182, 3) := by decide +kernel
theorem dX8_meet_10 : decode cX8_meet 10 = .ok (.ifCond .eq 16, 3) := by decide +kernel
theorem dX8_meet_13 : decode cX8_meet 13 = .ok (.aload_n 0, 1) := by decide +kernel
theorem dX8_meet_14 : decode cX8_meet 14 = .ok (.iload_n 2, 1) := by decide +kernel
theorem dX8_meet_15 : decode cX8_meet 15 = .ok (.invokevirtual 182, 3) := by decide +kernel
theorem dX8_meet_18 : decode cX8_meet 18 = .ok (.ifCond .eq 8, 3) := by decide +kernel
theorem dX8_meet_21 : decode cX8_meet 21 = .ok (.iload_n 1, 1) := by decide +kernel
theorem dX8_meet_22 : decode cX8_meet 22 = .ok (.iload_n 2, 1) := by decide +kernel
theorem dX8_meet_23 : decode cX8_meet 23 = .ok (.if_icmp .ne 6, 3) := by decide +kernel
theorem dX8_meet_26 : decode cX8_meet 26 = .ok (.ldc 174, 2) := by decide +kernel
theorem dX8_meet_28 : decode cX8_meet 28 = .ok (.ireturn, 1) := by decide +kernel
theorem dX8_meet_29 : decode cX8_meet 29 = .ok (.iload_n 3, 1) := by decide +kernel
theorem dX8_meet_30 : decode cX8_meet 30 = .ok (.iconst 0, 1) := by decide +kernel
theorem dX8_meet_31 : decode cX8_meet 31 = .ok (.iconst 1, 1) := by decide +kernel
theorem dX8_meet_32 : decode cX8_meet 32 = .ok (.invokestatic 78, 3) := by decide +kernel
theorem dX8_meet_35 : decode cX8_meet 35 = .ok (.ifCond .ne 6, 3) := by decide +kernel
theorem dX8_meet_38 : decode cX8_meet 38 = .ok (.ldc 82, 2) := by decide +kernel
theorem dX8_meet_40 : decode cX8_meet 40 = .ok (.ireturn, 1) := by decide +kernel
theorem dX8_meet_41 : decode cX8_meet 41 = .ok (.aload_n 0, 1) := by decide +kernel
theorem dX8_meet_42 : decode cX8_meet 42 = .ok (.invokevirtual 238, 3) := by decide +kernel
theorem dX8_meet_45 : decode cX8_meet 45 = .ok (.iconst 0, 1) := by decide +kernel
theorem dX8_meet_46 : decode cX8_meet 46 = .ok (.istore 4, 2) := by decide +kernel
theorem dX8_meet_48 : decode cX8_meet 48 = .ok (.iload 4, 2) := by decide +kernel
theorem dX8_meet_50 : decode cX8_meet 50 = .ok (.aload_n 0, 1) := by decide +kernel
theorem dX8_meet_51 : decode cX8_meet 51 = .ok (.getfield 155, 3) := by decide +kernel
theorem dX8_meet_54 : decode cX8_meet 54 = .ok (.if_icmp .ge 23, 3) := by decide +kernel
theorem dX8_meet_57 : decode cX8_meet 57 = .ok (.aload_n 0, 1) := by decide +kernel
theorem dX8_meet_58 : decode cX8_meet 58 = .ok (.getfield 66, 3) := by decide +kernel
theorem dX8_meet_61 : decode cX8_meet 61 = .ok (.iload 4, 2) := by decide +kernel
theorem dX8_meet_63 : decode cX8_meet 63 = .ok (.aload_n 0, 1) := by decide +kernel
theorem dX8_meet_64 : decode cX8_meet 64 = .ok (.iload_n 1, 1) := by decide +kernel
theorem dX8_meet_65 : decode cX8_meet 65 = .ok (.iload 4, 2) := by decide +kernel
theorem dX8_meet_67 : decode cX8_meet 67 = .ok (.invokevirtual 241, 3) := by decide +kernel
theorem dX8_meet_70 : decode cX8_meet 70 = .ok (.iastore, 1) := by decide +kernel
theorem dX8_meet_71 : decode cX8_meet 71 = .ok (.iinc 4 1, 3) := by decide +kernel
theorem dX8_meet_74 : decode cX8_meet 74 = .ok (.goto (-26), 3) := by decide +kernel
theorem dX8_meet_77 : decode cX8_meet 77 = .ok (.iconst (-1), 1) := by decide +kernel
theorem dX8_meet_78 : decode cX8_meet 78 = .ok (.istore 4, 2) := by decide +kernel
theorem dX8_meet_80 : decode cX8_meet 80 = .ok (.ldc 223, 2) := by decide +kernel
theorem dX8_meet_82 : decode cX8_meet 82 = .ok (.istore 5, 2) := by decide +kernel
theorem dX8_meet_84 : decode cX8_meet 84 = .ok (.iconst 0, 1) := by decide +kernel
theorem dX8_meet_85 : decode cX8_meet 85 = .ok (.istore 6, 2) := by decide +kernel
theorem dX8_meet_87 : decode cX8_meet 87 = .ok (.iload 6, 2) := by decide +kernel
theorem dX8_meet_89 : decode cX8_meet 89 = .ok (.aload_n 0, 1) := by decide +kernel
theorem dX8_meet_90 : decode cX8_meet 90 = .ok (.getfield 155, 3) := by decide +kernel
theorem dX8_meet_93 : decode cX8_meet 93 = .ok (.if_icmp .ge 76, 3) := by decide +kernel
theorem dX8_meet_96 : decode cX8_meet 96 = .ok (.aload_n 0, 1) := by decide +kernel
theorem dX8_meet_97 : decode cX8_meet 97 = .ok (.iload_n 2, 1) := by decide +kernel
theorem dX8_meet_98 : decode cX8_meet 98 = .ok (.iload 6, 2) := by decide +kernel
theorem dX8_meet_100 : decode cX8_meet 100 = .ok (.invokevirtual 241, 3) := by decide +kernel
theorem dX8_meet_103 : decode cX8_meet 103 = .ok (.istore 7, 2) := by decide +kernel
theorem dX8_meet_105 : decode cX8_meet 105 = .ok (.aload_n 0, 1) := by decide +kernel
theorem dX8_meet_106 : decode cX8_meet 106 = .ok (.getfield 66, 3) := by decide +kernel
theorem dX8_meet_109 : decode cX8_meet 109 = .ok (.iload 6, 2) := by decide +kernel
theorem dX8_meet_111 : decode cX8_meet 111 = .ok (.iaload, 1) := by decide +kernel
theorem dX8_meet_112 : decode cX8_meet 112 = .ok (.iload 7, 2) := by decide +kernel
theorem dX8_meet_114 : decode cX8_meet 114 = .ok (.if_icmp .le 13, 3) := by decide +kernel
theorem dX8_meet_117 : decode cX8_meet 117 = .ok (.aload_n 0, 1) := by decide +kernel
theorem dX8_meet_118 : decode cX8_meet 118 = .ok (.getfield 66, 3) := by decide +kernel
theorem dX8_meet_121 : decode cX8_meet 121 = .ok (.iload 6, 2) := by decide +kernel
theorem dX8_meet_123 : decode cX8_meet 123 = .ok (.iaload, 1) := by decide +kernel
theorem dX8_meet_124 : decode cX8_meet 124 = .ok (.goto 5, 3) := by decide +kernel
theorem dX8_meet_127 : decode cX8_meet 127 = .ok (.iload 7, 2) := by decide +kernel
theorem dX8_meet_129 : decode cX8_meet 129 = .ok (.istore 8, 2) := by decide +kernel
theorem dX8_meet_131 : decode cX8_meet 131 = .ok (.iload 8, 2) := by decide +kernel
theorem dX8_meet_133 : decode cX8_meet 133 = .ok (.iload 5, 2) := by decide +kernel
theorem dX8_meet_135 : decode cX8_meet 135 = .ok (.if_icmp .ge 8, 3) := by decide +kernel
theorem dX8_meet_138 : decode cX8_meet 138 = .ok (.iload 6, 2) := by decide +kernel
theorem dX8_meet_140 : decode cX8_meet 140 = .ok (.goto 5, 3) := by decide +kernel
theorem dX8_meet_143 : decode cX8_meet 143 = .ok (.iload 4, 2) := by decide +kernel
theorem dX8_meet_145 : decode cX8_meet 145 = .ok (.istore 4, 2) := by decide +kernel
theorem dX8_meet_147 : decode cX8_meet 147 = .ok (.iload 8, 2) := by decide +kernel
theorem dX8_meet_149 : decode cX8_meet 149 = .ok (.iload 5, 2) := by decide +kernel
theorem dX8_meet_151 : decode cX8_meet 151 = .ok (.if_icmp .ge 8, 3) := by decide +kernel
theorem dX8_meet_154 : decode cX8_meet 154 = .ok (.iload 8, 2) := by decide +kernel
theorem dX8_meet_156 : decode cX8_meet 156 = .ok (.goto 5, 3) := by decide +kernel
theorem dX8_meet_159 : decode cX8_meet 159 = .ok (.iload 5, 2) := by decide +kernel
theorem dX8_meet_161 : decode cX8_meet 161 = .ok (.istore 5, 2) := by decide +kernel
theorem dX8_meet_163 : decode cX8_meet 163 = .ok (.iinc 6 1, 3) := by decide +kernel
theorem dX8_meet_166 : decode cX8_meet 166 = .ok (.goto (-79), 3) := by decide +kernel
theorem dX8_meet_169 : decode cX8_meet 169 = .ok (.iload 4, 2) := by decide +kernel
theorem dX8_meet_171 : decode cX8_meet 171 = .ok (.iconst (-1), 1) := by decide +kernel
theorem dX8_meet_172 : decode cX8_meet 172 = .ok (.if_icmp .eq 8, 3) := by decide +kernel
theorem dX8_meet_175 : decode cX8_meet 175 = .ok (.iload_n 3, 1) := by decide +kernel
theorem dX8_meet_176 : decode cX8_meet 176 = .ok (.iconst 1, 1) := by decide +kernel
theorem dX8_meet_177 : decode cX8_meet 177 = .ok (.if_icmp .ne 8, 3) := by decide +kernel
theorem dX8_meet_180 : decode cX8_meet 180 = .ok (.iload 4, 2) := by decide +kernel
theorem dX8_meet_182 : decode cX8_meet 182 = .ok (.goto 5, 3) := by decide +kernel
theorem dX8_meet_185 : decode cX8_meet 185 = .ok (.iload 5, 2) := by decide +kernel
theorem dX8_meet_187 : decode cX8_meet 187 = .ok (.ireturn, 1) := by decide +kernel
theorem gf_X8_66 {X : Cx} {cc : ByteArray} {nL pc fr lo : Nat} {L : List (Nat × Value)} {st : List Value} {S : St} (ok : Ok X cc nL RX8 fr lo) (d : decode cc pc = .ok (.getfield 66, 3)) (k : Wp X nL (pc + 3) L (.ref (xad X 89) :: st) S) : Wp X nL pc L (.ref (xad X 71) :: st) S :=
  r_get (C := RX8) (T := TX8) ok ob_71 rfl i_X8 36 (by decide) tw_fl_X8_66 d (by rw [show fvl (xad X) S 71 36 = .ref (xad X 89) from (fvl_ref (d := 89) (by decide))]; exact k)
def B_X8_meet_169 (post : Int32 → St → Prop) (x3 : Int32) (x4 : Int32) (x5 : Int32) (S : St) : Prop :=
  ((x4 = (-1) → post x4 S) ∧ (¬ x4 = (-1) → ((¬ x3 = 1 → post x5 S) ∧ (x3 = 1 → post x4 S))))
def B_X8_meet_145 (k87 : Int32 → Int32 → Int32 → Int32 → Int32 → St → Prop) (post : Int32 → St → Prop) (x2 : Int32) (x3 : Int32) (x5 : Int32) (x6 : Int32) (x8 : Int32) (s0 : Int32) (S : St) : Prop :=
  ((x5 ≤ x8 → k87 x2 x3 s0 x5 (x6 + 1) S) ∧ (¬ x5 ≤ x8 → k87 x2 x3 s0 x8 (x6 + 1) S))
def BD_X8_meet_87 (k87 : Int32 → Int32 → Int32 → Int32 → Int32 → St → Prop) (post : Int32 → St → Prop) (x2 : Int32) (x3 : Int32) (x4 : Int32) (x5 : Int32) (x6 : Int32) (S : St) : Prop :=
  (((S 71 10) ≤ x6 → B_X8_meet_169 post x3 x4 x5 S) ∧ (¬ (S 71 10) ≤ x6 → wp_X8_soonestOf x2 x6 S (fun r3 S2 => vp_in x6 6 ∧ ((((S2 89 (ix x6)) ≤ r3 → ((x5 ≤ r3 → B_X8_meet_145 k87 post x2 x3 x5 x6 r3 x4 S2) ∧ (¬ x5 ≤ r3 → B_X8_meet_145 k87 post x2 x3 x5 x6 r3 x6 S2))) ∧ (¬ (S2 89 (ix x6)) ≤ r3 → vp_in x6 6 ∧ (∀ v6 : Int32, v6 = (S2 89 (ix x6)) → ((x5 ≤ v6 → B_X8_meet_145 k87 post x2 x3 x5 x6 v6 x4 S2) ∧ (¬ x5 ≤ v6 → B_X8_meet_145 k87 post x2 x3 x5 x6 v6 x6 S2)))))))))
def L_X8_meet_87 (post : Int32 → St → Prop) (n : Nat) : Int32 → Int32 → Int32 → Int32 → Int32 → St → Prop := Nat.rec (motive := fun _ => Int32 → Int32 → Int32 → Int32 → Int32 → St → Prop) (fun _ _ _ _ _ _ => False) (fun _ ih => BD_X8_meet_87 ih post) n
def B_X8_meet_87 (post : Int32 → St → Prop) (x2 : Int32) (x3 : Int32) (x4 : Int32) (x5 : Int32) (x6 : Int32) (S : St) : Prop := ∃ n, L_X8_meet_87 post n x2 x3 x4 x5 x6 S
def B_X8_meet_77 (post : Int32 → St → Prop) (x2 : Int32) (x3 : Int32) (S : St) : Prop :=
  B_X8_meet_87 post x2 x3 (-1) 100000000 0 S
def BD_X8_meet_48 (k48 : Int32 → Int32 → Int32 → Int32 → St → Prop) (post : Int32 → St → Prop) (x1 : Int32) (x2 : Int32) (x3 : Int32) (x4 : Int32) (S : St) : Prop :=
  (((S 71 10) ≤ x4 → B_X8_meet_77 post x2 x3 S) ∧ (¬ (S 71 10) ≤ x4 → wp_X8_soonestOf x1 x4 S (fun r3 S2 => vp_in x4 6 ∧ (∀ S4 : St, S4 = up S2 89 (ix x4) r3 → k48 x1 x2 x3 (x4 + 1) S4))))
def L_X8_meet_48 (post : Int32 → St → Prop) (n : Nat) : Int32 → Int32 → Int32 → Int32 → St → Prop := Nat.rec (motive := fun _ => Int32 → Int32 → Int32 → Int32 → St → Prop) (fun _ _ _ _ _ => False) (fun _ ih => BD_X8_meet_48 ih post) n
def B_X8_meet_48 (post : Int32 → St → Prop) (x1 : Int32) (x2 : Int32) (x3 : Int32) (x4 : Int32) (S : St) : Prop := ∃ n, L_X8_meet_48 post n x1 x2 x3 x4 S
def wp_X8_meet (x1 : Int32) (x2 : Int32) (x3 : Int32) (S : St) (post : Int32 → St → Prop) : Prop :=
  ∀ S1 : St, S1 = up S 71 0 0 → wp_X8_isPerson x1 S1 (fun r3 S2 => ((r3 = 0 → post (-1000000001) S2) ∧ (¬ r3 = 0 → wp_X8_isPerson x2 S2 (fun r6 S5 => ((r6 = 0 → post (-1000000001) S5) ∧ (¬ r6 = 0 → ((¬ x1 = x2 → wp_X8_in x3 0 1 S5 (fun r10 S9 => ((¬ r10 = 0 → wp_X8_asNow S9 (fun S12 => B_X8_meet_48 post x1 x2 x3 0 S12)) ∧ (r10 = 0 → post (-1000000002) S9)))) ∧ (x1 = x2 → post (-1000000001) S5))))))))
theorem w_B_X8_meet_169 {X : Cx} (ok : Ok X cX8_meet 9 RX8 5 125) {post : Int32 → St → Prop} (hret : RetI X cX8_meet 9 post) {x3 x4 x5 : Int32} {S : St} (h : B_X8_meet_169 post x3 x4 x5 S) : Wp X 9 169 [(3, .int x3), (4, .int x4), (5, .int x5)] [] S := by
  unfold B_X8_meet_169 at h
  refine r_iload ok dX8_meet_169 1 rfl ?_
  refine r_iconst (v := (-1)) ok dX8_meet_171 rfl ?_
  refine r_icmp_eq (tgt := 180) ok dX8_meet_172 rfl (fun hc1 => ?_) (fun hc1 => ?_)
  · replace h := h.1 hc1
    refine r_iload ok dX8_meet_180 1 rfl ?_
    refine r_goto (tgt := 187) ok dX8_meet_182 rfl ?_
    exact hret _ _ _ _ dX8_meet_187 h
  · replace h := h.2 hc1
    refine r_iload_n ok dX8_meet_175 0 rfl ?_
    refine r_iconst (v := 1) ok dX8_meet_176 rfl ?_
    refine r_icmp_ne (tgt := 185) ok dX8_meet_177 rfl (fun hc2 => ?_) (fun hc2 => ?_)
    · replace h := h.1 hc2
      refine r_iload ok dX8_meet_185 2 rfl ?_
      exact hret _ _ _ _ dX8_meet_187 h
    · replace h := h.2 hc2
      refine r_iload ok dX8_meet_180 1 rfl ?_
      refine r_goto (tgt := 187) ok dX8_meet_182 rfl ?_
      exact hret _ _ _ _ dX8_meet_187 h
theorem w_B_X8_meet_145 {X : Cx} (ok : Ok X cX8_meet 9 RX8 5 125) {post : Int32 → St → Prop} (hret : RetI X cX8_meet 9 post) {k87 : Int32 → Int32 → Int32 → Int32 → Int32 → St → Prop} (hk87 : ∀ x2 x3 x4 x5 x6 S, k87 x2 x3 x4 x5 x6 S → Wp X 9 87 [(0, .ref (xad X 71)), (2, .int x2), (3, .int x3), (4, .int x4), (5, .int x5), (6, .int x6)] [] S) {x2 x3 x5 x6 x8 s0 : Int32} {S : St} (h : B_X8_meet_145 k87 post x2 x3 x5 x6 x8 s0 S) : Wp X 9 145 [(0, .ref (xad X 71)), (2, .int x2), (3, .int x3), (5, .int x5), (6, .int x6), (8, .int x8)] [.int s0] S := by
  unfold B_X8_meet_145 at h
  refine r_istore ok dX8_meet_145 (by decide) [(0, .ref (xad X 71)), (2, .int x2), (3, .int x3), (4, .int s0), (5, .int x5), (6, .int x6), (8, .int x8)] [1, 2, 3, 0, 4, 5, 6] rfl ?_
  refine r_iload ok dX8_meet_147 6 rfl ?_
  refine r_iload ok dX8_meet_149 4 rfl ?_
  refine r_icmp_ge (tgt := 159) ok dX8_meet_151 rfl (fun hc1 => ?_) (fun hc1 => ?_)
  · replace h := h.1 hc1
    refine r_iload ok dX8_meet_159 4 rfl ?_
    refine r_istore ok dX8_meet_161 (by decide) [(0, .ref (xad X 71)), (2, .int x2), (3, .int x3), (4, .int s0), (5, .int x5), (6, .int x6)] [1, 2, 3, 4, 0, 5] rfl ?_
    refine r_iinc (v := x6 + 1) ok dX8_meet_163 5 rfl rfl (by decide) [(0, .ref (xad X 71)), (2, .int x2), (3, .int x3), (4, .int s0), (5, .int x5), (6, .int (x6 + 1))] [1, 2, 3, 4, 5, 0] rfl ?_
    refine r_goto (tgt := 87) ok dX8_meet_166 rfl ?_
    exact hk87 _ _ _ _ _ _ h
  · replace h := h.2 hc1
    refine r_iload ok dX8_meet_154 6 rfl ?_
    refine r_goto (tgt := 161) ok dX8_meet_156 rfl ?_
    refine r_istore ok dX8_meet_161 (by decide) [(0, .ref (xad X 71)), (2, .int x2), (3, .int x3), (4, .int s0), (5, .int x8), (6, .int x6)] [1, 2, 3, 4, 0, 5] rfl ?_
    refine r_iinc (v := x6 + 1) ok dX8_meet_163 5 rfl rfl (by decide) [(0, .ref (xad X 71)), (2, .int x2), (3, .int x3), (4, .int s0), (5, .int x8), (6, .int (x6 + 1))] [1, 2, 3, 4, 5, 0] rfl ?_
    refine r_goto (tgt := 87) ok dX8_meet_166 rfl ?_
    exact hk87 _ _ _ _ _ _ h
theorem w_B_X8_meet_87 {X : Cx} (ok : Ok X cX8_meet 9 RX8 5 125) {post : Int32 → St → Prop} (hret : RetI X cX8_meet 9 post) {x2 x3 x4 x5 x6 : Int32} {S : St} (h : B_X8_meet_87 post x2 x3 x4 x5 x6 S) : Wp X 9 87 [(0, .ref (xad X 71)), (2, .int x2), (3, .int x3), (4, .int x4), (5, .int x5), (6, .int x6)] [] S := by
  obtain ⟨n, h⟩ := h
  induction n generalizing x2 x3 x4 x5 x6 S with
  | zero => exact False.elim h
  | succ n ih =>
    have hk87 : ∀ x2 x3 x4 x5 x6 S, L_X8_meet_87 post n x2 x3 x4 x5 x6 S → Wp X 9 87 [(0, .ref (xad X 71)), (2, .int x2), (3, .int x3), (4, .int x4), (5, .int x5), (6, .int x6)] [] S := by intros; apply ih; assumption
    replace h : BD_X8_meet_87 (L_X8_meet_87 post n) post x2 x3 x4 x5 x6 S := h
    unfold BD_X8_meet_87 at h
    generalize L_X8_meet_87 post n = k87 at h hk87
    refine r_iload ok dX8_meet_87 5 rfl ?_
    refine r_aload_n ok dX8_meet_89 0 rfl ?_
    refine gf_X8_155 ok dX8_meet_90 ?_
    refine r_icmp_ge (tgt := 169) ok dX8_meet_93 rfl (fun hc1 => ?_) (fun hc1 => ?_)
    · replace h := h.1 hc1
      refine r_sub [(3, .int x3), (4, .int x4), (5, .int x5)] [2, 3, 4] rfl ?_
      exact w_B_X8_meet_169 ok hret h
    · replace h := h.2 hc1
      refine r_aload_n ok dX8_meet_96 0 rfl ?_
      refine r_iload_n ok dX8_meet_97 1 rfl ?_
      refine r_iload ok dX8_meet_98 5 rfl ?_
      refine cl_X8_241 ok dX8_meet_100 (by decide) (Nat.le_of_ble_eq_true rfl) h (fun r3 S2 h => ?_)
      refine r_istore ok dX8_meet_103 (by decide) [(0, .ref (xad X 71)), (2, .int x2), (3, .int x3), (4, .int x4), (5, .int x5), (6, .int x6), (7, .int r3)] [1, 2, 3, 4, 5, 6, 0] rfl ?_
      refine r_aload_n ok dX8_meet_105 0 rfl ?_
      refine gf_X8_66 ok dX8_meet_106 ?_
      refine r_iload ok dX8_meet_109 5 rfl ?_
      refine r_iald ok ai_89 h.1 rfl dX8_meet_111 ?_
      replace h := h.2
      refine r_iload ok dX8_meet_112 6 rfl ?_
      refine r_icmp_le (tgt := 127) ok dX8_meet_114 rfl (fun hc4 => ?_) (fun hc4 => ?_)
      · replace h := h.1 hc4
        refine r_iload ok dX8_meet_127 6 rfl ?_
        refine r_istore ok dX8_meet_129 (by decide) [(0, .ref (xad X 71)), (2, .int x2), (3, .int x3), (4, .int x4), (5, .int x5), (6, .int x6), (8, .int r3)] [1, 2, 3, 4, 5, 6, 0] rfl ?_
        refine r_iload ok dX8_meet_131 6 rfl ?_
        refine r_iload ok dX8_meet_133 4 rfl ?_
        refine r_icmp_ge (tgt := 143) ok dX8_meet_135 rfl (fun hc5 => ?_) (fun hc5 => ?_)
        · replace h := h.1 hc5
          refine r_iload ok dX8_meet_143 3 rfl ?_
          refine r_sub [(0, .ref (xad X 71)), (2, .int x2), (3, .int x3), (5, .int x5), (6, .int x6), (8, .int r3)] [0, 1, 2, 4, 5, 6] rfl ?_
          exact w_B_X8_meet_145 ok hret hk87 h
        · replace h := h.2 hc5
          refine r_iload ok dX8_meet_138 5 rfl ?_
          refine r_goto (tgt := 145) ok dX8_meet_140 rfl ?_
          refine r_sub [(0, .ref (xad X 71)), (2, .int x2), (3, .int x3), (5, .int x5), (6, .int x6), (8, .int r3)] [0, 1, 2, 4, 5, 6] rfl ?_
          exact w_B_X8_meet_145 ok hret hk87 h
      · replace h := h.2 hc4
        refine r_aload_n ok dX8_meet_117 0 rfl ?_
        refine gf_X8_66 ok dX8_meet_118 ?_
        refine r_iload ok dX8_meet_121 5 rfl ?_
        refine r_iald ok ai_89 h.1 rfl dX8_meet_123 ?_
        replace h := h.2
        refine r_goto (tgt := 129) ok dX8_meet_124 rfl ?_
        refine r_top (fun v6 ev6 => ?_)
        replace h := h v6 ev6
        refine r_istore ok dX8_meet_129 (by decide) [(0, .ref (xad X 71)), (2, .int x2), (3, .int x3), (4, .int x4), (5, .int x5), (6, .int x6), (8, .int v6)] [1, 2, 3, 4, 5, 6, 0] rfl ?_
        refine r_iload ok dX8_meet_131 6 rfl ?_
        refine r_iload ok dX8_meet_133 4 rfl ?_
        refine r_icmp_ge (tgt := 143) ok dX8_meet_135 rfl (fun hc7 => ?_) (fun hc7 => ?_)
        · replace h := h.1 hc7
          refine r_iload ok dX8_meet_143 3 rfl ?_
          refine r_sub [(0, .ref (xad X 71)), (2, .int x2), (3, .int x3), (5, .int x5), (6, .int x6), (8, .int v6)] [0, 1, 2, 4, 5, 6] rfl ?_
          exact w_B_X8_meet_145 ok hret hk87 h
        · replace h := h.2 hc7
          refine r_iload ok dX8_meet_138 5 rfl ?_
          refine r_goto (tgt := 145) ok dX8_meet_140 rfl ?_
          refine r_sub [(0, .ref (xad X 71)), (2, .int x2), (3, .int x3), (5, .int x5), (6, .int x6), (8, .int v6)] [0, 1, 2, 4, 5, 6] rfl ?_
          exact w_B_X8_meet_145 ok hret hk87 h
theorem w_B_X8_meet_77 {X : Cx} (ok : Ok X cX8_meet 9 RX8 5 125) {post : Int32 → St → Prop} (hret : RetI X cX8_meet 9 post) {x2 x3 : Int32} {S : St} (h : B_X8_meet_77 post x2 x3 S) : Wp X 9 77 [(0, .ref (xad X 71)), (2, .int x2), (3, .int x3)] [] S := by
  unfold B_X8_meet_77 at h
  refine r_iconst (v := (-1)) ok dX8_meet_77 rfl ?_
  refine r_istore ok dX8_meet_78 (by decide) [(0, .ref (xad X 71)), (2, .int x2), (3, .int x3), (4, .int (-1))] [1, 2, 3, 0] rfl ?_
  refine r_ldc (v := 100000000) ok dX8_meet_80 tw_k_X8_223 ?_
  refine r_istore ok dX8_meet_82 (by decide) [(0, .ref (xad X 71)), (2, .int x2), (3, .int x3), (4, .int (-1)), (5, .int 100000000)] [1, 2, 3, 4, 0] rfl ?_
  refine r_iconst (v := 0) ok dX8_meet_84 rfl ?_
  refine r_istore ok dX8_meet_85 (by decide) [(0, .ref (xad X 71)), (2, .int x2), (3, .int x3), (4, .int (-1)), (5, .int 100000000), (6, .int 0)] [1, 2, 3, 4, 5, 0] rfl ?_
  exact w_B_X8_meet_87 ok hret h
theorem w_B_X8_meet_48 {X : Cx} (ok : Ok X cX8_meet 9 RX8 5 125) {post : Int32 → St → Prop} (hret : RetI X cX8_meet 9 post) {x1 x2 x3 x4 : Int32} {S : St} (h : B_X8_meet_48 post x1 x2 x3 x4 S) : Wp X 9 48 [(0, .ref (xad X 71)), (1, .int x1), (2, .int x2), (3, .int x3), (4, .int x4)] [] S := by
  obtain ⟨n, h⟩ := h
  induction n generalizing x1 x2 x3 x4 S with
  | zero => exact False.elim h
  | succ n ih =>
    have hk48 : ∀ x1 x2 x3 x4 S, L_X8_meet_48 post n x1 x2 x3 x4 S → Wp X 9 48 [(0, .ref (xad X 71)), (1, .int x1), (2, .int x2), (3, .int x3), (4, .int x4)] [] S := by intros; apply ih; assumption
    replace h : BD_X8_meet_48 (L_X8_meet_48 post n) post x1 x2 x3 x4 S := h
    unfold BD_X8_meet_48 at h
    generalize L_X8_meet_48 post n = k48 at h hk48
    refine r_iload ok dX8_meet_48 4 rfl ?_
    refine r_aload_n ok dX8_meet_50 0 rfl ?_
    refine gf_X8_155 ok dX8_meet_51 ?_
    refine r_icmp_ge (tgt := 77) ok dX8_meet_54 rfl (fun hc1 => ?_) (fun hc1 => ?_)
    · replace h := h.1 hc1
      refine r_sub [(0, .ref (xad X 71)), (2, .int x2), (3, .int x3)] [0, 2, 3] rfl ?_
      exact w_B_X8_meet_77 ok hret h
    · replace h := h.2 hc1
      refine r_aload_n ok dX8_meet_57 0 rfl ?_
      refine gf_X8_66 ok dX8_meet_58 ?_
      refine r_iload ok dX8_meet_61 4 rfl ?_
      refine r_aload_n ok dX8_meet_63 0 rfl ?_
      refine r_iload_n ok dX8_meet_64 1 rfl ?_
      refine r_iload ok dX8_meet_65 4 rfl ?_
      refine cl_X8_241 ok dX8_meet_67 (by decide) (Nat.le_of_ble_eq_true rfl) h (fun r3 S2 h => ?_)
      have hi5 := h.1
      replace h := h.2
      refine r_iast ok ai_89 hi5 rfl dX8_meet_70 (fun S4 eS4 => ?_)
      replace h := h S4 eS4
      refine r_iinc (v := x4 + 1) ok dX8_meet_71 4 rfl rfl (by decide) [(0, .ref (xad X 71)), (1, .int x1), (2, .int x2), (3, .int x3), (4, .int (x4 + 1))] [1, 2, 3, 4, 0] rfl ?_
      refine r_goto (tgt := 48) ok dX8_meet_74 rfl ?_
      exact hk48 _ _ _ _ _ h
theorem w_wp_X8_meet {X : Cx} (ok : Ok X cX8_meet 9 RX8 5 125) {post : Int32 → St → Prop} (hret : RetI X cX8_meet 9 post) {x1 x2 x3 : Int32} {S : St} (h : wp_X8_meet x1 x2 x3 S post) : Wp X 9 0 [(0, .ref (xad X 71)), (1, .int x1), (2, .int x2), (3, .int x3)] [] S := by
  unfold wp_X8_meet at h
  refine r_aload_n ok dX8_meet_0 0 rfl ?_
  refine r_iconst (v := 0) ok dX8_meet_1 rfl ?_
  refine pf_X8_75 ok dX8_meet_2 (fun S1 eS1 => ?_)
  replace h := h S1 eS1
  refine r_aload_n ok dX8_meet_5 0 rfl ?_
  refine r_iload_n ok dX8_meet_6 1 rfl ?_
  refine cl_X8_182 ok dX8_meet_7 (by decide) (Nat.le_of_ble_eq_true rfl) h (fun r3 S2 h => ?_)
  refine r_if_eq (tgt := 26) ok dX8_meet_10 rfl (fun hc4 => ?_) (fun hc4 => ?_)
  · replace h := h.1 hc4
    refine r_ldc (v := (-1000000001)) ok dX8_meet_26 tw_k_X8_174 ?_
    exact hret _ _ _ _ dX8_meet_28 h
  · replace h := h.2 hc4
    refine r_aload_n ok dX8_meet_13 0 rfl ?_
    refine r_iload_n ok dX8_meet_14 2 rfl ?_
    refine cl_X8_182 ok dX8_meet_15 (by decide) (Nat.le_of_ble_eq_true rfl) h (fun r6 S5 h => ?_)
    refine r_if_eq (tgt := 26) ok dX8_meet_18 rfl (fun hc7 => ?_) (fun hc7 => ?_)
    · replace h := h.1 hc7
      refine r_ldc (v := (-1000000001)) ok dX8_meet_26 tw_k_X8_174 ?_
      exact hret _ _ _ _ dX8_meet_28 h
    · replace h := h.2 hc7
      refine r_iload_n ok dX8_meet_21 1 rfl ?_
      refine r_iload_n ok dX8_meet_22 2 rfl ?_
      refine r_icmp_ne (tgt := 29) ok dX8_meet_23 rfl (fun hc8 => ?_) (fun hc8 => ?_)
      · replace h := h.1 hc8
        refine r_iload_n ok dX8_meet_29 3 rfl ?_
        refine r_iconst (v := 0) ok dX8_meet_30 rfl ?_
        refine r_iconst (v := 1) ok dX8_meet_31 rfl ?_
        refine cl_X8_78 ok dX8_meet_32 (by decide) (Nat.le_of_ble_eq_true rfl) h (fun r10 S9 h => ?_)
        refine r_if_ne (tgt := 41) ok dX8_meet_35 rfl (fun hc11 => ?_) (fun hc11 => ?_)
        · replace h := h.1 hc11
          refine r_aload_n ok dX8_meet_41 0 rfl ?_
          refine cl_X8_238 ok dX8_meet_42 (by decide) (Nat.le_of_ble_eq_true rfl) h (fun S12 h => ?_)
          refine r_iconst (v := 0) ok dX8_meet_45 rfl ?_
          refine r_istore ok dX8_meet_46 (by decide) [(0, .ref (xad X 71)), (1, .int x1), (2, .int x2), (3, .int x3), (4, .int 0)] [1, 2, 3, 4, 0] rfl ?_
          exact w_B_X8_meet_48 ok hret h
        · replace h := h.2 hc11
          refine r_ldc (v := (-1000000002)) ok dX8_meet_38 tw_k_X8_82 ?_
          exact hret _ _ _ _ dX8_meet_40 h
      · replace h := h.2 hc8
        refine r_ldc (v := (-1000000001)) ok dX8_meet_26 tw_k_X8_174 ?_
        exact hret _ _ _ _ dX8_meet_28 h
theorem c_X8_meet (l : Launch) (G : Gx) {x1 x2 x3 : Int32} {S : St} {post : Int32 → St → Prop} (h : wp_X8_meet x1 x2 x3 S post) : MtI l yX8_meet cX8_meet 9 (some .int) 5 125 G [.ref (G.2.2 71), .int x1, .int x2, .int x3] S post :=
  ctI (by decide) rfl (Nat.le_of_ble_eq_true rfl) (fun X _ hG ok hret => by subst hG; exact w_wp_X8_meet ok hret h)

/-! HasteRoadsModel.together()I -/
theorem dX8_together_0 : decode cX8_together 0 = .ok (.iconst 0, 1) := by decide +kernel
theorem dX8_together_1 : decode cX8_together 1 = .ok (.istore_n 1, 1) := by decide +kernel
theorem dX8_together_2 : decode cX8_together 2 = .ok (.iconst 0, 1) := by decide +kernel
theorem dX8_together_3 : decode cX8_together 3 = .ok (.istore_n 2, 1) := by decide +kernel
theorem dX8_together_4 : decode cX8_together 4 = .ok (.iload_n 2, 1) := by decide +kernel
theorem dX8_together_5 : decode cX8_together 5 = .ok (.aload_n 0, 1) := by decide +kernel
theorem dX8_together_6 : decode cX8_together 6 = .ok (.getfield 161, 3) := by decide +kernel
theorem dX8_together_9 : decode cX8_together 9 = .ok (.if_icmp .ge 41, 3) := by decide +kernel
theorem dX8_together_12 : decode cX8_together 12 = .ok (.aload_n 0, 1) := by decide +kernel
theorem dX8_together_13 : decode cX8_together 13 = .ok (.iload_n 2, 1) := by decide +kernel
theorem dX8_together_14 : decode cX8_together 14 = .ok (.aload_n 0, 1) := by decide +kernel
theorem dX8_together_15 : decode cX8_together 15 = .ok (.iload_n 2, 1) := by decide +kernel
theorem dX8_together_16 : decode cX8_together 16 = .ok (.invokevirtual 251, 3) := by decide +kernel
theorem dX8_together_19 : decode cX8_together 19 = .ok (.invokevirtual 241, 3) := by decide +kernel
theorem dX8_together_22 : decode cX8_together 22 = .ok (.istore_n 3, 1) := by decide +kernel
theorem dX8_together_23 : decode cX8_together 23 = .ok (.iload_n 3, 1) := by decide +kernel
theorem dX8_together_24 : decode cX8_together 24 = .ok (.ldc 223, 2) := by decide +kernel
theorem dX8_together_26 : decode cX8_together 26 = .ok (.if_icmp .eq 9, 3) := by decide +kernel
theorem dX8_together_29 : decode cX8_together 29 = .ok (.iload_n 1, 1) := by decide +kernel
theorem dX8_together_30 : decode cX8_together 30 = .ok (.ldc 223, 2) := by decide +kernel
theorem dX8_together_32 : decode cX8_together 32 = .ok (.if_icmp .ne 8, 3) := by decide +kernel
theorem dX8_together_35 : decode cX8_together 35 = .ok (.ldc 223, 2) := by decide +kernel
theorem dX8_together_37 : decode cX8_together 37 = .ok (.goto 6, 3) := by decide +kernel
theorem dX8_together_40 : decode cX8_together 40 = .ok (.iload_n 1, 1) := by decide +kernel
theorem dX8_together_41 : decode cX8_together 41 = .ok (.iload_n 3, 1) := by decide +kernel
theorem dX8_together_42 : decode cX8_together 42 = .ok (.iadd, 1) := by decide +kernel
theorem dX8_together_43 : decode cX8_together 43 = .ok (.istore_n 1, 1) := by decide +kernel
theorem dX8_together_44 : decode cX8_together 44 = .ok (.iinc 2 1, 3) := by decide +kernel
theorem dX8_together_47 : decode cX8_together 47 = .ok (.goto (-43), 3) := by decide +kernel
theorem dX8_together_50 : decode cX8_together 50 = .ok (.iload_n 1, 1) := by decide +kernel
theorem dX8_together_51 : decode cX8_together 51 = .ok (.ireturn, 1) := by decide +kernel

def BD_X8_together_4 (k4 : Int32 → Int32 → St → Prop) (post : Int32 → St → Prop) (x1 : Int32) (x2 : Int32) (S : St) : Prop :=
  (((S 71 12) ≤ x2 → post x1 S) ∧ (¬ (S 71 12) ≤ x2 → wp_X8_errand x2 S (fun r3 S2 => wp_X8_soonestOf x2 r3 S2 (fun r5 S4 => ((r5 = 100000000 → k4 100000000 (x2 + 1) S4) ∧ (¬ r5 = 100000000 → ((¬ x1 = 100000000 → ∀ v8 : Int32, v8 = (x1 + r5) → k4 v8 (x2 + 1) S4) ∧ (x1 = 100000000 → k4 100000000 (x2 + 1) S4))))))))
def L_X8_together_4 (post : Int32 → St → Prop) (n : Nat) : Int32 → Int32 → St → Prop := Nat.rec (motive := fun _ => Int32 → Int32 → St → Prop) (fun _ _ _ => False) (fun _ ih => BD_X8_together_4 ih post) n
def B_X8_together_4 (post : Int32 → St → Prop) (x1 : Int32) (x2 : Int32) (S : St) : Prop := ∃ n, L_X8_together_4 post n x1 x2 S
def wp_X8_together (S : St) (post : Int32 → St → Prop) : Prop :=
  B_X8_together_4 post 0 0 S
theorem w_B_X8_together_4 {X : Cx} (ok : Ok X cX8_together 4 RX8 5 125) {post : Int32 → St → Prop} (hret : RetI X cX8_together 4 post) {x1 x2 : Int32} {S : St} (h : B_X8_together_4 post x1 x2 S) : Wp X 4 4 [(0, .ref (xad X 71)), (1, .int x1), (2, .int x2)] [] S := by
  obtain ⟨n, h⟩ := h
  induction n generalizing x1 x2 S with
  | zero => exact False.elim h
  | succ n ih =>
    have hk4 : ∀ x1 x2 S, L_X8_together_4 post n x1 x2 S → Wp X 4 4 [(0, .ref (xad X 71)), (1, .int x1), (2, .int x2)] [] S := by intros; apply ih; assumption
    replace h : BD_X8_together_4 (L_X8_together_4 post n) post x1 x2 S := h
    unfold BD_X8_together_4 at h
    generalize L_X8_together_4 post n = k4 at h hk4
    refine r_iload_n ok dX8_together_4 2 rfl ?_
    refine r_aload_n ok dX8_together_5 0 rfl ?_
    refine gf_X8_161 ok dX8_together_6 ?_
    refine r_icmp_ge (tgt := 50) ok dX8_together_9 rfl (fun hc1 => ?_) (fun hc1 => ?_)
    · replace h := h.1 hc1
      refine r_iload_n ok dX8_together_50 1 rfl ?_
      exact hret _ _ _ _ dX8_together_51 h
    · replace h := h.2 hc1
      refine r_aload_n ok dX8_together_12 0 rfl ?_
      refine r_iload_n ok dX8_together_13 2 rfl ?_
      refine r_aload_n ok dX8_together_14 0 rfl ?_
      refine r_iload_n ok dX8_together_15 2 rfl ?_
      refine cl_X8_251 ok dX8_together_16 (by decide) (Nat.le_of_ble_eq_true rfl) h (fun r3 S2 h => ?_)
      refine cl_X8_241 ok dX8_together_19 (by decide) (Nat.le_of_ble_eq_true rfl) h (fun r5 S4 h => ?_)
      refine r_istore_n ok dX8_together_22 (by decide) [(0, .ref (xad X 71)), (1, .int x1), (2, .int x2), (3, .int r5)] [1, 2, 3, 0] rfl ?_
      refine r_iload_n ok dX8_together_23 3 rfl ?_
      refine r_ldc (v := 100000000) ok dX8_together_24 tw_k_X8_223 ?_
      refine r_icmp_eq (tgt := 35) ok dX8_together_26 rfl (fun hc6 => ?_) (fun hc6 => ?_)
      · replace h := h.1 hc6
        refine r_ldc (v := 100000000) ok dX8_together_35 tw_k_X8_223 ?_
        refine r_goto (tgt := 43) ok dX8_together_37 rfl ?_
        refine r_istore_n ok dX8_together_43 (by decide) [(0, .ref (xad X 71)), (1, .int 100000000), (2, .int x2)] [1, 0, 2] rfl ?_
        refine r_iinc (v := x2 + 1) ok dX8_together_44 2 rfl rfl (by decide) [(0, .ref (xad X 71)), (1, .int 100000000), (2, .int (x2 + 1))] [1, 2, 0] rfl ?_
        refine r_goto (tgt := 4) ok dX8_together_47 rfl ?_
        exact hk4 _ _ _ h
      · replace h := h.2 hc6
        refine r_iload_n ok dX8_together_29 1 rfl ?_
        refine r_ldc (v := 100000000) ok dX8_together_30 tw_k_X8_223 ?_
        refine r_icmp_ne (tgt := 40) ok dX8_together_32 rfl (fun hc7 => ?_) (fun hc7 => ?_)
        · replace h := h.1 hc7
          refine r_iload_n ok dX8_together_40 1 rfl ?_
          refine r_iload_n ok dX8_together_41 3 rfl ?_
          refine r_iadd ok dX8_together_42 ?_
          refine r_top (fun v8 ev8 => ?_)
          replace h := h v8 ev8
          refine r_istore_n ok dX8_together_43 (by decide) [(0, .ref (xad X 71)), (1, .int v8), (2, .int x2)] [1, 0, 2] rfl ?_
          refine r_iinc (v := x2 + 1) ok dX8_together_44 2 rfl rfl (by decide) [(0, .ref (xad X 71)), (1, .int v8), (2, .int (x2 + 1))] [1, 2, 0] rfl ?_
          refine r_goto (tgt := 4) ok dX8_together_47 rfl ?_
          exact hk4 _ _ _ h
        · replace h := h.2 hc7
          refine r_ldc (v := 100000000) ok dX8_together_35 tw_k_X8_223 ?_
          refine r_goto (tgt := 43) ok dX8_together_37 rfl ?_
          refine r_istore_n ok dX8_together_43 (by decide) [(0, .ref (xad X 71)), (1, .int 100000000), (2, .int x2)] [1, 0, 2] rfl ?_
          refine r_iinc (v := x2 + 1) ok dX8_together_44 2 rfl rfl (by decide) [(0, .ref (xad X 71)), (1, .int 100000000), (2, .int (x2 + 1))] [1, 2, 0] rfl ?_
          refine r_goto (tgt := 4) ok dX8_together_47 rfl ?_
          exact hk4 _ _ _ h
theorem w_wp_X8_together {X : Cx} (ok : Ok X cX8_together 4 RX8 5 125) {post : Int32 → St → Prop} (hret : RetI X cX8_together 4 post) {S : St} (h : wp_X8_together S post) : Wp X 4 0 [(0, .ref (xad X 71))] [] S := by
  unfold wp_X8_together at h
  refine r_iconst (v := 0) ok dX8_together_0 rfl ?_
  refine r_istore_n ok dX8_together_1 (by decide) [(0, .ref (xad X 71)), (1, .int 0)] [1, 0] rfl ?_
  refine r_iconst (v := 0) ok dX8_together_2 rfl ?_
  refine r_istore_n ok dX8_together_3 (by decide) [(0, .ref (xad X 71)), (1, .int 0), (2, .int 0)] [1, 2, 0] rfl ?_
  exact w_B_X8_together_4 ok hret h
theorem c_X8_together (l : Launch) (G : Gx) {S : St} {post : Int32 → St → Prop} (h : wp_X8_together S post) : MtI l yX8_together cX8_together 4 (some .int) 5 125 G [.ref (G.2.2 71)] S post :=
  ctI (by decide) rfl (Nat.le_of_ble_eq_true rfl) (fun X _ hG ok hret => by subst hG; exact w_wp_X8_together ok hret h)

/-! HasteRoadsModel.cost(I)I -/
theorem dX8_cost_0 : decode cX8_cost 0 = .ok (.aload_n 0, 1) := by decide +kernel
theorem dX8_cost_1 : decode cX8_cost 1 = .ok (.iconst 0, 1) := by decide +kernel
theorem dX8_cost_2 : decode cX8_cost 2 = .ok (.putfield 75, 3) := by decide +kernel
theorem dX8_cost_5 : decode cX8_cost 5 = .ok (.aload_n 0, 1) := by decide +kernel
theorem dX8_cost_6 : decode cX8_cost 6 = .ok (.iload_n 1, 1) := by decide +kernel
theorem dX8_cost_7 : decode cX8_cost 7 = .ok (.invokevirtual 185, 3) := by decide +kernel
theorem dX8_cost_10 : decode cX8_cost 10 = .ok (.ifCond .ne 6, 3) := by decide +kernel
theorem dX8_cost_13 : decode cX8_cost 13 = .ok (.ldc 174, 2) := by decide +kernel
theorem dX8_cost_15 : decode cX8_cost 15 = .ok (.ireturn, 1) := by decide +kernel
theorem dX8_cost_16 : decode cX8_cost 16 = .ok (.aload_n 0, 1) := by decide +kernel
theorem dX8_cost_17 : decode cX8_cost 17 = .ok (.invokevirtual 238, 3) := by decide +kernel
theorem dX8_cost_20 : decode cX8_cost 20 = .ok (.aload_n 0, 1) := by decide +kernel
theorem dX8_cost_21 : decode cX8_cost 21 = .ok (.getfield 26, 3) := by decide +kernel
theorem dX8_cost_24 : decode cX8_cost 24 = .ok (.bipush 17, 2) := by decide +kernel
theorem dX8_cost_26 : decode cX8_cost 26 = .ok (.aload_n 0, 1) := by decide +kernel
theorem dX8_cost_27 : decode cX8_cost 27 = .ok (.getfield 23, 3) := by decide +kernel
theorem dX8_cost_30 : decode cX8_cost 30 = .ok (.bipush 17, 2) := by decide +kernel
theorem dX8_cost_32 : decode cX8_cost 32 = .ok (.iaload, 1) := by decide +kernel
theorem dX8_cost_33 : decode cX8_cost 33 = .ok (.iconst 1, 1) := by decide +kernel
theorem dX8_cost_34 : decode cX8_cost 34 = .ok (.iload_n 1, 1) := by decide +kernel
theorem dX8_cost_35 : decode cX8_cost 35 = .ok (.ishl, 1) := by decide +kernel
theorem dX8_cost_36 : decode cX8_cost 36 = .ok (.ior, 1) := by decide +kernel
theorem dX8_cost_37 : decode cX8_cost 37 = .ok (.iastore, 1) := by decide +kernel
theorem dX8_cost_38 : decode cX8_cost 38 = .ok (.aload_n 0, 1) := by decide +kernel
theorem dX8_cost_39 : decode cX8_cost 39 = .ok (.invokevirtual 275, 3) := by decide +kernel
theorem dX8_cost_42 : decode cX8_cost 42 = .ok (.istore_n 2, 1) := by decide +kernel
theorem dX8_cost_43 : decode cX8_cost 43 = .ok (.aload_n 0, 1) := by decide +kernel
theorem dX8_cost_44 : decode cX8_cost 44 = .ok (.getfield 26, 3) := by decide +kernel
theorem dX8_cost_47 : decode cX8_cost 47 = .ok (.bipush 17, 2) := by decide +kernel
theorem dX8_cost_49 : decode cX8_cost 49 = .ok (.aload_n 0, 1) := by decide +kernel
theorem dX8_cost_50 : decode cX8_cost 50 = .ok (.getfield 23, 3) := by decide +kernel
theorem dX8_cost_53 : decode cX8_cost 53 = .ok (.bipush 17, 2) := by decide +kernel
theorem dX8_cost_55 : decode cX8_cost 55 = .ok (.iaload, 1) := by decide +kernel
theorem dX8_cost_56 : decode cX8_cost 56 = .ok (.iconst 1, 1) := by decide +kernel
theorem dX8_cost_57 : decode cX8_cost 57 = .ok (.iload_n 1, 1) := by decide +kernel
theorem dX8_cost_58 : decode cX8_cost 58 = .ok (.ishl, 1) := by decide +kernel
theorem dX8_cost_59 : decode cX8_cost 59 = .ok (.iconst (-1), 1) := by decide +kernel
theorem dX8_cost_60 : decode cX8_cost 60 = .ok (.ixor, 1) := by decide +kernel
theorem dX8_cost_61 : decode cX8_cost 61 = .ok (.iand, 1) := by decide +kernel
theorem dX8_cost_62 : decode cX8_cost 62 = .ok (.iastore, 1) := by decide +kernel
theorem dX8_cost_63 : decode cX8_cost 63 = .ok (.aload_n 0, 1) := by decide +kernel
theorem dX8_cost_64 : decode cX8_cost 64 = .ok (.invokevirtual 275, 3) := by decide +kernel
theorem dX8_cost_67 : decode cX8_cost 67 = .ok (.istore_n 3, 1) := by decide +kernel
theorem dX8_cost_68 : decode cX8_cost 68 = .ok (.iload_n 2, 1) := by decide +kernel
theorem dX8_cost_69 : decode cX8_cost 69 = .ok (.ldc 223, 2) := by decide +kernel
theorem dX8_cost_71 : decode cX8_cost 71 = .ok (.if_icmp .ge 7, 3) := by decide +kernel
theorem dX8_cost_74 : decode cX8_cost 74 = .ok (.iconst 1, 1) := by decide +kernel
theorem dX8_cost_75 : decode cX8_cost 75 = .ok (.goto 4, 3) := by decide +kernel
theorem dX8_cost_78 : decode cX8_cost 78 = .ok (.iconst 0, 1) := by decide +kernel
theorem dX8_cost_79 : decode cX8_cost 79 = .ok (.iload_n 2, 1) := by decide +kernel
theorem dX8_cost_80 : decode cX8_cost 80 = .ok (.iload_n 3, 1) := by decide +kernel
theorem dX8_cost_81 : decode cX8_cost 81 = .ok (.isub, 1) := by decide +kernel
theorem dX8_cost_82 : decode cX8_cost 82 = .ok (.invokestatic 244, 3) := by decide +kernel
theorem dX8_cost_85 : decode cX8_cost 85 = .ok (.ireturn, 1) := by decide +kernel
theorem cl_X8_275 {X : Cx} {cc : ByteArray} {nL pc fr lo : Nat} {L : List (Nat × Value)} {st : List Value} {S : St} (ok : Ok X cc nL RX8 fr lo) (d : decode cc pc = .ok (.invokevirtual 275, 3)) (hroom : 6 ≤ fr ∧ 148 ≤ lo) (hst : (st.map fun v => v.category).sum ≤ 8) {post : Int32 → St → Prop} (h : wp_X8_together S post) (kk : ∀ (r : Int32) (S1 : St), post r S1 → Wp X nL (pc + 3) L (.int r :: st) S1) : Wp X nL pc L (.ref (xad X 71) :: st) S :=
  r_callVi (n := 4) (f := 5) (lo1 := 125) (N := 0) (As := []) ok tw_in_X8 tw_im_X8_together tw_se_X8_together tw_co_X8_together tw_ml_X8_275 (by decide +kernel) rfl ob_71 rfl hroom hst d rfl (c_X8_together (xl X) (xG X) h) kk
def wp_X8_cost (x1 : Int32) (S : St) (post : Int32 → St → Prop) : Prop :=
  ∀ S1 : St, S1 = up S 71 0 0 → wp_X8_isPlace x1 S1 (fun r3 S2 => ((¬ r3 = 0 → wp_X8_asNow S2 (fun S5 => ∀ S6 : St, S6 = up S5 76 17 ((S5 75 17) ||| ((1 : Int32) <<< (x1 &&& 31))) → wp_X8_together S6 (fun r8 S7 => ∀ S9 : St, S9 = up S7 76 17 ((S7 75 17) &&& (((1 : Int32) <<< (x1 &&& 31)) ^^^ (-1))) → wp_X8_together S9 (fun r11 S10 => ((100000000 ≤ r8 → wp_X8_told_ 0 (r8 - r11) S10 (fun r14 S13 => post r14 S13)) ∧ (¬ 100000000 ≤ r8 → wp_X8_told_ 1 (r8 - r11) S10 (fun r16 S15 => post r16 S15))))))) ∧ (r3 = 0 → post (-1000000001) S2)))
theorem w_wp_X8_cost {X : Cx} (ok : Ok X cX8_cost 4 RX8 6 148) {post : Int32 → St → Prop} (hret : RetI X cX8_cost 4 post) {x1 : Int32} {S : St} (h : wp_X8_cost x1 S post) : Wp X 4 0 [(0, .ref (xad X 71)), (1, .int x1)] [] S := by
  unfold wp_X8_cost at h
  refine r_aload_n ok dX8_cost_0 0 rfl ?_
  refine r_iconst (v := 0) ok dX8_cost_1 rfl ?_
  refine pf_X8_75 ok dX8_cost_2 (fun S1 eS1 => ?_)
  replace h := h S1 eS1
  refine r_aload_n ok dX8_cost_5 0 rfl ?_
  refine r_iload_n ok dX8_cost_6 1 rfl ?_
  refine cl_X8_185 ok dX8_cost_7 (by decide) (Nat.le_of_ble_eq_true rfl) h (fun r3 S2 h => ?_)
  refine r_if_ne (tgt := 16) ok dX8_cost_10 rfl (fun hc4 => ?_) (fun hc4 => ?_)
  · replace h := h.1 hc4
    refine r_aload_n ok dX8_cost_16 0 rfl ?_
    refine cl_X8_238 ok dX8_cost_17 (by decide) (Nat.le_of_ble_eq_true rfl) h (fun S5 h => ?_)
    refine r_aload_n ok dX8_cost_20 0 rfl ?_
    refine gf_X8_26 ok dX8_cost_21 ?_
    refine r_bipush (v := 17) ok dX8_cost_24 rfl ?_
    refine r_aload_n ok dX8_cost_26 0 rfl ?_
    refine gf_X8_23 ok dX8_cost_27 ?_
    refine r_bipush (v := 17) ok dX8_cost_30 rfl ?_
    refine r_iald (j := 17) ok ai_75 (in_lit (by decide)) (by decide) dX8_cost_32 ?_
    refine r_iconst (v := 1) ok dX8_cost_33 rfl ?_
    refine r_iload_n ok dX8_cost_34 1 rfl ?_
    refine r_ishl ok dX8_cost_35 ?_
    refine r_ior ok dX8_cost_36 ?_
    refine r_iast (j := 17) ok ai_76 (in_lit (by decide)) (by decide) dX8_cost_37 (fun S6 eS6 => ?_)
    replace h := h S6 eS6
    refine r_aload_n ok dX8_cost_38 0 rfl ?_
    refine cl_X8_275 ok dX8_cost_39 (by decide) (Nat.le_of_ble_eq_true rfl) h (fun r8 S7 h => ?_)
    refine r_istore_n ok dX8_cost_42 (by decide) [(0, .ref (xad X 71)), (1, .int x1), (2, .int r8)] [1, 2, 0] rfl ?_
    refine r_aload_n ok dX8_cost_43 0 rfl ?_
    refine gf_X8_26 ok dX8_cost_44 ?_
    refine r_bipush (v := 17) ok dX8_cost_47 rfl ?_
    refine r_aload_n ok dX8_cost_49 0 rfl ?_
    refine gf_X8_23 ok dX8_cost_50 ?_
    refine r_bipush (v := 17) ok dX8_cost_53 rfl ?_
    refine r_iald (j := 17) ok ai_75 (in_lit (by decide)) (by decide) dX8_cost_55 ?_
    refine r_iconst (v := 1) ok dX8_cost_56 rfl ?_
    refine r_iload_n ok dX8_cost_57 1 rfl ?_
    refine r_ishl ok dX8_cost_58 ?_
    refine r_iconst (v := (-1)) ok dX8_cost_59 rfl ?_
    refine r_ixor ok dX8_cost_60 ?_
    refine r_iand ok dX8_cost_61 ?_
    refine r_iast (j := 17) ok ai_76 (in_lit (by decide)) (by decide) dX8_cost_62 (fun S9 eS9 => ?_)
    replace h := h S9 eS9
    refine r_aload_n ok dX8_cost_63 0 rfl ?_
    refine cl_X8_275 ok dX8_cost_64 (by decide) (Nat.le_of_ble_eq_true rfl) h (fun r11 S10 h => ?_)
    refine r_istore_n ok dX8_cost_67 (by decide) [(2, .int r8), (3, .int r11)] [3, 0] rfl ?_
    refine r_iload_n ok dX8_cost_68 0 rfl ?_
    refine r_ldc (v := 100000000) ok dX8_cost_69 tw_k_X8_223 ?_
    refine r_icmp_ge (tgt := 78) ok dX8_cost_71 rfl (fun hc12 => ?_) (fun hc12 => ?_)
    · replace h := h.1 hc12
      refine r_iconst (v := 0) ok dX8_cost_78 rfl ?_
      refine r_iload_n ok dX8_cost_79 0 rfl ?_
      refine r_iload_n ok dX8_cost_80 1 rfl ?_
      refine r_isub ok dX8_cost_81 ?_
      refine cl_X8_244 ok dX8_cost_82 (by decide) (Nat.le_of_ble_eq_true rfl) h (fun r14 S13 h => ?_)
      exact hret _ _ _ _ dX8_cost_85 h
    · replace h := h.2 hc12
      refine r_iconst (v := 1) ok dX8_cost_74 rfl ?_
      refine r_goto (tgt := 79) ok dX8_cost_75 rfl ?_
      refine r_iload_n ok dX8_cost_79 0 rfl ?_
      refine r_iload_n ok dX8_cost_80 1 rfl ?_
      refine r_isub ok dX8_cost_81 ?_
      refine cl_X8_244 ok dX8_cost_82 (by decide) (Nat.le_of_ble_eq_true rfl) h (fun r16 S15 h => ?_)
      exact hret _ _ _ _ dX8_cost_85 h
  · replace h := h.2 hc4
    refine r_ldc (v := (-1000000001)) ok dX8_cost_13 tw_k_X8_174 ?_
    exact hret _ _ _ _ dX8_cost_15 h
theorem c_X8_cost (l : Launch) (G : Gx) {x1 : Int32} {S : St} {post : Int32 → St → Prop} (h : wp_X8_cost x1 S post) : MtI l yX8_cost cX8_cost 4 (some .int) 6 148 G [.ref (G.2.2 71), .int x1] S post :=
  ctI (by decide) rfl (Nat.le_of_ble_eq_true rfl) (fun X _ hG ok hret => by subst hG; exact w_wp_X8_cost ok hret h)

/-! HasteRoadsModel.shorter(I)I -/
theorem dX8_shorter_0 : decode cX8_shorter 0 = .ok (.aload_n 0, 1) := by decide +kernel
theorem dX8_shorter_1 : decode cX8_shorter 1 = .ok (.iconst 0, 1) := by decide +kernel
theorem dX8_shorter_2 : decode cX8_shorter 2 = .ok (.putfield 75, 3) := by decide +kernel
theorem dX8_shorter_5 : decode cX8_shorter 5 = .ok (.iload_n 1, 1) := by decide +kernel
theorem dX8_shorter_6 : decode cX8_shorter 6 = .ok (.iconst 0, 1) := by decide +kernel
theorem dX8_shorter_7 : decode cX8_shorter 7 = .ok (.iconst 1, 1) := by decide +kernel
theorem dX8_shorter_8 : decode cX8_shorter 8 = .ok (.invokestatic 78, 3) := by decide +kernel
theorem dX8_shorter_11 : decode cX8_shorter 11 = .ok (.ifCond .ne 6, 3) := by decide +kernel
theorem dX8_shorter_14 : decode cX8_shorter 14 = .ok (.ldc 82, 2) := by decide +kernel
theorem dX8_shorter_16 : decode cX8_shorter 16 = .ok (.ireturn, 1) := by decide +kernel
theorem dX8_shorter_17 : decode cX8_shorter 17 = .ok (.aload_n 0, 1) := by decide +kernel
theorem dX8_shorter_18 : decode cX8_shorter 18 = .ok (.invokevirtual 238, 3) := by decide +kernel
theorem dX8_shorter_21 : decode cX8_shorter 21 = .ok (.aload_n 0, 1) := by decide +kernel
theorem dX8_shorter_22 : decode cX8_shorter 22 = .ok (.invokevirtual 275, 3) := by decide +kernel
theorem dX8_shorter_25 : decode cX8_shorter 25 = .ok (.istore_n 2, 1) := by decide +kernel
theorem dX8_shorter_26 : decode cX8_shorter 26 = .ok (.iconst (-1), 1) := by decide +kernel
theorem dX8_shorter_27 : decode cX8_shorter 27 = .ok (.istore_n 3, 1) := by decide +kernel
theorem dX8_shorter_28 : decode cX8_shorter 28 = .ok (.iconst (-1), 1) := by decide +kernel
theorem dX8_shorter_29 : decode cX8_shorter 29 = .ok (.istore 4, 2) := by decide +kernel
theorem dX8_shorter_31 : decode cX8_shorter 31 = .ok (.iconst 0, 1) := by decide +kernel
theorem dX8_shorter_32 : decode cX8_shorter 32 = .ok (.istore 5, 2) := by decide +kernel
theorem dX8_shorter_34 : decode cX8_shorter 34 = .ok (.iload 5, 2) := by decide +kernel
theorem dX8_shorter_36 : decode cX8_shorter 36 = .ok (.aload_n 0, 1) := by decide +kernel
theorem dX8_shorter_37 : decode cX8_shorter 37 = .ok (.getfield 158, 3) := by decide +kernel
theorem dX8_shorter_40 : decode cX8_shorter 40 = .ok (.if_icmp .ge 109, 3) := by decide +kernel
theorem dX8_shorter_43 : decode cX8_shorter 43 = .ok (.iload_n 2, 1) := by decide +kernel
theorem dX8_shorter_44 : decode cX8_shorter 44 = .ok (.ldc 223, 2) := by decide +kernel
theorem dX8_shorter_46 : decode cX8_shorter 46 = .ok (.if_icmp .ge 103, 3) := by decide +kernel
theorem dX8_shorter_49 : decode cX8_shorter 49 = .ok (.aload_n 0, 1) := by decide +kernel
theorem dX8_shorter_50 : decode cX8_shorter 50 = .ok (.getfield 23, 3) := by decide +kernel
theorem dX8_shorter_53 : decode cX8_shorter 53 = .ok (.bipush 18, 2) := by decide +kernel
theorem dX8_shorter_55 : decode cX8_shorter 55 = .ok (.iload 5, 2) := by decide +kernel
theorem dX8_shorter_57 : decode cX8_shorter 57 = .ok (.iadd, 1) := by decide +kernel
theorem dX8_shorter_58 : decode cX8_shorter 58 = .ok (.iaload, 1) := by decide +kernel
theorem dX8_shorter_59 : decode cX8_shorter 59 = .ok (.iconst 1, 1) := by decide +kernel
theorem dX8_shorter_60 : decode cX8_shorter 60 = .ok (.if_icmp .le 83, 3) := by decide +kernel
theorem dX8_shorter_63 : decode cX8_shorter 63 = .ok (.aload_n 0, 1) := by decide +kernel
theorem dX8_shorter_64 : decode cX8_shorter 64 = .ok (.getfield 26, 3) := by decide +kernel
theorem dX8_shorter_67 : decode cX8_shorter 67 = .ok (.bipush 18, 2) := by decide +kernel
theorem dX8_shorter_69 : decode cX8_shorter 69 = .ok (.iload 5, 2) := by decide +kernel
theorem dX8_shorter_71 : decode cX8_shorter 71 = .ok (.iadd, 1) := by decide +kernel
theorem dX8_shorter_72 : decode cX8_shorter 72 = .ok (.aload_n 0, 1) := by decide +kernel
theorem dX8_shorter_73 : decode cX8_shorter 73 = .ok (.getfield 23, 3) := by decide +kernel
theorem dX8_shorter_76 : decode cX8_shorter 76 = .ok (.bipush 18, 2) := by decide +kernel
theorem dX8_shorter_78 : decode cX8_shorter 78 = .ok (.iload 5, 2) := by decide +kernel
theorem dX8_shorter_80 : decode cX8_shorter 80 = .ok (.iadd, 1) := by decide +kernel
theorem dX8_shorter_81 : decode cX8_shorter 81 = .ok (.iaload, 1) := by decide +kernel
theorem dX8_shorter_82 : decode cX8_shorter 82 = .ok (.iconst 1, 1) := by decide +kernel
theorem dX8_shorter_83 : decode cX8_shorter 83 = .ok (.isub, 1) := by decide +kernel
theorem dX8_shorter_84 : decode cX8_shorter 84 = .ok (.iastore, 1) := by decide +kernel
theorem dX8_shorter_85 : decode cX8_shorter 85 = .ok (.iload_n 2, 1) := by decide +kernel
theorem dX8_shorter_86 : decode cX8_shorter 86 = .ok (.aload_n 0, 1) := by decide +kernel
theorem dX8_shorter_87 : decode cX8_shorter 87 = .ok (.invokevirtual 275, 3) := by decide +kernel
theorem dX8_shorter_90 : decode cX8_shorter 90 = .ok (.isub, 1) := by decide +kernel
theorem dX8_shorter_91 : decode cX8_shorter 91 = .ok (.istore 6, 2) := by decide +kernel
theorem dX8_shorter_93 : decode cX8_shorter 93 = .ok (.aload_n 0, 1) := by decide +kernel
theorem dX8_shorter_94 : decode cX8_shorter 94 = .ok (.getfield 26, 3) := by decide +kernel
theorem dX8_shorter_97 : decode cX8_shorter 97 = .ok (.bipush 18, 2) := by decide +kernel
theorem dX8_shorter_99 : decode cX8_shorter 99 = .ok (.iload 5, 2) := by decide +kernel
theorem dX8_shorter_101 : decode cX8_shorter 101 = .ok (.iadd, 1) := by decide +kernel
theorem dX8_shorter_102 : decode cX8_shorter 102 = .ok (.aload_n 0, 1) := by decide +kernel
theorem dX8_shorter_103 : decode cX8_shorter 103 = .ok (.getfield 23, 3) := by decide +kernel
theorem dX8_shorter_106 : decode cX8_shorter 106 = .ok (.bipush 18, 2) := by decide +kernel
theorem dX8_shorter_108 : decode cX8_shorter 108 = .ok (.iload 5, 2) := by decide +kernel
theorem dX8_shorter_110 : decode cX8_shorter 110 = .ok (.iadd, 1) := by decide +kernel
theorem dX8_shorter_111 : decode cX8_shorter 111 = .ok (.iaload, 1) := by decide +kernel
theorem dX8_shorter_112 : decode cX8_shorter 112 = .ok (.iastore, 1) := by decide +kernel
theorem dX8_shorter_113 : decode cX8_shorter 113 = .ok (.iload 6, 2) := by decide +kernel
theorem dX8_shorter_115 : decode cX8_shorter 115 = .ok (.iload 4, 2) := by decide +kernel
theorem dX8_shorter_117 : decode cX8_shorter 117 = .ok (.if_icmp .le 8, 3) := by decide +kernel
theorem dX8_shorter_120 : decode cX8_shorter 120 = .ok (.iload 5, 2) := by decide +kernel
theorem dX8_shorter_122 : decode cX8_shorter 122 = .ok (.goto 4, 3) := by decide +kernel
theorem dX8_shorter_125 : decode cX8_shorter 125 = .ok (.iload_n 3, 1) := by decide +kernel
theorem dX8_shorter_126 : decode cX8_shorter 126 = .ok (.istore_n 3, 1) := by decide +kernel
theorem dX8_shorter_127 : decode cX8_shorter 127 = .ok (.iload 6, 2) := by decide +kernel
theorem dX8_shorter_129 : decode cX8_shorter 129 = .ok (.iload 4, 2) := by decide +kernel
theorem dX8_shorter_131 : decode cX8_shorter 131 = .ok (.if_icmp .le 8, 3) := by decide +kernel
theorem dX8_shorter_134 : decode cX8_shorter 134 = .ok (.iload 6, 2) := by decide +kernel
theorem dX8_shorter_136 : decode cX8_shorter 136 = .ok (.goto 5, 3) := by decide +kernel
theorem dX8_shorter_139 : decode cX8_shorter 139 = .ok (.iload 4, 2) := by decide +kernel
theorem dX8_shorter_141 : decode cX8_shorter 141 = .ok (.istore 4, 2) := by decide +kernel
theorem dX8_shorter_143 : decode cX8_shorter 143 = .ok (.iinc 5 1, 3) := by decide +kernel
theorem dX8_shorter_146 : decode cX8_shorter 146 = .ok (.goto (-112), 3) := by decide +kernel
theorem dX8_shorter_149 : decode cX8_shorter 149 = .ok (.iload_n 1, 1) := by decide +kernel
theorem dX8_shorter_150 : decode cX8_shorter 150 = .ok (.ifCond .ne 7, 3) := by decide +kernel
theorem dX8_shorter_153 : decode cX8_shorter 153 = .ok (.iload_n 3, 1) := by decide +kernel
theorem dX8_shorter_154 : decode cX8_shorter 154 = .ok (.goto 5, 3) := by decide +kernel
theorem dX8_shorter_157 : decode cX8_shorter 157 = .ok (.iload 4, 2) := by decide +kernel
theorem dX8_shorter_159 : decode cX8_shorter 159 = .ok (.ireturn, 1) := by decide +kernel

def B_X8_shorter_149 (post : Int32 → St → Prop) (x1 : Int32) (x3 : Int32) (x4 : Int32) (S : St) : Prop :=
  ((¬ x1 = 0 → post x4 S) ∧ (x1 = 0 → post x3 S))
def B_X8_shorter_126 (k34 : Int32 → Int32 → Int32 → Int32 → Int32 → St → Prop) (post : Int32 → St → Prop) (x1 : Int32) (x2 : Int32) (x4 : Int32) (x5 : Int32) (x6 : Int32) (s0 : Int32) (S : St) : Prop :=
  ((x6 ≤ x4 → k34 x1 x2 s0 x4 (x5 + 1) S) ∧ (¬ x6 ≤ x4 → k34 x1 x2 s0 x6 (x5 + 1) S))
def BD_X8_shorter_34 (k34 : Int32 → Int32 → Int32 → Int32 → Int32 → St → Prop) (post : Int32 → St → Prop) (x1 : Int32) (x2 : Int32) (x3 : Int32) (x4 : Int32) (x5 : Int32) (S : St) : Prop :=
  (((S 71 11) ≤ x5 → B_X8_shorter_149 post x1 x3 x4 S) ∧ (¬ (S 71 11) ≤ x5 → ((100000000 ≤ x2 → B_X8_shorter_149 post x1 x3 x4 S) ∧ (¬ 100000000 ≤ x2 → vp_in ((18 : Int32) + x5) 28 ∧ ((((S 75 (ix ((18 : Int32) + x5))) ≤ 1 → k34 x1 x2 x3 x4 (x5 + 1) S) ∧ (¬ (S 75 (ix ((18 : Int32) + x5))) ≤ 1 → vp_in ((18 : Int32) + x5) 28 ∧ (vp_in ((18 : Int32) + x5) 28 ∧ (∀ S4 : St, S4 = up S 76 (ix ((18 : Int32) + x5)) ((S 75 (ix ((18 : Int32) + x5))) - 1) → wp_X8_together S4 (fun r7 S6 => ∀ v8 : Int32, v8 = (x2 - r7) → vp_in ((18 : Int32) + x5) 28 ∧ (vp_in ((18 : Int32) + x5) 28 ∧ (∀ S9 : St, S9 = up S6 76 (ix ((18 : Int32) + x5)) (S6 75 (ix ((18 : Int32) + x5))) → ((v8 ≤ x4 → B_X8_shorter_126 k34 post x1 x2 x4 x5 v8 x3 S9) ∧ (¬ v8 ≤ x4 → B_X8_shorter_126 k34 post x1 x2 x4 x5 v8 x5 S9))))))))))))))
def L_X8_shorter_34 (post : Int32 → St → Prop) (n : Nat) : Int32 → Int32 → Int32 → Int32 → Int32 → St → Prop := Nat.rec (motive := fun _ => Int32 → Int32 → Int32 → Int32 → Int32 → St → Prop) (fun _ _ _ _ _ _ => False) (fun _ ih => BD_X8_shorter_34 ih post) n
def B_X8_shorter_34 (post : Int32 → St → Prop) (x1 : Int32) (x2 : Int32) (x3 : Int32) (x4 : Int32) (x5 : Int32) (S : St) : Prop := ∃ n, L_X8_shorter_34 post n x1 x2 x3 x4 x5 S
def wp_X8_shorter (x1 : Int32) (S : St) (post : Int32 → St → Prop) : Prop :=
  ∀ S1 : St, S1 = up S 71 0 0 → wp_X8_in x1 0 1 S1 (fun r3 S2 => ((¬ r3 = 0 → wp_X8_asNow S2 (fun S5 => wp_X8_together S5 (fun r7 S6 => B_X8_shorter_34 post x1 r7 (-1) (-1) 0 S6))) ∧ (r3 = 0 → post (-1000000002) S2)))
theorem w_B_X8_shorter_149 {X : Cx} (ok : Ok X cX8_shorter 7 RX8 6 148) {post : Int32 → St → Prop} (hret : RetI X cX8_shorter 7 post) {x1 x3 x4 : Int32} {S : St} (h : B_X8_shorter_149 post x1 x3 x4 S) : Wp X 7 149 [(1, .int x1), (3, .int x3), (4, .int x4)] [] S := by
  unfold B_X8_shorter_149 at h
  refine r_iload_n ok dX8_shorter_149 0 rfl ?_
  refine r_if_ne (tgt := 157) ok dX8_shorter_150 rfl (fun hc1 => ?_) (fun hc1 => ?_)
  · replace h := h.1 hc1
    refine r_iload ok dX8_shorter_157 2 rfl ?_
    exact hret _ _ _ _ dX8_shorter_159 h
  · replace h := h.2 hc1
    refine r_iload_n ok dX8_shorter_153 1 rfl ?_
    refine r_goto (tgt := 159) ok dX8_shorter_154 rfl ?_
    exact hret _ _ _ _ dX8_shorter_159 h
theorem w_B_X8_shorter_126 {X : Cx} (ok : Ok X cX8_shorter 7 RX8 6 148) {post : Int32 → St → Prop} (hret : RetI X cX8_shorter 7 post) {k34 : Int32 → Int32 → Int32 → Int32 → Int32 → St → Prop} (hk34 : ∀ x1 x2 x3 x4 x5 S, k34 x1 x2 x3 x4 x5 S → Wp X 7 34 [(0, .ref (xad X 71)), (1, .int x1), (2, .int x2), (3, .int x3), (4, .int x4), (5, .int x5)] [] S) {x1 x2 x4 x5 x6 s0 : Int32} {S : St} (h : B_X8_shorter_126 k34 post x1 x2 x4 x5 x6 s0 S) : Wp X 7 126 [(0, .ref (xad X 71)), (1, .int x1), (2, .int x2), (4, .int x4), (5, .int x5), (6, .int x6)] [.int s0] S := by
  unfold B_X8_shorter_126 at h
  refine r_istore_n ok dX8_shorter_126 (by decide) [(0, .ref (xad X 71)), (1, .int x1), (2, .int x2), (3, .int s0), (4, .int x4), (5, .int x5), (6, .int x6)] [1, 2, 3, 0, 4, 5, 6] rfl ?_
  refine r_iload ok dX8_shorter_127 6 rfl ?_
  refine r_iload ok dX8_shorter_129 4 rfl ?_
  refine r_icmp_le (tgt := 139) ok dX8_shorter_131 rfl (fun hc1 => ?_) (fun hc1 => ?_)
  · replace h := h.1 hc1
    refine r_iload ok dX8_shorter_139 4 rfl ?_
    refine r_istore ok dX8_shorter_141 (by decide) [(0, .ref (xad X 71)), (1, .int x1), (2, .int x2), (3, .int s0), (4, .int x4), (5, .int x5)] [1, 2, 3, 4, 0, 5] rfl ?_
    refine r_iinc (v := x5 + 1) ok dX8_shorter_143 5 rfl rfl (by decide) [(0, .ref (xad X 71)), (1, .int x1), (2, .int x2), (3, .int s0), (4, .int x4), (5, .int (x5 + 1))] [1, 2, 3, 4, 5, 0] rfl ?_
    refine r_goto (tgt := 34) ok dX8_shorter_146 rfl ?_
    exact hk34 _ _ _ _ _ _ h
  · replace h := h.2 hc1
    refine r_iload ok dX8_shorter_134 6 rfl ?_
    refine r_goto (tgt := 141) ok dX8_shorter_136 rfl ?_
    refine r_istore ok dX8_shorter_141 (by decide) [(0, .ref (xad X 71)), (1, .int x1), (2, .int x2), (3, .int s0), (4, .int x6), (5, .int x5)] [1, 2, 3, 4, 0, 5] rfl ?_
    refine r_iinc (v := x5 + 1) ok dX8_shorter_143 5 rfl rfl (by decide) [(0, .ref (xad X 71)), (1, .int x1), (2, .int x2), (3, .int s0), (4, .int x6), (5, .int (x5 + 1))] [1, 2, 3, 4, 5, 0] rfl ?_
    refine r_goto (tgt := 34) ok dX8_shorter_146 rfl ?_
    exact hk34 _ _ _ _ _ _ h
theorem w_B_X8_shorter_34 {X : Cx} (ok : Ok X cX8_shorter 7 RX8 6 148) {post : Int32 → St → Prop} (hret : RetI X cX8_shorter 7 post) {x1 x2 x3 x4 x5 : Int32} {S : St} (h : B_X8_shorter_34 post x1 x2 x3 x4 x5 S) : Wp X 7 34 [(0, .ref (xad X 71)), (1, .int x1), (2, .int x2), (3, .int x3), (4, .int x4), (5, .int x5)] [] S := by
  obtain ⟨n, h⟩ := h
  induction n generalizing x1 x2 x3 x4 x5 S with
  | zero => exact False.elim h
  | succ n ih =>
    have hk34 : ∀ x1 x2 x3 x4 x5 S, L_X8_shorter_34 post n x1 x2 x3 x4 x5 S → Wp X 7 34 [(0, .ref (xad X 71)), (1, .int x1), (2, .int x2), (3, .int x3), (4, .int x4), (5, .int x5)] [] S := by intros; apply ih; assumption
    replace h : BD_X8_shorter_34 (L_X8_shorter_34 post n) post x1 x2 x3 x4 x5 S := h
    unfold BD_X8_shorter_34 at h
    generalize L_X8_shorter_34 post n = k34 at h hk34
    refine r_iload ok dX8_shorter_34 5 rfl ?_
    refine r_aload_n ok dX8_shorter_36 0 rfl ?_
    refine gf_X8_158 ok dX8_shorter_37 ?_
    refine r_icmp_ge (tgt := 149) ok dX8_shorter_40 rfl (fun hc1 => ?_) (fun hc1 => ?_)
    · replace h := h.1 hc1
      refine r_sub [(1, .int x1), (3, .int x3), (4, .int x4)] [1, 3, 4] rfl ?_
      exact w_B_X8_shorter_149 ok hret h
    · replace h := h.2 hc1
      refine r_iload_n ok dX8_shorter_43 2 rfl ?_
      refine r_ldc (v := 100000000) ok dX8_shorter_44 tw_k_X8_223 ?_
      refine r_icmp_ge (tgt := 149) ok dX8_shorter_46 rfl (fun hc2 => ?_) (fun hc2 => ?_)
      · replace h := h.1 hc2
        refine r_sub [(1, .int x1), (3, .int x3), (4, .int x4)] [1, 3, 4] rfl ?_
        exact w_B_X8_shorter_149 ok hret h
      · replace h := h.2 hc2
        refine r_aload_n ok dX8_shorter_49 0 rfl ?_
        refine gf_X8_23 ok dX8_shorter_50 ?_
        refine r_bipush (v := 18) ok dX8_shorter_53 rfl ?_
        refine r_iload ok dX8_shorter_55 5 rfl ?_
        refine r_iadd ok dX8_shorter_57 ?_
        refine r_iald ok ai_75 h.1 rfl dX8_shorter_58 ?_
        replace h := h.2
        refine r_iconst (v := 1) ok dX8_shorter_59 rfl ?_
        refine r_icmp_le (tgt := 143) ok dX8_shorter_60 rfl (fun hc3 => ?_) (fun hc3 => ?_)
        · replace h := h.1 hc3
          refine r_iinc (v := x5 + 1) ok dX8_shorter_143 5 rfl rfl (by decide) [(0, .ref (xad X 71)), (1, .int x1), (2, .int x2), (3, .int x3), (4, .int x4), (5, .int (x5 + 1))] [1, 2, 3, 4, 5, 0] rfl ?_
          refine r_goto (tgt := 34) ok dX8_shorter_146 rfl ?_
          exact hk34 _ _ _ _ _ _ h
        · replace h := h.2 hc3
          refine r_aload_n ok dX8_shorter_63 0 rfl ?_
          refine gf_X8_26 ok dX8_shorter_64 ?_
          refine r_bipush (v := 18) ok dX8_shorter_67 rfl ?_
          refine r_iload ok dX8_shorter_69 5 rfl ?_
          refine r_iadd ok dX8_shorter_71 ?_
          refine r_aload_n ok dX8_shorter_72 0 rfl ?_
          refine gf_X8_23 ok dX8_shorter_73 ?_
          refine r_bipush (v := 18) ok dX8_shorter_76 rfl ?_
          refine r_iload ok dX8_shorter_78 5 rfl ?_
          refine r_iadd ok dX8_shorter_80 ?_
          refine r_iald ok ai_75 h.1 rfl dX8_shorter_81 ?_
          replace h := h.2
          refine r_iconst (v := 1) ok dX8_shorter_82 rfl ?_
          refine r_isub ok dX8_shorter_83 ?_
          have hi5 := h.1
          replace h := h.2
          refine r_iast ok ai_76 hi5 rfl dX8_shorter_84 (fun S4 eS4 => ?_)
          replace h := h S4 eS4
          refine r_iload_n ok dX8_shorter_85 2 rfl ?_
          refine r_aload_n ok dX8_shorter_86 0 rfl ?_
          refine cl_X8_275 ok dX8_shorter_87 (by decide) (Nat.le_of_ble_eq_true rfl) h (fun r7 S6 h => ?_)
          refine r_isub ok dX8_shorter_90 ?_
          refine r_top (fun v8 ev8 => ?_)
          replace h := h v8 ev8
          refine r_istore ok dX8_shorter_91 (by decide) [(0, .ref (xad X 71)), (1, .int x1), (2, .int x2), (3, .int x3), (4, .int x4), (5, .int x5), (6, .int v8)] [1, 2, 3, 4, 5, 6, 0] rfl ?_
          refine r_aload_n ok dX8_shorter_93 0 rfl ?_
          refine gf_X8_26 ok dX8_shorter_94 ?_
          refine r_bipush (v := 18) ok dX8_shorter_97 rfl ?_
          refine r_iload ok dX8_shorter_99 5 rfl ?_
          refine r_iadd ok dX8_shorter_101 ?_
          refine r_aload_n ok dX8_shorter_102 0 rfl ?_
          refine gf_X8_23 ok dX8_shorter_103 ?_
          refine r_bipush (v := 18) ok dX8_shorter_106 rfl ?_
          refine r_iload ok dX8_shorter_108 5 rfl ?_
          refine r_iadd ok dX8_shorter_110 ?_
          refine r_iald ok ai_75 h.1 rfl dX8_shorter_111 ?_
          replace h := h.2
          have hi10 := h.1
          replace h := h.2
          refine r_iast ok ai_76 hi10 rfl dX8_shorter_112 (fun S9 eS9 => ?_)
          replace h := h S9 eS9
          refine r_iload ok dX8_shorter_113 6 rfl ?_
          refine r_iload ok dX8_shorter_115 4 rfl ?_
          refine r_icmp_le (tgt := 125) ok dX8_shorter_117 rfl (fun hc11 => ?_) (fun hc11 => ?_)
          · replace h := h.1 hc11
            refine r_iload_n ok dX8_shorter_125 3 rfl ?_
            refine r_sub [(0, .ref (xad X 71)), (1, .int x1), (2, .int x2), (4, .int x4), (5, .int x5), (6, .int v8)] [0, 1, 2, 4, 5, 6] rfl ?_
            exact w_B_X8_shorter_126 ok hret hk34 h
          · replace h := h.2 hc11
            refine r_iload ok dX8_shorter_120 5 rfl ?_
            refine r_goto (tgt := 126) ok dX8_shorter_122 rfl ?_
            refine r_sub [(0, .ref (xad X 71)), (1, .int x1), (2, .int x2), (4, .int x4), (5, .int x5), (6, .int v8)] [0, 1, 2, 4, 5, 6] rfl ?_
            exact w_B_X8_shorter_126 ok hret hk34 h
theorem w_wp_X8_shorter {X : Cx} (ok : Ok X cX8_shorter 7 RX8 6 148) {post : Int32 → St → Prop} (hret : RetI X cX8_shorter 7 post) {x1 : Int32} {S : St} (h : wp_X8_shorter x1 S post) : Wp X 7 0 [(0, .ref (xad X 71)), (1, .int x1)] [] S := by
  unfold wp_X8_shorter at h
  refine r_aload_n ok dX8_shorter_0 0 rfl ?_
  refine r_iconst (v := 0) ok dX8_shorter_1 rfl ?_
  refine pf_X8_75 ok dX8_shorter_2 (fun S1 eS1 => ?_)
  replace h := h S1 eS1
  refine r_iload_n ok dX8_shorter_5 1 rfl ?_
  refine r_iconst (v := 0) ok dX8_shorter_6 rfl ?_
  refine r_iconst (v := 1) ok dX8_shorter_7 rfl ?_
  refine cl_X8_78 ok dX8_shorter_8 (by decide) (Nat.le_of_ble_eq_true rfl) h (fun r3 S2 h => ?_)
  refine r_if_ne (tgt := 17) ok dX8_shorter_11 rfl (fun hc4 => ?_) (fun hc4 => ?_)
  · replace h := h.1 hc4
    refine r_aload_n ok dX8_shorter_17 0 rfl ?_
    refine cl_X8_238 ok dX8_shorter_18 (by decide) (Nat.le_of_ble_eq_true rfl) h (fun S5 h => ?_)
    refine r_aload_n ok dX8_shorter_21 0 rfl ?_
    refine cl_X8_275 ok dX8_shorter_22 (by decide) (Nat.le_of_ble_eq_true rfl) h (fun r7 S6 h => ?_)
    refine r_istore_n ok dX8_shorter_25 (by decide) [(0, .ref (xad X 71)), (1, .int x1), (2, .int r7)] [1, 2, 0] rfl ?_
    refine r_iconst (v := (-1)) ok dX8_shorter_26 rfl ?_
    refine r_istore_n ok dX8_shorter_27 (by decide) [(0, .ref (xad X 71)), (1, .int x1), (2, .int r7), (3, .int (-1))] [1, 2, 3, 0] rfl ?_
    refine r_iconst (v := (-1)) ok dX8_shorter_28 rfl ?_
    refine r_istore ok dX8_shorter_29 (by decide) [(0, .ref (xad X 71)), (1, .int x1), (2, .int r7), (3, .int (-1)), (4, .int (-1))] [1, 2, 3, 4, 0] rfl ?_
    refine r_iconst (v := 0) ok dX8_shorter_31 rfl ?_
    refine r_istore ok dX8_shorter_32 (by decide) [(0, .ref (xad X 71)), (1, .int x1), (2, .int r7), (3, .int (-1)), (4, .int (-1)), (5, .int 0)] [1, 2, 3, 4, 5, 0] rfl ?_
    exact w_B_X8_shorter_34 ok hret h
  · replace h := h.2 hc4
    refine r_ldc (v := (-1000000002)) ok dX8_shorter_14 tw_k_X8_82 ?_
    exact hret _ _ _ _ dX8_shorter_16 h
theorem c_X8_shorter (l : Launch) (G : Gx) {x1 : Int32} {S : St} {post : Int32 → St → Prop} (h : wp_X8_shorter x1 S post) : MtI l yX8_shorter cX8_shorter 7 (some .int) 6 148 G [.ref (G.2.2 71), .int x1] S post :=
  ctI (by decide) rfl (Nat.le_of_ble_eq_true rfl) (fun X _ hG ok hret => by subst hG; exact w_wp_X8_shorter ok hret h)

/-! HasteRoadsModel.lend(III)I -/
theorem dX8_lend_0 : decode cX8_lend 0 = .ok (.aload_n 0, 1) := by decide +kernel
theorem dX8_lend_1 : decode cX8_lend 1 = .ok (.iconst 0, 1) := by decide +kernel
theorem dX8_lend_2 : decode cX8_lend 2 = .ok (.putfield 75, 3) := by decide +kernel
theorem dX8_lend_5 : decode cX8_lend 5 = .ok (.aload_n 0, 1) := by decide +kernel
theorem dX8_lend_6 : decode cX8_lend 6 = .ok (.iload_n 1, 1) := by decide +kernel
theorem dX8_lend_7 : decode cX8_lend 7 = .ok (.invokevirtual 182, 3) := by decide +kernel
theorem dX8_lend_10 : decode cX8_lend 10 = .ok (.ifCond .eq 16, 3) := by decide +kernel
theorem dX8_lend_13 : decode cX8_lend 13 = .ok (.aload_n 0, 1) := by decide +kernel
theorem dX8_lend_14 : decode cX8_lend 14 = .ok (.iload_n 2, 1) := by decide +kernel
theorem dX8_lend_15 : decode cX8_lend 15 = .ok (.invokevirtual 182, 3) := by decide +kernel
theorem dX8_lend_18 : decode cX8_lend 18 = .ok (.ifCond .eq 8, 3) := by decide +kernel
theorem dX8_lend_21 : decode cX8_lend 21 = .ok (.iload_n 1, 1) := by decide +kernel
theorem dX8_lend_22 : decode cX8_lend 22 = .ok (.iload_n 2, 1) := by decide +kernel
theorem dX8_lend_23 : decode cX8_lend 23 = .ok (.if_icmp .ne 6, 3) := by decide +kernel
theorem dX8_lend_26 : decode cX8_lend 26 = .ok (.ldc 174, 2) := by decide +kernel
theorem dX8_lend_28 : decode cX8_lend 28 = .ok (.ireturn, 1) := by decide +kernel
theorem dX8_lend_29 : decode cX8_lend 29 = .ok (.iload_n 3, 1) := by decide +kernel
theorem dX8_lend_30 : decode cX8_lend 30 = .ok (.iconst 0, 1) := by decide +kernel
theorem dX8_lend_31 : decode cX8_lend 31 = .ok (.iconst 5, 1) := by decide +kernel
theorem dX8_lend_32 : decode cX8_lend 32 = .ok (.invokestatic 78, 3) := by decide +kernel
theorem dX8_lend_35 : decode cX8_lend 35 = .ok (.ifCond .ne 6, 3) := by decide +kernel
theorem dX8_lend_38 : decode cX8_lend 38 = .ok (.ldc 82, 2) := by decide +kernel
theorem dX8_lend_40 : decode cX8_lend 40 = .ok (.ireturn, 1) := by decide +kernel
theorem dX8_lend_41 : decode cX8_lend 41 = .ok (.aload_n 0, 1) := by decide +kernel
theorem dX8_lend_42 : decode cX8_lend 42 = .ok (.getfield 23, 3) := by decide +kernel
theorem dX8_lend_45 : decode cX8_lend 45 = .ok (.iconst 4, 1) := by decide +kernel
theorem dX8_lend_46 : decode cX8_lend 46 = .ok (.iload_n 1, 1) := by decide +kernel
theorem dX8_lend_47 : decode cX8_lend 47 = .ok (.imul, 1) := by decide +kernel
theorem dX8_lend_48 : decode cX8_lend 48 = .ok (.iaload, 1) := by decide +kernel
theorem dX8_lend_49 : decode cX8_lend 49 = .ok (.aload_n 0, 1) := by decide +kernel
theorem dX8_lend_50 : decode cX8_lend 50 = .ok (.getfield 23, 3) := by decide +kernel
theorem dX8_lend_53 : decode cX8_lend 53 = .ok (.iconst 4, 1) := by decide +kernel
theorem dX8_lend_54 : decode cX8_lend 54 = .ok (.iload_n 2, 1) := by decide +kernel
theorem dX8_lend_55 : decode cX8_lend 55 = .ok (.imul, 1) := by decide +kernel
theorem dX8_lend_56 : decode cX8_lend 56 = .ok (.iaload, 1) := by decide +kernel
theorem dX8_lend_57 : decode cX8_lend 57 = .ok (.if_icmp .ne 17, 3) := by decide +kernel
theorem dX8_lend_60 : decode cX8_lend 60 = .ok (.aload_n 0, 1) := by decide +kernel
theorem dX8_lend_61 : decode cX8_lend 61 = .ok (.getfield 23, 3) := by decide +kernel
theorem dX8_lend_64 : decode cX8_lend 64 = .ok (.iconst 4, 1) := by decide +kernel
theorem dX8_lend_65 : decode cX8_lend 65 = .ok (.iload_n 1, 1) := by decide +kernel
theorem dX8_lend_66 : decode cX8_lend 66 = .ok (.imul, 1) := by decide +kernel
theorem dX8_lend_67 : decode cX8_lend 67 = .ok (.iconst 1, 1) := by decide +kernel
theorem dX8_lend_68 : decode cX8_lend 68 = .ok (.iadd, 1) := by decide +kernel
theorem dX8_lend_69 : decode cX8_lend 69 = .ok (.iaload, 1) := by decide +kernel
theorem dX8_lend_70 : decode cX8_lend 70 = .ok (.iload_n 3, 1) := by decide +kernel
theorem dX8_lend_71 : decode cX8_lend 71 = .ok (.if_icmp .ge 6, 3) := by decide +kernel
theorem dX8_lend_74 : decode cX8_lend 74 = .ok (.ldc 193, 2) := by decide +kernel
theorem dX8_lend_76 : decode cX8_lend 76 = .ok (.ireturn, 1) := by decide +kernel
theorem dX8_lend_77 : decode cX8_lend 77 = .ok (.aload_n 0, 1) := by decide +kernel
theorem dX8_lend_78 : decode cX8_lend 78 = .ok (.invokevirtual 238, 3) := by decide +kernel
theorem dX8_lend_81 : decode cX8_lend 81 = .ok (.aload_n 0, 1) := by decide +kernel
theorem dX8_lend_82 : decode cX8_lend 82 = .ok (.iload_n 2, 1) := by decide +kernel
theorem dX8_lend_83 : decode cX8_lend 83 = .ok (.aload_n 0, 1) := by decide +kernel
theorem dX8_lend_84 : decode cX8_lend 84 = .ok (.iload_n 2, 1) := by decide +kernel
theorem dX8_lend_85 : decode cX8_lend 85 = .ok (.invokevirtual 251, 3) := by decide +kernel
theorem dX8_lend_88 : decode cX8_lend 88 = .ok (.invokevirtual 241, 3) := by decide +kernel
theorem dX8_lend_91 : decode cX8_lend 91 = .ok (.istore 4, 2) := by decide +kernel
theorem dX8_lend_93 : decode cX8_lend 93 = .ok (.aload_n 0, 1) := by decide +kernel
theorem dX8_lend_94 : decode cX8_lend 94 = .ok (.getfield 26, 3) := by decide +kernel
theorem dX8_lend_97 : decode cX8_lend 97 = .ok (.iconst 4, 1) := by decide +kernel
theorem dX8_lend_98 : decode cX8_lend 98 = .ok (.iload_n 2, 1) := by decide +kernel
theorem dX8_lend_99 : decode cX8_lend 99 = .ok (.imul, 1) := by decide +kernel
theorem dX8_lend_100 : decode cX8_lend 100 = .ok (.iconst 1, 1) := by decide +kernel
theorem dX8_lend_101 : decode cX8_lend 101 = .ok (.iadd, 1) := by decide +kernel
theorem dX8_lend_102 : decode cX8_lend 102 = .ok (.aload_n 0, 1) := by decide +kernel
theorem dX8_lend_103 : decode cX8_lend 103 = .ok (.getfield 23, 3) := by decide +kernel
theorem dX8_lend_106 : decode cX8_lend 106 = .ok (.iconst 4, 1) := by decide +kernel
theorem dX8_lend_107 : decode cX8_lend 107 = .ok (.iload_n 2, 1) := by decide +kernel
theorem dX8_lend_108 : decode cX8_lend 108 = .ok (.imul, 1) := by decide +kernel
theorem dX8_lend_109 : decode cX8_lend 109 = .ok (.iconst 1, 1) := by decide +kernel
theorem dX8_lend_110 : decode cX8_lend 110 = .ok (.iadd, 1) := by decide +kernel
theorem dX8_lend_111 : decode cX8_lend 111 = .ok (.iaload, 1) := by decide +kernel
theorem dX8_lend_112 : decode cX8_lend 112 = .ok (.iload_n 3, 1) := by decide +kernel
theorem dX8_lend_113 : decode cX8_lend 113 = .ok (.iadd, 1) := by decide +kernel
theorem dX8_lend_114 : decode cX8_lend 114 = .ok (.iconst 5, 1) := by decide +kernel
theorem dX8_lend_115 : decode cX8_lend 115 = .ok (.if_icmp .le 7, 3) := by decide +kernel
theorem dX8_lend_118 : decode cX8_lend 118 = .ok (.iconst 5, 1) := by decide +kernel
theorem dX8_lend_119 : decode cX8_lend 119 = .ok (.goto 15, 3) := by decide +kernel
theorem dX8_lend_122 : decode cX8_lend 122 = .ok (.aload_n 0, 1) := by decide +kernel
theorem dX8_lend_123 : decode cX8_lend 123 = .ok (.getfield 23, 3) := by decide +kernel
theorem dX8_lend_126 : decode cX8_lend 126 = .ok (.iconst 4, 1) := by decide +kernel
theorem dX8_lend_127 : decode cX8_lend 127 = .ok (.iload_n 2, 1) := by decide +kernel
theorem dX8_lend_128 : decode cX8_lend 128 = .ok (.imul, 1) := by decide +kernel
theorem dX8_lend_129 : decode cX8_lend 129 = .ok (.iconst 1, 1) := by decide +kernel
theorem dX8_lend_130 : decode cX8_lend 130 = .ok (.iadd, 1) := by decide +kernel
theorem dX8_lend_131 : decode cX8_lend 131 = .ok (.iaload, 1) := by decide +kernel
theorem dX8_lend_132 : decode cX8_lend 132 = .ok (.iload_n 3, 1) := by decide +kernel
theorem dX8_lend_133 : decode cX8_lend 133 = .ok (.iadd, 1) := by decide +kernel
theorem dX8_lend_134 : decode cX8_lend 134 = .ok (.iastore, 1) := by decide +kernel
theorem dX8_lend_135 : decode cX8_lend 135 = .ok (.aload_n 0, 1) := by decide +kernel
theorem dX8_lend_136 : decode cX8_lend 136 = .ok (.iload_n 2, 1) := by decide +kernel
theorem dX8_lend_137 : decode cX8_lend 137 = .ok (.aload_n 0, 1) := by decide +kernel
theorem dX8_lend_138 : decode cX8_lend 138 = .ok (.iload_n 2, 1) := by decide +kernel
theorem dX8_lend_139 : decode cX8_lend 139 = .ok (.invokevirtual 251, 3) := by decide +kernel
theorem dX8_lend_142 : decode cX8_lend 142 = .ok (.invokevirtual 241, 3) := by decide +kernel
theorem dX8_lend_145 : decode cX8_lend 145 = .ok (.istore 5, 2) := by decide +kernel
theorem dX8_lend_147 : decode cX8_lend 147 = .ok (.iload 4, 2) := by decide +kernel
theorem dX8_lend_149 : decode cX8_lend 149 = .ok (.ldc 223, 2) := by decide +kernel
theorem dX8_lend_151 : decode cX8_lend 151 = .ok (.if_icmp .ge 7, 3) := by decide +kernel
theorem dX8_lend_154 : decode cX8_lend 154 = .ok (.iconst 1, 1) := by decide +kernel
theorem dX8_lend_155 : decode cX8_lend 155 = .ok (.goto 4, 3) := by decide +kernel
theorem dX8_lend_158 : decode cX8_lend 158 = .ok (.iconst 0, 1) := by decide +kernel
theorem dX8_lend_159 : decode cX8_lend 159 = .ok (.iload 4, 2) := by decide +kernel
theorem dX8_lend_161 : decode cX8_lend 161 = .ok (.iload 5, 2) := by decide +kernel
theorem dX8_lend_163 : decode cX8_lend 163 = .ok (.isub, 1) := by decide +kernel
theorem dX8_lend_164 : decode cX8_lend 164 = .ok (.invokestatic 244, 3) := by decide +kernel
theorem dX8_lend_167 : decode cX8_lend 167 = .ok (.ireturn, 1) := by decide +kernel

def B_X8_lend_134 (post : Int32 → St → Prop) (x2 : Int32) (x4 : Int32) (s0 : Int32) (s1 : Int32) (S : St) : Prop :=
  vp_in s1 28 ∧ (∀ S1 : St, S1 = up S 76 (ix s1) s0 → wp_X8_errand x2 S1 (fun r4 S3 => wp_X8_soonestOf x2 r4 S3 (fun r6 S5 => ((100000000 ≤ x4 → wp_X8_told_ 0 (x4 - r6) S5 (fun r9 S8 => post r9 S8)) ∧ (¬ 100000000 ≤ x4 → wp_X8_told_ 1 (x4 - r6) S5 (fun r11 S10 => post r11 S10))))))
def wp_X8_lend (x1 : Int32) (x2 : Int32) (x3 : Int32) (S : St) (post : Int32 → St → Prop) : Prop :=
  ∀ S1 : St, S1 = up S 71 0 0 → wp_X8_isPerson x1 S1 (fun r3 S2 => ((r3 = 0 → post (-1000000001) S2) ∧ (¬ r3 = 0 → wp_X8_isPerson x2 S2 (fun r6 S5 => ((r6 = 0 → post (-1000000001) S5) ∧ (¬ r6 = 0 → ((¬ x1 = x2 → wp_X8_in x3 0 5 S5 (fun r10 S9 => ((¬ r10 = 0 → vp_in ((4 : Int32) * x1) 28 ∧ (vp_in ((4 : Int32) * x2) 28 ∧ (((¬ (S9 75 (ix ((4 : Int32) * x1))) = (S9 75 (ix ((4 : Int32) * x2))) → post (-1000000003) S9) ∧ ((S9 75 (ix ((4 : Int32) * x1))) = (S9 75 (ix ((4 : Int32) * x2))) → vp_in (((4 : Int32) * x1) + 1) 28 ∧ (((x3 ≤ (S9 75 (ix (((4 : Int32) * x1) + 1))) → wp_X8_asNow S9 (fun S14 => wp_X8_errand x2 S14 (fun r16 S15 => wp_X8_soonestOf x2 r16 S15 (fun r18 S17 => vp_in (((4 : Int32) * x2) + 1) 28 ∧ (((((S17 75 (ix (((4 : Int32) * x2) + 1))) + x3) ≤ 5 → vp_in (((4 : Int32) * x2) + 1) 28 ∧ (B_X8_lend_134 post x2 r18 ((S17 75 (ix (((4 : Int32) * x2) + 1))) + x3) (((4 : Int32) * x2) + 1) S17)) ∧ (¬ ((S17 75 (ix (((4 : Int32) * x2) + 1))) + x3) ≤ 5 → B_X8_lend_134 post x2 r18 5 (((4 : Int32) * x2) + 1) S17))))))) ∧ (¬ x3 ≤ (S9 75 (ix (((4 : Int32) * x1) + 1))) → post (-1000000003) S9)))))))) ∧ (r10 = 0 → post (-1000000002) S9)))) ∧ (x1 = x2 → post (-1000000001) S5))))))))
theorem w_B_X8_lend_134 {X : Cx} (ok : Ok X cX8_lend 6 RX8 5 125) {post : Int32 → St → Prop} (hret : RetI X cX8_lend 6 post) {x2 x4 s0 s1 : Int32} {S : St} (h : B_X8_lend_134 post x2 x4 s0 s1 S) : Wp X 6 134 [(0, .ref (xad X 71)), (2, .int x2), (4, .int x4)] [.int s0, .int s1, .ref (xad X 76)] S := by
  unfold B_X8_lend_134 at h
  have hi2 := h.1
  replace h := h.2
  refine r_iast ok ai_76 hi2 rfl dX8_lend_134 (fun S1 eS1 => ?_)
  replace h := h S1 eS1
  refine r_aload_n ok dX8_lend_135 0 rfl ?_
  refine r_iload_n ok dX8_lend_136 1 rfl ?_
  refine r_aload_n ok dX8_lend_137 0 rfl ?_
  refine r_iload_n ok dX8_lend_138 1 rfl ?_
  refine cl_X8_251 ok dX8_lend_139 (by decide) (Nat.le_of_ble_eq_true rfl) h (fun r4 S3 h => ?_)
  refine cl_X8_241 ok dX8_lend_142 (by decide) (Nat.le_of_ble_eq_true rfl) h (fun r6 S5 h => ?_)
  refine r_istore ok dX8_lend_145 (by decide) [(4, .int x4), (5, .int r6)] [3, 0] rfl ?_
  refine r_iload ok dX8_lend_147 0 rfl ?_
  refine r_ldc (v := 100000000) ok dX8_lend_149 tw_k_X8_223 ?_
  refine r_icmp_ge (tgt := 158) ok dX8_lend_151 rfl (fun hc7 => ?_) (fun hc7 => ?_)
  · replace h := h.1 hc7
    refine r_iconst (v := 0) ok dX8_lend_158 rfl ?_
    refine r_iload ok dX8_lend_159 0 rfl ?_
    refine r_iload ok dX8_lend_161 1 rfl ?_
    refine r_isub ok dX8_lend_163 ?_
    refine cl_X8_244 ok dX8_lend_164 (by decide) (Nat.le_of_ble_eq_true rfl) h (fun r9 S8 h => ?_)
    exact hret _ _ _ _ dX8_lend_167 h
  · replace h := h.2 hc7
    refine r_iconst (v := 1) ok dX8_lend_154 rfl ?_
    refine r_goto (tgt := 159) ok dX8_lend_155 rfl ?_
    refine r_iload ok dX8_lend_159 0 rfl ?_
    refine r_iload ok dX8_lend_161 1 rfl ?_
    refine r_isub ok dX8_lend_163 ?_
    refine cl_X8_244 ok dX8_lend_164 (by decide) (Nat.le_of_ble_eq_true rfl) h (fun r11 S10 h => ?_)
    exact hret _ _ _ _ dX8_lend_167 h
theorem w_wp_X8_lend {X : Cx} (ok : Ok X cX8_lend 6 RX8 5 125) {post : Int32 → St → Prop} (hret : RetI X cX8_lend 6 post) {x1 x2 x3 : Int32} {S : St} (h : wp_X8_lend x1 x2 x3 S post) : Wp X 6 0 [(0, .ref (xad X 71)), (1, .int x1), (2, .int x2), (3, .int x3)] [] S := by
  unfold wp_X8_lend at h
  refine r_aload_n ok dX8_lend_0 0 rfl ?_
  refine r_iconst (v := 0) ok dX8_lend_1 rfl ?_
  refine pf_X8_75 ok dX8_lend_2 (fun S1 eS1 => ?_)
  replace h := h S1 eS1
  refine r_aload_n ok dX8_lend_5 0 rfl ?_
  refine r_iload_n ok dX8_lend_6 1 rfl ?_
  refine cl_X8_182 ok dX8_lend_7 (by decide) (Nat.le_of_ble_eq_true rfl) h (fun r3 S2 h => ?_)
  refine r_if_eq (tgt := 26) ok dX8_lend_10 rfl (fun hc4 => ?_) (fun hc4 => ?_)
  · replace h := h.1 hc4
    refine r_ldc (v := (-1000000001)) ok dX8_lend_26 tw_k_X8_174 ?_
    exact hret _ _ _ _ dX8_lend_28 h
  · replace h := h.2 hc4
    refine r_aload_n ok dX8_lend_13 0 rfl ?_
    refine r_iload_n ok dX8_lend_14 2 rfl ?_
    refine cl_X8_182 ok dX8_lend_15 (by decide) (Nat.le_of_ble_eq_true rfl) h (fun r6 S5 h => ?_)
    refine r_if_eq (tgt := 26) ok dX8_lend_18 rfl (fun hc7 => ?_) (fun hc7 => ?_)
    · replace h := h.1 hc7
      refine r_ldc (v := (-1000000001)) ok dX8_lend_26 tw_k_X8_174 ?_
      exact hret _ _ _ _ dX8_lend_28 h
    · replace h := h.2 hc7
      refine r_iload_n ok dX8_lend_21 1 rfl ?_
      refine r_iload_n ok dX8_lend_22 2 rfl ?_
      refine r_icmp_ne (tgt := 29) ok dX8_lend_23 rfl (fun hc8 => ?_) (fun hc8 => ?_)
      · replace h := h.1 hc8
        refine r_iload_n ok dX8_lend_29 3 rfl ?_
        refine r_iconst (v := 0) ok dX8_lend_30 rfl ?_
        refine r_iconst (v := 5) ok dX8_lend_31 rfl ?_
        refine cl_X8_78 ok dX8_lend_32 (by decide) (Nat.le_of_ble_eq_true rfl) h (fun r10 S9 h => ?_)
        refine r_if_ne (tgt := 41) ok dX8_lend_35 rfl (fun hc11 => ?_) (fun hc11 => ?_)
        · replace h := h.1 hc11
          refine r_aload_n ok dX8_lend_41 0 rfl ?_
          refine gf_X8_23 ok dX8_lend_42 ?_
          refine r_iconst (v := 4) ok dX8_lend_45 rfl ?_
          refine r_iload_n ok dX8_lend_46 1 rfl ?_
          refine r_imul ok dX8_lend_47 ?_
          refine r_iald ok ai_75 h.1 rfl dX8_lend_48 ?_
          replace h := h.2
          refine r_aload_n ok dX8_lend_49 0 rfl ?_
          refine gf_X8_23 ok dX8_lend_50 ?_
          refine r_iconst (v := 4) ok dX8_lend_53 rfl ?_
          refine r_iload_n ok dX8_lend_54 2 rfl ?_
          refine r_imul ok dX8_lend_55 ?_
          refine r_iald ok ai_75 h.1 rfl dX8_lend_56 ?_
          replace h := h.2
          refine r_icmp_ne (tgt := 74) ok dX8_lend_57 rfl (fun hc12 => ?_) (fun hc12 => ?_)
          · replace h := h.1 hc12
            refine r_ldc (v := (-1000000003)) ok dX8_lend_74 tw_k_X8_193 ?_
            exact hret _ _ _ _ dX8_lend_76 h
          · replace h := h.2 hc12
            refine r_aload_n ok dX8_lend_60 0 rfl ?_
            refine gf_X8_23 ok dX8_lend_61 ?_
            refine r_iconst (v := 4) ok dX8_lend_64 rfl ?_
            refine r_iload_n ok dX8_lend_65 1 rfl ?_
            refine r_imul ok dX8_lend_66 ?_
            refine r_iconst (v := 1) ok dX8_lend_67 rfl ?_
            refine r_iadd ok dX8_lend_68 ?_
            refine r_iald ok ai_75 h.1 rfl dX8_lend_69 ?_
            replace h := h.2
            refine r_iload_n ok dX8_lend_70 3 rfl ?_
            refine r_icmp_ge (tgt := 77) ok dX8_lend_71 rfl (fun hc13 => ?_) (fun hc13 => ?_)
            · replace h := h.1 hc13
              refine r_aload_n ok dX8_lend_77 0 rfl ?_
              refine cl_X8_238 ok dX8_lend_78 (by decide) (Nat.le_of_ble_eq_true rfl) h (fun S14 h => ?_)
              refine r_aload_n ok dX8_lend_81 0 rfl ?_
              refine r_iload_n ok dX8_lend_82 2 rfl ?_
              refine r_aload_n ok dX8_lend_83 0 rfl ?_
              refine r_iload_n ok dX8_lend_84 2 rfl ?_
              refine cl_X8_251 ok dX8_lend_85 (by decide) (Nat.le_of_ble_eq_true rfl) h (fun r16 S15 h => ?_)
              refine cl_X8_241 ok dX8_lend_88 (by decide) (Nat.le_of_ble_eq_true rfl) h (fun r18 S17 h => ?_)
              refine r_istore ok dX8_lend_91 (by decide) [(0, .ref (xad X 71)), (2, .int x2), (3, .int x3), (4, .int r18)] [1, 3, 4, 0] rfl ?_
              refine r_aload_n ok dX8_lend_93 0 rfl ?_
              refine gf_X8_26 ok dX8_lend_94 ?_
              refine r_iconst (v := 4) ok dX8_lend_97 rfl ?_
              refine r_iload_n ok dX8_lend_98 1 rfl ?_
              refine r_imul ok dX8_lend_99 ?_
              refine r_iconst (v := 1) ok dX8_lend_100 rfl ?_
              refine r_iadd ok dX8_lend_101 ?_
              refine r_aload_n ok dX8_lend_102 0 rfl ?_
              refine gf_X8_23 ok dX8_lend_103 ?_
              refine r_iconst (v := 4) ok dX8_lend_106 rfl ?_
              refine r_iload_n ok dX8_lend_107 1 rfl ?_
              refine r_imul ok dX8_lend_108 ?_
              refine r_iconst (v := 1) ok dX8_lend_109 rfl ?_
              refine r_iadd ok dX8_lend_110 ?_
              refine r_iald ok ai_75 h.1 rfl dX8_lend_111 ?_
              replace h := h.2
              refine r_iload_n ok dX8_lend_112 2 rfl ?_
              refine r_iadd ok dX8_lend_113 ?_
              refine r_iconst (v := 5) ok dX8_lend_114 rfl ?_
              refine r_icmp_le (tgt := 122) ok dX8_lend_115 rfl (fun hc19 => ?_) (fun hc19 => ?_)
              · replace h := h.1 hc19
                refine r_aload_n ok dX8_lend_122 0 rfl ?_
                refine gf_X8_23 ok dX8_lend_123 ?_
                refine r_iconst (v := 4) ok dX8_lend_126 rfl ?_
                refine r_iload_n ok dX8_lend_127 1 rfl ?_
                refine r_imul ok dX8_lend_128 ?_
                refine r_iconst (v := 1) ok dX8_lend_129 rfl ?_
                refine r_iadd ok dX8_lend_130 ?_
                refine r_iald ok ai_75 h.1 rfl dX8_lend_131 ?_
                replace h := h.2
                refine r_iload_n ok dX8_lend_132 2 rfl ?_
                refine r_iadd ok dX8_lend_133 ?_
                refine r_sub [(0, .ref (xad X 71)), (2, .int x2), (4, .int r18)] [0, 1, 3] rfl ?_
                exact w_B_X8_lend_134 ok hret h
              · replace h := h.2 hc19
                refine r_iconst (v := 5) ok dX8_lend_118 rfl ?_
                refine r_goto (tgt := 134) ok dX8_lend_119 rfl ?_
                refine r_sub [(0, .ref (xad X 71)), (2, .int x2), (4, .int r18)] [0, 1, 3] rfl ?_
                exact w_B_X8_lend_134 ok hret h
            · replace h := h.2 hc13
              refine r_ldc (v := (-1000000003)) ok dX8_lend_74 tw_k_X8_193 ?_
              exact hret _ _ _ _ dX8_lend_76 h
        · replace h := h.2 hc11
          refine r_ldc (v := (-1000000002)) ok dX8_lend_38 tw_k_X8_82 ?_
          exact hret _ _ _ _ dX8_lend_40 h
      · replace h := h.2 hc8
        refine r_ldc (v := (-1000000001)) ok dX8_lend_26 tw_k_X8_174 ?_
        exact hret _ _ _ _ dX8_lend_28 h
theorem c_X8_lend (l : Launch) (G : Gx) {x1 x2 x3 : Int32} {S : St} {post : Int32 → St → Prop} (h : wp_X8_lend x1 x2 x3 S post) : MtI l yX8_lend cX8_lend 6 (some .int) 5 125 G [.ref (G.2.2 71), .int x1, .int x2, .int x3] S post :=
  ctI (by decide) rfl (Nat.le_of_ble_eq_true rfl) (fun X _ hG ok hret => by subst hG; exact w_wp_X8_lend ok hret h)

/-! HasteRoadsModel.isNear(II)Z -/
theorem dX8_isNear_0 : decode cX8_isNear 0 = .ok (.iload_n 1, 1) := by decide +kernel
theorem dX8_isNear_1 : decode cX8_isNear 1 = .ok (.iload_n 2, 1) := by decide +kernel
theorem dX8_isNear_2 : decode cX8_isNear 2 = .ok (.if_icmp .ne 7, 3) := by decide +kernel
theorem dX8_isNear_5 : decode cX8_isNear 5 = .ok (.iconst 1, 1) := by decide +kernel
theorem dX8_isNear_6 : decode cX8_isNear 6 = .ok (.goto 4, 3) := by decide +kernel
theorem dX8_isNear_9 : decode cX8_isNear 9 = .ok (.iconst 0, 1) := by decide +kernel
theorem dX8_isNear_10 : decode cX8_isNear 10 = .ok (.istore_n 3, 1) := by decide +kernel
theorem dX8_isNear_11 : decode cX8_isNear 11 = .ok (.iconst 0, 1) := by decide +kernel
theorem dX8_isNear_12 : decode cX8_isNear 12 = .ok (.istore 4, 2) := by decide +kernel
theorem dX8_isNear_14 : decode cX8_isNear 14 = .ok (.iload 4, 2) := by decide +kernel
theorem dX8_isNear_16 : decode cX8_isNear 16 = .ok (.aload_n 0, 1) := by decide +kernel
theorem dX8_isNear_17 : decode cX8_isNear 17 = .ok (.getfield 158, 3) := by decide +kernel
theorem dX8_isNear_20 : decode cX8_isNear 20 = .ok (.if_icmp .ge 30, 3) := by decide +kernel
theorem dX8_isNear_23 : decode cX8_isNear 23 = .ok (.iload_n 3, 1) := by decide +kernel
theorem dX8_isNear_24 : decode cX8_isNear 24 = .ok (.ifCond .ne 14, 3) := by decide +kernel
theorem dX8_isNear_27 : decode cX8_isNear 27 = .ok (.aload_n 0, 1) := by decide +kernel
theorem dX8_isNear_28 : decode cX8_isNear 28 = .ok (.iload 4, 2) := by decide +kernel
theorem dX8_isNear_30 : decode cX8_isNear 30 = .ok (.iload_n 1, 1) := by decide +kernel
theorem dX8_isNear_31 : decode cX8_isNear 31 = .ok (.invokevirtual 189, 3) := by decide +kernel
theorem dX8_isNear_34 : decode cX8_isNear 34 = .ok (.iload_n 2, 1) := by decide +kernel
theorem dX8_isNear_35 : decode cX8_isNear 35 = .ok (.if_icmp .ne 7, 3) := by decide +kernel
theorem dX8_isNear_38 : decode cX8_isNear 38 = .ok (.iconst 1, 1) := by decide +kernel
theorem dX8_isNear_39 : decode cX8_isNear 39 = .ok (.goto 4, 3) := by decide +kernel
theorem dX8_isNear_42 : decode cX8_isNear 42 = .ok (.iconst 0, 1) := by decide +kernel
theorem dX8_isNear_43 : decode cX8_isNear 43 = .ok (.istore_n 3, 1) := by decide +kernel
theorem dX8_isNear_44 : decode cX8_isNear 44 = .ok (.iinc 4 1, 3) := by decide +kernel
theorem dX8_isNear_47 : decode cX8_isNear 47 = .ok (.goto (-33), 3) := by decide +kernel
theorem dX8_isNear_50 : decode cX8_isNear 50 = .ok (.iload_n 3, 1) := by decide +kernel
theorem dX8_isNear_51 : decode cX8_isNear 51 = .ok (.ireturn, 1) := by decide +kernel

def BD_X8_isNear_14 (k14 : Int32 → Int32 → Int32 → Int32 → St → Prop) (post : Int32 → St → Prop) (x1 : Int32) (x2 : Int32) (x3 : Int32) (x4 : Int32) (S : St) : Prop :=
  (((S 71 11) ≤ x4 → ((x3 = 0 ∨ x3 = 1) ∧ post x3 S)) ∧ (¬ (S 71 11) ≤ x4 → ((¬ x3 = 0 → k14 x1 x2 1 (x4 + 1) S) ∧ (x3 = 0 → wp_X8_otherEnd x4 x1 S (fun r4 S3 => ((¬ r4 = x2 → k14 x1 x2 0 (x4 + 1) S3) ∧ (r4 = x2 → k14 x1 x2 1 (x4 + 1) S3)))))))
def L_X8_isNear_14 (post : Int32 → St → Prop) (n : Nat) : Int32 → Int32 → Int32 → Int32 → St → Prop := Nat.rec (motive := fun _ => Int32 → Int32 → Int32 → Int32 → St → Prop) (fun _ _ _ _ _ => False) (fun _ ih => BD_X8_isNear_14 ih post) n
def B_X8_isNear_14 (post : Int32 → St → Prop) (x1 : Int32) (x2 : Int32) (x3 : Int32) (x4 : Int32) (S : St) : Prop := ∃ n, L_X8_isNear_14 post n x1 x2 x3 x4 S
def wp_X8_isNear (x1 : Int32) (x2 : Int32) (S : St) (post : Int32 → St → Prop) : Prop :=
  ((¬ x1 = x2 → B_X8_isNear_14 post x1 x2 0 0 S) ∧ (x1 = x2 → B_X8_isNear_14 post x1 x2 1 0 S))
theorem w_B_X8_isNear_14 {X : Cx} (ok : Ok X cX8_isNear 5 RX8 1 22) {post : Int32 → St → Prop} (hret : RetZ X cX8_isNear 5 post) {x1 x2 x3 x4 : Int32} {S : St} (h : B_X8_isNear_14 post x1 x2 x3 x4 S) : Wp X 5 14 [(0, .ref (xad X 71)), (1, .int x1), (2, .int x2), (3, .int x3), (4, .int x4)] [] S := by
  obtain ⟨n, h⟩ := h
  induction n generalizing x1 x2 x3 x4 S with
  | zero => exact False.elim h
  | succ n ih =>
    have hk14 : ∀ x1 x2 x3 x4 S, L_X8_isNear_14 post n x1 x2 x3 x4 S → Wp X 5 14 [(0, .ref (xad X 71)), (1, .int x1), (2, .int x2), (3, .int x3), (4, .int x4)] [] S := by intros; apply ih; assumption
    replace h : BD_X8_isNear_14 (L_X8_isNear_14 post n) post x1 x2 x3 x4 S := h
    unfold BD_X8_isNear_14 at h
    generalize L_X8_isNear_14 post n = k14 at h hk14
    refine r_iload ok dX8_isNear_14 4 rfl ?_
    refine r_aload_n ok dX8_isNear_16 0 rfl ?_
    refine gf_X8_158 ok dX8_isNear_17 ?_
    refine r_icmp_ge (tgt := 50) ok dX8_isNear_20 rfl (fun hc1 => ?_) (fun hc1 => ?_)
    · replace h := h.1 hc1
      refine r_iload_n ok dX8_isNear_50 3 rfl ?_
      exact hret _ _ _ _ dX8_isNear_51 h.1 h.2
    · replace h := h.2 hc1
      refine r_iload_n ok dX8_isNear_23 3 rfl ?_
      refine r_if_ne (tgt := 38) ok dX8_isNear_24 rfl (fun hc2 => ?_) (fun hc2 => ?_)
      · replace h := h.1 hc2
        refine r_iconst (v := 1) ok dX8_isNear_38 rfl ?_
        refine r_goto (tgt := 43) ok dX8_isNear_39 rfl ?_
        refine r_istore_n ok dX8_isNear_43 (by decide) [(0, .ref (xad X 71)), (1, .int x1), (2, .int x2), (3, .int 1), (4, .int x4)] [1, 2, 3, 0, 4] rfl ?_
        refine r_iinc (v := x4 + 1) ok dX8_isNear_44 4 rfl rfl (by decide) [(0, .ref (xad X 71)), (1, .int x1), (2, .int x2), (3, .int 1), (4, .int (x4 + 1))] [1, 2, 3, 4, 0] rfl ?_
        refine r_goto (tgt := 14) ok dX8_isNear_47 rfl ?_
        exact hk14 _ _ _ _ _ h
      · replace h := h.2 hc2
        refine r_aload_n ok dX8_isNear_27 0 rfl ?_
        refine r_iload ok dX8_isNear_28 4 rfl ?_
        refine r_iload_n ok dX8_isNear_30 1 rfl ?_
        refine cl_X8_189 ok dX8_isNear_31 (by decide) (Nat.le_of_ble_eq_true rfl) h (fun r4 S3 h => ?_)
        refine r_iload_n ok dX8_isNear_34 2 rfl ?_
        refine r_icmp_ne (tgt := 42) ok dX8_isNear_35 rfl (fun hc5 => ?_) (fun hc5 => ?_)
        · replace h := h.1 hc5
          refine r_iconst (v := 0) ok dX8_isNear_42 rfl ?_
          refine r_istore_n ok dX8_isNear_43 (by decide) [(0, .ref (xad X 71)), (1, .int x1), (2, .int x2), (3, .int 0), (4, .int x4)] [1, 2, 3, 0, 4] rfl ?_
          refine r_iinc (v := x4 + 1) ok dX8_isNear_44 4 rfl rfl (by decide) [(0, .ref (xad X 71)), (1, .int x1), (2, .int x2), (3, .int 0), (4, .int (x4 + 1))] [1, 2, 3, 4, 0] rfl ?_
          refine r_goto (tgt := 14) ok dX8_isNear_47 rfl ?_
          exact hk14 _ _ _ _ _ h
        · replace h := h.2 hc5
          refine r_iconst (v := 1) ok dX8_isNear_38 rfl ?_
          refine r_goto (tgt := 43) ok dX8_isNear_39 rfl ?_
          refine r_istore_n ok dX8_isNear_43 (by decide) [(0, .ref (xad X 71)), (1, .int x1), (2, .int x2), (3, .int 1), (4, .int x4)] [1, 2, 3, 0, 4] rfl ?_
          refine r_iinc (v := x4 + 1) ok dX8_isNear_44 4 rfl rfl (by decide) [(0, .ref (xad X 71)), (1, .int x1), (2, .int x2), (3, .int 1), (4, .int (x4 + 1))] [1, 2, 3, 4, 0] rfl ?_
          refine r_goto (tgt := 14) ok dX8_isNear_47 rfl ?_
          exact hk14 _ _ _ _ _ h
theorem w_wp_X8_isNear {X : Cx} (ok : Ok X cX8_isNear 5 RX8 1 22) {post : Int32 → St → Prop} (hret : RetZ X cX8_isNear 5 post) {x1 x2 : Int32} {S : St} (h : wp_X8_isNear x1 x2 S post) : Wp X 5 0 [(0, .ref (xad X 71)), (1, .int x1), (2, .int x2)] [] S := by
  unfold wp_X8_isNear at h
  refine r_iload_n ok dX8_isNear_0 1 rfl ?_
  refine r_iload_n ok dX8_isNear_1 2 rfl ?_
  refine r_icmp_ne (tgt := 9) ok dX8_isNear_2 rfl (fun hc1 => ?_) (fun hc1 => ?_)
  · replace h := h.1 hc1
    refine r_iconst (v := 0) ok dX8_isNear_9 rfl ?_
    refine r_istore_n ok dX8_isNear_10 (by decide) [(0, .ref (xad X 71)), (1, .int x1), (2, .int x2), (3, .int 0)] [1, 2, 3, 0] rfl ?_
    refine r_iconst (v := 0) ok dX8_isNear_11 rfl ?_
    refine r_istore ok dX8_isNear_12 (by decide) [(0, .ref (xad X 71)), (1, .int x1), (2, .int x2), (3, .int 0), (4, .int 0)] [1, 2, 3, 4, 0] rfl ?_
    exact w_B_X8_isNear_14 ok hret h
  · replace h := h.2 hc1
    refine r_iconst (v := 1) ok dX8_isNear_5 rfl ?_
    refine r_goto (tgt := 10) ok dX8_isNear_6 rfl ?_
    refine r_istore_n ok dX8_isNear_10 (by decide) [(0, .ref (xad X 71)), (1, .int x1), (2, .int x2), (3, .int 1)] [1, 2, 3, 0] rfl ?_
    refine r_iconst (v := 0) ok dX8_isNear_11 rfl ?_
    refine r_istore ok dX8_isNear_12 (by decide) [(0, .ref (xad X 71)), (1, .int x1), (2, .int x2), (3, .int 1), (4, .int 0)] [1, 2, 3, 4, 0] rfl ?_
    exact w_B_X8_isNear_14 ok hret h
theorem c_X8_isNear (l : Launch) (G : Gx) {x1 x2 : Int32} {S : St} {post : Int32 → St → Prop} (h : wp_X8_isNear x1 x2 S post) : MtI l yX8_isNear cX8_isNear 5 (some .boolean) 1 22 G [.ref (G.2.2 71), .int x1, .int x2] S post :=
  ctZ (by decide) rfl (Nat.le_of_ble_eq_true rfl) (fun X _ hG ok hret => by subst hG; exact w_wp_X8_isNear ok hret h)

/-! HasteRoadsModel.guarded(II)I -/
theorem dX8_guarded_0 : decode cX8_guarded 0 = .ok (.iload_n 1, 1) := by decide +kernel
theorem dX8_guarded_1 : decode cX8_guarded 1 = .ok (.iload_n 2, 1) := by decide +kernel
theorem dX8_guarded_2 : decode cX8_guarded 2 = .ok (.if_icmp .ne 5, 3) := by decide +kernel
theorem dX8_guarded_5 : decode cX8_guarded 5 = .ok (.iconst 0, 1) := by decide +kernel
theorem dX8_guarded_6 : decode cX8_guarded 6 = .ok (.ireturn, 1) := by decide +kernel
theorem dX8_guarded_7 : decode cX8_guarded 7 = .ok (.ldc 223, 2) := by decide +kernel
theorem dX8_guarded_9 : decode cX8_guarded 9 = .ok (.istore_n 3, 1) := by decide +kernel
theorem dX8_guarded_10 : decode cX8_guarded 10 = .ok (.iconst 0, 1) := by decide +kernel
theorem dX8_guarded_11 : decode cX8_guarded 11 = .ok (.istore 4, 2) := by decide +kernel
theorem dX8_guarded_13 : decode cX8_guarded 13 = .ok (.iload 4, 2) := by decide +kernel
theorem dX8_guarded_15 : decode cX8_guarded 15 = .ok (.aload_n 0, 1) := by decide +kernel
theorem dX8_guarded_16 : decode cX8_guarded 16 = .ok (.getfield 155, 3) := by decide +kernel
theorem dX8_guarded_19 : decode cX8_guarded 19 = .ok (.if_icmp .ge 46, 3) := by decide +kernel
theorem dX8_guarded_22 : decode cX8_guarded 22 = .ok (.aload_n 0, 1) := by decide +kernel
theorem dX8_guarded_23 : decode cX8_guarded 23 = .ok (.getfield 69, 3) := by decide +kernel
theorem dX8_guarded_26 : decode cX8_guarded 26 = .ok (.bipush 6, 2) := by decide +kernel
theorem dX8_guarded_28 : decode cX8_guarded 28 = .ok (.iload_n 1, 1) := by decide +kernel
theorem dX8_guarded_29 : decode cX8_guarded 29 = .ok (.imul, 1) := by decide +kernel
theorem dX8_guarded_30 : decode cX8_guarded 30 = .ok (.iload 4, 2) := by decide +kernel
theorem dX8_guarded_32 : decode cX8_guarded 32 = .ok (.iadd, 1) := by decide +kernel
theorem dX8_guarded_33 : decode cX8_guarded 33 = .ok (.iaload, 1) := by decide +kernel
theorem dX8_guarded_34 : decode cX8_guarded 34 = .ok (.istore 5, 2) := by decide +kernel
theorem dX8_guarded_36 : decode cX8_guarded 36 = .ok (.aload_n 0, 1) := by decide +kernel
theorem dX8_guarded_37 : decode cX8_guarded 37 = .ok (.iload_n 2, 1) := by decide +kernel
theorem dX8_guarded_38 : decode cX8_guarded 38 = .ok (.iload 4, 2) := by decide +kernel
theorem dX8_guarded_40 : decode cX8_guarded 40 = .ok (.invokevirtual 278, 3) := by decide +kernel
theorem dX8_guarded_43 : decode cX8_guarded 43 = .ok (.ifCond .eq 14, 3) := by decide +kernel
theorem dX8_guarded_46 : decode cX8_guarded 46 = .ok (.iload 5, 2) := by decide +kernel
theorem dX8_guarded_48 : decode cX8_guarded 48 = .ok (.iload_n 3, 1) := by decide +kernel
theorem dX8_guarded_49 : decode cX8_guarded 49 = .ok (.if_icmp .ge 8, 3) := by decide +kernel
theorem dX8_guarded_52 : decode cX8_guarded 52 = .ok (.iload 5, 2) := by decide +kernel
theorem dX8_guarded_54 : decode cX8_guarded 54 = .ok (.goto 4, 3) := by decide +kernel
theorem dX8_guarded_57 : decode cX8_guarded 57 = .ok (.iload_n 3, 1) := by decide +kernel
theorem dX8_guarded_58 : decode cX8_guarded 58 = .ok (.istore_n 3, 1) := by decide +kernel
theorem dX8_guarded_59 : decode cX8_guarded 59 = .ok (.iinc 4 1, 3) := by decide +kernel
theorem dX8_guarded_62 : decode cX8_guarded 62 = .ok (.goto (-49), 3) := by decide +kernel
theorem dX8_guarded_65 : decode cX8_guarded 65 = .ok (.iload_n 3, 1) := by decide +kernel
theorem dX8_guarded_66 : decode cX8_guarded 66 = .ok (.ldc 223, 2) := by decide +kernel
theorem dX8_guarded_68 : decode cX8_guarded 68 = .ok (.if_icmp .ne 8, 3) := by decide +kernel
theorem dX8_guarded_71 : decode cX8_guarded 71 = .ok (.ldc 223, 2) := by decide +kernel
theorem dX8_guarded_73 : decode cX8_guarded 73 = .ok (.goto 6, 3) := by decide +kernel
theorem dX8_guarded_76 : decode cX8_guarded 76 = .ok (.iload_n 3, 1) := by decide +kernel
theorem dX8_guarded_77 : decode cX8_guarded 77 = .ok (.iconst 1, 1) := by decide +kernel
theorem dX8_guarded_78 : decode cX8_guarded 78 = .ok (.iadd, 1) := by decide +kernel
theorem dX8_guarded_79 : decode cX8_guarded 79 = .ok (.ireturn, 1) := by decide +kernel
theorem gf_X8_69 {X : Cx} {cc : ByteArray} {nL pc fr lo : Nat} {L : List (Nat × Value)} {st : List Value} {S : St} (ok : Ok X cc nL RX8 fr lo) (d : decode cc pc = .ok (.getfield 69, 3)) (k : Wp X nL (pc + 3) L (.ref (xad X 90) :: st) S) : Wp X nL pc L (.ref (xad X 71) :: st) S :=
  r_get (C := RX8) (T := TX8) ok ob_71 rfl i_X8 37 (by decide) tw_fl_X8_69 d (by rw [show fvl (xad X) S 71 37 = .ref (xad X 90) from (fvl_ref (d := 90) (by decide))]; exact k)
theorem cl_X8_278 {X : Cx} {cc : ByteArray} {nL pc fr lo : Nat} {L : List (Nat × Value)} {st : List Value} {S : St} (ok : Ok X cc nL RX8 fr lo) {x1 x2 : Int32} (d : decode cc pc = .ok (.invokevirtual 278, 3)) (hroom : 2 ≤ fr ∧ 46 ≤ lo) (hst : (st.map fun v => v.category).sum ≤ 8) {post : Int32 → St → Prop} (h : wp_X8_isNear x1 x2 S post) (kk : ∀ (r : Int32) (S1 : St), post r S1 → Wp X nL (pc + 3) L (.int r :: st) S1) : Wp X nL pc L (.int x2 :: .int x1 :: .ref (xad X 71) :: st) S :=
  r_callVi (n := 5) (f := 1) (lo1 := 22) (N := 2) (As := [.int x1, .int x2]) ok tw_in_X8 tw_im_X8_isNear tw_se_X8_isNear tw_co_X8_isNear tw_ml_X8_278 (by decide +kernel) rfl ob_71 rfl hroom hst d rfl (c_X8_isNear (xl X) (xG X) h) kk
def B_X8_guarded_65 (post : Int32 → St → Prop) (x3 : Int32) (S : St) : Prop :=
  ((¬ x3 = 100000000 → post (x3 + 1) S) ∧ (x3 = 100000000 → post 100000000 S))
def BD_X8_guarded_13 (k13 : Int32 → Int32 → Int32 → Int32 → St → Prop) (post : Int32 → St → Prop) (x1 : Int32) (x2 : Int32) (x3 : Int32) (x4 : Int32) (S : St) : Prop :=
  (((S 71 10) ≤ x4 → B_X8_guarded_65 post x3 S) ∧ (¬ (S 71 10) ≤ x4 → vp_in (((6 : Int32) * x1) + x4) 36 ∧ (∀ v2 : Int32, v2 = (S 90 (ix (((6 : Int32) * x1) + x4))) → wp_X8_isNear x2 x4 S (fun r4 S3 => ((r4 = 0 → k13 x1 x2 x3 (x4 + 1) S3) ∧ (¬ r4 = 0 → ((x3 ≤ v2 → k13 x1 x2 x3 (x4 + 1) S3) ∧ (¬ x3 ≤ v2 → k13 x1 x2 v2 (x4 + 1) S3))))))))
def L_X8_guarded_13 (post : Int32 → St → Prop) (n : Nat) : Int32 → Int32 → Int32 → Int32 → St → Prop := Nat.rec (motive := fun _ => Int32 → Int32 → Int32 → Int32 → St → Prop) (fun _ _ _ _ _ => False) (fun _ ih => BD_X8_guarded_13 ih post) n
def B_X8_guarded_13 (post : Int32 → St → Prop) (x1 : Int32) (x2 : Int32) (x3 : Int32) (x4 : Int32) (S : St) : Prop := ∃ n, L_X8_guarded_13 post n x1 x2 x3 x4 S
def wp_X8_guarded (x1 : Int32) (x2 : Int32) (S : St) (post : Int32 → St → Prop) : Prop :=
  ((¬ x1 = x2 → B_X8_guarded_13 post x1 x2 100000000 0 S) ∧ (x1 = x2 → post 0 S))
theorem w_B_X8_guarded_65 {X : Cx} (ok : Ok X cX8_guarded 6 RX8 2 46) {post : Int32 → St → Prop} (hret : RetI X cX8_guarded 6 post) {x3 : Int32} {S : St} (h : B_X8_guarded_65 post x3 S) : Wp X 6 65 [(3, .int x3)] [] S := by
  unfold B_X8_guarded_65 at h
  refine r_iload_n ok dX8_guarded_65 0 rfl ?_
  refine r_ldc (v := 100000000) ok dX8_guarded_66 tw_k_X8_223 ?_
  refine r_icmp_ne (tgt := 76) ok dX8_guarded_68 rfl (fun hc1 => ?_) (fun hc1 => ?_)
  · replace h := h.1 hc1
    refine r_iload_n ok dX8_guarded_76 0 rfl ?_
    refine r_iconst (v := 1) ok dX8_guarded_77 rfl ?_
    refine r_iadd ok dX8_guarded_78 ?_
    exact hret _ _ _ _ dX8_guarded_79 h
  · replace h := h.2 hc1
    refine r_ldc (v := 100000000) ok dX8_guarded_71 tw_k_X8_223 ?_
    refine r_goto (tgt := 79) ok dX8_guarded_73 rfl ?_
    exact hret _ _ _ _ dX8_guarded_79 h
theorem w_B_X8_guarded_13 {X : Cx} (ok : Ok X cX8_guarded 6 RX8 2 46) {post : Int32 → St → Prop} (hret : RetI X cX8_guarded 6 post) {x1 x2 x3 x4 : Int32} {S : St} (h : B_X8_guarded_13 post x1 x2 x3 x4 S) : Wp X 6 13 [(0, .ref (xad X 71)), (1, .int x1), (2, .int x2), (3, .int x3), (4, .int x4)] [] S := by
  obtain ⟨n, h⟩ := h
  induction n generalizing x1 x2 x3 x4 S with
  | zero => exact False.elim h
  | succ n ih =>
    have hk13 : ∀ x1 x2 x3 x4 S, L_X8_guarded_13 post n x1 x2 x3 x4 S → Wp X 6 13 [(0, .ref (xad X 71)), (1, .int x1), (2, .int x2), (3, .int x3), (4, .int x4)] [] S := by intros; apply ih; assumption
    replace h : BD_X8_guarded_13 (L_X8_guarded_13 post n) post x1 x2 x3 x4 S := h
    unfold BD_X8_guarded_13 at h
    generalize L_X8_guarded_13 post n = k13 at h hk13
    refine r_iload ok dX8_guarded_13 4 rfl ?_
    refine r_aload_n ok dX8_guarded_15 0 rfl ?_
    refine gf_X8_155 ok dX8_guarded_16 ?_
    refine r_icmp_ge (tgt := 65) ok dX8_guarded_19 rfl (fun hc1 => ?_) (fun hc1 => ?_)
    · replace h := h.1 hc1
      refine r_sub [(3, .int x3)] [3] rfl ?_
      exact w_B_X8_guarded_65 ok hret h
    · replace h := h.2 hc1
      refine r_aload_n ok dX8_guarded_22 0 rfl ?_
      refine gf_X8_69 ok dX8_guarded_23 ?_
      refine r_bipush (v := 6) ok dX8_guarded_26 rfl ?_
      refine r_iload_n ok dX8_guarded_28 1 rfl ?_
      refine r_imul ok dX8_guarded_29 ?_
      refine r_iload ok dX8_guarded_30 4 rfl ?_
      refine r_iadd ok dX8_guarded_32 ?_
      refine r_iald ok ai_90 h.1 rfl dX8_guarded_33 ?_
      replace h := h.2
      refine r_top (fun v2 ev2 => ?_)
      replace h := h v2 ev2
      refine r_istore ok dX8_guarded_34 (by decide) [(0, .ref (xad X 71)), (1, .int x1), (2, .int x2), (3, .int x3), (4, .int x4), (5, .int v2)] [1, 2, 3, 4, 5, 0] rfl ?_
      refine r_aload_n ok dX8_guarded_36 0 rfl ?_
      refine r_iload_n ok dX8_guarded_37 2 rfl ?_
      refine r_iload ok dX8_guarded_38 4 rfl ?_
      refine cl_X8_278 ok dX8_guarded_40 (by decide) (Nat.le_of_ble_eq_true rfl) h (fun r4 S3 h => ?_)
      refine r_if_eq (tgt := 57) ok dX8_guarded_43 rfl (fun hc5 => ?_) (fun hc5 => ?_)
      · replace h := h.1 hc5
        refine r_iload_n ok dX8_guarded_57 3 rfl ?_
        refine r_istore_n ok dX8_guarded_58 (by decide) [(0, .ref (xad X 71)), (1, .int x1), (2, .int x2), (3, .int x3), (4, .int x4)] [1, 2, 3, 0, 4] rfl ?_
        refine r_iinc (v := x4 + 1) ok dX8_guarded_59 4 rfl rfl (by decide) [(0, .ref (xad X 71)), (1, .int x1), (2, .int x2), (3, .int x3), (4, .int (x4 + 1))] [1, 2, 3, 4, 0] rfl ?_
        refine r_goto (tgt := 13) ok dX8_guarded_62 rfl ?_
        exact hk13 _ _ _ _ _ h
      · replace h := h.2 hc5
        refine r_iload ok dX8_guarded_46 5 rfl ?_
        refine r_iload_n ok dX8_guarded_48 3 rfl ?_
        refine r_icmp_ge (tgt := 57) ok dX8_guarded_49 rfl (fun hc6 => ?_) (fun hc6 => ?_)
        · replace h := h.1 hc6
          refine r_iload_n ok dX8_guarded_57 3 rfl ?_
          refine r_istore_n ok dX8_guarded_58 (by decide) [(0, .ref (xad X 71)), (1, .int x1), (2, .int x2), (3, .int x3), (4, .int x4)] [1, 2, 3, 0, 4] rfl ?_
          refine r_iinc (v := x4 + 1) ok dX8_guarded_59 4 rfl rfl (by decide) [(0, .ref (xad X 71)), (1, .int x1), (2, .int x2), (3, .int x3), (4, .int (x4 + 1))] [1, 2, 3, 4, 0] rfl ?_
          refine r_goto (tgt := 13) ok dX8_guarded_62 rfl ?_
          exact hk13 _ _ _ _ _ h
        · replace h := h.2 hc6
          refine r_iload ok dX8_guarded_52 5 rfl ?_
          refine r_goto (tgt := 58) ok dX8_guarded_54 rfl ?_
          refine r_istore_n ok dX8_guarded_58 (by decide) [(0, .ref (xad X 71)), (1, .int x1), (2, .int x2), (3, .int v2), (4, .int x4)] [1, 2, 3, 0, 4] rfl ?_
          refine r_iinc (v := x4 + 1) ok dX8_guarded_59 4 rfl rfl (by decide) [(0, .ref (xad X 71)), (1, .int x1), (2, .int x2), (3, .int v2), (4, .int (x4 + 1))] [1, 2, 3, 4, 0] rfl ?_
          refine r_goto (tgt := 13) ok dX8_guarded_62 rfl ?_
          exact hk13 _ _ _ _ _ h
theorem w_wp_X8_guarded {X : Cx} (ok : Ok X cX8_guarded 6 RX8 2 46) {post : Int32 → St → Prop} (hret : RetI X cX8_guarded 6 post) {x1 x2 : Int32} {S : St} (h : wp_X8_guarded x1 x2 S post) : Wp X 6 0 [(0, .ref (xad X 71)), (1, .int x1), (2, .int x2)] [] S := by
  unfold wp_X8_guarded at h
  refine r_iload_n ok dX8_guarded_0 1 rfl ?_
  refine r_iload_n ok dX8_guarded_1 2 rfl ?_
  refine r_icmp_ne (tgt := 7) ok dX8_guarded_2 rfl (fun hc1 => ?_) (fun hc1 => ?_)
  · replace h := h.1 hc1
    refine r_ldc (v := 100000000) ok dX8_guarded_7 tw_k_X8_223 ?_
    refine r_istore_n ok dX8_guarded_9 (by decide) [(0, .ref (xad X 71)), (1, .int x1), (2, .int x2), (3, .int 100000000)] [1, 2, 3, 0] rfl ?_
    refine r_iconst (v := 0) ok dX8_guarded_10 rfl ?_
    refine r_istore ok dX8_guarded_11 (by decide) [(0, .ref (xad X 71)), (1, .int x1), (2, .int x2), (3, .int 100000000), (4, .int 0)] [1, 2, 3, 4, 0] rfl ?_
    exact w_B_X8_guarded_13 ok hret h
  · replace h := h.2 hc1
    refine r_iconst (v := 0) ok dX8_guarded_5 rfl ?_
    exact hret _ _ _ _ dX8_guarded_6 h
theorem c_X8_guarded (l : Launch) (G : Gx) {x1 x2 : Int32} {S : St} {post : Int32 → St → Prop} (h : wp_X8_guarded x1 x2 S post) : MtI l yX8_guarded cX8_guarded 6 (some .int) 2 46 G [.ref (G.2.2 71), .int x1, .int x2] S post :=
  ctI (by decide) rfl (Nat.le_of_ble_eq_true rfl) (fun X _ hG ok hret => by subst hG; exact w_wp_X8_guarded ok hret h)

/-! HasteRoadsModel.fled(II)I -/
theorem dX8_fled_0 : decode cX8_fled 0 = .ok (.iconst 0, 1) := by decide +kernel
theorem dX8_fled_1 : decode cX8_fled 1 = .ok (.istore_n 3, 1) := by decide +kernel
theorem dX8_fled_2 : decode cX8_fled 2 = .ok (.iconst 0, 1) := by decide +kernel
theorem dX8_fled_3 : decode cX8_fled 3 = .ok (.istore 4, 2) := by decide +kernel
theorem dX8_fled_5 : decode cX8_fled 5 = .ok (.iload 4, 2) := by decide +kernel
theorem dX8_fled_7 : decode cX8_fled 7 = .ok (.aload_n 0, 1) := by decide +kernel
theorem dX8_fled_8 : decode cX8_fled 8 = .ok (.getfield 155, 3) := by decide +kernel
theorem dX8_fled_11 : decode cX8_fled 11 = .ok (.if_icmp .ge 45, 3) := by decide +kernel
theorem dX8_fled_14 : decode cX8_fled 14 = .ok (.aload_n 0, 1) := by decide +kernel
theorem dX8_fled_15 : decode cX8_fled 15 = .ok (.iload_n 1, 1) := by decide +kernel
theorem dX8_fled_16 : decode cX8_fled 16 = .ok (.iload 4, 2) := by decide +kernel
theorem dX8_fled_18 : decode cX8_fled 18 = .ok (.invokevirtual 278, 3) := by decide +kernel
theorem dX8_fled_21 : decode cX8_fled 21 = .ok (.ifCond .eq 13, 3) := by decide +kernel
theorem dX8_fled_24 : decode cX8_fled 24 = .ok (.aload_n 0, 1) := by decide +kernel
theorem dX8_fled_25 : decode cX8_fled 25 = .ok (.iload 4, 2) := by decide +kernel
theorem dX8_fled_27 : decode cX8_fled 27 = .ok (.iload_n 2, 1) := by decide +kernel
theorem dX8_fled_28 : decode cX8_fled 28 = .ok (.invokevirtual 282, 3) := by decide +kernel
theorem dX8_fled_31 : decode cX8_fled 31 = .ok (.goto 4, 3) := by decide +kernel
theorem dX8_fled_34 : decode cX8_fled 34 = .ok (.iconst 0, 1) := by decide +kernel
theorem dX8_fled_35 : decode cX8_fled 35 = .ok (.istore 5, 2) := by decide +kernel
theorem dX8_fled_37 : decode cX8_fled 37 = .ok (.iload 5, 2) := by decide +kernel
theorem dX8_fled_39 : decode cX8_fled 39 = .ok (.iload_n 3, 1) := by decide +kernel
theorem dX8_fled_40 : decode cX8_fled 40 = .ok (.if_icmp .le 8, 3) := by decide +kernel
theorem dX8_fled_43 : decode cX8_fled 43 = .ok (.iload 5, 2) := by decide +kernel
theorem dX8_fled_45 : decode cX8_fled 45 = .ok (.goto 4, 3) := by decide +kernel
theorem dX8_fled_48 : decode cX8_fled 48 = .ok (.iload_n 3, 1) := by decide +kernel
theorem dX8_fled_49 : decode cX8_fled 49 = .ok (.istore_n 3, 1) := by decide +kernel
theorem dX8_fled_50 : decode cX8_fled 50 = .ok (.iinc 4 1, 3) := by decide +kernel
theorem dX8_fled_53 : decode cX8_fled 53 = .ok (.goto (-48), 3) := by decide +kernel
theorem dX8_fled_56 : decode cX8_fled 56 = .ok (.iload_n 1, 1) := by decide +kernel
theorem dX8_fled_57 : decode cX8_fled 57 = .ok (.iload_n 2, 1) := by decide +kernel
theorem dX8_fled_58 : decode cX8_fled 58 = .ok (.if_icmp .ne 7, 3) := by decide +kernel
theorem dX8_fled_61 : decode cX8_fled 61 = .ok (.iconst 0, 1) := by decide +kernel
theorem dX8_fled_62 : decode cX8_fled 62 = .ok (.goto 4, 3) := by decide +kernel
theorem dX8_fled_65 : decode cX8_fled 65 = .ok (.iload_n 3, 1) := by decide +kernel
theorem dX8_fled_66 : decode cX8_fled 66 = .ok (.ireturn, 1) := by decide +kernel
theorem cl_X8_282 {X : Cx} {cc : ByteArray} {nL pc fr lo : Nat} {L : List (Nat × Value)} {st : List Value} {S : St} (ok : Ok X cc nL RX8 fr lo) {x1 x2 : Int32} (d : decode cc pc = .ok (.invokevirtual 282, 3)) (hroom : 3 ≤ fr ∧ 71 ≤ lo) (hst : (st.map fun v => v.category).sum ≤ 8) {post : Int32 → St → Prop} (h : wp_X8_guarded x1 x2 S post) (kk : ∀ (r : Int32) (S1 : St), post r S1 → Wp X nL (pc + 3) L (.int r :: st) S1) : Wp X nL pc L (.int x2 :: .int x1 :: .ref (xad X 71) :: st) S :=
  r_callVi (n := 6) (f := 2) (lo1 := 46) (N := 2) (As := [.int x1, .int x2]) ok tw_in_X8 tw_im_X8_guarded tw_se_X8_guarded tw_co_X8_guarded tw_ml_X8_282 (by decide +kernel) rfl ob_71 rfl hroom hst d rfl (c_X8_guarded (xl X) (xG X) h) kk
def B_X8_fled_56 (post : Int32 → St → Prop) (x1 : Int32) (x2 : Int32) (x3 : Int32) (S : St) : Prop :=
  ((¬ x1 = x2 → post x3 S) ∧ (x1 = x2 → post 0 S))
def B_X8_fled_35 (k5 : Int32 → Int32 → Int32 → Int32 → St → Prop) (post : Int32 → St → Prop) (x1 : Int32) (x2 : Int32) (x3 : Int32) (x4 : Int32) (s0 : Int32) (S : St) : Prop :=
  ((s0 ≤ x3 → k5 x1 x2 x3 (x4 + 1) S) ∧ (¬ s0 ≤ x3 → k5 x1 x2 s0 (x4 + 1) S))
def BD_X8_fled_5 (k5 : Int32 → Int32 → Int32 → Int32 → St → Prop) (post : Int32 → St → Prop) (x1 : Int32) (x2 : Int32) (x3 : Int32) (x4 : Int32) (S : St) : Prop :=
  (((S 71 10) ≤ x4 → B_X8_fled_56 post x1 x2 x3 S) ∧ (¬ (S 71 10) ≤ x4 → wp_X8_isNear x1 x4 S (fun r3 S2 => ((r3 = 0 → B_X8_fled_35 k5 post x1 x2 x3 x4 0 S2) ∧ (¬ r3 = 0 → wp_X8_guarded x4 x2 S2 (fun r6 S5 => B_X8_fled_35 k5 post x1 x2 x3 x4 r6 S5))))))
def L_X8_fled_5 (post : Int32 → St → Prop) (n : Nat) : Int32 → Int32 → Int32 → Int32 → St → Prop := Nat.rec (motive := fun _ => Int32 → Int32 → Int32 → Int32 → St → Prop) (fun _ _ _ _ _ => False) (fun _ ih => BD_X8_fled_5 ih post) n
def B_X8_fled_5 (post : Int32 → St → Prop) (x1 : Int32) (x2 : Int32) (x3 : Int32) (x4 : Int32) (S : St) : Prop := ∃ n, L_X8_fled_5 post n x1 x2 x3 x4 S
def wp_X8_fled (x1 : Int32) (x2 : Int32) (S : St) (post : Int32 → St → Prop) : Prop :=
  B_X8_fled_5 post x1 x2 0 0 S
theorem w_B_X8_fled_56 {X : Cx} (ok : Ok X cX8_fled 6 RX8 3 71) {post : Int32 → St → Prop} (hret : RetI X cX8_fled 6 post) {x1 x2 x3 : Int32} {S : St} (h : B_X8_fled_56 post x1 x2 x3 S) : Wp X 6 56 [(1, .int x1), (2, .int x2), (3, .int x3)] [] S := by
  unfold B_X8_fled_56 at h
  refine r_iload_n ok dX8_fled_56 0 rfl ?_
  refine r_iload_n ok dX8_fled_57 1 rfl ?_
  refine r_icmp_ne (tgt := 65) ok dX8_fled_58 rfl (fun hc1 => ?_) (fun hc1 => ?_)
  · replace h := h.1 hc1
    refine r_iload_n ok dX8_fled_65 2 rfl ?_
    exact hret _ _ _ _ dX8_fled_66 h
  · replace h := h.2 hc1
    refine r_iconst (v := 0) ok dX8_fled_61 rfl ?_
    refine r_goto (tgt := 66) ok dX8_fled_62 rfl ?_
    exact hret _ _ _ _ dX8_fled_66 h
theorem w_B_X8_fled_35 {X : Cx} (ok : Ok X cX8_fled 6 RX8 3 71) {post : Int32 → St → Prop} (hret : RetI X cX8_fled 6 post) {k5 : Int32 → Int32 → Int32 → Int32 → St → Prop} (hk5 : ∀ x1 x2 x3 x4 S, k5 x1 x2 x3 x4 S → Wp X 6 5 [(0, .ref (xad X 71)), (1, .int x1), (2, .int x2), (3, .int x3), (4, .int x4)] [] S) {x1 x2 x3 x4 s0 : Int32} {S : St} (h : B_X8_fled_35 k5 post x1 x2 x3 x4 s0 S) : Wp X 6 35 [(0, .ref (xad X 71)), (1, .int x1), (2, .int x2), (3, .int x3), (4, .int x4)] [.int s0] S := by
  unfold B_X8_fled_35 at h
  refine r_istore ok dX8_fled_35 (by decide) [(0, .ref (xad X 71)), (1, .int x1), (2, .int x2), (3, .int x3), (4, .int x4), (5, .int s0)] [1, 2, 3, 4, 5, 0] rfl ?_
  refine r_iload ok dX8_fled_37 5 rfl ?_
  refine r_iload_n ok dX8_fled_39 3 rfl ?_
  refine r_icmp_le (tgt := 48) ok dX8_fled_40 rfl (fun hc1 => ?_) (fun hc1 => ?_)
  · replace h := h.1 hc1
    refine r_iload_n ok dX8_fled_48 3 rfl ?_
    refine r_istore_n ok dX8_fled_49 (by decide) [(0, .ref (xad X 71)), (1, .int x1), (2, .int x2), (3, .int x3), (4, .int x4)] [1, 2, 3, 0, 4] rfl ?_
    refine r_iinc (v := x4 + 1) ok dX8_fled_50 4 rfl rfl (by decide) [(0, .ref (xad X 71)), (1, .int x1), (2, .int x2), (3, .int x3), (4, .int (x4 + 1))] [1, 2, 3, 4, 0] rfl ?_
    refine r_goto (tgt := 5) ok dX8_fled_53 rfl ?_
    exact hk5 _ _ _ _ _ h
  · replace h := h.2 hc1
    refine r_iload ok dX8_fled_43 5 rfl ?_
    refine r_goto (tgt := 49) ok dX8_fled_45 rfl ?_
    refine r_istore_n ok dX8_fled_49 (by decide) [(0, .ref (xad X 71)), (1, .int x1), (2, .int x2), (3, .int s0), (4, .int x4)] [1, 2, 3, 0, 4] rfl ?_
    refine r_iinc (v := x4 + 1) ok dX8_fled_50 4 rfl rfl (by decide) [(0, .ref (xad X 71)), (1, .int x1), (2, .int x2), (3, .int s0), (4, .int (x4 + 1))] [1, 2, 3, 4, 0] rfl ?_
    refine r_goto (tgt := 5) ok dX8_fled_53 rfl ?_
    exact hk5 _ _ _ _ _ h
theorem w_B_X8_fled_5 {X : Cx} (ok : Ok X cX8_fled 6 RX8 3 71) {post : Int32 → St → Prop} (hret : RetI X cX8_fled 6 post) {x1 x2 x3 x4 : Int32} {S : St} (h : B_X8_fled_5 post x1 x2 x3 x4 S) : Wp X 6 5 [(0, .ref (xad X 71)), (1, .int x1), (2, .int x2), (3, .int x3), (4, .int x4)] [] S := by
  obtain ⟨n, h⟩ := h
  induction n generalizing x1 x2 x3 x4 S with
  | zero => exact False.elim h
  | succ n ih =>
    have hk5 : ∀ x1 x2 x3 x4 S, L_X8_fled_5 post n x1 x2 x3 x4 S → Wp X 6 5 [(0, .ref (xad X 71)), (1, .int x1), (2, .int x2), (3, .int x3), (4, .int x4)] [] S := by intros; apply ih; assumption
    replace h : BD_X8_fled_5 (L_X8_fled_5 post n) post x1 x2 x3 x4 S := h
    unfold BD_X8_fled_5 at h
    generalize L_X8_fled_5 post n = k5 at h hk5
    refine r_iload ok dX8_fled_5 4 rfl ?_
    refine r_aload_n ok dX8_fled_7 0 rfl ?_
    refine gf_X8_155 ok dX8_fled_8 ?_
    refine r_icmp_ge (tgt := 56) ok dX8_fled_11 rfl (fun hc1 => ?_) (fun hc1 => ?_)
    · replace h := h.1 hc1
      refine r_sub [(1, .int x1), (2, .int x2), (3, .int x3)] [1, 2, 3] rfl ?_
      exact w_B_X8_fled_56 ok hret h
    · replace h := h.2 hc1
      refine r_aload_n ok dX8_fled_14 0 rfl ?_
      refine r_iload_n ok dX8_fled_15 1 rfl ?_
      refine r_iload ok dX8_fled_16 4 rfl ?_
      refine cl_X8_278 ok dX8_fled_18 (by decide) (Nat.le_of_ble_eq_true rfl) h (fun r3 S2 h => ?_)
      refine r_if_eq (tgt := 34) ok dX8_fled_21 rfl (fun hc4 => ?_) (fun hc4 => ?_)
      · replace h := h.1 hc4
        refine r_iconst (v := 0) ok dX8_fled_34 rfl ?_
        exact w_B_X8_fled_35 ok hret hk5 h
      · replace h := h.2 hc4
        refine r_aload_n ok dX8_fled_24 0 rfl ?_
        refine r_iload ok dX8_fled_25 4 rfl ?_
        refine r_iload_n ok dX8_fled_27 2 rfl ?_
        refine cl_X8_282 ok dX8_fled_28 (by decide) (Nat.le_of_ble_eq_true rfl) h (fun r6 S5 h => ?_)
        refine r_goto (tgt := 35) ok dX8_fled_31 rfl ?_
        exact w_B_X8_fled_35 ok hret hk5 h
theorem w_wp_X8_fled {X : Cx} (ok : Ok X cX8_fled 6 RX8 3 71) {post : Int32 → St → Prop} (hret : RetI X cX8_fled 6 post) {x1 x2 : Int32} {S : St} (h : wp_X8_fled x1 x2 S post) : Wp X 6 0 [(0, .ref (xad X 71)), (1, .int x1), (2, .int x2)] [] S := by
  unfold wp_X8_fled at h
  refine r_iconst (v := 0) ok dX8_fled_0 rfl ?_
  refine r_istore_n ok dX8_fled_1 (by decide) [(0, .ref (xad X 71)), (1, .int x1), (2, .int x2), (3, .int 0)] [1, 2, 3, 0] rfl ?_
  refine r_iconst (v := 0) ok dX8_fled_2 rfl ?_
  refine r_istore ok dX8_fled_3 (by decide) [(0, .ref (xad X 71)), (1, .int x1), (2, .int x2), (3, .int 0), (4, .int 0)] [1, 2, 3, 4, 0] rfl ?_
  exact w_B_X8_fled_5 ok hret h
theorem c_X8_fled (l : Launch) (G : Gx) {x1 x2 : Int32} {S : St} {post : Int32 → St → Prop} (h : wp_X8_fled x1 x2 S post) : MtI l yX8_fled cX8_fled 6 (some .int) 3 71 G [.ref (G.2.2 71), .int x1, .int x2] S post :=
  ctI (by decide) rfl (Nat.le_of_ble_eq_true rfl) (fun X _ hG ok hret => by subst hG; exact w_wp_X8_fled ok hret h)

/-! HasteRoadsModel.guard(II)I -/
theorem dX8_guard_0 : decode cX8_guard 0 = .ok (.aload_n 0, 1) := by decide +kernel
theorem dX8_guard_1 : decode cX8_guard 1 = .ok (.iconst 0, 1) := by decide +kernel
theorem dX8_guard_2 : decode cX8_guard 2 = .ok (.putfield 75, 3) := by decide +kernel
theorem dX8_guard_5 : decode cX8_guard 5 = .ok (.aload_n 0, 1) := by decide +kernel
theorem dX8_guard_6 : decode cX8_guard 6 = .ok (.iload_n 1, 1) := by decide +kernel
theorem dX8_guard_7 : decode cX8_guard 7 = .ok (.invokevirtual 185, 3) := by decide +kernel
theorem dX8_guard_10 : decode cX8_guard 10 = .ok (.ifCond .eq 11, 3) := by decide +kernel
theorem dX8_guard_13 : decode cX8_guard 13 = .ok (.aload_n 0, 1) := by decide +kernel
theorem dX8_guard_14 : decode cX8_guard 14 = .ok (.iload_n 2, 1) := by decide +kernel
theorem dX8_guard_15 : decode cX8_guard 15 = .ok (.invokevirtual 185, 3) := by decide +kernel
theorem dX8_guard_18 : decode cX8_guard 18 = .ok (.ifCond .ne 6, 3) := by decide +kernel
theorem dX8_guard_21 : decode cX8_guard 21 = .ok (.ldc 174, 2) := by decide +kernel
theorem dX8_guard_23 : decode cX8_guard 23 = .ok (.ireturn, 1) := by decide +kernel
theorem dX8_guard_24 : decode cX8_guard 24 = .ok (.iconst 0, 1) := by decide +kernel
theorem dX8_guard_25 : decode cX8_guard 25 = .ok (.istore_n 3, 1) := by decide +kernel
theorem dX8_guard_26 : decode cX8_guard 26 = .ok (.iload_n 3, 1) := by decide +kernel
theorem dX8_guard_27 : decode cX8_guard 27 = .ok (.bipush 36, 2) := by decide +kernel
theorem dX8_guard_29 : decode cX8_guard 29 = .ok (.if_icmp .ge 32, 3) := by decide +kernel
theorem dX8_guard_32 : decode cX8_guard 32 = .ok (.aload_n 0, 1) := by decide +kernel
theorem dX8_guard_33 : decode cX8_guard 33 = .ok (.getfield 69, 3) := by decide +kernel
theorem dX8_guard_36 : decode cX8_guard 36 = .ok (.iload_n 3, 1) := by decide +kernel
theorem dX8_guard_37 : decode cX8_guard 37 = .ok (.iload_n 3, 1) := by decide +kernel
theorem dX8_guard_38 : decode cX8_guard 38 = .ok (.bipush 6, 2) := by decide +kernel
theorem dX8_guard_40 : decode cX8_guard 40 = .ok (.idiv, 1) := by decide +kernel
theorem dX8_guard_41 : decode cX8_guard 41 = .ok (.iload_n 3, 1) := by decide +kernel
theorem dX8_guard_42 : decode cX8_guard 42 = .ok (.bipush 6, 2) := by decide +kernel
theorem dX8_guard_44 : decode cX8_guard 44 = .ok (.irem, 1) := by decide +kernel
theorem dX8_guard_45 : decode cX8_guard 45 = .ok (.if_icmp .ne 7, 3) := by decide +kernel
theorem dX8_guard_48 : decode cX8_guard 48 = .ok (.iconst 0, 1) := by decide +kernel
theorem dX8_guard_49 : decode cX8_guard 49 = .ok (.goto 5, 3) := by decide +kernel
theorem dX8_guard_52 : decode cX8_guard 52 = .ok (.ldc 223, 2) := by decide +kernel
theorem dX8_guard_54 : decode cX8_guard 54 = .ok (.iastore, 1) := by decide +kernel
theorem dX8_guard_55 : decode cX8_guard 55 = .ok (.iinc 3 1, 3) := by decide +kernel
theorem dX8_guard_58 : decode cX8_guard 58 = .ok (.goto (-32), 3) := by decide +kernel
theorem dX8_guard_61 : decode cX8_guard 61 = .ok (.iconst 0, 1) := by decide +kernel
theorem dX8_guard_62 : decode cX8_guard 62 = .ok (.istore_n 3, 1) := by decide +kernel
theorem dX8_guard_63 : decode cX8_guard 63 = .ok (.iload_n 3, 1) := by decide +kernel
theorem dX8_guard_64 : decode cX8_guard 64 = .ok (.bipush 40, 2) := by decide +kernel
theorem dX8_guard_66 : decode cX8_guard 66 = .ok (.if_icmp .ge 122, 3) := by decide +kernel
theorem dX8_guard_69 : decode cX8_guard 69 = .ok (.iconst 0, 1) := by decide +kernel
theorem dX8_guard_70 : decode cX8_guard 70 = .ok (.istore 4, 2) := by decide +kernel
theorem dX8_guard_72 : decode cX8_guard 72 = .ok (.iload 4, 2) := by decide +kernel
theorem dX8_guard_74 : decode cX8_guard 74 = .ok (.bipush 36, 2) := by decide +kernel
theorem dX8_guard_76 : decode cX8_guard 76 = .ok (.if_icmp .ge 76, 3) := by decide +kernel
theorem dX8_guard_79 : decode cX8_guard 79 = .ok (.iload 4, 2) := by decide +kernel
theorem dX8_guard_81 : decode cX8_guard 81 = .ok (.bipush 6, 2) := by decide +kernel
theorem dX8_guard_83 : decode cX8_guard 83 = .ok (.idiv, 1) := by decide +kernel
theorem dX8_guard_84 : decode cX8_guard 84 = .ok (.aload_n 0, 1) := by decide +kernel
theorem dX8_guard_85 : decode cX8_guard 85 = .ok (.getfield 155, 3) := by decide +kernel
theorem dX8_guard_88 : decode cX8_guard 88 = .ok (.if_icmp .ge 19, 3) := by decide +kernel
theorem dX8_guard_91 : decode cX8_guard 91 = .ok (.iload 4, 2) := by decide +kernel
theorem dX8_guard_93 : decode cX8_guard 93 = .ok (.bipush 6, 2) := by decide +kernel
theorem dX8_guard_95 : decode cX8_guard 95 = .ok (.irem, 1) := by decide +kernel
theorem dX8_guard_96 : decode cX8_guard 96 = .ok (.aload_n 0, 1) := by decide +kernel
theorem dX8_guard_97 : decode cX8_guard 97 = .ok (.getfield 155, 3) := by decide +kernel
theorem dX8_guard_100 : decode cX8_guard 100 = .ok (.if_icmp .ge 7, 3) := by decide +kernel
theorem dX8_guard_103 : decode cX8_guard 103 = .ok (.iconst 1, 1) := by decide +kernel
theorem dX8_guard_104 : decode cX8_guard 104 = .ok (.goto 4, 3) := by decide +kernel
theorem dX8_guard_107 : decode cX8_guard 107 = .ok (.iconst 0, 1) := by decide +kernel
theorem dX8_guard_108 : decode cX8_guard 108 = .ok (.istore 5, 2) := by decide +kernel
theorem dX8_guard_110 : decode cX8_guard 110 = .ok (.aload_n 0, 1) := by decide +kernel
theorem dX8_guard_111 : decode cX8_guard 111 = .ok (.getfield 72, 3) := by decide +kernel
theorem dX8_guard_114 : decode cX8_guard 114 = .ok (.iload 4, 2) := by decide +kernel
theorem dX8_guard_116 : decode cX8_guard 116 = .ok (.iload 5, 2) := by decide +kernel
theorem dX8_guard_118 : decode cX8_guard 118 = .ok (.ifCond .eq 20, 3) := by decide +kernel
theorem dX8_guard_121 : decode cX8_guard 121 = .ok (.aload_n 0, 1) := by decide +kernel
theorem dX8_guard_122 : decode cX8_guard 122 = .ok (.iload 4, 2) := by decide +kernel
theorem dX8_guard_124 : decode cX8_guard 124 = .ok (.bipush 6, 2) := by decide +kernel
theorem dX8_guard_126 : decode cX8_guard 126 = .ok (.idiv, 1) := by decide +kernel
theorem dX8_guard_127 : decode cX8_guard 127 = .ok (.iload 4, 2) := by decide +kernel
theorem dX8_guard_129 : decode cX8_guard 129 = .ok (.bipush 6, 2) := by decide +kernel
theorem dX8_guard_131 : decode cX8_guard 131 = .ok (.irem, 1) := by decide +kernel
theorem dX8_guard_132 : decode cX8_guard 132 = .ok (.invokevirtual 285, 3) := by decide +kernel
theorem dX8_guard_135 : decode cX8_guard 135 = .ok (.goto 10, 3) := by decide +kernel
theorem dX8_guard_138 : decode cX8_guard 138 = .ok (.aload_n 0, 1) := by decide +kernel
theorem dX8_guard_139 : decode cX8_guard 139 = .ok (.getfield 69, 3) := by decide +kernel
theorem dX8_guard_142 : decode cX8_guard 142 = .ok (.iload 4, 2) := by decide +kernel
theorem dX8_guard_144 : decode cX8_guard 144 = .ok (.iaload, 1) := by decide +kernel
theorem dX8_guard_145 : decode cX8_guard 145 = .ok (.iastore, 1) := by decide +kernel
theorem dX8_guard_146 : decode cX8_guard 146 = .ok (.iinc 4 1, 3) := by decide +kernel
theorem dX8_guard_149 : decode cX8_guard 149 = .ok (.goto (-77), 3) := by decide +kernel
theorem dX8_guard_152 : decode cX8_guard 152 = .ok (.iconst 0, 1) := by decide +kernel
theorem dX8_guard_153 : decode cX8_guard 153 = .ok (.istore 4, 2) := by decide +kernel
theorem dX8_guard_155 : decode cX8_guard 155 = .ok (.iload 4, 2) := by decide +kernel
theorem dX8_guard_157 : decode cX8_guard 157 = .ok (.bipush 36, 2) := by decide +kernel
theorem dX8_guard_159 : decode cX8_guard 159 = .ok (.if_icmp .ge 23, 3) := by decide +kernel
theorem dX8_guard_162 : decode cX8_guard 162 = .ok (.aload_n 0, 1) := by decide +kernel
theorem dX8_guard_163 : decode cX8_guard 163 = .ok (.getfield 69, 3) := by decide +kernel
theorem dX8_guard_166 : decode cX8_guard 166 = .ok (.iload 4, 2) := by decide +kernel
theorem dX8_guard_168 : decode cX8_guard 168 = .ok (.aload_n 0, 1) := by decide +kernel
theorem dX8_guard_169 : decode cX8_guard 169 = .ok (.getfield 72, 3) := by decide +kernel
theorem dX8_guard_172 : decode cX8_guard 172 = .ok (.iload 4, 2) := by decide +kernel
theorem dX8_guard_174 : decode cX8_guard 174 = .ok (.iaload, 1) := by decide +kernel
theorem dX8_guard_175 : decode cX8_guard 175 = .ok (.iastore, 1) := by decide +kernel
theorem dX8_guard_176 : decode cX8_guard 176 = .ok (.iinc 4 1, 3) := by decide +kernel
theorem dX8_guard_179 : decode cX8_guard 179 = .ok (.goto (-24), 3) := by decide +kernel
theorem dX8_guard_182 : decode cX8_guard 182 = .ok (.iinc 3 1, 3) := by decide +kernel
theorem dX8_guard_185 : decode cX8_guard 185 = .ok (.goto (-122), 3) := by decide +kernel
theorem dX8_guard_188 : decode cX8_guard 188 = .ok (.aload_n 0, 1) := by decide +kernel
theorem dX8_guard_189 : decode cX8_guard 189 = .ok (.getfield 69, 3) := by decide +kernel
theorem dX8_guard_192 : decode cX8_guard 192 = .ok (.bipush 6, 2) := by decide +kernel
theorem dX8_guard_194 : decode cX8_guard 194 = .ok (.iload_n 1, 1) := by decide +kernel
theorem dX8_guard_195 : decode cX8_guard 195 = .ok (.imul, 1) := by decide +kernel
theorem dX8_guard_196 : decode cX8_guard 196 = .ok (.iload_n 2, 1) := by decide +kernel
theorem dX8_guard_197 : decode cX8_guard 197 = .ok (.iadd, 1) := by decide +kernel
theorem dX8_guard_198 : decode cX8_guard 198 = .ok (.iaload, 1) := by decide +kernel
theorem dX8_guard_199 : decode cX8_guard 199 = .ok (.istore_n 3, 1) := by decide +kernel
theorem dX8_guard_200 : decode cX8_guard 200 = .ok (.iload_n 3, 1) := by decide +kernel
theorem dX8_guard_201 : decode cX8_guard 201 = .ok (.ldc 223, 2) := by decide +kernel
theorem dX8_guard_203 : decode cX8_guard 203 = .ok (.if_icmp .ge 7, 3) := by decide +kernel
theorem dX8_guard_206 : decode cX8_guard 206 = .ok (.iconst 1, 1) := by decide +kernel
theorem dX8_guard_207 : decode cX8_guard 207 = .ok (.goto 4, 3) := by decide +kernel
theorem dX8_guard_210 : decode cX8_guard 210 = .ok (.iconst 0, 1) := by decide +kernel
theorem dX8_guard_211 : decode cX8_guard 211 = .ok (.iload_n 3, 1) := by decide +kernel
theorem dX8_guard_212 : decode cX8_guard 212 = .ok (.invokestatic 244, 3) := by decide +kernel
theorem dX8_guard_215 : decode cX8_guard 215 = .ok (.ireturn, 1) := by decide +kernel
theorem gf_X8_72 {X : Cx} {cc : ByteArray} {nL pc fr lo : Nat} {L : List (Nat × Value)} {st : List Value} {S : St} (ok : Ok X cc nL RX8 fr lo) (d : decode cc pc = .ok (.getfield 72, 3)) (k : Wp X nL (pc + 3) L (.ref (xad X 91) :: st) S) : Wp X nL pc L (.ref (xad X 71) :: st) S :=
  r_get (C := RX8) (T := TX8) ok ob_71 rfl i_X8 38 (by decide) tw_fl_X8_72 d (by rw [show fvl (xad X) S 71 38 = .ref (xad X 91) from (fvl_ref (d := 91) (by decide))]; exact k)
theorem cl_X8_285 {X : Cx} {cc : ByteArray} {nL pc fr lo : Nat} {L : List (Nat × Value)} {st : List Value} {S : St} (ok : Ok X cc nL RX8 fr lo) {x1 x2 : Int32} (d : decode cc pc = .ok (.invokevirtual 285, 3)) (hroom : 4 ≤ fr ∧ 96 ≤ lo) (hst : (st.map fun v => v.category).sum ≤ 8) {post : Int32 → St → Prop} (h : wp_X8_fled x1 x2 S post) (kk : ∀ (r : Int32) (S1 : St), post r S1 → Wp X nL (pc + 3) L (.int r :: st) S1) : Wp X nL pc L (.int x2 :: .int x1 :: .ref (xad X 71) :: st) S :=
  r_callVi (n := 6) (f := 3) (lo1 := 71) (N := 2) (As := [.int x1, .int x2]) ok tw_in_X8 tw_im_X8_fled tw_se_X8_fled tw_co_X8_fled tw_ml_X8_285 (by decide +kernel) rfl ob_71 rfl hroom hst d rfl (c_X8_fled (xl X) (xG X) h) kk
def B_X8_guard_188 (post : Int32 → St → Prop) (x1 : Int32) (x2 : Int32) (S : St) : Prop :=
  vp_in (((6 : Int32) * x1) + x2) 36 ∧ (∀ v1 : Int32, v1 = (S 90 (ix (((6 : Int32) * x1) + x2))) → ((100000000 ≤ v1 → wp_X8_told_ 0 v1 S (fun r4 S3 => post r4 S3)) ∧ (¬ 100000000 ≤ v1 → wp_X8_told_ 1 v1 S (fun r6 S5 => post r6 S5))))
def BD_X8_guard_155 (k63 : Int32 → Int32 → Int32 → St → Prop) (k155 : Int32 → Int32 → Int32 → Int32 → St → Prop) (post : Int32 → St → Prop) (x1 : Int32) (x2 : Int32) (x3 : Int32) (x4 : Int32) (S : St) : Prop :=
  ((36 ≤ x4 → k63 x1 x2 (x3 + 1) S) ∧ (¬ 36 ≤ x4 → vp_in x4 36 ∧ (vp_in x4 36 ∧ (∀ S2 : St, S2 = up S 90 (ix x4) (S 91 (ix x4)) → k155 x1 x2 x3 (x4 + 1) S2))))
def L_X8_guard_155 (k63 : Int32 → Int32 → Int32 → St → Prop) (post : Int32 → St → Prop) (n : Nat) : Int32 → Int32 → Int32 → Int32 → St → Prop := Nat.rec (motive := fun _ => Int32 → Int32 → Int32 → Int32 → St → Prop) (fun _ _ _ _ _ => False) (fun _ ih => BD_X8_guard_155 k63 ih post) n
def B_X8_guard_155 (k63 : Int32 → Int32 → Int32 → St → Prop) (post : Int32 → St → Prop) (x1 : Int32) (x2 : Int32) (x3 : Int32) (x4 : Int32) (S : St) : Prop := ∃ n, L_X8_guard_155 k63 post n x1 x2 x3 x4 S
def B_X8_guard_108 (k63 : Int32 → Int32 → Int32 → St → Prop) (k72 : Int32 → Int32 → Int32 → Int32 → St → Prop) (post : Int32 → St → Prop) (x1 : Int32) (x2 : Int32) (x3 : Int32) (x4 : Int32) (s0 : Int32) (S : St) : Prop :=
  ((s0 = 0 → vp_in x4 36 ∧ (vp_in x4 36 ∧ (∀ S2 : St, S2 = up S 91 (ix x4) (S 90 (ix x4)) → k72 x1 x2 x3 (x4 + 1) S2))) ∧ (¬ s0 = 0 → wp_X8_fled (x4 / 6) (x4 - x4 / 6 * 6) S (fun r5 S4 => vp_in x4 36 ∧ (∀ S6 : St, S6 = up S4 91 (ix x4) r5 → k72 x1 x2 x3 (x4 + 1) S6))))
def BD_X8_guard_72 (k63 : Int32 → Int32 → Int32 → St → Prop) (k72 : Int32 → Int32 → Int32 → Int32 → St → Prop) (post : Int32 → St → Prop) (x1 : Int32) (x2 : Int32) (x3 : Int32) (x4 : Int32) (S : St) : Prop :=
  ((36 ≤ x4 → B_X8_guard_155 k63 post x1 x2 x3 0 S) ∧ (¬ 36 ≤ x4 → (((S 71 10) ≤ (x4 / 6) → B_X8_guard_108 k63 k72 post x1 x2 x3 x4 0 S) ∧ (¬ (S 71 10) ≤ (x4 / 6) → (((S 71 10) ≤ (x4 - x4 / 6 * 6) → B_X8_guard_108 k63 k72 post x1 x2 x3 x4 0 S) ∧ (¬ (S 71 10) ≤ (x4 - x4 / 6 * 6) → B_X8_guard_108 k63 k72 post x1 x2 x3 x4 1 S))))))
def L_X8_guard_72 (k63 : Int32 → Int32 → Int32 → St → Prop) (post : Int32 → St → Prop) (n : Nat) : Int32 → Int32 → Int32 → Int32 → St → Prop := Nat.rec (motive := fun _ => Int32 → Int32 → Int32 → Int32 → St → Prop) (fun _ _ _ _ _ => False) (fun _ ih => BD_X8_guard_72 k63 ih post) n
def B_X8_guard_72 (k63 : Int32 → Int32 → Int32 → St → Prop) (post : Int32 → St → Prop) (x1 : Int32) (x2 : Int32) (x3 : Int32) (x4 : Int32) (S : St) : Prop := ∃ n, L_X8_guard_72 k63 post n x1 x2 x3 x4 S
def BD_X8_guard_63 (k63 : Int32 → Int32 → Int32 → St → Prop) (post : Int32 → St → Prop) (x1 : Int32) (x2 : Int32) (x3 : Int32) (S : St) : Prop :=
  ((40 ≤ x3 → B_X8_guard_188 post x1 x2 S) ∧ (¬ 40 ≤ x3 → B_X8_guard_72 k63 post x1 x2 x3 0 S))
def L_X8_guard_63 (post : Int32 → St → Prop) (n : Nat) : Int32 → Int32 → Int32 → St → Prop := Nat.rec (motive := fun _ => Int32 → Int32 → Int32 → St → Prop) (fun _ _ _ _ => False) (fun _ ih => BD_X8_guard_63 ih post) n
def B_X8_guard_63 (post : Int32 → St → Prop) (x1 : Int32) (x2 : Int32) (x3 : Int32) (S : St) : Prop := ∃ n, L_X8_guard_63 post n x1 x2 x3 S
def BD_X8_guard_26 (k26 : Int32 → Int32 → Int32 → St → Prop) (post : Int32 → St → Prop) (x1 : Int32) (x2 : Int32) (x3 : Int32) (S : St) : Prop :=
  ((36 ≤ x3 → B_X8_guard_63 post x1 x2 0 S) ∧ (¬ 36 ≤ x3 → ((¬ (x3 / 6) = (x3 - x3 / 6 * 6) → vp_in x3 36 ∧ (∀ S3 : St, S3 = up S 90 (ix x3) 100000000 → k26 x1 x2 (x3 + 1) S3)) ∧ ((x3 / 6) = (x3 - x3 / 6 * 6) → vp_in x3 36 ∧ (∀ S5 : St, S5 = up S 90 (ix x3) 0 → k26 x1 x2 (x3 + 1) S5)))))
def L_X8_guard_26 (post : Int32 → St → Prop) (n : Nat) : Int32 → Int32 → Int32 → St → Prop := Nat.rec (motive := fun _ => Int32 → Int32 → Int32 → St → Prop) (fun _ _ _ _ => False) (fun _ ih => BD_X8_guard_26 ih post) n
def B_X8_guard_26 (post : Int32 → St → Prop) (x1 : Int32) (x2 : Int32) (x3 : Int32) (S : St) : Prop := ∃ n, L_X8_guard_26 post n x1 x2 x3 S
def wp_X8_guard (x1 : Int32) (x2 : Int32) (S : St) (post : Int32 → St → Prop) : Prop :=
  ∀ S1 : St, S1 = up S 71 0 0 → wp_X8_isPlace x1 S1 (fun r3 S2 => ((r3 = 0 → post (-1000000001) S2) ∧ (¬ r3 = 0 → wp_X8_isPlace x2 S2 (fun r6 S5 => ((¬ r6 = 0 → B_X8_guard_26 post x1 x2 0 S5) ∧ (r6 = 0 → post (-1000000001) S5))))))
theorem w_B_X8_guard_188 {X : Cx} (ok : Ok X cX8_guard 6 RX8 4 96) {post : Int32 → St → Prop} (hret : RetI X cX8_guard 6 post) {x1 x2 : Int32} {S : St} (h : B_X8_guard_188 post x1 x2 S) : Wp X 6 188 [(0, .ref (xad X 71)), (1, .int x1), (2, .int x2)] [] S := by
  unfold B_X8_guard_188 at h
  refine r_aload_n ok dX8_guard_188 0 rfl ?_
  refine gf_X8_69 ok dX8_guard_189 ?_
  refine r_bipush (v := 6) ok dX8_guard_192 rfl ?_
  refine r_iload_n ok dX8_guard_194 1 rfl ?_
  refine r_imul ok dX8_guard_195 ?_
  refine r_iload_n ok dX8_guard_196 2 rfl ?_
  refine r_iadd ok dX8_guard_197 ?_
  refine r_iald ok ai_90 h.1 rfl dX8_guard_198 ?_
  replace h := h.2
  refine r_top (fun v1 ev1 => ?_)
  replace h := h v1 ev1
  refine r_istore_n ok dX8_guard_199 (by decide) [(3, .int v1)] [0] rfl ?_
  refine r_iload_n ok dX8_guard_200 0 rfl ?_
  refine r_ldc (v := 100000000) ok dX8_guard_201 tw_k_X8_223 ?_
  refine r_icmp_ge (tgt := 210) ok dX8_guard_203 rfl (fun hc2 => ?_) (fun hc2 => ?_)
  · replace h := h.1 hc2
    refine r_iconst (v := 0) ok dX8_guard_210 rfl ?_
    refine r_iload_n ok dX8_guard_211 0 rfl ?_
    refine cl_X8_244 ok dX8_guard_212 (by decide) (Nat.le_of_ble_eq_true rfl) h (fun r4 S3 h => ?_)
    exact hret _ _ _ _ dX8_guard_215 h
  · replace h := h.2 hc2
    refine r_iconst (v := 1) ok dX8_guard_206 rfl ?_
    refine r_goto (tgt := 211) ok dX8_guard_207 rfl ?_
    refine r_iload_n ok dX8_guard_211 0 rfl ?_
    refine cl_X8_244 ok dX8_guard_212 (by decide) (Nat.le_of_ble_eq_true rfl) h (fun r6 S5 h => ?_)
    exact hret _ _ _ _ dX8_guard_215 h
theorem w_B_X8_guard_155 {X : Cx} (ok : Ok X cX8_guard 6 RX8 4 96) {post : Int32 → St → Prop} (hret : RetI X cX8_guard 6 post) {k63 : Int32 → Int32 → Int32 → St → Prop} (hk63 : ∀ x1 x2 x3 S, k63 x1 x2 x3 S → Wp X 6 63 [(0, .ref (xad X 71)), (1, .int x1), (2, .int x2), (3, .int x3)] [] S) {x1 x2 x3 x4 : Int32} {S : St} (h : B_X8_guard_155 k63 post x1 x2 x3 x4 S) : Wp X 6 155 [(0, .ref (xad X 71)), (1, .int x1), (2, .int x2), (3, .int x3), (4, .int x4)] [] S := by
  obtain ⟨n, h⟩ := h
  induction n generalizing x1 x2 x3 x4 S with
  | zero => exact False.elim h
  | succ n ih =>
    have hk155 : ∀ x1 x2 x3 x4 S, L_X8_guard_155 k63 post n x1 x2 x3 x4 S → Wp X 6 155 [(0, .ref (xad X 71)), (1, .int x1), (2, .int x2), (3, .int x3), (4, .int x4)] [] S := by intros; apply ih; assumption
    replace h : BD_X8_guard_155 k63 (L_X8_guard_155 k63 post n) post x1 x2 x3 x4 S := h
    unfold BD_X8_guard_155 at h
    generalize L_X8_guard_155 k63 post n = k155 at h hk155
    refine r_iload ok dX8_guard_155 4 rfl ?_
    refine r_bipush (v := 36) ok dX8_guard_157 rfl ?_
    refine r_icmp_ge (tgt := 182) ok dX8_guard_159 rfl (fun hc1 => ?_) (fun hc1 => ?_)
    · replace h := h.1 hc1
      refine r_iinc (v := x3 + 1) ok dX8_guard_182 3 rfl rfl (by decide) [(0, .ref (xad X 71)), (1, .int x1), (2, .int x2), (3, .int (x3 + 1))] [1, 2, 3, 0] rfl ?_
      refine r_goto (tgt := 63) ok dX8_guard_185 rfl ?_
      exact hk63 _ _ _ _ h
    · replace h := h.2 hc1
      refine r_aload_n ok dX8_guard_162 0 rfl ?_
      refine gf_X8_69 ok dX8_guard_163 ?_
      refine r_iload ok dX8_guard_166 4 rfl ?_
      refine r_aload_n ok dX8_guard_168 0 rfl ?_
      refine gf_X8_72 ok dX8_guard_169 ?_
      refine r_iload ok dX8_guard_172 4 rfl ?_
      refine r_iald ok ai_91 h.1 rfl dX8_guard_174 ?_
      replace h := h.2
      have hi3 := h.1
      replace h := h.2
      refine r_iast ok ai_90 hi3 rfl dX8_guard_175 (fun S2 eS2 => ?_)
      replace h := h S2 eS2
      refine r_iinc (v := x4 + 1) ok dX8_guard_176 4 rfl rfl (by decide) [(0, .ref (xad X 71)), (1, .int x1), (2, .int x2), (3, .int x3), (4, .int (x4 + 1))] [1, 2, 3, 4, 0] rfl ?_
      refine r_goto (tgt := 155) ok dX8_guard_179 rfl ?_
      exact hk155 _ _ _ _ _ h
theorem w_B_X8_guard_108 {X : Cx} (ok : Ok X cX8_guard 6 RX8 4 96) {post : Int32 → St → Prop} (hret : RetI X cX8_guard 6 post) {k63 : Int32 → Int32 → Int32 → St → Prop} (hk63 : ∀ x1 x2 x3 S, k63 x1 x2 x3 S → Wp X 6 63 [(0, .ref (xad X 71)), (1, .int x1), (2, .int x2), (3, .int x3)] [] S) {k72 : Int32 → Int32 → Int32 → Int32 → St → Prop} (hk72 : ∀ x1 x2 x3 x4 S, k72 x1 x2 x3 x4 S → Wp X 6 72 [(0, .ref (xad X 71)), (1, .int x1), (2, .int x2), (3, .int x3), (4, .int x4)] [] S) {x1 x2 x3 x4 s0 : Int32} {S : St} (h : B_X8_guard_108 k63 k72 post x1 x2 x3 x4 s0 S) : Wp X 6 108 [(0, .ref (xad X 71)), (1, .int x1), (2, .int x2), (3, .int x3), (4, .int x4)] [.int s0] S := by
  unfold B_X8_guard_108 at h
  refine r_istore ok dX8_guard_108 (by decide) [(0, .ref (xad X 71)), (1, .int x1), (2, .int x2), (3, .int x3), (4, .int x4), (5, .int s0)] [1, 2, 3, 4, 5, 0] rfl ?_
  refine r_aload_n ok dX8_guard_110 0 rfl ?_
  refine gf_X8_72 ok dX8_guard_111 ?_
  refine r_iload ok dX8_guard_114 4 rfl ?_
  refine r_iload ok dX8_guard_116 5 rfl ?_
  refine r_if_eq (tgt := 138) ok dX8_guard_118 rfl (fun hc1 => ?_) (fun hc1 => ?_)
  · replace h := h.1 hc1
    refine r_aload_n ok dX8_guard_138 0 rfl ?_
    refine gf_X8_69 ok dX8_guard_139 ?_
    refine r_iload ok dX8_guard_142 4 rfl ?_
    refine r_iald ok ai_90 h.1 rfl dX8_guard_144 ?_
    replace h := h.2
    have hi3 := h.1
    replace h := h.2
    refine r_iast ok ai_91 hi3 rfl dX8_guard_145 (fun S2 eS2 => ?_)
    replace h := h S2 eS2
    refine r_iinc (v := x4 + 1) ok dX8_guard_146 4 rfl rfl (by decide) [(0, .ref (xad X 71)), (1, .int x1), (2, .int x2), (3, .int x3), (4, .int (x4 + 1))] [1, 2, 3, 4, 0] rfl ?_
    refine r_goto (tgt := 72) ok dX8_guard_149 rfl ?_
    exact hk72 _ _ _ _ _ h
  · replace h := h.2 hc1
    refine r_aload_n ok dX8_guard_121 0 rfl ?_
    refine r_iload ok dX8_guard_122 4 rfl ?_
    refine r_bipush (v := 6) ok dX8_guard_124 rfl ?_
    refine r_idiv ok dX8_guard_126 (by decide) ?_
    refine r_iload ok dX8_guard_127 4 rfl ?_
    refine r_bipush (v := 6) ok dX8_guard_129 rfl ?_
    refine r_irem ok dX8_guard_131 (by decide) ?_
    refine cl_X8_285 ok dX8_guard_132 (by decide) (Nat.le_of_ble_eq_true rfl) h (fun r5 S4 h => ?_)
    refine r_goto (tgt := 145) ok dX8_guard_135 rfl ?_
    have hi7 := h.1
    replace h := h.2
    refine r_iast ok ai_91 hi7 rfl dX8_guard_145 (fun S6 eS6 => ?_)
    replace h := h S6 eS6
    refine r_iinc (v := x4 + 1) ok dX8_guard_146 4 rfl rfl (by decide) [(0, .ref (xad X 71)), (1, .int x1), (2, .int x2), (3, .int x3), (4, .int (x4 + 1))] [1, 2, 3, 4, 0] rfl ?_
    refine r_goto (tgt := 72) ok dX8_guard_149 rfl ?_
    exact hk72 _ _ _ _ _ h
theorem w_B_X8_guard_72 {X : Cx} (ok : Ok X cX8_guard 6 RX8 4 96) {post : Int32 → St → Prop} (hret : RetI X cX8_guard 6 post) {k63 : Int32 → Int32 → Int32 → St → Prop} (hk63 : ∀ x1 x2 x3 S, k63 x1 x2 x3 S → Wp X 6 63 [(0, .ref (xad X 71)), (1, .int x1), (2, .int x2), (3, .int x3)] [] S) {x1 x2 x3 x4 : Int32} {S : St} (h : B_X8_guard_72 k63 post x1 x2 x3 x4 S) : Wp X 6 72 [(0, .ref (xad X 71)), (1, .int x1), (2, .int x2), (3, .int x3), (4, .int x4)] [] S := by
  obtain ⟨n, h⟩ := h
  induction n generalizing x1 x2 x3 x4 S with
  | zero => exact False.elim h
  | succ n ih =>
    have hk72 : ∀ x1 x2 x3 x4 S, L_X8_guard_72 k63 post n x1 x2 x3 x4 S → Wp X 6 72 [(0, .ref (xad X 71)), (1, .int x1), (2, .int x2), (3, .int x3), (4, .int x4)] [] S := by intros; apply ih; assumption
    replace h : BD_X8_guard_72 k63 (L_X8_guard_72 k63 post n) post x1 x2 x3 x4 S := h
    unfold BD_X8_guard_72 at h
    generalize L_X8_guard_72 k63 post n = k72 at h hk72
    refine r_iload ok dX8_guard_72 4 rfl ?_
    refine r_bipush (v := 36) ok dX8_guard_74 rfl ?_
    refine r_icmp_ge (tgt := 152) ok dX8_guard_76 rfl (fun hc1 => ?_) (fun hc1 => ?_)
    · replace h := h.1 hc1
      refine r_iconst (v := 0) ok dX8_guard_152 rfl ?_
      refine r_istore ok dX8_guard_153 (by decide) [(0, .ref (xad X 71)), (1, .int x1), (2, .int x2), (3, .int x3), (4, .int 0)] [1, 2, 3, 4, 0] rfl ?_
      exact w_B_X8_guard_155 ok hret hk63 h
    · replace h := h.2 hc1
      refine r_iload ok dX8_guard_79 4 rfl ?_
      refine r_bipush (v := 6) ok dX8_guard_81 rfl ?_
      refine r_idiv ok dX8_guard_83 (by decide) ?_
      refine r_aload_n ok dX8_guard_84 0 rfl ?_
      refine gf_X8_155 ok dX8_guard_85 ?_
      refine r_icmp_ge (tgt := 107) ok dX8_guard_88 rfl (fun hc2 => ?_) (fun hc2 => ?_)
      · replace h := h.1 hc2
        refine r_iconst (v := 0) ok dX8_guard_107 rfl ?_
        exact w_B_X8_guard_108 ok hret hk63 hk72 h
      · replace h := h.2 hc2
        refine r_iload ok dX8_guard_91 4 rfl ?_
        refine r_bipush (v := 6) ok dX8_guard_93 rfl ?_
        refine r_irem ok dX8_guard_95 (by decide) ?_
        refine r_aload_n ok dX8_guard_96 0 rfl ?_
        refine gf_X8_155 ok dX8_guard_97 ?_
        refine r_icmp_ge (tgt := 107) ok dX8_guard_100 rfl (fun hc3 => ?_) (fun hc3 => ?_)
        · replace h := h.1 hc3
          refine r_iconst (v := 0) ok dX8_guard_107 rfl ?_
          exact w_B_X8_guard_108 ok hret hk63 hk72 h
        · replace h := h.2 hc3
          refine r_iconst (v := 1) ok dX8_guard_103 rfl ?_
          refine r_goto (tgt := 108) ok dX8_guard_104 rfl ?_
          exact w_B_X8_guard_108 ok hret hk63 hk72 h
theorem w_B_X8_guard_63 {X : Cx} (ok : Ok X cX8_guard 6 RX8 4 96) {post : Int32 → St → Prop} (hret : RetI X cX8_guard 6 post) {x1 x2 x3 : Int32} {S : St} (h : B_X8_guard_63 post x1 x2 x3 S) : Wp X 6 63 [(0, .ref (xad X 71)), (1, .int x1), (2, .int x2), (3, .int x3)] [] S := by
  obtain ⟨n, h⟩ := h
  induction n generalizing x1 x2 x3 S with
  | zero => exact False.elim h
  | succ n ih =>
    have hk63 : ∀ x1 x2 x3 S, L_X8_guard_63 post n x1 x2 x3 S → Wp X 6 63 [(0, .ref (xad X 71)), (1, .int x1), (2, .int x2), (3, .int x3)] [] S := by intros; apply ih; assumption
    replace h : BD_X8_guard_63 (L_X8_guard_63 post n) post x1 x2 x3 S := h
    unfold BD_X8_guard_63 at h
    generalize L_X8_guard_63 post n = k63 at h hk63
    refine r_iload_n ok dX8_guard_63 3 rfl ?_
    refine r_bipush (v := 40) ok dX8_guard_64 rfl ?_
    refine r_icmp_ge (tgt := 188) ok dX8_guard_66 rfl (fun hc1 => ?_) (fun hc1 => ?_)
    · replace h := h.1 hc1
      refine r_sub [(0, .ref (xad X 71)), (1, .int x1), (2, .int x2)] [0, 1, 2] rfl ?_
      exact w_B_X8_guard_188 ok hret h
    · replace h := h.2 hc1
      refine r_iconst (v := 0) ok dX8_guard_69 rfl ?_
      refine r_istore ok dX8_guard_70 (by decide) [(0, .ref (xad X 71)), (1, .int x1), (2, .int x2), (3, .int x3), (4, .int 0)] [1, 2, 3, 4, 0] rfl ?_
      exact w_B_X8_guard_72 ok hret hk63 h
theorem w_B_X8_guard_26 {X : Cx} (ok : Ok X cX8_guard 6 RX8 4 96) {post : Int32 → St → Prop} (hret : RetI X cX8_guard 6 post) {x1 x2 x3 : Int32} {S : St} (h : B_X8_guard_26 post x1 x2 x3 S) : Wp X 6 26 [(0, .ref (xad X 71)), (1, .int x1), (2, .int x2), (3, .int x3)] [] S := by
  obtain ⟨n, h⟩ := h
  induction n generalizing x1 x2 x3 S with
  | zero => exact False.elim h
  | succ n ih =>
    have hk26 : ∀ x1 x2 x3 S, L_X8_guard_26 post n x1 x2 x3 S → Wp X 6 26 [(0, .ref (xad X 71)), (1, .int x1), (2, .int x2), (3, .int x3)] [] S := by intros; apply ih; assumption
    replace h : BD_X8_guard_26 (L_X8_guard_26 post n) post x1 x2 x3 S := h
    unfold BD_X8_guard_26 at h
    generalize L_X8_guard_26 post n = k26 at h hk26
    refine r_iload_n ok dX8_guard_26 3 rfl ?_
    refine r_bipush (v := 36) ok dX8_guard_27 rfl ?_
    refine r_icmp_ge (tgt := 61) ok dX8_guard_29 rfl (fun hc1 => ?_) (fun hc1 => ?_)
    · replace h := h.1 hc1
      refine r_iconst (v := 0) ok dX8_guard_61 rfl ?_
      refine r_istore_n ok dX8_guard_62 (by decide) [(0, .ref (xad X 71)), (1, .int x1), (2, .int x2), (3, .int 0)] [1, 2, 3, 0] rfl ?_
      exact w_B_X8_guard_63 ok hret h
    · replace h := h.2 hc1
      refine r_aload_n ok dX8_guard_32 0 rfl ?_
      refine gf_X8_69 ok dX8_guard_33 ?_
      refine r_iload_n ok dX8_guard_36 3 rfl ?_
      refine r_iload_n ok dX8_guard_37 3 rfl ?_
      refine r_bipush (v := 6) ok dX8_guard_38 rfl ?_
      refine r_idiv ok dX8_guard_40 (by decide) ?_
      refine r_iload_n ok dX8_guard_41 3 rfl ?_
      refine r_bipush (v := 6) ok dX8_guard_42 rfl ?_
      refine r_irem ok dX8_guard_44 (by decide) ?_
      refine r_icmp_ne (tgt := 52) ok dX8_guard_45 rfl (fun hc2 => ?_) (fun hc2 => ?_)
      · replace h := h.1 hc2
        refine r_ldc (v := 100000000) ok dX8_guard_52 tw_k_X8_223 ?_
        have hi4 := h.1
        replace h := h.2
        refine r_iast ok ai_90 hi4 rfl dX8_guard_54 (fun S3 eS3 => ?_)
        replace h := h S3 eS3
        refine r_iinc (v := x3 + 1) ok dX8_guard_55 3 rfl rfl (by decide) [(0, .ref (xad X 71)), (1, .int x1), (2, .int x2), (3, .int (x3 + 1))] [1, 2, 3, 0] rfl ?_
        refine r_goto (tgt := 26) ok dX8_guard_58 rfl ?_
        exact hk26 _ _ _ _ h
      · replace h := h.2 hc2
        refine r_iconst (v := 0) ok dX8_guard_48 rfl ?_
        refine r_goto (tgt := 54) ok dX8_guard_49 rfl ?_
        have hi6 := h.1
        replace h := h.2
        refine r_iast ok ai_90 hi6 rfl dX8_guard_54 (fun S5 eS5 => ?_)
        replace h := h S5 eS5
        refine r_iinc (v := x3 + 1) ok dX8_guard_55 3 rfl rfl (by decide) [(0, .ref (xad X 71)), (1, .int x1), (2, .int x2), (3, .int (x3 + 1))] [1, 2, 3, 0] rfl ?_
        refine r_goto (tgt := 26) ok dX8_guard_58 rfl ?_
        exact hk26 _ _ _ _ h
theorem w_wp_X8_guard {X : Cx} (ok : Ok X cX8_guard 6 RX8 4 96) {post : Int32 → St → Prop} (hret : RetI X cX8_guard 6 post) {x1 x2 : Int32} {S : St} (h : wp_X8_guard x1 x2 S post) : Wp X 6 0 [(0, .ref (xad X 71)), (1, .int x1), (2, .int x2)] [] S := by
  unfold wp_X8_guard at h
  refine r_aload_n ok dX8_guard_0 0 rfl ?_
  refine r_iconst (v := 0) ok dX8_guard_1 rfl ?_
  refine pf_X8_75 ok dX8_guard_2 (fun S1 eS1 => ?_)
  replace h := h S1 eS1
  refine r_aload_n ok dX8_guard_5 0 rfl ?_
  refine r_iload_n ok dX8_guard_6 1 rfl ?_
  refine cl_X8_185 ok dX8_guard_7 (by decide) (Nat.le_of_ble_eq_true rfl) h (fun r3 S2 h => ?_)
  refine r_if_eq (tgt := 21) ok dX8_guard_10 rfl (fun hc4 => ?_) (fun hc4 => ?_)
  · replace h := h.1 hc4
    refine r_ldc (v := (-1000000001)) ok dX8_guard_21 tw_k_X8_174 ?_
    exact hret _ _ _ _ dX8_guard_23 h
  · replace h := h.2 hc4
    refine r_aload_n ok dX8_guard_13 0 rfl ?_
    refine r_iload_n ok dX8_guard_14 2 rfl ?_
    refine cl_X8_185 ok dX8_guard_15 (by decide) (Nat.le_of_ble_eq_true rfl) h (fun r6 S5 h => ?_)
    refine r_if_ne (tgt := 24) ok dX8_guard_18 rfl (fun hc7 => ?_) (fun hc7 => ?_)
    · replace h := h.1 hc7
      refine r_iconst (v := 0) ok dX8_guard_24 rfl ?_
      refine r_istore_n ok dX8_guard_25 (by decide) [(0, .ref (xad X 71)), (1, .int x1), (2, .int x2), (3, .int 0)] [1, 2, 3, 0] rfl ?_
      exact w_B_X8_guard_26 ok hret h
    · replace h := h.2 hc7
      refine r_ldc (v := (-1000000001)) ok dX8_guard_21 tw_k_X8_174 ?_
      exact hret _ _ _ _ dX8_guard_23 h
theorem c_X8_guard (l : Launch) (G : Gx) {x1 x2 : Int32} {S : St} {post : Int32 → St → Prop} (h : wp_X8_guard x1 x2 S post) : MtI l yX8_guard cX8_guard 6 (some .int) 4 96 G [.ref (G.2.2 71), .int x1, .int x2] S post :=
  ctI (by decide) rfl (Nat.le_of_ble_eq_true rfl) (fun X _ hG ok hret => by subst hG; exact w_wp_X8_guard ok hret h)

/-! HasteRoadsModel.nextFar(I)I -/
theorem dX8_nextFar_0 : decode cX8_nextFar 0 = .ok (.iconst (-1), 1) := by decide +kernel
theorem dX8_nextFar_1 : decode cX8_nextFar 1 = .ok (.istore_n 2, 1) := by decide +kernel
theorem dX8_nextFar_2 : decode cX8_nextFar 2 = .ok (.iconst 0, 1) := by decide +kernel
theorem dX8_nextFar_3 : decode cX8_nextFar 3 = .ok (.istore_n 3, 1) := by decide +kernel
theorem dX8_nextFar_4 : decode cX8_nextFar 4 = .ok (.iload_n 3, 1) := by decide +kernel
theorem dX8_nextFar_5 : decode cX8_nextFar 5 = .ok (.iload_n 1, 1) := by decide +kernel
theorem dX8_nextFar_6 : decode cX8_nextFar 6 = .ok (.if_icmp .ge 55, 3) := by decide +kernel
theorem dX8_nextFar_9 : decode cX8_nextFar 9 = .ok (.aload_n 0, 1) := by decide +kernel
theorem dX8_nextFar_10 : decode cX8_nextFar 10 = .ok (.getfield 51, 3) := by decide +kernel
theorem dX8_nextFar_13 : decode cX8_nextFar 13 = .ok (.iload_n 3, 1) := by decide +kernel
theorem dX8_nextFar_14 : decode cX8_nextFar 14 = .ok (.baload, 1) := by decide +kernel
theorem dX8_nextFar_15 : decode cX8_nextFar 15 = .ok (.ifCond .ne 38, 3) := by decide +kernel
theorem dX8_nextFar_18 : decode cX8_nextFar 18 = .ok (.aload_n 0, 1) := by decide +kernel
theorem dX8_nextFar_19 : decode cX8_nextFar 19 = .ok (.getfield 48, 3) := by decide +kernel
theorem dX8_nextFar_22 : decode cX8_nextFar 22 = .ok (.iload_n 3, 1) := by decide +kernel
theorem dX8_nextFar_23 : decode cX8_nextFar 23 = .ok (.iaload, 1) := by decide +kernel
theorem dX8_nextFar_24 : decode cX8_nextFar 24 = .ok (.ldc 223, 2) := by decide +kernel
theorem dX8_nextFar_26 : decode cX8_nextFar 26 = .ok (.if_icmp .ge 27, 3) := by decide +kernel
theorem dX8_nextFar_29 : decode cX8_nextFar 29 = .ok (.iload_n 2, 1) := by decide +kernel
theorem dX8_nextFar_30 : decode cX8_nextFar 30 = .ok (.iconst (-1), 1) := by decide +kernel
theorem dX8_nextFar_31 : decode cX8_nextFar 31 = .ok (.if_icmp .eq 18, 3) := by decide +kernel
theorem dX8_nextFar_34 : decode cX8_nextFar 34 = .ok (.aload_n 0, 1) := by decide +kernel
theorem dX8_nextFar_35 : decode cX8_nextFar 35 = .ok (.getfield 48, 3) := by decide +kernel
theorem dX8_nextFar_38 : decode cX8_nextFar 38 = .ok (.iload_n 3, 1) := by decide +kernel
theorem dX8_nextFar_39 : decode cX8_nextFar 39 = .ok (.iaload, 1) := by decide +kernel
theorem dX8_nextFar_40 : decode cX8_nextFar 40 = .ok (.aload_n 0, 1) := by decide +kernel
theorem dX8_nextFar_41 : decode cX8_nextFar 41 = .ok (.getfield 48, 3) := by decide +kernel
theorem dX8_nextFar_44 : decode cX8_nextFar 44 = .ok (.iload_n 2, 1) := by decide +kernel
theorem dX8_nextFar_45 : decode cX8_nextFar 45 = .ok (.iaload, 1) := by decide +kernel
theorem dX8_nextFar_46 : decode cX8_nextFar 46 = .ok (.if_icmp .ge 7, 3) := by decide +kernel
theorem dX8_nextFar_49 : decode cX8_nextFar 49 = .ok (.iload_n 3, 1) := by decide +kernel
theorem dX8_nextFar_50 : decode cX8_nextFar 50 = .ok (.goto 4, 3) := by decide +kernel
theorem dX8_nextFar_53 : decode cX8_nextFar 53 = .ok (.iload_n 2, 1) := by decide +kernel
theorem dX8_nextFar_54 : decode cX8_nextFar 54 = .ok (.istore_n 2, 1) := by decide +kernel
theorem dX8_nextFar_55 : decode cX8_nextFar 55 = .ok (.iinc 3 1, 3) := by decide +kernel
theorem dX8_nextFar_58 : decode cX8_nextFar 58 = .ok (.goto (-54), 3) := by decide +kernel
theorem dX8_nextFar_61 : decode cX8_nextFar 61 = .ok (.iload_n 2, 1) := by decide +kernel
theorem dX8_nextFar_62 : decode cX8_nextFar 62 = .ok (.ireturn, 1) := by decide +kernel
theorem gf_X8_51 {X : Cx} {cc : ByteArray} {nL pc fr lo : Nat} {L : List (Nat × Value)} {st : List Value} {S : St} (ok : Ok X cc nL RX8 fr lo) (d : decode cc pc = .ok (.getfield 51, 3)) (k : Wp X nL (pc + 3) L (.ref (xad X 84) :: st) S) : Wp X nL pc L (.ref (xad X 71) :: st) S :=
  r_get (C := RX8) (T := TX8) ok ob_71 rfl i_X8 31 (by decide) tw_fl_X8_51 d (by rw [show fvl (xad X) S 71 31 = .ref (xad X 84) from (fvl_ref (d := 84) (by decide))]; exact k)
theorem gf_X8_48 {X : Cx} {cc : ByteArray} {nL pc fr lo : Nat} {L : List (Nat × Value)} {st : List Value} {S : St} (ok : Ok X cc nL RX8 fr lo) (d : decode cc pc = .ok (.getfield 48, 3)) (k : Wp X nL (pc + 3) L (.ref (xad X 83) :: st) S) : Wp X nL pc L (.ref (xad X 71) :: st) S :=
  r_get (C := RX8) (T := TX8) ok ob_71 rfl i_X8 30 (by decide) tw_fl_X8_48 d (by rw [show fvl (xad X) S 71 30 = .ref (xad X 83) from (fvl_ref (d := 83) (by decide))]; exact k)
def BD_X8_nextFar_4 (k4 : Int32 → Int32 → Int32 → St → Prop) (post : Int32 → St → Prop) (x1 : Int32) (x2 : Int32) (x3 : Int32) (S : St) : Prop :=
  ((x1 ≤ x3 → post x2 S) ∧ (¬ x1 ≤ x3 → vp_in x3 2304 ∧ (((¬ (S 84 (ix x3)) = 0 → k4 x1 x2 (x3 + 1) S) ∧ ((S 84 (ix x3)) = 0 → vp_in x3 2304 ∧ (((100000000 ≤ (S 83 (ix x3)) → k4 x1 x2 (x3 + 1) S) ∧ (¬ 100000000 ≤ (S 83 (ix x3)) → ((x2 = (-1) → k4 x1 x3 (x3 + 1) S) ∧ (¬ x2 = (-1) → vp_in x3 2304 ∧ (vp_in x2 2304 ∧ ((((S 83 (ix x2)) ≤ (S 83 (ix x3)) → k4 x1 x2 (x3 + 1) S) ∧ (¬ (S 83 (ix x2)) ≤ (S 83 (ix x3)) → k4 x1 x3 (x3 + 1) S))))))))))))))
def L_X8_nextFar_4 (post : Int32 → St → Prop) (n : Nat) : Int32 → Int32 → Int32 → St → Prop := Nat.rec (motive := fun _ => Int32 → Int32 → Int32 → St → Prop) (fun _ _ _ _ => False) (fun _ ih => BD_X8_nextFar_4 ih post) n
def B_X8_nextFar_4 (post : Int32 → St → Prop) (x1 : Int32) (x2 : Int32) (x3 : Int32) (S : St) : Prop := ∃ n, L_X8_nextFar_4 post n x1 x2 x3 S
def wp_X8_nextFar (x1 : Int32) (S : St) (post : Int32 → St → Prop) : Prop :=
  B_X8_nextFar_4 post x1 (-1) 0 S
theorem w_B_X8_nextFar_4 {X : Cx} (ok : Ok X cX8_nextFar 4 RX8 0 0) {post : Int32 → St → Prop} (hret : RetI X cX8_nextFar 4 post) {x1 x2 x3 : Int32} {S : St} (h : B_X8_nextFar_4 post x1 x2 x3 S) : Wp X 4 4 [(0, .ref (xad X 71)), (1, .int x1), (2, .int x2), (3, .int x3)] [] S := by
  obtain ⟨n, h⟩ := h
  induction n generalizing x1 x2 x3 S with
  | zero => exact False.elim h
  | succ n ih =>
    have hk4 : ∀ x1 x2 x3 S, L_X8_nextFar_4 post n x1 x2 x3 S → Wp X 4 4 [(0, .ref (xad X 71)), (1, .int x1), (2, .int x2), (3, .int x3)] [] S := by intros; apply ih; assumption
    replace h : BD_X8_nextFar_4 (L_X8_nextFar_4 post n) post x1 x2 x3 S := h
    unfold BD_X8_nextFar_4 at h
    generalize L_X8_nextFar_4 post n = k4 at h hk4
    refine r_iload_n ok dX8_nextFar_4 3 rfl ?_
    refine r_iload_n ok dX8_nextFar_5 1 rfl ?_
    refine r_icmp_ge (tgt := 61) ok dX8_nextFar_6 rfl (fun hc1 => ?_) (fun hc1 => ?_)
    · replace h := h.1 hc1
      refine r_iload_n ok dX8_nextFar_61 2 rfl ?_
      exact hret _ _ _ _ dX8_nextFar_62 h
    · replace h := h.2 hc1
      refine r_aload_n ok dX8_nextFar_9 0 rfl ?_
      refine gf_X8_51 ok dX8_nextFar_10 ?_
      refine r_iload_n ok dX8_nextFar_13 3 rfl ?_
      refine r_zald ok az_84 h.1 rfl dX8_nextFar_14 ?_
      replace h := h.2
      refine r_if_ne (tgt := 53) ok dX8_nextFar_15 rfl (fun hc2 => ?_) (fun hc2 => ?_)
      · replace h := h.1 hc2
        refine r_iload_n ok dX8_nextFar_53 2 rfl ?_
        refine r_istore_n ok dX8_nextFar_54 (by decide) [(0, .ref (xad X 71)), (1, .int x1), (2, .int x2), (3, .int x3)] [1, 2, 0, 3] rfl ?_
        refine r_iinc (v := x3 + 1) ok dX8_nextFar_55 3 rfl rfl (by decide) [(0, .ref (xad X 71)), (1, .int x1), (2, .int x2), (3, .int (x3 + 1))] [1, 2, 3, 0] rfl ?_
        refine r_goto (tgt := 4) ok dX8_nextFar_58 rfl ?_
        exact hk4 _ _ _ _ h
      · replace h := h.2 hc2
        refine r_aload_n ok dX8_nextFar_18 0 rfl ?_
        refine gf_X8_48 ok dX8_nextFar_19 ?_
        refine r_iload_n ok dX8_nextFar_22 3 rfl ?_
        refine r_iald ok ai_83 h.1 rfl dX8_nextFar_23 ?_
        replace h := h.2
        refine r_ldc (v := 100000000) ok dX8_nextFar_24 tw_k_X8_223 ?_
        refine r_icmp_ge (tgt := 53) ok dX8_nextFar_26 rfl (fun hc3 => ?_) (fun hc3 => ?_)
        · replace h := h.1 hc3
          refine r_iload_n ok dX8_nextFar_53 2 rfl ?_
          refine r_istore_n ok dX8_nextFar_54 (by decide) [(0, .ref (xad X 71)), (1, .int x1), (2, .int x2), (3, .int x3)] [1, 2, 0, 3] rfl ?_
          refine r_iinc (v := x3 + 1) ok dX8_nextFar_55 3 rfl rfl (by decide) [(0, .ref (xad X 71)), (1, .int x1), (2, .int x2), (3, .int (x3 + 1))] [1, 2, 3, 0] rfl ?_
          refine r_goto (tgt := 4) ok dX8_nextFar_58 rfl ?_
          exact hk4 _ _ _ _ h
        · replace h := h.2 hc3
          refine r_iload_n ok dX8_nextFar_29 2 rfl ?_
          refine r_iconst (v := (-1)) ok dX8_nextFar_30 rfl ?_
          refine r_icmp_eq (tgt := 49) ok dX8_nextFar_31 rfl (fun hc4 => ?_) (fun hc4 => ?_)
          · replace h := h.1 hc4
            refine r_iload_n ok dX8_nextFar_49 3 rfl ?_
            refine r_goto (tgt := 54) ok dX8_nextFar_50 rfl ?_
            refine r_istore_n ok dX8_nextFar_54 (by decide) [(0, .ref (xad X 71)), (1, .int x1), (2, .int x3), (3, .int x3)] [1, 2, 0, 3] rfl ?_
            refine r_iinc (v := x3 + 1) ok dX8_nextFar_55 3 rfl rfl (by decide) [(0, .ref (xad X 71)), (1, .int x1), (2, .int x3), (3, .int (x3 + 1))] [1, 2, 3, 0] rfl ?_
            refine r_goto (tgt := 4) ok dX8_nextFar_58 rfl ?_
            exact hk4 _ _ _ _ h
          · replace h := h.2 hc4
            refine r_aload_n ok dX8_nextFar_34 0 rfl ?_
            refine gf_X8_48 ok dX8_nextFar_35 ?_
            refine r_iload_n ok dX8_nextFar_38 3 rfl ?_
            refine r_iald ok ai_83 h.1 rfl dX8_nextFar_39 ?_
            replace h := h.2
            refine r_aload_n ok dX8_nextFar_40 0 rfl ?_
            refine gf_X8_48 ok dX8_nextFar_41 ?_
            refine r_iload_n ok dX8_nextFar_44 2 rfl ?_
            refine r_iald ok ai_83 h.1 rfl dX8_nextFar_45 ?_
            replace h := h.2
            refine r_icmp_ge (tgt := 53) ok dX8_nextFar_46 rfl (fun hc5 => ?_) (fun hc5 => ?_)
            · replace h := h.1 hc5
              refine r_iload_n ok dX8_nextFar_53 2 rfl ?_
              refine r_istore_n ok dX8_nextFar_54 (by decide) [(0, .ref (xad X 71)), (1, .int x1), (2, .int x2), (3, .int x3)] [1, 2, 0, 3] rfl ?_
              refine r_iinc (v := x3 + 1) ok dX8_nextFar_55 3 rfl rfl (by decide) [(0, .ref (xad X 71)), (1, .int x1), (2, .int x2), (3, .int (x3 + 1))] [1, 2, 3, 0] rfl ?_
              refine r_goto (tgt := 4) ok dX8_nextFar_58 rfl ?_
              exact hk4 _ _ _ _ h
            · replace h := h.2 hc5
              refine r_iload_n ok dX8_nextFar_49 3 rfl ?_
              refine r_goto (tgt := 54) ok dX8_nextFar_50 rfl ?_
              refine r_istore_n ok dX8_nextFar_54 (by decide) [(0, .ref (xad X 71)), (1, .int x1), (2, .int x3), (3, .int x3)] [1, 2, 0, 3] rfl ?_
              refine r_iinc (v := x3 + 1) ok dX8_nextFar_55 3 rfl rfl (by decide) [(0, .ref (xad X 71)), (1, .int x1), (2, .int x3), (3, .int (x3 + 1))] [1, 2, 3, 0] rfl ?_
              refine r_goto (tgt := 4) ok dX8_nextFar_58 rfl ?_
              exact hk4 _ _ _ _ h
theorem w_wp_X8_nextFar {X : Cx} (ok : Ok X cX8_nextFar 4 RX8 0 0) {post : Int32 → St → Prop} (hret : RetI X cX8_nextFar 4 post) {x1 : Int32} {S : St} (h : wp_X8_nextFar x1 S post) : Wp X 4 0 [(0, .ref (xad X 71)), (1, .int x1)] [] S := by
  unfold wp_X8_nextFar at h
  refine r_iconst (v := (-1)) ok dX8_nextFar_0 rfl ?_
  refine r_istore_n ok dX8_nextFar_1 (by decide) [(0, .ref (xad X 71)), (1, .int x1), (2, .int (-1))] [1, 2, 0] rfl ?_
  refine r_iconst (v := 0) ok dX8_nextFar_2 rfl ?_
  refine r_istore_n ok dX8_nextFar_3 (by decide) [(0, .ref (xad X 71)), (1, .int x1), (2, .int (-1)), (3, .int 0)] [1, 2, 3, 0] rfl ?_
  exact w_B_X8_nextFar_4 ok hret h
theorem c_X8_nextFar (l : Launch) (G : Gx) {x1 : Int32} {S : St} {post : Int32 → St → Prop} (h : wp_X8_nextFar x1 S post) : MtI l yX8_nextFar cX8_nextFar 4 (some .int) 0 0 G [.ref (G.2.2 71), .int x1] S post :=
  ctI (by decide) rfl (Nat.le_of_ble_eq_true rfl) (fun X _ hG ok hret => by subst hG; exact w_wp_X8_nextFar ok hret h)

/-! HasteRoadsModel.reaches(II)V -/
theorem dX8_reaches_0 : decode cX8_reaches 0 = .ok (.aload_n 0, 1) := by decide +kernel
theorem dX8_reaches_1 : decode cX8_reaches 1 = .ok (.getfield 48, 3) := by decide +kernel
theorem dX8_reaches_4 : decode cX8_reaches 4 = .ok (.iload_n 1, 1) := by decide +kernel
theorem dX8_reaches_5 : decode cX8_reaches 5 = .ok (.iload_n 2, 1) := by decide +kernel
theorem dX8_reaches_6 : decode cX8_reaches 6 = .ok (.aload_n 0, 1) := by decide +kernel
theorem dX8_reaches_7 : decode cX8_reaches 7 = .ok (.getfield 48, 3) := by decide +kernel
theorem dX8_reaches_10 : decode cX8_reaches 10 = .ok (.iload_n 1, 1) := by decide +kernel
theorem dX8_reaches_11 : decode cX8_reaches 11 = .ok (.iaload, 1) := by decide +kernel
theorem dX8_reaches_12 : decode cX8_reaches 12 = .ok (.if_icmp .ge 7, 3) := by decide +kernel
theorem dX8_reaches_15 : decode cX8_reaches 15 = .ok (.iload_n 2, 1) := by decide +kernel
theorem dX8_reaches_16 : decode cX8_reaches 16 = .ok (.goto 9, 3) := by decide +kernel
theorem dX8_reaches_19 : decode cX8_reaches 19 = .ok (.aload_n 0, 1) := by decide +kernel
theorem dX8_reaches_20 : decode cX8_reaches 20 = .ok (.getfield 48, 3) := by decide +kernel
theorem dX8_reaches_23 : decode cX8_reaches 23 = .ok (.iload_n 1, 1) := by decide +kernel
theorem dX8_reaches_24 : decode cX8_reaches 24 = .ok (.iaload, 1) := by decide +kernel
theorem dX8_reaches_25 : decode cX8_reaches 25 = .ok (.iastore, 1) := by decide +kernel
theorem dX8_reaches_26 : decode cX8_reaches 26 = .ok (.return_, 1) := by decide +kernel

def wp_X8_reaches (x1 : Int32) (x2 : Int32) (S : St) (post : St → Prop) : Prop :=
  vp_in x1 2304 ∧ ((((S 83 (ix x1)) ≤ x2 → vp_in x1 2304 ∧ (vp_in x1 2304 ∧ (∀ S2 : St, S2 = up S 83 (ix x1) (S 83 (ix x1)) → post S2))) ∧ (¬ (S 83 (ix x1)) ≤ x2 → vp_in x1 2304 ∧ (∀ S4 : St, S4 = up S 83 (ix x1) x2 → post S4))))
theorem w_wp_X8_reaches {X : Cx} (ok : Ok X cX8_reaches 3 RX8 0 0) {post : St → Prop} (hret : RetV X cX8_reaches 3 post) {x1 x2 : Int32} {S : St} (h : wp_X8_reaches x1 x2 S post) : Wp X 3 0 [(0, .ref (xad X 71)), (1, .int x1), (2, .int x2)] [] S := by
  unfold wp_X8_reaches at h
  refine r_aload_n ok dX8_reaches_0 0 rfl ?_
  refine gf_X8_48 ok dX8_reaches_1 ?_
  refine r_iload_n ok dX8_reaches_4 1 rfl ?_
  refine r_iload_n ok dX8_reaches_5 2 rfl ?_
  refine r_aload_n ok dX8_reaches_6 0 rfl ?_
  refine gf_X8_48 ok dX8_reaches_7 ?_
  refine r_iload_n ok dX8_reaches_10 1 rfl ?_
  refine r_iald ok ai_83 h.1 rfl dX8_reaches_11 ?_
  replace h := h.2
  refine r_icmp_ge (tgt := 19) ok dX8_reaches_12 rfl (fun hc1 => ?_) (fun hc1 => ?_)
  · replace h := h.1 hc1
    refine r_aload_n ok dX8_reaches_19 0 rfl ?_
    refine gf_X8_48 ok dX8_reaches_20 ?_
    refine r_iload_n ok dX8_reaches_23 1 rfl ?_
    refine r_iald ok ai_83 h.1 rfl dX8_reaches_24 ?_
    replace h := h.2
    have hi3 := h.1
    replace h := h.2
    refine r_iast ok ai_83 hi3 rfl dX8_reaches_25 (fun S2 eS2 => ?_)
    replace h := h S2 eS2
    exact hret _ _ _ dX8_reaches_26 h
  · replace h := h.2 hc1
    refine r_iload_n ok dX8_reaches_15 2 rfl ?_
    refine r_goto (tgt := 25) ok dX8_reaches_16 rfl ?_
    have hi5 := h.1
    replace h := h.2
    refine r_iast ok ai_83 hi5 rfl dX8_reaches_25 (fun S4 eS4 => ?_)
    replace h := h S4 eS4
    exact hret _ _ _ dX8_reaches_26 h
theorem c_X8_reaches (l : Launch) (G : Gx) {x1 x2 : Int32} {S : St} {post : St → Prop} (h : wp_X8_reaches x1 x2 S post) : MtV l yX8_reaches cX8_reaches 3 0 0 G [.ref (G.2.2 71), .int x1, .int x2] S post :=
  ctV (by decide) rfl (Nat.le_of_ble_eq_true rfl) (fun X _ hG ok hret => by subst hG; exact w_wp_X8_reaches ok hret h)
