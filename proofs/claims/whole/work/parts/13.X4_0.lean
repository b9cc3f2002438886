/-! HasteRoads$Search.nearest(I)I -/
theorem dX4_nearest_0 : decode cX4_nearest 0 = .ok (.iconst (-1), 1) := by decide +kernel
theorem dX4_nearest_1 : decode cX4_nearest 1 = .ok (.istore_n 2, 1) := by decide +kernel
theorem dX4_nearest_2 : decode cX4_nearest 2 = .ok (.ldc 29, 2) := by decide +kernel
theorem dX4_nearest_4 : decode cX4_nearest 4 = .ok (.istore_n 3, 1) := by decide +kernel
theorem dX4_nearest_5 : decode cX4_nearest 5 = .ok (.aload_n 0, 1) := by decide +kernel
theorem dX4_nearest_6 : decode cX4_nearest 6 = .ok (.getfield 25, 3) := by decide +kernel
theorem dX4_nearest_9 : decode cX4_nearest 9 = .ok (.getfield 75, 3) := by decide +kernel
theorem dX4_nearest_12 : decode cX4_nearest 12 = .ok (.bipush 6, 2) := by decide +kernel
theorem dX4_nearest_14 : decode cX4_nearest 14 = .ok (.imul, 1) := by decide +kernel
theorem dX4_nearest_15 : decode cX4_nearest 15 = .ok (.istore 4, 2) := by decide +kernel
theorem dX4_nearest_17 : decode cX4_nearest 17 = .ok (.iconst 0, 1) := by decide +kernel
theorem dX4_nearest_18 : decode cX4_nearest 18 = .ok (.istore 5, 2) := by decide +kernel
theorem dX4_nearest_20 : decode cX4_nearest 20 = .ok (.iload 5, 2) := by decide +kernel
theorem dX4_nearest_22 : decode cX4_nearest 22 = .ok (.iload 4, 2) := by decide +kernel
theorem dX4_nearest_24 : decode cX4_nearest 24 = .ok (.if_icmp .ge 45, 3) := by decide +kernel
theorem dX4_nearest_27 : decode cX4_nearest 27 = .ok (.aload_n 0, 1) := by decide +kernel
theorem dX4_nearest_28 : decode cX4_nearest 28 = .ok (.getfield 18, 3) := by decide +kernel
theorem dX4_nearest_31 : decode cX4_nearest 31 = .ok (.iload 5, 2) := by decide +kernel
theorem dX4_nearest_33 : decode cX4_nearest 33 = .ok (.baload, 1) := by decide +kernel
theorem dX4_nearest_34 : decode cX4_nearest 34 = .ok (.ifCond .ne 29, 3) := by decide +kernel
theorem dX4_nearest_37 : decode cX4_nearest 37 = .ok (.aload_n 0, 1) := by decide +kernel
theorem dX4_nearest_38 : decode cX4_nearest 38 = .ok (.getfield 9, 3) := by decide +kernel
theorem dX4_nearest_41 : decode cX4_nearest 41 = .ok (.iload_n 1, 1) := by decide +kernel
theorem dX4_nearest_42 : decode cX4_nearest 42 = .ok (.iload 5, 2) := by decide +kernel
theorem dX4_nearest_44 : decode cX4_nearest 44 = .ok (.iadd, 1) := by decide +kernel
theorem dX4_nearest_45 : decode cX4_nearest 45 = .ok (.iaload, 1) := by decide +kernel
theorem dX4_nearest_46 : decode cX4_nearest 46 = .ok (.iload_n 3, 1) := by decide +kernel
theorem dX4_nearest_47 : decode cX4_nearest 47 = .ok (.if_icmp .ge 16, 3) := by decide +kernel
theorem dX4_nearest_50 : decode cX4_nearest 50 = .ok (.aload_n 0, 1) := by decide +kernel
theorem dX4_nearest_51 : decode cX4_nearest 51 = .ok (.getfield 9, 3) := by decide +kernel
theorem dX4_nearest_54 : decode cX4_nearest 54 = .ok (.iload_n 1, 1) := by decide +kernel
theorem dX4_nearest_55 : decode cX4_nearest 55 = .ok (.iload 5, 2) := by decide +kernel
theorem dX4_nearest_57 : decode cX4_nearest 57 = .ok (.iadd, 1) := by decide +kernel
theorem dX4_nearest_58 : decode cX4_nearest 58 = .ok (.iaload, 1) := by decide +kernel
theorem dX4_nearest_59 : decode cX4_nearest 59 = .ok (.istore_n 3, 1) := by decide +kernel
theorem dX4_nearest_60 : decode cX4_nearest 60 = .ok (.iload 5, 2) := by decide +kernel
theorem dX4_nearest_62 : decode cX4_nearest 62 = .ok (.istore_n 2, 1) := by decide +kernel
theorem dX4_nearest_63 : decode cX4_nearest 63 = .ok (.iinc 5 1, 3) := by decide +kernel
theorem dX4_nearest_66 : decode cX4_nearest 66 = .ok (.goto (-46), 3) := by decide +kernel
theorem dX4_nearest_69 : decode cX4_nearest 69 = .ok (.iload_n 2, 1) := by decide +kernel
theorem dX4_nearest_70 : decode cX4_nearest 70 = .ok (.ireturn, 1) := by decide +kernel
theorem gf_X4_25 {X : Cx} {cc : ByteArray} {nL pc fr lo : Nat} {L : List (Nat × Value)} {st : List Value} {S : St} (ok : Ok X cc nL RX4 fr lo) (d : decode cc pc = .ok (.getfield 25, 3)) (k : Wp X nL (pc + 3) L (.ref (xad X 11) :: st) S) : Wp X nL pc L (.ref (xad X 50) :: st) S :=
  r_get (C := RX4) (T := TX4) ok ob_50 rfl i_X4 0 (by decide) tw_fl_X4_25 d (by rw [show fvl (xad X) S 50 0 = .ref (xad X 11) from (fvl_ref (d := 11) (by decide))]; exact k)
theorem gf_X4_75 {X : Cx} {cc : ByteArray} {nL pc fr lo : Nat} {L : List (Nat × Value)} {st : List Value} {S : St} (ok : Ok X cc nL RX4 fr lo) {o : Nat} (ho : isW o) (d : decode cc pc = .ok (.getfield 75, 3)) (k : Wp X nL (pc + 3) L (.int (S o 0) :: st) S) : Wp X nL pc L (.ref (xad X o) :: st) S :=
  r_get (C := RX6) (T := TX6) ok ho.ob rfl i_X6 0 (by decide) tw_fl_X4_75 d (by rw [show fvl (xad X) S o 0 = .int (S o 0) from (fvl_int (ho.ri 0 (by decide)))]; exact k)
theorem gf_X4_18 {X : Cx} {cc : ByteArray} {nL pc fr lo : Nat} {L : List (Nat × Value)} {st : List Value} {S : St} (ok : Ok X cc nL RX4 fr lo) (d : decode cc pc = .ok (.getfield 18, 3)) (k : Wp X nL (pc + 3) L (.ref (xad X 53) :: st) S) : Wp X nL pc L (.ref (xad X 50) :: st) S :=
  r_get (C := RX4) (T := TX4) ok ob_50 rfl i_X4 3 (by decide) tw_fl_X4_18 d (by rw [show fvl (xad X) S 50 3 = .ref (xad X 53) from (fvl_ref (d := 53) (by decide))]; exact k)
theorem gf_X4_9 {X : Cx} {cc : ByteArray} {nL pc fr lo : Nat} {L : List (Nat × Value)} {st : List Value} {S : St} (ok : Ok X cc nL RX4 fr lo) (d : decode cc pc = .ok (.getfield 9, 3)) (k : Wp X nL (pc + 3) L (.ref (xad X 51) :: st) S) : Wp X nL pc L (.ref (xad X 50) :: st) S :=
  r_get (C := RX4) (T := TX4) ok ob_50 rfl i_X4 1 (by decide) tw_fl_X4_9 d (by rw [show fvl (xad X) S 50 1 = .ref (xad X 51) from (fvl_ref (d := 51) (by decide))]; exact k)
def BD_X4_nearest_20 (k20 : Int32 → Int32 → Int32 → Int32 → Int32 → St → Prop) (post : Int32 → St → Prop) (x1 : Int32) (x2 : Int32) (x3 : Int32) (x4 : Int32) (x5 : Int32) (S : St) : Prop :=
  ((x4 ≤ x5 → post x2 S) ∧ (¬ x4 ≤ x5 → vp_in x5 36 ∧ (((¬ (S 53 (ix x5)) = 0 → k20 x1 x2 x3 x4 (x5 + 1) S) ∧ ((S 53 (ix x5)) = 0 → vp_in (x1 + x5) 2304 ∧ (((x3 ≤ (S 51 (ix (x1 + x5))) → k20 x1 x2 x3 x4 (x5 + 1) S) ∧ (¬ x3 ≤ (S 51 (ix (x1 + x5))) → vp_in (x1 + x5) 2304 ∧ (∀ v4 : Int32, v4 = (S 51 (ix (x1 + x5))) → k20 x1 x5 v4 x4 (x5 + 1) S)))))))))
def L_X4_nearest_20 (post : Int32 → St → Prop) (n : Nat) : Int32 → Int32 → Int32 → Int32 → Int32 → St → Prop := Nat.rec (motive := fun _ => Int32 → Int32 → Int32 → Int32 → Int32 → St → Prop) (fun _ _ _ _ _ _ => False) (fun _ ih => BD_X4_nearest_20 ih post) n
def B_X4_nearest_20 (post : Int32 → St → Prop) (x1 : Int32) (x2 : Int32) (x3 : Int32) (x4 : Int32) (x5 : Int32) (S : St) : Prop := ∃ n, L_X4_nearest_20 post n x1 x2 x3 x4 x5 S
def wp_X4_nearest (x1 : Int32) (S : St) (post : Int32 → St → Prop) : Prop :=
  ∀ v1 : Int32, v1 = ((S 11 0) * 6) → B_X4_nearest_20 post x1 (-1) 1000000000 v1 0 S
theorem w_B_X4_nearest_20 {X : Cx} (ok : Ok X cX4_nearest 6 RX4 0 0) {post : Int32 → St → Prop} (hret : RetI X cX4_nearest 6 post) {x1 x2 x3 x4 x5 : Int32} {S : St} (h : B_X4_nearest_20 post x1 x2 x3 x4 x5 S) : Wp X 6 20 [(0, .ref (xad X 50)), (1, .int x1), (2, .int x2), (3, .int x3), (4, .int x4), (5, .int x5)] [] S := by
  obtain ⟨n, h⟩ := h
  induction n generalizing x1 x2 x3 x4 x5 S with
  | zero => exact False.elim h
  | succ n ih =>
    have hk20 : ∀ x1 x2 x3 x4 x5 S, L_X4_nearest_20 post n x1 x2 x3 x4 x5 S → Wp X 6 20 [(0, .ref (xad X 50)), (1, .int x1), (2, .int x2), (3, .int x3), (4, .int x4), (5, .int x5)] [] S := by intros; apply ih; assumption
    replace h : BD_X4_nearest_20 (L_X4_nearest_20 post n) post x1 x2 x3 x4 x5 S := h
    unfold BD_X4_nearest_20 at h
    generalize L_X4_nearest_20 post n = k20 at h hk20
    refine r_iload ok dX4_nearest_20 5 rfl ?_
    refine r_iload ok dX4_nearest_22 4 rfl ?_
    refine r_icmp_ge (tgt := 69) ok dX4_nearest_24 rfl (fun hc1 => ?_) (fun hc1 => ?_)
    · replace h := h.1 hc1
      refine r_iload_n ok dX4_nearest_69 2 rfl ?_
      exact hret _ _ _ _ dX4_nearest_70 h
    · replace h := h.2 hc1
      refine r_aload_n ok dX4_nearest_27 0 rfl ?_
      refine gf_X4_18 ok dX4_nearest_28 ?_
      refine r_iload ok dX4_nearest_31 5 rfl ?_
      refine r_zald ok az_53 h.1 rfl dX4_nearest_33 ?_
      replace h := h.2
      refine r_if_ne (tgt := 63) ok dX4_nearest_34 rfl (fun hc2 => ?_) (fun hc2 => ?_)
      · replace h := h.1 hc2
        refine r_iinc (v := x5 + 1) ok dX4_nearest_63 5 rfl rfl (by decide) [(0, .ref (xad X 50)), (1, .int x1), (2, .int x2), (3, .int x3), (4, .int x4), (5, .int (x5 + 1))] [1, 2, 3, 4, 5, 0] rfl ?_
        refine r_goto (tgt := 20) ok dX4_nearest_66 rfl ?_
        exact hk20 _ _ _ _ _ _ h
      · replace h := h.2 hc2
        refine r_aload_n ok dX4_nearest_37 0 rfl ?_
        refine gf_X4_9 ok dX4_nearest_38 ?_
        refine r_iload_n ok dX4_nearest_41 1 rfl ?_
        refine r_iload ok dX4_nearest_42 5 rfl ?_
        refine r_iadd ok dX4_nearest_44 ?_
        refine r_iald ok ai_51 h.1 rfl dX4_nearest_45 ?_
        replace h := h.2
        refine r_iload_n ok dX4_nearest_46 3 rfl ?_
        refine r_icmp_ge (tgt := 63) ok dX4_nearest_47 rfl (fun hc3 => ?_) (fun hc3 => ?_)
        · replace h := h.1 hc3
          refine r_iinc (v := x5 + 1) ok dX4_nearest_63 5 rfl rfl (by decide) [(0, .ref (xad X 50)), (1, .int x1), (2, .int x2), (3, .int x3), (4, .int x4), (5, .int (x5 + 1))] [1, 2, 3, 4, 5, 0] rfl ?_
          refine r_goto (tgt := 20) ok dX4_nearest_66 rfl ?_
          exact hk20 _ _ _ _ _ _ h
        · replace h := h.2 hc3
          refine r_aload_n ok dX4_nearest_50 0 rfl ?_
          refine gf_X4_9 ok dX4_nearest_51 ?_
          refine r_iload_n ok dX4_nearest_54 1 rfl ?_
          refine r_iload ok dX4_nearest_55 5 rfl ?_
          refine r_iadd ok dX4_nearest_57 ?_
          refine r_iald ok ai_51 h.1 rfl dX4_nearest_58 ?_
          replace h := h.2
          refine r_top (fun v4 ev4 => ?_)
          replace h := h v4 ev4
          refine r_istore_n ok dX4_nearest_59 (by decide) [(0, .ref (xad X 50)), (1, .int x1), (3, .int v4), (4, .int x4), (5, .int x5)] [1, 2, 0, 4, 5] rfl ?_
          refine r_iload ok dX4_nearest_60 4 rfl ?_
          refine r_istore_n ok dX4_nearest_62 (by decide) [(0, .ref (xad X 50)), (1, .int x1), (2, .int x5), (3, .int v4), (4, .int x4), (5, .int x5)] [1, 2, 0, 3, 4, 5] rfl ?_
          refine r_iinc (v := x5 + 1) ok dX4_nearest_63 5 rfl rfl (by decide) [(0, .ref (xad X 50)), (1, .int x1), (2, .int x5), (3, .int v4), (4, .int x4), (5, .int (x5 + 1))] [1, 2, 3, 4, 5, 0] rfl ?_
          refine r_goto (tgt := 20) ok dX4_nearest_66 rfl ?_
          exact hk20 _ _ _ _ _ _ h
theorem w_wp_X4_nearest {X : Cx} (ok : Ok X cX4_nearest 6 RX4 0 0) {post : Int32 → St → Prop} (hret : RetI X cX4_nearest 6 post) {x1 : Int32} {S : St} (h : wp_X4_nearest x1 S post) : Wp X 6 0 [(0, .ref (xad X 50)), (1, .int x1)] [] S := by
  unfold wp_X4_nearest at h
  refine r_iconst (v := (-1)) ok dX4_nearest_0 rfl ?_
  refine r_istore_n ok dX4_nearest_1 (by decide) [(0, .ref (xad X 50)), (1, .int x1), (2, .int (-1))] [1, 2, 0] rfl ?_
  refine r_ldc (v := 1000000000) ok dX4_nearest_2 tw_k_X4_29 ?_
  refine r_istore_n ok dX4_nearest_4 (by decide) [(0, .ref (xad X 50)), (1, .int x1), (2, .int (-1)), (3, .int 1000000000)] [1, 2, 3, 0] rfl ?_
  refine r_aload_n ok dX4_nearest_5 0 rfl ?_
  refine gf_X4_25 ok dX4_nearest_6 ?_
  refine gf_X4_75 ok isW_11 dX4_nearest_9 ?_
  refine r_bipush (v := 6) ok dX4_nearest_12 rfl ?_
  refine r_imul ok dX4_nearest_14 ?_
  refine r_top (fun v1 ev1 => ?_)
  replace h := h v1 ev1
  refine r_istore ok dX4_nearest_15 (by decide) [(0, .ref (xad X 50)), (1, .int x1), (2, .int (-1)), (3, .int 1000000000), (4, .int v1)] [1, 2, 3, 4, 0] rfl ?_
  refine r_iconst (v := 0) ok dX4_nearest_17 rfl ?_
  refine r_istore ok dX4_nearest_18 (by decide) [(0, .ref (xad X 50)), (1, .int x1), (2, .int (-1)), (3, .int 1000000000), (4, .int v1), (5, .int 0)] [1, 2, 3, 4, 5, 0] rfl ?_
  exact w_B_X4_nearest_20 ok hret h
theorem c_X4_nearest (l : Launch) (G : Gx) {x1 : Int32} {S : St} {post : Int32 → St → Prop} (h : wp_X4_nearest x1 S post) : MtI l yX4_nearest cX4_nearest 6 (some .int) 0 0 G [.ref (G.2.2 50), .int x1] S post :=
  ctI (by decide) rfl (Nat.le_of_ble_eq_true rfl) (fun X _ hG ok hret => by subst hG; exact w_wp_X4_nearest ok hret h)

/-! HasteRoads$Search.reach(IIII)V -/
theorem dX4_reach_0 : decode cX4_reach 0 = .ok (.iload_n 1, 1) := by decide +kernel
theorem dX4_reach_1 : decode cX4_reach 1 = .ok (.bipush 36, 2) := by decide +kernel
theorem dX4_reach_3 : decode cX4_reach 3 = .ok (.imul, 1) := by decide +kernel
theorem dX4_reach_4 : decode cX4_reach 4 = .ok (.iload_n 2, 1) := by decide +kernel
theorem dX4_reach_5 : decode cX4_reach 5 = .ok (.bipush 6, 2) := by decide +kernel
theorem dX4_reach_7 : decode cX4_reach 7 = .ok (.imul, 1) := by decide +kernel
theorem dX4_reach_8 : decode cX4_reach 8 = .ok (.iadd, 1) := by decide +kernel
theorem dX4_reach_9 : decode cX4_reach 9 = .ok (.iload_n 3, 1) := by decide +kernel
theorem dX4_reach_10 : decode cX4_reach 10 = .ok (.iadd, 1) := by decide +kernel
theorem dX4_reach_11 : decode cX4_reach 11 = .ok (.istore 5, 2) := by decide +kernel
theorem dX4_reach_13 : decode cX4_reach 13 = .ok (.iload 4, 2) := by decide +kernel
theorem dX4_reach_15 : decode cX4_reach 15 = .ok (.aload_n 0, 1) := by decide +kernel
theorem dX4_reach_16 : decode cX4_reach 16 = .ok (.getfield 9, 3) := by decide +kernel
theorem dX4_reach_19 : decode cX4_reach 19 = .ok (.iload 5, 2) := by decide +kernel
theorem dX4_reach_21 : decode cX4_reach 21 = .ok (.iaload, 1) := by decide +kernel
theorem dX4_reach_22 : decode cX4_reach 22 = .ok (.if_icmp .ge 12, 3) := by decide +kernel
theorem dX4_reach_25 : decode cX4_reach 25 = .ok (.aload_n 0, 1) := by decide +kernel
theorem dX4_reach_26 : decode cX4_reach 26 = .ok (.getfield 9, 3) := by decide +kernel
theorem dX4_reach_29 : decode cX4_reach 29 = .ok (.iload 5, 2) := by decide +kernel
theorem dX4_reach_31 : decode cX4_reach 31 = .ok (.iload 4, 2) := by decide +kernel
theorem dX4_reach_33 : decode cX4_reach 33 = .ok (.iastore, 1) := by decide +kernel
theorem dX4_reach_34 : decode cX4_reach 34 = .ok (.return_, 1) := by decide +kernel

def wp_X4_reach (x1 : Int32) (x2 : Int32) (x3 : Int32) (x4 : Int32) (S : St) (post : St → Prop) : Prop :=
  ∀ v1 : Int32, v1 = (((x1 * 36) + (x2 * 6)) + x3) → vp_in v1 2304 ∧ ((((S 51 (ix v1)) ≤ x4 → post S) ∧ (¬ (S 51 (ix v1)) ≤ x4 → vp_in v1 2304 ∧ (∀ S3 : St, S3 = up S 51 (ix v1) x4 → post S3))))
theorem w_wp_X4_reach {X : Cx} (ok : Ok X cX4_reach 6 RX4 0 0) {post : St → Prop} (hret : RetV X cX4_reach 6 post) {x1 x2 x3 x4 : Int32} {S : St} (h : wp_X4_reach x1 x2 x3 x4 S post) : Wp X 6 0 [(0, .ref (xad X 50)), (1, .int x1), (2, .int x2), (3, .int x3), (4, .int x4)] [] S := by
  unfold wp_X4_reach at h
  refine r_iload_n ok dX4_reach_0 1 rfl ?_
  refine r_bipush (v := 36) ok dX4_reach_1 rfl ?_
  refine r_imul ok dX4_reach_3 ?_
  refine r_iload_n ok dX4_reach_4 2 rfl ?_
  refine r_bipush (v := 6) ok dX4_reach_5 rfl ?_
  refine r_imul ok dX4_reach_7 ?_
  refine r_iadd ok dX4_reach_8 ?_
  refine r_iload_n ok dX4_reach_9 3 rfl ?_
  refine r_iadd ok dX4_reach_10 ?_
  refine r_top (fun v1 ev1 => ?_)
  replace h := h v1 ev1
  refine r_istore ok dX4_reach_11 (by decide) [(0, .ref (xad X 50)), (4, .int x4), (5, .int v1)] [1, 5, 0] rfl ?_
  refine r_iload ok dX4_reach_13 1 rfl ?_
  refine r_aload_n ok dX4_reach_15 0 rfl ?_
  refine gf_X4_9 ok dX4_reach_16 ?_
  refine r_iload ok dX4_reach_19 2 rfl ?_
  refine r_iald ok ai_51 h.1 rfl dX4_reach_21 ?_
  replace h := h.2
  refine r_icmp_ge (tgt := 34) ok dX4_reach_22 rfl (fun hc2 => ?_) (fun hc2 => ?_)
  · replace h := h.1 hc2
    exact hret _ _ _ dX4_reach_34 h
  · replace h := h.2 hc2
    refine r_aload_n ok dX4_reach_25 0 rfl ?_
    refine gf_X4_9 ok dX4_reach_26 ?_
    refine r_iload ok dX4_reach_29 2 rfl ?_
    refine r_iload ok dX4_reach_31 1 rfl ?_
    have hi4 := h.1
    replace h := h.2
    refine r_iast ok ai_51 hi4 rfl dX4_reach_33 (fun S3 eS3 => ?_)
    replace h := h S3 eS3
    exact hret _ _ _ dX4_reach_34 h
theorem c_X4_reach (l : Launch) (G : Gx) {x1 x2 x3 x4 : Int32} {S : St} {post : St → Prop} (h : wp_X4_reach x1 x2 x3 x4 S post) : MtV l yX4_reach cX4_reach 6 0 0 G [.ref (G.2.2 50), .int x1, .int x2, .int x3, .int x4] S post :=
  ctV (by decide) rfl (Nat.le_of_ble_eq_true rfl) (fun X _ hG ok hret => by subst hG; exact w_wp_X4_reach ok hret h)

/-! HasteRoads$Search.spread(IIII)V -/
theorem dX4_spread_0 : decode cX4_spread 0 = .ok (.iload 4, 2) := by decide +kernel
theorem dX4_spread_2 : decode cX4_spread 2 = .ok (.bipush 6, 2) := by decide +kernel
theorem dX4_spread_4 : decode cX4_spread 4 = .ok (.idiv, 1) := by decide +kernel
theorem dX4_spread_5 : decode cX4_spread 5 = .ok (.istore 5, 2) := by decide +kernel
theorem dX4_spread_7 : decode cX4_spread 7 = .ok (.iload 4, 2) := by decide +kernel
theorem dX4_spread_9 : decode cX4_spread 9 = .ok (.bipush 6, 2) := by decide +kernel
theorem dX4_spread_11 : decode cX4_spread 11 = .ok (.irem, 1) := by decide +kernel
theorem dX4_spread_12 : decode cX4_spread 12 = .ok (.istore 6, 2) := by decide +kernel
theorem dX4_spread_14 : decode cX4_spread 14 = .ok (.aload_n 0, 1) := by decide +kernel
theorem dX4_spread_15 : decode cX4_spread 15 = .ok (.getfield 9, 3) := by decide +kernel
theorem dX4_spread_18 : decode cX4_spread 18 = .ok (.iload_n 3, 1) := by decide +kernel
theorem dX4_spread_19 : decode cX4_spread 19 = .ok (.bipush 36, 2) := by decide +kernel
theorem dX4_spread_21 : decode cX4_spread 21 = .ok (.imul, 1) := by decide +kernel
theorem dX4_spread_22 : decode cX4_spread 22 = .ok (.iload 4, 2) := by decide +kernel
theorem dX4_spread_24 : decode cX4_spread 24 = .ok (.iadd, 1) := by decide +kernel
theorem dX4_spread_25 : decode cX4_spread 25 = .ok (.iaload, 1) := by decide +kernel
theorem dX4_spread_26 : decode cX4_spread 26 = .ok (.istore 7, 2) := by decide +kernel
theorem dX4_spread_28 : decode cX4_spread 28 = .ok (.aload_n 0, 1) := by decide +kernel
theorem dX4_spread_29 : decode cX4_spread 29 = .ok (.getfield 25, 3) := by decide +kernel
theorem dX4_spread_32 : decode cX4_spread 32 = .ok (.iload 5, 2) := by decide +kernel
theorem dX4_spread_34 : decode cX4_spread 34 = .ok (.invokevirtual 78, 3) := by decide +kernel
theorem dX4_spread_37 : decode cX4_spread 37 = .ok (.ifCond .eq 24, 3) := by decide +kernel
theorem dX4_spread_40 : decode cX4_spread 40 = .ok (.iload 6, 2) := by decide +kernel
theorem dX4_spread_42 : decode cX4_spread 42 = .ok (.iconst 5, 1) := by decide +kernel
theorem dX4_spread_43 : decode cX4_spread 43 = .ok (.if_icmp .ge 18, 3) := by decide +kernel
theorem dX4_spread_46 : decode cX4_spread 46 = .ok (.aload_n 0, 1) := by decide +kernel
theorem dX4_spread_47 : decode cX4_spread 47 = .ok (.iload_n 3, 1) := by decide +kernel
theorem dX4_spread_48 : decode cX4_spread 48 = .ok (.iload 5, 2) := by decide +kernel
theorem dX4_spread_50 : decode cX4_spread 50 = .ok (.iload 6, 2) := by decide +kernel
theorem dX4_spread_52 : decode cX4_spread 52 = .ok (.iconst 1, 1) := by decide +kernel
theorem dX4_spread_53 : decode cX4_spread 53 = .ok (.iadd, 1) := by decide +kernel
theorem dX4_spread_54 : decode cX4_spread 54 = .ok (.iload 7, 2) := by decide +kernel
theorem dX4_spread_56 : decode cX4_spread 56 = .ok (.iconst 1, 1) := by decide +kernel
theorem dX4_spread_57 : decode cX4_spread 57 = .ok (.iadd, 1) := by decide +kernel
theorem dX4_spread_58 : decode cX4_spread 58 = .ok (.invokevirtual 82, 3) := by decide +kernel
theorem dX4_spread_61 : decode cX4_spread 61 = .ok (.aload_n 0, 1) := by decide +kernel
theorem dX4_spread_62 : decode cX4_spread 62 = .ok (.getfield 25, 3) := by decide +kernel
theorem dX4_spread_65 : decode cX4_spread 65 = .ok (.iload_n 1, 1) := by decide +kernel
theorem dX4_spread_66 : decode cX4_spread 66 = .ok (.iload 5, 2) := by decide +kernel
theorem dX4_spread_68 : decode cX4_spread 68 = .ok (.iload 7, 2) := by decide +kernel
theorem dX4_spread_70 : decode cX4_spread 70 = .ok (.invokevirtual 85, 3) := by decide +kernel
theorem dX4_spread_73 : decode cX4_spread 73 = .ok (.istore 8, 2) := by decide +kernel
theorem dX4_spread_75 : decode cX4_spread 75 = .ok (.iconst 0, 1) := by decide +kernel
theorem dX4_spread_76 : decode cX4_spread 76 = .ok (.istore 9, 2) := by decide +kernel
theorem dX4_spread_78 : decode cX4_spread 78 = .ok (.iload 9, 2) := by decide +kernel
theorem dX4_spread_80 : decode cX4_spread 80 = .ok (.aload_n 0, 1) := by decide +kernel
theorem dX4_spread_81 : decode cX4_spread 81 = .ok (.getfield 25, 3) := by decide +kernel
theorem dX4_spread_84 : decode cX4_spread 84 = .ok (.getfield 89, 3) := by decide +kernel
theorem dX4_spread_87 : decode cX4_spread 87 = .ok (.if_icmp .ge 94, 3) := by decide +kernel
theorem dX4_spread_90 : decode cX4_spread 90 = .ok (.aload_n 0, 1) := by decide +kernel
theorem dX4_spread_91 : decode cX4_spread 91 = .ok (.getfield 25, 3) := by decide +kernel
theorem dX4_spread_94 : decode cX4_spread 94 = .ok (.iload 9, 2) := by decide +kernel
theorem dX4_spread_96 : decode cX4_spread 96 = .ok (.iload 5, 2) := by decide +kernel
theorem dX4_spread_98 : decode cX4_spread 98 = .ok (.invokevirtual 92, 3) := by decide +kernel
theorem dX4_spread_101 : decode cX4_spread 101 = .ok (.istore 10, 2) := by decide +kernel
theorem dX4_spread_103 : decode cX4_spread 103 = .ok (.iload 10, 2) := by decide +kernel
theorem dX4_spread_105 : decode cX4_spread 105 = .ok (.iconst (-1), 1) := by decide +kernel
theorem dX4_spread_106 : decode cX4_spread 106 = .ok (.if_icmp .ne 6, 3) := by decide +kernel
theorem dX4_spread_109 : decode cX4_spread 109 = .ok (.goto 66, 3) := by decide +kernel
theorem dX4_spread_112 : decode cX4_spread 112 = .ok (.iload_n 3, 1) := by decide +kernel
theorem dX4_spread_113 : decode cX4_spread 113 = .ok (.iload_n 2, 1) := by decide +kernel
theorem dX4_spread_114 : decode cX4_spread 114 = .ok (.iconst 1, 1) := by decide +kernel
theorem dX4_spread_115 : decode cX4_spread 115 = .ok (.iload 10, 2) := by decide +kernel
theorem dX4_spread_117 : decode cX4_spread 117 = .ok (.ishl, 1) := by decide +kernel
theorem dX4_spread_118 : decode cX4_spread 118 = .ok (.iand, 1) := by decide +kernel
theorem dX4_spread_119 : decode cX4_spread 119 = .ok (.ior, 1) := by decide +kernel
theorem dX4_spread_120 : decode cX4_spread 120 = .ok (.istore 11, 2) := by decide +kernel
theorem dX4_spread_122 : decode cX4_spread 122 = .ok (.iconst 0, 1) := by decide +kernel
theorem dX4_spread_123 : decode cX4_spread 123 = .ok (.istore 12, 2) := by decide +kernel
theorem dX4_spread_125 : decode cX4_spread 125 = .ok (.iload 12, 2) := by decide +kernel
theorem dX4_spread_127 : decode cX4_spread 127 = .ok (.iload 6, 2) := by decide +kernel
theorem dX4_spread_129 : decode cX4_spread 129 = .ok (.if_icmp .gt 46, 3) := by decide +kernel
theorem dX4_spread_132 : decode cX4_spread 132 = .ok (.iload 12, 2) := by decide +kernel
theorem dX4_spread_134 : decode cX4_spread 134 = .ok (.iload 8, 2) := by decide +kernel
theorem dX4_spread_136 : decode cX4_spread 136 = .ok (.if_icmp .gt 39, 3) := by decide +kernel
theorem dX4_spread_139 : decode cX4_spread 139 = .ok (.aload_n 0, 1) := by decide +kernel
theorem dX4_spread_140 : decode cX4_spread 140 = .ok (.iload 11, 2) := by decide +kernel
theorem dX4_spread_142 : decode cX4_spread 142 = .ok (.iload 10, 2) := by decide +kernel
theorem dX4_spread_144 : decode cX4_spread 144 = .ok (.iload 6, 2) := by decide +kernel
theorem dX4_spread_146 : decode cX4_spread 146 = .ok (.iload 12, 2) := by decide +kernel
theorem dX4_spread_148 : decode cX4_spread 148 = .ok (.isub, 1) := by decide +kernel
theorem dX4_spread_149 : decode cX4_spread 149 = .ok (.iload 7, 2) := by decide +kernel
theorem dX4_spread_151 : decode cX4_spread 151 = .ok (.aload_n 0, 1) := by decide +kernel
theorem dX4_spread_152 : decode cX4_spread 152 = .ok (.getfield 25, 3) := by decide +kernel
theorem dX4_spread_155 : decode cX4_spread 155 = .ok (.iload 9, 2) := by decide +kernel
theorem dX4_spread_157 : decode cX4_spread 157 = .ok (.iload 8, 2) := by decide +kernel
theorem dX4_spread_159 : decode cX4_spread 159 = .ok (.iload 12, 2) := by decide +kernel
theorem dX4_spread_161 : decode cX4_spread 161 = .ok (.isub, 1) := by decide +kernel
theorem dX4_spread_162 : decode cX4_spread 162 = .ok (.invokevirtual 95, 3) := by decide +kernel
theorem dX4_spread_165 : decode cX4_spread 165 = .ok (.iadd, 1) := by decide +kernel
theorem dX4_spread_166 : decode cX4_spread 166 = .ok (.invokevirtual 82, 3) := by decide +kernel
theorem dX4_spread_169 : decode cX4_spread 169 = .ok (.iinc 12 1, 3) := by decide +kernel
theorem dX4_spread_172 : decode cX4_spread 172 = .ok (.goto (-47), 3) := by decide +kernel
theorem dX4_spread_175 : decode cX4_spread 175 = .ok (.iinc 9 1, 3) := by decide +kernel
theorem dX4_spread_178 : decode cX4_spread 178 = .ok (.goto (-100), 3) := by decide +kernel
theorem dX4_spread_181 : decode cX4_spread 181 = .ok (.return_, 1) := by decide +kernel
theorem gf_X4_89 {X : Cx} {cc : ByteArray} {nL pc fr lo : Nat} {L : List (Nat × Value)} {st : List Value} {S : St} (ok : Ok X cc nL RX4 fr lo) {o : Nat} (ho : isW o) (d : decode cc pc = .ok (.getfield 89, 3)) (k : Wp X nL (pc + 3) L (.int (S o 1) :: st) S) : Wp X nL pc L (.ref (xad X o) :: st) S :=
  r_get (C := RX6) (T := TX6) ok ho.ob rfl i_X6 1 (by decide) tw_fl_X4_89 d (by rw [show fvl (xad X) S o 1 = .int (S o 1) from (fvl_int (ho.ri 1 (by decide)))]; exact k)
theorem cl_X4_78 {X : Cx} {cc : ByteArray} {nL pc fr lo : Nat} {L : List (Nat × Value)} {st : List Value} {S : St} (ok : Ok X cc nL RX4 fr lo) {o : Nat} (ho : isW o) {x1 : Int32} (d : decode cc pc = .ok (.invokevirtual 78, 3)) (hroom : 1 ≤ fr ∧ 21 ≤ lo) (hst : (st.map fun v => v.category).sum ≤ 8) {post : Int32 → St → Prop} (h : wp_X6_hasInn o x1 S post) (kk : ∀ (r : Int32) (S1 : St), post r S1 → Wp X nL (pc + 3) L (.int r :: st) S1) : Wp X nL pc L (.int x1 :: .ref (xad X o) :: st) S :=
  r_callVi (n := 2) (f := 0) (lo1 := 0) (N := 1) (As := [.int x1]) ok tw_in_X6 tw_im_X6_hasInn tw_se_X6_hasInn tw_co_X6_hasInn tw_ml_X4_78 (by decide +kernel) rfl ho.ob rfl hroom hst d rfl (c_X6_hasInn (xl X) (xG X) ho h) kk
theorem cl_X4_82 {X : Cx} {cc : ByteArray} {nL pc fr lo : Nat} {L : List (Nat × Value)} {st : List Value} {S : St} (ok : Ok X cc nL RX4 fr lo) {x1 x2 x3 x4 : Int32} (d : decode cc pc = .ok (.invokevirtual 82, 3)) (hroom : 1 ≤ fr ∧ 25 ≤ lo) (hst : (st.map fun v => v.category).sum ≤ 8) {post : St → Prop} (h : wp_X4_reach x1 x2 x3 x4 S post) (kk : ∀ S1 : St, post S1 → Wp X nL (pc + 3) L st S1) : Wp X nL pc L (.int x4 :: .int x3 :: .int x2 :: .int x1 :: .ref (xad X 50) :: st) S :=
  r_callVv (n := 6) (f := 0) (lo1 := 0) (N := 4) (As := [.int x1, .int x2, .int x3, .int x4]) ok tw_in_X4 tw_im_X4_reach tw_se_X4_reach tw_co_X4_reach tw_ml_X4_82 (by decide +kernel) rfl ob_50 rfl hroom hst d rfl (c_X4_reach (xl X) (xG X) h) kk
theorem cl_X4_85 {X : Cx} {cc : ByteArray} {nL pc fr lo : Nat} {L : List (Nat × Value)} {st : List Value} {S : St} (ok : Ok X cc nL RX4 fr lo) {o : Nat} (ho : isW o) {x1 x2 x3 : Int32} (d : decode cc pc = .ok (.invokevirtual 85, 3)) (hroom : 1 ≤ fr ∧ 25 ≤ lo) (hst : (st.map fun v => v.category).sum ≤ 8) {post : Int32 → St → Prop} (h : wp_X6_hurry o x1 x2 x3 S post) (kk : ∀ (r : Int32) (S1 : St), post r S1 → Wp X nL (pc + 3) L (.int r :: st) S1) : Wp X nL pc L (.int x3 :: .int x2 :: .int x1 :: .ref (xad X o) :: st) S :=
  r_callVi (n := 6) (f := 0) (lo1 := 0) (N := 3) (As := [.int x1, .int x2, .int x3]) ok tw_in_X6 tw_im_X6_hurry tw_se_X6_hurry tw_co_X6_hurry tw_ml_X4_85 (by decide +kernel) rfl ho.ob rfl hroom hst d rfl (c_X6_hurry (xl X) (xG X) ho h) kk
theorem cl_X4_92 {X : Cx} {cc : ByteArray} {nL pc fr lo : Nat} {L : List (Nat × Value)} {st : List Value} {S : St} (ok : Ok X cc nL RX4 fr lo) {o : Nat} (ho : isW o) {x1 x2 : Int32} (d : decode cc pc = .ok (.invokevirtual 92, 3)) (hroom : 1 ≤ fr ∧ 22 ≤ lo) (hst : (st.map fun v => v.category).sum ≤ 8) {post : Int32 → St → Prop} (h : wp_X6_otherEnd o x1 x2 S post) (kk : ∀ (r : Int32) (S1 : St), post r S1 → Wp X nL (pc + 3) L (.int r :: st) S1) : Wp X nL pc L (.int x2 :: .int x1 :: .ref (xad X o) :: st) S :=
  r_callVi (n := 3) (f := 0) (lo1 := 0) (N := 2) (As := [.int x1, .int x2]) ok tw_in_X6 tw_im_X6_otherEnd tw_se_X6_otherEnd tw_co_X6_otherEnd tw_ml_X4_92 (by decide +kernel) rfl ho.ob rfl hroom hst d rfl (c_X6_otherEnd (xl X) (xG X) ho h) kk
theorem cl_X4_95 {X : Cx} {cc : ByteArray} {nL pc fr lo : Nat} {L : List (Nat × Value)} {st : List Value} {S : St} (ok : Ok X cc nL RX4 fr lo) {o : Nat} (ho : isW o) {x1 x2 : Int32} (d : decode cc pc = .ok (.invokevirtual 95, 3)) (hroom : 1 ≤ fr ∧ 22 ≤ lo) (hst : (st.map fun v => v.category).sum ≤ 8) {post : Int32 → St → Prop} (h : wp_X6_lastsHurried o x1 x2 S post) (kk : ∀ (r : Int32) (S1 : St), post r S1 → Wp X nL (pc + 3) L (.int r :: st) S1) : Wp X nL pc L (.int x2 :: .int x1 :: .ref (xad X o) :: st) S :=
  r_callVi (n := 3) (f := 0) (lo1 := 0) (N := 2) (As := [.int x1, .int x2]) ok tw_in_X6 tw_im_X6_lastsHurried tw_se_X6_lastsHurried tw_co_X6_lastsHurried tw_ml_X4_95 (by decide +kernel) rfl ho.ob rfl hroom hst d rfl (c_X6_lastsHurried (xl X) (xG X) ho h) kk
def BD_X4_spread_125 (k78 : Int32 → Int32 → Int32 → Int32 → Int32 → Int32 → Int32 → St → Prop) (k125 : Int32 → Int32 → Int32 → Int32 → Int32 → Int32 → Int32 → Int32 → Int32 → Int32 → St → Prop) (post : St → Prop) (x2 : Int32) (x3 : Int32) (x5 : Int32) (x6 : Int32) (x7 : Int32) (x8 : Int32) (x9 : Int32) (x10 : Int32) (x11 : Int32) (x12 : Int32) (S : St) : Prop :=
  ((x6 < x12 → k78 x2 x3 x5 x6 x7 x8 (x9 + 1) S) ∧ (¬ x6 < x12 → ((x8 < x12 → k78 x2 x3 x5 x6 x7 x8 (x9 + 1) S) ∧ (¬ x8 < x12 → wp_X6_lastsHurried 11 x9 (x8 - x12) S (fun r4 S3 => wp_X4_reach x11 x10 (x6 - x12) (x7 + r4) S3 (fun S5 => k125 x2 x3 x5 x6 x7 x8 x9 x10 x11 (x12 + 1) S5))))))
def L_X4_spread_125 (k78 : Int32 → Int32 → Int32 → Int32 → Int32 → Int32 → Int32 → St → Prop) (post : St → Prop) (n : Nat) : Int32 → Int32 → Int32 → Int32 → Int32 → Int32 → Int32 → Int32 → Int32 → Int32 → St → Prop := Nat.rec (motive := fun _ => Int32 → Int32 → Int32 → Int32 → Int32 → Int32 → Int32 → Int32 → Int32 → Int32 → St → Prop) (fun _ _ _ _ _ _ _ _ _ _ _ => False) (fun _ ih => BD_X4_spread_125 k78 ih post) n
def B_X4_spread_125 (k78 : Int32 → Int32 → Int32 → Int32 → Int32 → Int32 → Int32 → St → Prop) (post : St → Prop) (x2 : Int32) (x3 : Int32) (x5 : Int32) (x6 : Int32) (x7 : Int32) (x8 : Int32) (x9 : Int32) (x10 : Int32) (x11 : Int32) (x12 : Int32) (S : St) : Prop := ∃ n, L_X4_spread_125 k78 post n x2 x3 x5 x6 x7 x8 x9 x10 x11 x12 S
def BD_X4_spread_78 (k78 : Int32 → Int32 → Int32 → Int32 → Int32 → Int32 → Int32 → St → Prop) (post : St → Prop) (x2 : Int32) (x3 : Int32) (x5 : Int32) (x6 : Int32) (x7 : Int32) (x8 : Int32) (x9 : Int32) (S : St) : Prop :=
  (((S 11 1) ≤ x9 → post S) ∧ (¬ (S 11 1) ≤ x9 → wp_X6_otherEnd 11 x9 x5 S (fun r3 S2 => ((¬ r3 = (-1) → ∀ v5 : Int32, v5 = (x3 ||| (x2 &&& ((1 : Int32) <<< (r3 &&& 31)))) → B_X4_spread_125 k78 post x2 x3 x5 x6 x7 x8 x9 r3 v5 0 S2) ∧ (r3 = (-1) → k78 x2 x3 x5 x6 x7 x8 (x9 + 1) S2)))))
def L_X4_spread_78 (post : St → Prop) (n : Nat) : Int32 → Int32 → Int32 → Int32 → Int32 → Int32 → Int32 → St → Prop := Nat.rec (motive := fun _ => Int32 → Int32 → Int32 → Int32 → Int32 → Int32 → Int32 → St → Prop) (fun _ _ _ _ _ _ _ _ => False) (fun _ ih => BD_X4_spread_78 ih post) n
def B_X4_spread_78 (post : St → Prop) (x2 : Int32) (x3 : Int32) (x5 : Int32) (x6 : Int32) (x7 : Int32) (x8 : Int32) (x9 : Int32) (S : St) : Prop := ∃ n, L_X4_spread_78 post n x2 x3 x5 x6 x7 x8 x9 S
def B_X4_spread_61 (post : St → Prop) (x1 : Int32) (x2 : Int32) (x3 : Int32) (x5 : Int32) (x6 : Int32) (x7 : Int32) (S : St) : Prop :=
  wp_X6_hurry 11 x1 x5 x7 S (fun r2 S1 => B_X4_spread_78 post x2 x3 x5 x6 x7 r2 0 S1)
def wp_X4_spread (x1 : Int32) (x2 : Int32) (x3 : Int32) (x4 : Int32) (S : St) (post : St → Prop) : Prop :=
  ∀ v1 : Int32, v1 = (x4 / 6) → ∀ v2 : Int32, v2 = (x4 - x4 / 6 * 6) → vp_in ((x3 * 36) + x4) 2304 ∧ (∀ v3 : Int32, v3 = (S 51 (ix ((x3 * 36) + x4))) → wp_X6_hasInn 11 v1 S (fun r5 S4 => ((r5 = 0 → B_X4_spread_61 post x1 x2 x3 v1 v2 v3 S4) ∧ (¬ r5 = 0 → ((5 ≤ v2 → B_X4_spread_61 post x1 x2 x3 v1 v2 v3 S4) ∧ (¬ 5 ≤ v2 → wp_X4_reach x3 v1 (v2 + 1) (v3 + 1) S4 (fun S8 => B_X4_spread_61 post x1 x2 x3 v1 v2 v3 S8)))))))
theorem w_B_X4_spread_125 {X : Cx} (ok : Ok X cX4_spread 13 RX4 1 25) {post : St → Prop} (hret : RetV X cX4_spread 13 post) {k78 : Int32 → Int32 → Int32 → Int32 → Int32 → Int32 → Int32 → St → Prop} (hk78 : ∀ x2 x3 x5 x6 x7 x8 x9 S, k78 x2 x3 x5 x6 x7 x8 x9 S → Wp X 13 78 [(0, .ref (xad X 50)), (2, .int x2), (3, .int x3), (5, .int x5), (6, .int x6), (7, .int x7), (8, .int x8), (9, .int x9)] [] S) {x2 x3 x5 x6 x7 x8 x9 x10 x11 x12 : Int32} {S : St} (h : B_X4_spread_125 k78 post x2 x3 x5 x6 x7 x8 x9 x10 x11 x12 S) : Wp X 13 125 [(0, .ref (xad X 50)), (2, .int x2), (3, .int x3), (5, .int x5), (6, .int x6), (7, .int x7), (8, .int x8), (9, .int x9), (10, .int x10), (11, .int x11), (12, .int x12)] [] S := by
  obtain ⟨n, h⟩ := h
  induction n generalizing x2 x3 x5 x6 x7 x8 x9 x10 x11 x12 S with
  | zero => exact False.elim h
  | succ n ih =>
    have hk125 : ∀ x2 x3 x5 x6 x7 x8 x9 x10 x11 x12 S, L_X4_spread_125 k78 post n x2 x3 x5 x6 x7 x8 x9 x10 x11 x12 S → Wp X 13 125 [(0, .ref (xad X 50)), (2, .int x2), (3, .int x3), (5, .int x5), (6, .int x6), (7, .int x7), (8, .int x8), (9, .int x9), (10, .int x10), (11, .int x11), (12, .int x12)] [] S := by intros; apply ih; assumption
    replace h : BD_X4_spread_125 k78 (L_X4_spread_125 k78 post n) post x2 x3 x5 x6 x7 x8 x9 x10 x11 x12 S := h
    unfold BD_X4_spread_125 at h
    generalize L_X4_spread_125 k78 post n = k125 at h hk125
    refine r_iload ok dX4_spread_125 10 rfl ?_
    refine r_iload ok dX4_spread_127 4 rfl ?_
    refine r_icmp_gt (tgt := 175) ok dX4_spread_129 rfl (fun hc1 => ?_) (fun hc1 => ?_)
    · replace h := h.1 hc1
      refine r_iinc (v := x9 + 1) ok dX4_spread_175 7 rfl rfl (by decide) [(0, .ref (xad X 50)), (2, .int x2), (3, .int x3), (5, .int x5), (6, .int x6), (7, .int x7), (8, .int x8), (9, .int (x9 + 1))] [1, 2, 3, 4, 5, 6, 7, 0] rfl ?_
      refine r_goto (tgt := 78) ok dX4_spread_178 rfl ?_
      exact hk78 _ _ _ _ _ _ _ _ h
    · replace h := h.2 hc1
      refine r_iload ok dX4_spread_132 10 rfl ?_
      refine r_iload ok dX4_spread_134 6 rfl ?_
      refine r_icmp_gt (tgt := 175) ok dX4_spread_136 rfl (fun hc2 => ?_) (fun hc2 => ?_)
      · replace h := h.1 hc2
        refine r_iinc (v := x9 + 1) ok dX4_spread_175 7 rfl rfl (by decide) [(0, .ref (xad X 50)), (2, .int x2), (3, .int x3), (5, .int x5), (6, .int x6), (7, .int x7), (8, .int x8), (9, .int (x9 + 1))] [1, 2, 3, 4, 5, 6, 7, 0] rfl ?_
        refine r_goto (tgt := 78) ok dX4_spread_178 rfl ?_
        exact hk78 _ _ _ _ _ _ _ _ h
      · replace h := h.2 hc2
        refine r_aload_n ok dX4_spread_139 0 rfl ?_
        refine r_iload ok dX4_spread_140 9 rfl ?_
        refine r_iload ok dX4_spread_142 8 rfl ?_
        refine r_iload ok dX4_spread_144 4 rfl ?_
        refine r_iload ok dX4_spread_146 10 rfl ?_
        refine r_isub ok dX4_spread_148 ?_
        refine r_iload ok dX4_spread_149 5 rfl ?_
        refine r_aload_n ok dX4_spread_151 0 rfl ?_
        refine gf_X4_25 ok dX4_spread_152 ?_
        refine r_iload ok dX4_spread_155 7 rfl ?_
        refine r_iload ok dX4_spread_157 6 rfl ?_
        refine r_iload ok dX4_spread_159 10 rfl ?_
        refine r_isub ok dX4_spread_161 ?_
        refine cl_X4_95 ok isW_11 dX4_spread_162 (by decide) (Nat.le_of_ble_eq_true rfl) h (fun r4 S3 h => ?_)
        refine r_iadd ok dX4_spread_165 ?_
        refine cl_X4_82 ok dX4_spread_166 (by decide) (Nat.le_of_ble_eq_true rfl) h (fun S5 h => ?_)
        refine r_iinc (v := x12 + 1) ok dX4_spread_169 10 rfl rfl (by decide) [(0, .ref (xad X 50)), (2, .int x2), (3, .int x3), (5, .int x5), (6, .int x6), (7, .int x7), (8, .int x8), (9, .int x9), (10, .int x10), (11, .int x11), (12, .int (x12 + 1))] [1, 2, 3, 4, 5, 6, 7, 8, 9, 10, 0] rfl ?_
        refine r_goto (tgt := 125) ok dX4_spread_172 rfl ?_
        exact hk125 _ _ _ _ _ _ _ _ _ _ _ h
theorem w_B_X4_spread_78 {X : Cx} (ok : Ok X cX4_spread 13 RX4 1 25) {post : St → Prop} (hret : RetV X cX4_spread 13 post) {x2 x3 x5 x6 x7 x8 x9 : Int32} {S : St} (h : B_X4_spread_78 post x2 x3 x5 x6 x7 x8 x9 S) : Wp X 13 78 [(0, .ref (xad X 50)), (2, .int x2), (3, .int x3), (5, .int x5), (6, .int x6), (7, .int x7), (8, .int x8), (9, .int x9)] [] S := by
  obtain ⟨n, h⟩ := h
  induction n generalizing x2 x3 x5 x6 x7 x8 x9 S with
  | zero => exact False.elim h
  | succ n ih =>
    have hk78 : ∀ x2 x3 x5 x6 x7 x8 x9 S, L_X4_spread_78 post n x2 x3 x5 x6 x7 x8 x9 S → Wp X 13 78 [(0, .ref (xad X 50)), (2, .int x2), (3, .int x3), (5, .int x5), (6, .int x6), (7, .int x7), (8, .int x8), (9, .int x9)] [] S := by intros; apply ih; assumption
    replace h : BD_X4_spread_78 (L_X4_spread_78 post n) post x2 x3 x5 x6 x7 x8 x9 S := h
    unfold BD_X4_spread_78 at h
    generalize L_X4_spread_78 post n = k78 at h hk78
    refine r_iload ok dX4_spread_78 7 rfl ?_
    refine r_aload_n ok dX4_spread_80 0 rfl ?_
    refine gf_X4_25 ok dX4_spread_81 ?_
    refine gf_X4_89 ok isW_11 dX4_spread_84 ?_
    refine r_icmp_ge (tgt := 181) ok dX4_spread_87 rfl (fun hc1 => ?_) (fun hc1 => ?_)
    · replace h := h.1 hc1
      exact hret _ _ _ dX4_spread_181 h
    · replace h := h.2 hc1
      refine r_aload_n ok dX4_spread_90 0 rfl ?_
      refine gf_X4_25 ok dX4_spread_91 ?_
      refine r_iload ok dX4_spread_94 7 rfl ?_
      refine r_iload ok dX4_spread_96 3 rfl ?_
      refine cl_X4_92 ok isW_11 dX4_spread_98 (by decide) (Nat.le_of_ble_eq_true rfl) h (fun r3 S2 h => ?_)
      refine r_istore ok dX4_spread_101 (by decide) [(0, .ref (xad X 50)), (2, .int x2), (3, .int x3), (5, .int x5), (6, .int x6), (7, .int x7), (8, .int x8), (9, .int x9), (10, .int r3)] [1, 2, 3, 4, 5, 6, 7, 8, 0] rfl ?_
      refine r_iload ok dX4_spread_103 8 rfl ?_
      refine r_iconst (v := (-1)) ok dX4_spread_105 rfl ?_
      refine r_icmp_ne (tgt := 112) ok dX4_spread_106 rfl (fun hc4 => ?_) (fun hc4 => ?_)
      · replace h := h.1 hc4
        refine r_iload_n ok dX4_spread_112 2 rfl ?_
        refine r_iload_n ok dX4_spread_113 1 rfl ?_
        refine r_iconst (v := 1) ok dX4_spread_114 rfl ?_
        refine r_iload ok dX4_spread_115 8 rfl ?_
        refine r_ishl ok dX4_spread_117 ?_
        refine r_iand ok dX4_spread_118 ?_
        refine r_ior ok dX4_spread_119 ?_
        refine r_top (fun v5 ev5 => ?_)
        replace h := h v5 ev5
        refine r_istore ok dX4_spread_120 (by decide) [(0, .ref (xad X 50)), (2, .int x2), (3, .int x3), (5, .int x5), (6, .int x6), (7, .int x7), (8, .int x8), (9, .int x9), (10, .int r3), (11, .int v5)] [1, 2, 3, 4, 5, 6, 7, 8, 9, 0] rfl ?_
        refine r_iconst (v := 0) ok dX4_spread_122 rfl ?_
        refine r_istore ok dX4_spread_123 (by decide) [(0, .ref (xad X 50)), (2, .int x2), (3, .int x3), (5, .int x5), (6, .int x6), (7, .int x7), (8, .int x8), (9, .int x9), (10, .int r3), (11, .int v5), (12, .int 0)] [1, 2, 3, 4, 5, 6, 7, 8, 9, 10, 0] rfl ?_
        exact w_B_X4_spread_125 ok hret hk78 h
      · replace h := h.2 hc4
        refine r_goto (tgt := 175) ok dX4_spread_109 rfl ?_
        refine r_iinc (v := x9 + 1) ok dX4_spread_175 7 rfl rfl (by decide) [(0, .ref (xad X 50)), (2, .int x2), (3, .int x3), (5, .int x5), (6, .int x6), (7, .int x7), (8, .int x8), (9, .int (x9 + 1))] [1, 2, 3, 4, 5, 6, 7, 0] rfl ?_
        refine r_goto (tgt := 78) ok dX4_spread_178 rfl ?_
        exact hk78 _ _ _ _ _ _ _ _ h
theorem w_B_X4_spread_61 {X : Cx} (ok : Ok X cX4_spread 13 RX4 1 25) {post : St → Prop} (hret : RetV X cX4_spread 13 post) {x1 x2 x3 x5 x6 x7 : Int32} {S : St} (h : B_X4_spread_61 post x1 x2 x3 x5 x6 x7 S) : Wp X 13 61 [(0, .ref (xad X 50)), (1, .int x1), (2, .int x2), (3, .int x3), (5, .int x5), (6, .int x6), (7, .int x7)] [] S := by
  unfold B_X4_spread_61 at h
  refine r_aload_n ok dX4_spread_61 0 rfl ?_
  refine gf_X4_25 ok dX4_spread_62 ?_
  refine r_iload_n ok dX4_spread_65 1 rfl ?_
  refine r_iload ok dX4_spread_66 4 rfl ?_
  refine r_iload ok dX4_spread_68 6 rfl ?_
  refine cl_X4_85 ok isW_11 dX4_spread_70 (by decide) (Nat.le_of_ble_eq_true rfl) h (fun r2 S1 h => ?_)
  refine r_istore ok dX4_spread_73 (by decide) [(0, .ref (xad X 50)), (2, .int x2), (3, .int x3), (5, .int x5), (6, .int x6), (7, .int x7), (8, .int r2)] [1, 3, 4, 5, 6, 7, 0] rfl ?_
  refine r_iconst (v := 0) ok dX4_spread_75 rfl ?_
  refine r_istore ok dX4_spread_76 (by decide) [(0, .ref (xad X 50)), (2, .int x2), (3, .int x3), (5, .int x5), (6, .int x6), (7, .int x7), (8, .int r2), (9, .int 0)] [1, 2, 3, 4, 5, 6, 7, 0] rfl ?_
  exact w_B_X4_spread_78 ok hret h
theorem w_wp_X4_spread {X : Cx} (ok : Ok X cX4_spread 13 RX4 1 25) {post : St → Prop} (hret : RetV X cX4_spread 13 post) {x1 x2 x3 x4 : Int32} {S : St} (h : wp_X4_spread x1 x2 x3 x4 S post) : Wp X 13 0 [(0, .ref (xad X 50)), (1, .int x1), (2, .int x2), (3, .int x3), (4, .int x4)] [] S := by
  unfold wp_X4_spread at h
  refine r_iload ok dX4_spread_0 4 rfl ?_
  refine r_bipush (v := 6) ok dX4_spread_2 rfl ?_
  refine r_idiv ok dX4_spread_4 (by decide) ?_
  refine r_top (fun v1 ev1 => ?_)
  replace h := h v1 ev1
  refine r_istore ok dX4_spread_5 (by decide) [(0, .ref (xad X 50)), (1, .int x1), (2, .int x2), (3, .int x3), (4, .int x4), (5, .int v1)] [1, 2, 3, 4, 5, 0] rfl ?_
  refine r_iload ok dX4_spread_7 4 rfl ?_
  refine r_bipush (v := 6) ok dX4_spread_9 rfl ?_
  refine r_irem ok dX4_spread_11 (by decide) ?_
  refine r_top (fun v2 ev2 => ?_)
  replace h := h v2 ev2
  refine r_istore ok dX4_spread_12 (by decide) [(0, .ref (xad X 50)), (1, .int x1), (2, .int x2), (3, .int x3), (4, .int x4), (5, .int v1), (6, .int v2)] [1, 2, 3, 4, 5, 6, 0] rfl ?_
  refine r_aload_n ok dX4_spread_14 0 rfl ?_
  refine gf_X4_9 ok dX4_spread_15 ?_
  refine r_iload_n ok dX4_spread_18 3 rfl ?_
  refine r_bipush (v := 36) ok dX4_spread_19 rfl ?_
  refine r_imul ok dX4_spread_21 ?_
  refine r_iload ok dX4_spread_22 4 rfl ?_
  refine r_iadd ok dX4_spread_24 ?_
  refine r_iald ok ai_51 h.1 rfl dX4_spread_25 ?_
  replace h := h.2
  refine r_top (fun v3 ev3 => ?_)
  replace h := h v3 ev3
  refine r_istore ok dX4_spread_26 (by decide) [(0, .ref (xad X 50)), (1, .int x1), (2, .int x2), (3, .int x3), (5, .int v1), (6, .int v2), (7, .int v3)] [1, 2, 3, 4, 6, 7, 0] rfl ?_
  refine r_aload_n ok dX4_spread_28 0 rfl ?_
  refine gf_X4_25 ok dX4_spread_29 ?_
  refine r_iload ok dX4_spread_32 4 rfl ?_
  refine cl_X4_78 ok isW_11 dX4_spread_34 (by decide) (Nat.le_of_ble_eq_true rfl) h (fun r5 S4 h => ?_)
  refine r_if_eq (tgt := 61) ok dX4_spread_37 rfl (fun hc6 => ?_) (fun hc6 => ?_)
  · replace h := h.1 hc6
    exact w_B_X4_spread_61 ok hret h
  · replace h := h.2 hc6
    refine r_iload ok dX4_spread_40 5 rfl ?_
    refine r_iconst (v := 5) ok dX4_spread_42 rfl ?_
    refine r_icmp_ge (tgt := 61) ok dX4_spread_43 rfl (fun hc7 => ?_) (fun hc7 => ?_)
    · replace h := h.1 hc7
      exact w_B_X4_spread_61 ok hret h
    · replace h := h.2 hc7
      refine r_aload_n ok dX4_spread_46 0 rfl ?_
      refine r_iload_n ok dX4_spread_47 3 rfl ?_
      refine r_iload ok dX4_spread_48 4 rfl ?_
      refine r_iload ok dX4_spread_50 5 rfl ?_
      refine r_iconst (v := 1) ok dX4_spread_52 rfl ?_
      refine r_iadd ok dX4_spread_53 ?_
      refine r_iload ok dX4_spread_54 6 rfl ?_
      refine r_iconst (v := 1) ok dX4_spread_56 rfl ?_
      refine r_iadd ok dX4_spread_57 ?_
      refine cl_X4_82 ok dX4_spread_58 (by decide) (Nat.le_of_ble_eq_true rfl) h (fun S8 h => ?_)
      exact w_B_X4_spread_61 ok hret h
theorem c_X4_spread (l : Launch) (G : Gx) {x1 x2 x3 x4 : Int32} {S : St} {post : St → Prop} (h : wp_X4_spread x1 x2 x3 x4 S post) : MtV l yX4_spread cX4_spread 13 1 25 G [.ref (G.2.2 50), .int x1, .int x2, .int x3, .int x4] S post :=
  ctV (by decide) rfl (Nat.le_of_ble_eq_true rfl) (fun X _ hG ok hret => by subst hG; exact w_wp_X4_spread ok hret h)

/-! HasteRoads$Search.settleLayer(IIII)V -/
theorem dX4_settleLayer_0 : decode cX4_settleLayer 0 = .ok (.iconst 0, 1) := by decide +kernel
theorem dX4_settleLayer_1 : decode cX4_settleLayer 1 = .ok (.istore 5, 2) := by decide +kernel
theorem dX4_settleLayer_3 : decode cX4_settleLayer 3 = .ok (.iload 5, 2) := by decide +kernel
theorem dX4_settleLayer_5 : decode cX4_settleLayer 5 = .ok (.bipush 36, 2) := by decide +kernel
theorem dX4_settleLayer_7 : decode cX4_settleLayer 7 = .ok (.if_icmp .ge 17, 3) := by decide +kernel
theorem dX4_settleLayer_10 : decode cX4_settleLayer 10 = .ok (.aload_n 0, 1) := by decide +kernel
theorem dX4_settleLayer_11 : decode cX4_settleLayer 11 = .ok (.getfield 18, 3) := by decide +kernel
theorem dX4_settleLayer_14 : decode cX4_settleLayer 14 = .ok (.iload 5, 2) := by decide +kernel
theorem dX4_settleLayer_16 : decode cX4_settleLayer 16 = .ok (.iconst 0, 1) := by decide +kernel
theorem dX4_settleLayer_17 : decode cX4_settleLayer 17 = .ok (.bastore, 1) := by decide +kernel
theorem dX4_settleLayer_18 : decode cX4_settleLayer 18 = .ok (.iinc 5 1, 3) := by decide +kernel
theorem dX4_settleLayer_21 : decode cX4_settleLayer 21 = .ok (.goto (-18), 3) := by decide +kernel
theorem dX4_settleLayer_24 : decode cX4_settleLayer 24 = .ok (.iconst 0, 1) := by decide +kernel
theorem dX4_settleLayer_25 : decode cX4_settleLayer 25 = .ok (.istore 5, 2) := by decide +kernel
theorem dX4_settleLayer_27 : decode cX4_settleLayer 27 = .ok (.iload 5, 2) := by decide +kernel
theorem dX4_settleLayer_29 : decode cX4_settleLayer 29 = .ok (.bipush 6, 2) := by decide +kernel
theorem dX4_settleLayer_31 : decode cX4_settleLayer 31 = .ok (.if_icmp .ge 17, 3) := by decide +kernel
theorem dX4_settleLayer_34 : decode cX4_settleLayer 34 = .ok (.aload_n 0, 1) := by decide +kernel
theorem dX4_settleLayer_35 : decode cX4_settleLayer 35 = .ok (.getfield 22, 3) := by decide +kernel
theorem dX4_settleLayer_38 : decode cX4_settleLayer 38 = .ok (.iload 5, 2) := by decide +kernel
theorem dX4_settleLayer_40 : decode cX4_settleLayer 40 = .ok (.iconst (-1), 1) := by decide +kernel
theorem dX4_settleLayer_41 : decode cX4_settleLayer 41 = .ok (.iastore, 1) := by decide +kernel
theorem dX4_settleLayer_42 : decode cX4_settleLayer 42 = .ok (.iinc 5 1, 3) := by decide +kernel
theorem dX4_settleLayer_45 : decode cX4_settleLayer 45 = .ok (.goto (-18), 3) := by decide +kernel
theorem dX4_settleLayer_48 : decode cX4_settleLayer 48 = .ok (.iconst 0, 1) := by decide +kernel
theorem dX4_settleLayer_49 : decode cX4_settleLayer 49 = .ok (.istore 5, 2) := by decide +kernel
theorem dX4_settleLayer_51 : decode cX4_settleLayer 51 = .ok (.iload 5, 2) := by decide +kernel
theorem dX4_settleLayer_53 : decode cX4_settleLayer 53 = .ok (.bipush 36, 2) := by decide +kernel
theorem dX4_settleLayer_55 : decode cX4_settleLayer 55 = .ok (.if_icmp .ge 89, 3) := by decide +kernel
theorem dX4_settleLayer_58 : decode cX4_settleLayer 58 = .ok (.aload_n 0, 1) := by decide +kernel
theorem dX4_settleLayer_59 : decode cX4_settleLayer 59 = .ok (.iload_n 3, 1) := by decide +kernel
theorem dX4_settleLayer_60 : decode cX4_settleLayer 60 = .ok (.bipush 36, 2) := by decide +kernel
theorem dX4_settleLayer_62 : decode cX4_settleLayer 62 = .ok (.imul, 1) := by decide +kernel
theorem dX4_settleLayer_63 : decode cX4_settleLayer 63 = .ok (.invokevirtual 69, 3) := by decide +kernel
theorem dX4_settleLayer_66 : decode cX4_settleLayer 66 = .ok (.istore 6, 2) := by decide +kernel
theorem dX4_settleLayer_68 : decode cX4_settleLayer 68 = .ok (.iload 6, 2) := by decide +kernel
theorem dX4_settleLayer_70 : decode cX4_settleLayer 70 = .ok (.iconst (-1), 1) := by decide +kernel
theorem dX4_settleLayer_71 : decode cX4_settleLayer 71 = .ok (.if_icmp .ne 4, 3) := by decide +kernel
theorem dX4_settleLayer_74 : decode cX4_settleLayer 74 = .ok (.return_, 1) := by decide +kernel
theorem dX4_settleLayer_75 : decode cX4_settleLayer 75 = .ok (.aload_n 0, 1) := by decide +kernel
theorem dX4_settleLayer_76 : decode cX4_settleLayer 76 = .ok (.getfield 18, 3) := by decide +kernel
theorem dX4_settleLayer_79 : decode cX4_settleLayer 79 = .ok (.iload 6, 2) := by decide +kernel
theorem dX4_settleLayer_81 : decode cX4_settleLayer 81 = .ok (.iconst 1, 1) := by decide +kernel
theorem dX4_settleLayer_82 : decode cX4_settleLayer 82 = .ok (.bastore, 1) := by decide +kernel
theorem dX4_settleLayer_83 : decode cX4_settleLayer 83 = .ok (.iload 6, 2) := by decide +kernel
theorem dX4_settleLayer_85 : decode cX4_settleLayer 85 = .ok (.bipush 6, 2) := by decide +kernel
theorem dX4_settleLayer_87 : decode cX4_settleLayer 87 = .ok (.idiv, 1) := by decide +kernel
theorem dX4_settleLayer_88 : decode cX4_settleLayer 88 = .ok (.istore 7, 2) := by decide +kernel
theorem dX4_settleLayer_90 : decode cX4_settleLayer 90 = .ok (.iload 6, 2) := by decide +kernel
theorem dX4_settleLayer_92 : decode cX4_settleLayer 92 = .ok (.bipush 6, 2) := by decide +kernel
theorem dX4_settleLayer_94 : decode cX4_settleLayer 94 = .ok (.irem, 1) := by decide +kernel
theorem dX4_settleLayer_95 : decode cX4_settleLayer 95 = .ok (.istore 8, 2) := by decide +kernel
theorem dX4_settleLayer_97 : decode cX4_settleLayer 97 = .ok (.iload 7, 2) := by decide +kernel
theorem dX4_settleLayer_99 : decode cX4_settleLayer 99 = .ok (.iload 4, 2) := by decide +kernel
theorem dX4_settleLayer_101 : decode cX4_settleLayer 101 = .ok (.if_icmp .ne 4, 3) := by decide +kernel
theorem dX4_settleLayer_104 : decode cX4_settleLayer 104 = .ok (.return_, 1) := by decide +kernel
theorem dX4_settleLayer_105 : decode cX4_settleLayer 105 = .ok (.iload 8, 2) := by decide +kernel
theorem dX4_settleLayer_107 : decode cX4_settleLayer 107 = .ok (.aload_n 0, 1) := by decide +kernel
theorem dX4_settleLayer_108 : decode cX4_settleLayer 108 = .ok (.getfield 22, 3) := by decide +kernel
theorem dX4_settleLayer_111 : decode cX4_settleLayer 111 = .ok (.iload 7, 2) := by decide +kernel
theorem dX4_settleLayer_113 : decode cX4_settleLayer 113 = .ok (.iaload, 1) := by decide +kernel
theorem dX4_settleLayer_114 : decode cX4_settleLayer 114 = .ok (.if_icmp .gt 6, 3) := by decide +kernel
theorem dX4_settleLayer_117 : decode cX4_settleLayer 117 = .ok (.goto 21, 3) := by decide +kernel
theorem dX4_settleLayer_120 : decode cX4_settleLayer 120 = .ok (.aload_n 0, 1) := by decide +kernel
theorem dX4_settleLayer_121 : decode cX4_settleLayer 121 = .ok (.getfield 22, 3) := by decide +kernel
theorem dX4_settleLayer_124 : decode cX4_settleLayer 124 = .ok (.iload 7, 2) := by decide +kernel
theorem dX4_settleLayer_126 : decode cX4_settleLayer 126 = .ok (.iload 8, 2) := by decide +kernel
theorem dX4_settleLayer_128 : decode cX4_settleLayer 128 = .ok (.iastore, 1) := by decide +kernel
theorem dX4_settleLayer_129 : decode cX4_settleLayer 129 = .ok (.aload_n 0, 1) := by decide +kernel
theorem dX4_settleLayer_130 : decode cX4_settleLayer 130 = .ok (.iload_n 1, 1) := by decide +kernel
theorem dX4_settleLayer_131 : decode cX4_settleLayer 131 = .ok (.iload_n 2, 1) := by decide +kernel
theorem dX4_settleLayer_132 : decode cX4_settleLayer 132 = .ok (.iload_n 3, 1) := by decide +kernel
theorem dX4_settleLayer_133 : decode cX4_settleLayer 133 = .ok (.iload 6, 2) := by decide +kernel
theorem dX4_settleLayer_135 : decode cX4_settleLayer 135 = .ok (.invokevirtual 72, 3) := by decide +kernel
theorem dX4_settleLayer_138 : decode cX4_settleLayer 138 = .ok (.iinc 5 1, 3) := by decide +kernel
theorem dX4_settleLayer_141 : decode cX4_settleLayer 141 = .ok (.goto (-90), 3) := by decide +kernel
theorem dX4_settleLayer_144 : decode cX4_settleLayer 144 = .ok (.return_, 1) := by decide +kernel
theorem gf_X4_22 {X : Cx} {cc : ByteArray} {nL pc fr lo : Nat} {L : List (Nat × Value)} {st : List Value} {S : St} (ok : Ok X cc nL RX4 fr lo) (d : decode cc pc = .ok (.getfield 22, 3)) (k : Wp X nL (pc + 3) L (.ref (xad X 54) :: st) S) : Wp X nL pc L (.ref (xad X 50) :: st) S :=
  r_get (C := RX4) (T := TX4) ok ob_50 rfl i_X4 4 (by decide) tw_fl_X4_22 d (by rw [show fvl (xad X) S 50 4 = .ref (xad X 54) from (fvl_ref (d := 54) (by decide))]; exact k)
theorem cl_X4_69 {X : Cx} {cc : ByteArray} {nL pc fr lo : Nat} {L : List (Nat × Value)} {st : List Value} {S : St} (ok : Ok X cc nL RX4 fr lo) {x1 : Int32} (d : decode cc pc = .ok (.invokevirtual 69, 3)) (hroom : 1 ≤ fr ∧ 25 ≤ lo) (hst : (st.map fun v => v.category).sum ≤ 8) {post : Int32 → St → Prop} (h : wp_X4_nearest x1 S post) (kk : ∀ (r : Int32) (S1 : St), post r S1 → Wp X nL (pc + 3) L (.int r :: st) S1) : Wp X nL pc L (.int x1 :: .ref (xad X 50) :: st) S :=
  r_callVi (n := 6) (f := 0) (lo1 := 0) (N := 1) (As := [.int x1]) ok tw_in_X4 tw_im_X4_nearest tw_se_X4_nearest tw_co_X4_nearest tw_ml_X4_69 (by decide +kernel) rfl ob_50 rfl hroom hst d rfl (c_X4_nearest (xl X) (xG X) h) kk
theorem cl_X4_72 {X : Cx} {cc : ByteArray} {nL pc fr lo : Nat} {L : List (Nat × Value)} {st : List Value} {S : St} (ok : Ok X cc nL RX4 fr lo) {x1 x2 x3 x4 : Int32} (d : decode cc pc = .ok (.invokevirtual 72, 3)) (hroom : 2 ≤ fr ∧ 57 ≤ lo) (hst : (st.map fun v => v.category).sum ≤ 8) {post : St → Prop} (h : wp_X4_spread x1 x2 x3 x4 S post) (kk : ∀ S1 : St, post S1 → Wp X nL (pc + 3) L st S1) : Wp X nL pc L (.int x4 :: .int x3 :: .int x2 :: .int x1 :: .ref (xad X 50) :: st) S :=
  r_callVv (n := 13) (f := 1) (lo1 := 25) (N := 4) (As := [.int x1, .int x2, .int x3, .int x4]) ok tw_in_X4 tw_im_X4_spread tw_se_X4_spread tw_co_X4_spread tw_ml_X4_72 (by decide +kernel) rfl ob_50 rfl hroom hst d rfl (c_X4_spread (xl X) (xG X) h) kk
def BD_X4_settleLayer_51 (k51 : Int32 → Int32 → Int32 → Int32 → Int32 → St → Prop) (post : St → Prop) (x1 : Int32) (x2 : Int32) (x3 : Int32) (x4 : Int32) (x5 : Int32) (S : St) : Prop :=
  ((36 ≤ x5 → post S) ∧ (¬ 36 ≤ x5 → wp_X4_nearest (x3 * 36) S (fun r3 S2 => ((¬ r3 = (-1) → vp_in r3 36 ∧ (∀ S5 : St, S5 = up S2 53 (ix r3) 1 → ∀ v7 : Int32, v7 = (r3 / 6) → ∀ v8 : Int32, v8 = (r3 - r3 / 6 * 6) → ((¬ v7 = x4 → vp_in v7 6 ∧ ((((S5 54 (ix v7)) < v8 → vp_in v7 6 ∧ (∀ S11 : St, S11 = up S5 54 (ix v7) v8 → wp_X4_spread x1 x2 x3 r3 S11 (fun S13 => k51 x1 x2 x3 x4 (x5 + 1) S13))) ∧ (¬ (S5 54 (ix v7)) < v8 → k51 x1 x2 x3 x4 (x5 + 1) S5)))) ∧ (v7 = x4 → post S5)))) ∧ (r3 = (-1) → post S2)))))
def L_X4_settleLayer_51 (post : St → Prop) (n : Nat) : Int32 → Int32 → Int32 → Int32 → Int32 → St → Prop := Nat.rec (motive := fun _ => Int32 → Int32 → Int32 → Int32 → Int32 → St → Prop) (fun _ _ _ _ _ _ => False) (fun _ ih => BD_X4_settleLayer_51 ih post) n
def B_X4_settleLayer_51 (post : St → Prop) (x1 : Int32) (x2 : Int32) (x3 : Int32) (x4 : Int32) (x5 : Int32) (S : St) : Prop := ∃ n, L_X4_settleLayer_51 post n x1 x2 x3 x4 x5 S
def BD_X4_settleLayer_27 (k27 : Int32 → Int32 → Int32 → Int32 → Int32 → St → Prop) (post : St → Prop) (x1 : Int32) (x2 : Int32) (x3 : Int32) (x4 : Int32) (x5 : Int32) (S : St) : Prop :=
  ((6 ≤ x5 → B_X4_settleLayer_51 post x1 x2 x3 x4 0 S) ∧ (¬ 6 ≤ x5 → vp_in x5 6 ∧ (∀ S2 : St, S2 = up S 54 (ix x5) (-1) → k27 x1 x2 x3 x4 (x5 + 1) S2)))
def L_X4_settleLayer_27 (post : St → Prop) (n : Nat) : Int32 → Int32 → Int32 → Int32 → Int32 → St → Prop := Nat.rec (motive := fun _ => Int32 → Int32 → Int32 → Int32 → Int32 → St → Prop) (fun _ _ _ _ _ _ => False) (fun _ ih => BD_X4_settleLayer_27 ih post) n
def B_X4_settleLayer_27 (post : St → Prop) (x1 : Int32) (x2 : Int32) (x3 : Int32) (x4 : Int32) (x5 : Int32) (S : St) : Prop := ∃ n, L_X4_settleLayer_27 post n x1 x2 x3 x4 x5 S
def BD_X4_settleLayer_3 (k3 : Int32 → Int32 → Int32 → Int32 → Int32 → St → Prop) (post : St → Prop) (x1 : Int32) (x2 : Int32) (x3 : Int32) (x4 : Int32) (x5 : Int32) (S : St) : Prop :=
  ((36 ≤ x5 → B_X4_settleLayer_27 post x1 x2 x3 x4 0 S) ∧ (¬ 36 ≤ x5 → vp_in x5 36 ∧ (∀ S2 : St, S2 = up S 53 (ix x5) 0 → k3 x1 x2 x3 x4 (x5 + 1) S2)))
def L_X4_settleLayer_3 (post : St → Prop) (n : Nat) : Int32 → Int32 → Int32 → Int32 → Int32 → St → Prop := Nat.rec (motive := fun _ => Int32 → Int32 → Int32 → Int32 → Int32 → St → Prop) (fun _ _ _ _ _ _ => False) (fun _ ih => BD_X4_settleLayer_3 ih post) n
def B_X4_settleLayer_3 (post : St → Prop) (x1 : Int32) (x2 : Int32) (x3 : Int32) (x4 : Int32) (x5 : Int32) (S : St) : Prop := ∃ n, L_X4_settleLayer_3 post n x1 x2 x3 x4 x5 S
def wp_X4_settleLayer (x1 : Int32) (x2 : Int32) (x3 : Int32) (x4 : Int32) (S : St) (post : St → Prop) : Prop :=
  B_X4_settleLayer_3 post x1 x2 x3 x4 0 S
theorem w_B_X4_settleLayer_51 {X : Cx} (ok : Ok X cX4_settleLayer 9 RX4 2 57) {post : St → Prop} (hret : RetV X cX4_settleLayer 9 post) {x1 x2 x3 x4 x5 : Int32} {S : St} (h : B_X4_settleLayer_51 post x1 x2 x3 x4 x5 S) : Wp X 9 51 [(0, .ref (xad X 50)), (1, .int x1), (2, .int x2), (3, .int x3), (4, .int x4), (5, .int x5)] [] S := by
  obtain ⟨n, h⟩ := h
  induction n generalizing x1 x2 x3 x4 x5 S with
  | zero => exact False.elim h
  | succ n ih =>
    have hk51 : ∀ x1 x2 x3 x4 x5 S, L_X4_settleLayer_51 post n x1 x2 x3 x4 x5 S → Wp X 9 51 [(0, .ref (xad X 50)), (1, .int x1), (2, .int x2), (3, .int x3), (4, .int x4), (5, .int x5)] [] S := by intros; apply ih; assumption
    replace h : BD_X4_settleLayer_51 (L_X4_settleLayer_51 post n) post x1 x2 x3 x4 x5 S := h
    unfold BD_X4_settleLayer_51 at h
    generalize L_X4_settleLayer_51 post n = k51 at h hk51
    refine r_iload ok dX4_settleLayer_51 5 rfl ?_
    refine r_bipush (v := 36) ok dX4_settleLayer_53 rfl ?_
    refine r_icmp_ge (tgt := 144) ok dX4_settleLayer_55 rfl (fun hc1 => ?_) (fun hc1 => ?_)
    · replace h := h.1 hc1
      exact hret _ _ _ dX4_settleLayer_144 h
    · replace h := h.2 hc1
      refine r_aload_n ok dX4_settleLayer_58 0 rfl ?_
      refine r_iload_n ok dX4_settleLayer_59 3 rfl ?_
      refine r_bipush (v := 36) ok dX4_settleLayer_60 rfl ?_
      refine r_imul ok dX4_settleLayer_62 ?_
      refine cl_X4_69 ok dX4_settleLayer_63 (by decide) (Nat.le_of_ble_eq_true rfl) h (fun r3 S2 h => ?_)
      refine r_istore ok dX4_settleLayer_66 (by decide) [(0, .ref (xad X 50)), (1, .int x1), (2, .int x2), (3, .int x3), (4, .int x4), (5, .int x5), (6, .int r3)] [1, 2, 3, 4, 5, 6, 0] rfl ?_
      refine r_iload ok dX4_settleLayer_68 6 rfl ?_
      refine r_iconst (v := (-1)) ok dX4_settleLayer_70 rfl ?_
      refine r_icmp_ne (tgt := 75) ok dX4_settleLayer_71 rfl (fun hc4 => ?_) (fun hc4 => ?_)
      · replace h := h.1 hc4
        refine r_aload_n ok dX4_settleLayer_75 0 rfl ?_
        refine gf_X4_18 ok dX4_settleLayer_76 ?_
        refine r_iload ok dX4_settleLayer_79 6 rfl ?_
        refine r_iconst (v := 1) ok dX4_settleLayer_81 rfl ?_
        have hi6 := h.1
        replace h := h.2
        refine r_zast ok az_53 hi6 rfl (Or.inr rfl) dX4_settleLayer_82 (fun S5 eS5 => ?_)
        replace h := h S5 eS5
        refine r_iload ok dX4_settleLayer_83 6 rfl ?_
        refine r_bipush (v := 6) ok dX4_settleLayer_85 rfl ?_
        refine r_idiv ok dX4_settleLayer_87 (by decide) ?_
        refine r_top (fun v7 ev7 => ?_)
        replace h := h v7 ev7
        refine r_istore ok dX4_settleLayer_88 (by decide) [(0, .ref (xad X 50)), (1, .int x1), (2, .int x2), (3, .int x3), (4, .int x4), (5, .int x5), (6, .int r3), (7, .int v7)] [1, 2, 3, 4, 5, 6, 7, 0] rfl ?_
        refine r_iload ok dX4_settleLayer_90 6 rfl ?_
        refine r_bipush (v := 6) ok dX4_settleLayer_92 rfl ?_
        refine r_irem ok dX4_settleLayer_94 (by decide) ?_
        refine r_top (fun v8 ev8 => ?_)
        replace h := h v8 ev8
        refine r_istore ok dX4_settleLayer_95 (by decide) [(0, .ref (xad X 50)), (1, .int x1), (2, .int x2), (3, .int x3), (4, .int x4), (5, .int x5), (6, .int r3), (7, .int v7), (8, .int v8)] [1, 2, 3, 4, 5, 6, 7, 8, 0] rfl ?_
        refine r_iload ok dX4_settleLayer_97 7 rfl ?_
        refine r_iload ok dX4_settleLayer_99 4 rfl ?_
        refine r_icmp_ne (tgt := 105) ok dX4_settleLayer_101 rfl (fun hc9 => ?_) (fun hc9 => ?_)
        · replace h := h.1 hc9
          refine r_iload ok dX4_settleLayer_105 8 rfl ?_
          refine r_aload_n ok dX4_settleLayer_107 0 rfl ?_
          refine gf_X4_22 ok dX4_settleLayer_108 ?_
          refine r_iload ok dX4_settleLayer_111 7 rfl ?_
          refine r_iald ok ai_54 h.1 rfl dX4_settleLayer_113 ?_
          replace h := h.2
          refine r_icmp_gt (tgt := 120) ok dX4_settleLayer_114 rfl (fun hc10 => ?_) (fun hc10 => ?_)
          · replace h := h.1 hc10
            refine r_aload_n ok dX4_settleLayer_120 0 rfl ?_
            refine gf_X4_22 ok dX4_settleLayer_121 ?_
            refine r_iload ok dX4_settleLayer_124 7 rfl ?_
            refine r_iload ok dX4_settleLayer_126 8 rfl ?_
            have hi12 := h.1
            replace h := h.2
            refine r_iast ok ai_54 hi12 rfl dX4_settleLayer_128 (fun S11 eS11 => ?_)
            replace h := h S11 eS11
            refine r_aload_n ok dX4_settleLayer_129 0 rfl ?_
            refine r_iload_n ok dX4_settleLayer_130 1 rfl ?_
            refine r_iload_n ok dX4_settleLayer_131 2 rfl ?_
            refine r_iload_n ok dX4_settleLayer_132 3 rfl ?_
            refine r_iload ok dX4_settleLayer_133 6 rfl ?_
            refine cl_X4_72 ok dX4_settleLayer_135 (by decide) (Nat.le_of_ble_eq_true rfl) h (fun S13 h => ?_)
            refine r_iinc (v := x5 + 1) ok dX4_settleLayer_138 5 rfl rfl (by decide) [(0, .ref (xad X 50)), (1, .int x1), (2, .int x2), (3, .int x3), (4, .int x4), (5, .int (x5 + 1))] [1, 2, 3, 4, 5, 0] rfl ?_
            refine r_goto (tgt := 51) ok dX4_settleLayer_141 rfl ?_
            exact hk51 _ _ _ _ _ _ h
          · replace h := h.2 hc10
            refine r_goto (tgt := 138) ok dX4_settleLayer_117 rfl ?_
            refine r_iinc (v := x5 + 1) ok dX4_settleLayer_138 5 rfl rfl (by decide) [(0, .ref (xad X 50)), (1, .int x1), (2, .int x2), (3, .int x3), (4, .int x4), (5, .int (x5 + 1))] [1, 2, 3, 4, 5, 0] rfl ?_
            refine r_goto (tgt := 51) ok dX4_settleLayer_141 rfl ?_
            exact hk51 _ _ _ _ _ _ h
        · replace h := h.2 hc9
          exact hret _ _ _ dX4_settleLayer_104 h
      · replace h := h.2 hc4
        exact hret _ _ _ dX4_settleLayer_74 h
theorem w_B_X4_settleLayer_27 {X : Cx} (ok : Ok X cX4_settleLayer 9 RX4 2 57) {post : St → Prop} (hret : RetV X cX4_settleLayer 9 post) {x1 x2 x3 x4 x5 : Int32} {S : St} (h : B_X4_settleLayer_27 post x1 x2 x3 x4 x5 S) : Wp X 9 27 [(0, .ref (xad X 50)), (1, .int x1), (2, .int x2), (3, .int x3), (4, .int x4), (5, .int x5)] [] S := by
  obtain ⟨n, h⟩ := h
  induction n generalizing x1 x2 x3 x4 x5 S with
  | zero => exact False.elim h
  | succ n ih =>
    have hk27 : ∀ x1 x2 x3 x4 x5 S, L_X4_settleLayer_27 post n x1 x2 x3 x4 x5 S → Wp X 9 27 [(0, .ref (xad X 50)), (1, .int x1), (2, .int x2), (3, .int x3), (4, .int x4), (5, .int x5)] [] S := by intros; apply ih; assumption
    replace h : BD_X4_settleLayer_27 (L_X4_settleLayer_27 post n) post x1 x2 x3 x4 x5 S := h
    unfold BD_X4_settleLayer_27 at h
    generalize L_X4_settleLayer_27 post n = k27 at h hk27
    refine r_iload ok dX4_settleLayer_27 5 rfl ?_
    refine r_bipush (v := 6) ok dX4_settleLayer_29 rfl ?_
    refine r_icmp_ge (tgt := 48) ok dX4_settleLayer_31 rfl (fun hc1 => ?_) (fun hc1 => ?_)
    · replace h := h.1 hc1
      refine r_iconst (v := 0) ok dX4_settleLayer_48 rfl ?_
      refine r_istore ok dX4_settleLayer_49 (by decide) [(0, .ref (xad X 50)), (1, .int x1), (2, .int x2), (3, .int x3), (4, .int x4), (5, .int 0)] [1, 2, 3, 4, 5, 0] rfl ?_
      exact w_B_X4_settleLayer_51 ok hret h
    · replace h := h.2 hc1
      refine r_aload_n ok dX4_settleLayer_34 0 rfl ?_
      refine gf_X4_22 ok dX4_settleLayer_35 ?_
      refine r_iload ok dX4_settleLayer_38 5 rfl ?_
      refine r_iconst (v := (-1)) ok dX4_settleLayer_40 rfl ?_
      have hi3 := h.1
      replace h := h.2
      refine r_iast ok ai_54 hi3 rfl dX4_settleLayer_41 (fun S2 eS2 => ?_)
      replace h := h S2 eS2
      refine r_iinc (v := x5 + 1) ok dX4_settleLayer_42 5 rfl rfl (by decide) [(0, .ref (xad X 50)), (1, .int x1), (2, .int x2), (3, .int x3), (4, .int x4), (5, .int (x5 + 1))] [1, 2, 3, 4, 5, 0] rfl ?_
      refine r_goto (tgt := 27) ok dX4_settleLayer_45 rfl ?_
      exact hk27 _ _ _ _ _ _ h
theorem w_B_X4_settleLayer_3 {X : Cx} (ok : Ok X cX4_settleLayer 9 RX4 2 57) {post : St → Prop} (hret : RetV X cX4_settleLayer 9 post) {x1 x2 x3 x4 x5 : Int32} {S : St} (h : B_X4_settleLayer_3 post x1 x2 x3 x4 x5 S) : Wp X 9 3 [(0, .ref (xad X 50)), (1, .int x1), (2, .int x2), (3, .int x3), (4, .int x4), (5, .int x5)] [] S := by
  obtain ⟨n, h⟩ := h
  induction n generalizing x1 x2 x3 x4 x5 S with
  | zero => exact False.elim h
  | succ n ih =>
    have hk3 : ∀ x1 x2 x3 x4 x5 S, L_X4_settleLayer_3 post n x1 x2 x3 x4 x5 S → Wp X 9 3 [(0, .ref (xad X 50)), (1, .int x1), (2, .int x2), (3, .int x3), (4, .int x4), (5, .int x5)] [] S := by intros; apply ih; assumption
    replace h : BD_X4_settleLayer_3 (L_X4_settleLayer_3 post n) post x1 x2 x3 x4 x5 S := h
    unfold BD_X4_settleLayer_3 at h
    generalize L_X4_settleLayer_3 post n = k3 at h hk3
    refine r_iload ok dX4_settleLayer_3 5 rfl ?_
    refine r_bipush (v := 36) ok dX4_settleLayer_5 rfl ?_
    refine r_icmp_ge (tgt := 24) ok dX4_settleLayer_7 rfl (fun hc1 => ?_) (fun hc1 => ?_)
    · replace h := h.1 hc1
      refine r_iconst (v := 0) ok dX4_settleLayer_24 rfl ?_
      refine r_istore ok dX4_settleLayer_25 (by decide) [(0, .ref (xad X 50)), (1, .int x1), (2, .int x2), (3, .int x3), (4, .int x4), (5, .int 0)] [1, 2, 3, 4, 5, 0] rfl ?_
      exact w_B_X4_settleLayer_27 ok hret h
    · replace h := h.2 hc1
      refine r_aload_n ok dX4_settleLayer_10 0 rfl ?_
      refine gf_X4_18 ok dX4_settleLayer_11 ?_
      refine r_iload ok dX4_settleLayer_14 5 rfl ?_
      refine r_iconst (v := 0) ok dX4_settleLayer_16 rfl ?_
      have hi3 := h.1
      replace h := h.2
      refine r_zast ok az_53 hi3 rfl (Or.inl rfl) dX4_settleLayer_17 (fun S2 eS2 => ?_)
      replace h := h S2 eS2
      refine r_iinc (v := x5 + 1) ok dX4_settleLayer_18 5 rfl rfl (by decide) [(0, .ref (xad X 50)), (1, .int x1), (2, .int x2), (3, .int x3), (4, .int x4), (5, .int (x5 + 1))] [1, 2, 3, 4, 5, 0] rfl ?_
      refine r_goto (tgt := 3) ok dX4_settleLayer_21 rfl ?_
      exact hk3 _ _ _ _ _ _ h
theorem w_wp_X4_settleLayer {X : Cx} (ok : Ok X cX4_settleLayer 9 RX4 2 57) {post : St → Prop} (hret : RetV X cX4_settleLayer 9 post) {x1 x2 x3 x4 : Int32} {S : St} (h : wp_X4_settleLayer x1 x2 x3 x4 S post) : Wp X 9 0 [(0, .ref (xad X 50)), (1, .int x1), (2, .int x2), (3, .int x3), (4, .int x4)] [] S := by
  unfold wp_X4_settleLayer at h
  refine r_iconst (v := 0) ok dX4_settleLayer_0 rfl ?_
  refine r_istore ok dX4_settleLayer_1 (by decide) [(0, .ref (xad X 50)), (1, .int x1), (2, .int x2), (3, .int x3), (4, .int x4), (5, .int 0)] [1, 2, 3, 4, 5, 0] rfl ?_
  exact w_B_X4_settleLayer_3 ok hret h
theorem c_X4_settleLayer (l : Launch) (G : Gx) {x1 x2 x3 x4 : Int32} {S : St} {post : St → Prop} (h : wp_X4_settleLayer x1 x2 x3 x4 S post) : MtV l yX4_settleLayer cX4_settleLayer 9 2 57 G [.ref (G.2.2 50), .int x1, .int x2, .int x3, .int x4] S post :=
  ctV (by decide) rfl (Nat.le_of_ble_eq_true rfl) (fun X _ hG ok hret => by subst hG; exact w_wp_X4_settleLayer ok hret h)

/-! HasteRoads$Search.explore(III)V -/
theorem dX4_explore_0 : decode cX4_explore 0 = .ok (.iload_n 2, 1) := by decide +kernel
theorem dX4_explore_1 : decode cX4_explore 1 = .ok (.iconst 1, 1) := by decide +kernel
theorem dX4_explore_2 : decode cX4_explore 2 = .ok (.iadd, 1) := by decide +kernel
theorem dX4_explore_3 : decode cX4_explore 3 = .ok (.bipush 36, 2) := by decide +kernel
theorem dX4_explore_5 : decode cX4_explore 5 = .ok (.imul, 1) := by decide +kernel
theorem dX4_explore_6 : decode cX4_explore 6 = .ok (.istore 4, 2) := by decide +kernel
theorem dX4_explore_8 : decode cX4_explore 8 = .ok (.iconst 0, 1) := by decide +kernel
theorem dX4_explore_9 : decode cX4_explore 9 = .ok (.istore 5, 2) := by decide +kernel
theorem dX4_explore_11 : decode cX4_explore 11 = .ok (.iload 5, 2) := by decide +kernel
theorem dX4_explore_13 : decode cX4_explore 13 = .ok (.iload 4, 2) := by decide +kernel
theorem dX4_explore_15 : decode cX4_explore 15 = .ok (.if_icmp .ge 18, 3) := by decide +kernel
theorem dX4_explore_18 : decode cX4_explore 18 = .ok (.aload_n 0, 1) := by decide +kernel
theorem dX4_explore_19 : decode cX4_explore 19 = .ok (.getfield 9, 3) := by decide +kernel
theorem dX4_explore_22 : decode cX4_explore 22 = .ok (.iload 5, 2) := by decide +kernel
theorem dX4_explore_24 : decode cX4_explore 24 = .ok (.ldc 29, 2) := by decide +kernel
theorem dX4_explore_26 : decode cX4_explore 26 = .ok (.iastore, 1) := by decide +kernel
theorem dX4_explore_27 : decode cX4_explore 27 = .ok (.iinc 5 1, 3) := by decide +kernel
theorem dX4_explore_30 : decode cX4_explore 30 = .ok (.goto (-19), 3) := by decide +kernel
theorem dX4_explore_33 : decode cX4_explore 33 = .ok (.aload_n 0, 1) := by decide +kernel
theorem dX4_explore_34 : decode cX4_explore 34 = .ok (.getfield 25, 3) := by decide +kernel
theorem dX4_explore_37 : decode cX4_explore 37 = .ok (.getfield 30, 3) := by decide +kernel
theorem dX4_explore_40 : decode cX4_explore 40 = .ok (.iload_n 1, 1) := by decide +kernel
theorem dX4_explore_41 : decode cX4_explore 41 = .ok (.iaload, 1) := by decide +kernel
theorem dX4_explore_42 : decode cX4_explore 42 = .ok (.istore 5, 2) := by decide +kernel
theorem dX4_explore_44 : decode cX4_explore 44 = .ok (.iload_n 2, 1) := by decide +kernel
theorem dX4_explore_45 : decode cX4_explore 45 = .ok (.iconst 1, 1) := by decide +kernel
theorem dX4_explore_46 : decode cX4_explore 46 = .ok (.iload 5, 2) := by decide +kernel
theorem dX4_explore_48 : decode cX4_explore 48 = .ok (.ishl, 1) := by decide +kernel
theorem dX4_explore_49 : decode cX4_explore 49 = .ok (.iand, 1) := by decide +kernel
theorem dX4_explore_50 : decode cX4_explore 50 = .ok (.istore 6, 2) := by decide +kernel
theorem dX4_explore_52 : decode cX4_explore 52 = .ok (.aload_n 0, 1) := by decide +kernel
theorem dX4_explore_53 : decode cX4_explore 53 = .ok (.getfield 9, 3) := by decide +kernel
theorem dX4_explore_56 : decode cX4_explore 56 = .ok (.iload 6, 2) := by decide +kernel
theorem dX4_explore_58 : decode cX4_explore 58 = .ok (.bipush 36, 2) := by decide +kernel
theorem dX4_explore_60 : decode cX4_explore 60 = .ok (.imul, 1) := by decide +kernel
theorem dX4_explore_61 : decode cX4_explore 61 = .ok (.iload 5, 2) := by decide +kernel
theorem dX4_explore_63 : decode cX4_explore 63 = .ok (.bipush 6, 2) := by decide +kernel
theorem dX4_explore_65 : decode cX4_explore 65 = .ok (.imul, 1) := by decide +kernel
theorem dX4_explore_66 : decode cX4_explore 66 = .ok (.iadd, 1) := by decide +kernel
theorem dX4_explore_67 : decode cX4_explore 67 = .ok (.aload_n 0, 1) := by decide +kernel
theorem dX4_explore_68 : decode cX4_explore 68 = .ok (.getfield 25, 3) := by decide +kernel
theorem dX4_explore_71 : decode cX4_explore 71 = .ok (.getfield 35, 3) := by decide +kernel
theorem dX4_explore_74 : decode cX4_explore 74 = .ok (.iload_n 1, 1) := by decide +kernel
theorem dX4_explore_75 : decode cX4_explore 75 = .ok (.iaload, 1) := by decide +kernel
theorem dX4_explore_76 : decode cX4_explore 76 = .ok (.iadd, 1) := by decide +kernel
theorem dX4_explore_77 : decode cX4_explore 77 = .ok (.aload_n 0, 1) := by decide +kernel
theorem dX4_explore_78 : decode cX4_explore 78 = .ok (.getfield 25, 3) := by decide +kernel
theorem dX4_explore_81 : decode cX4_explore 81 = .ok (.getfield 38, 3) := by decide +kernel
theorem dX4_explore_84 : decode cX4_explore 84 = .ok (.iload_n 1, 1) := by decide +kernel
theorem dX4_explore_85 : decode cX4_explore 85 = .ok (.iaload, 1) := by decide +kernel
theorem dX4_explore_86 : decode cX4_explore 86 = .ok (.iastore, 1) := by decide +kernel
theorem dX4_explore_87 : decode cX4_explore 87 = .ok (.iload 6, 2) := by decide +kernel
theorem dX4_explore_89 : decode cX4_explore 89 = .ok (.istore 7, 2) := by decide +kernel
theorem dX4_explore_91 : decode cX4_explore 91 = .ok (.iload 7, 2) := by decide +kernel
theorem dX4_explore_93 : decode cX4_explore 93 = .ok (.iload_n 2, 1) := by decide +kernel
theorem dX4_explore_94 : decode cX4_explore 94 = .ok (.if_icmp .gt 26, 3) := by decide +kernel
theorem dX4_explore_97 : decode cX4_explore 97 = .ok (.iload 7, 2) := by decide +kernel
theorem dX4_explore_99 : decode cX4_explore 99 = .ok (.iload_n 2, 1) := by decide +kernel
theorem dX4_explore_100 : decode cX4_explore 100 = .ok (.ior, 1) := by decide +kernel
theorem dX4_explore_101 : decode cX4_explore 101 = .ok (.iload_n 2, 1) := by decide +kernel
theorem dX4_explore_102 : decode cX4_explore 102 = .ok (.if_icmp .ne 12, 3) := by decide +kernel
theorem dX4_explore_105 : decode cX4_explore 105 = .ok (.aload_n 0, 1) := by decide +kernel
theorem dX4_explore_106 : decode cX4_explore 106 = .ok (.iload_n 1, 1) := by decide +kernel
theorem dX4_explore_107 : decode cX4_explore 107 = .ok (.iload_n 2, 1) := by decide +kernel
theorem dX4_explore_108 : decode cX4_explore 108 = .ok (.iload 7, 2) := by decide +kernel
theorem dX4_explore_110 : decode cX4_explore 110 = .ok (.iload_n 3, 1) := by decide +kernel
theorem dX4_explore_111 : decode cX4_explore 111 = .ok (.invokevirtual 41, 3) := by decide +kernel
theorem dX4_explore_114 : decode cX4_explore 114 = .ok (.iinc 7 1, 3) := by decide +kernel
theorem dX4_explore_117 : decode cX4_explore 117 = .ok (.goto (-26), 3) := by decide +kernel
theorem dX4_explore_120 : decode cX4_explore 120 = .ok (.return_, 1) := by decide +kernel
theorem gf_X4_30 {X : Cx} {cc : ByteArray} {nL pc fr lo : Nat} {L : List (Nat × Value)} {st : List Value} {S : St} (ok : Ok X cc nL RX4 fr lo) {o : Nat} (ho : isW o) (d : decode cc pc = .ok (.getfield 30, 3)) (k : Wp X nL (pc + 3) L (.ref (xad X (o + 7)) :: st) S) : Wp X nL pc L (.ref (xad X o) :: st) S :=
  r_get (C := RX6) (T := TX6) ok ho.ob rfl i_X6 12 (by decide) tw_fl_X4_30 d (by rw [show fvl (xad X) S o 12 = .ref (xad X (o + 7)) from (fvl_ref (d := o + 7) (ho.rr 6 (by decide)))]; exact k)
theorem gf_X4_35 {X : Cx} {cc : ByteArray} {nL pc fr lo : Nat} {L : List (Nat × Value)} {st : List Value} {S : St} (ok : Ok X cc nL RX4 fr lo) {o : Nat} (ho : isW o) (d : decode cc pc = .ok (.getfield 35, 3)) (k : Wp X nL (pc + 3) L (.ref (xad X (o + 8)) :: st) S) : Wp X nL pc L (.ref (xad X o) :: st) S :=
  r_get (C := RX6) (T := TX6) ok ho.ob rfl i_X6 13 (by decide) tw_fl_X4_35 d (by rw [show fvl (xad X) S o 13 = .ref (xad X (o + 8)) from (fvl_ref (d := o + 8) (ho.rr 7 (by decide)))]; exact k)
theorem gf_X4_38 {X : Cx} {cc : ByteArray} {nL pc fr lo : Nat} {L : List (Nat × Value)} {st : List Value} {S : St} (ok : Ok X cc nL RX4 fr lo) {o : Nat} (ho : isW o) (d : decode cc pc = .ok (.getfield 38, 3)) (k : Wp X nL (pc + 3) L (.ref (xad X (o + 10)) :: st) S) : Wp X nL pc L (.ref (xad X o) :: st) S :=
  r_get (C := RX6) (T := TX6) ok ho.ob rfl i_X6 15 (by decide) tw_fl_X4_38 d (by rw [show fvl (xad X) S o 15 = .ref (xad X (o + 10)) from (fvl_ref (d := o + 10) (ho.rr 9 (by decide)))]; exact k)
theorem cl_X4_41 {X : Cx} {cc : ByteArray} {nL pc fr lo : Nat} {L : List (Nat × Value)} {st : List Value} {S : St} (ok : Ok X cc nL RX4 fr lo) {x1 x2 x3 x4 : Int32} (d : decode cc pc = .ok (.invokevirtual 41, 3)) (hroom : 3 ≤ fr ∧ 85 ≤ lo) (hst : (st.map fun v => v.category).sum ≤ 8) {post : St → Prop} (h : wp_X4_settleLayer x1 x2 x3 x4 S post) (kk : ∀ S1 : St, post S1 → Wp X nL (pc + 3) L st S1) : Wp X nL pc L (.int x4 :: .int x3 :: .int x2 :: .int x1 :: .ref (xad X 50) :: st) S :=
  r_callVv (n := 9) (f := 2) (lo1 := 57) (N := 4) (As := [.int x1, .int x2, .int x3, .int x4]) ok tw_in_X4 tw_im_X4_settleLayer tw_se_X4_settleLayer tw_co_X4_settleLayer tw_ml_X4_41 (by decide +kernel) rfl ob_50 rfl hroom hst d rfl (c_X4_settleLayer (xl X) (xG X) h) kk
def BD_X4_explore_91 (k91 : Int32 → Int32 → Int32 → Int32 → St → Prop) (post : St → Prop) (x1 : Int32) (x2 : Int32) (x3 : Int32) (x7 : Int32) (S : St) : Prop :=
  ((x2 < x7 → post S) ∧ (¬ x2 < x7 → ((¬ (x7 ||| x2) = x2 → k91 x1 x2 x3 (x7 + 1) S) ∧ ((x7 ||| x2) = x2 → wp_X4_settleLayer x1 x2 x7 x3 S (fun S3 => k91 x1 x2 x3 (x7 + 1) S3)))))
def L_X4_explore_91 (post : St → Prop) (n : Nat) : Int32 → Int32 → Int32 → Int32 → St → Prop := Nat.rec (motive := fun _ => Int32 → Int32 → Int32 → Int32 → St → Prop) (fun _ _ _ _ _ => False) (fun _ ih => BD_X4_explore_91 ih post) n
def B_X4_explore_91 (post : St → Prop) (x1 : Int32) (x2 : Int32) (x3 : Int32) (x7 : Int32) (S : St) : Prop := ∃ n, L_X4_explore_91 post n x1 x2 x3 x7 S
def B_X4_explore_33 (post : St → Prop) (x1 : Int32) (x2 : Int32) (x3 : Int32) (S : St) : Prop :=
  vp_in x1 4 ∧ (∀ v1 : Int32, v1 = (S 18 (ix x1)) → ∀ v2 : Int32, v2 = (x2 &&& ((1 : Int32) <<< (v1 &&& 31))) → vp_in x1 4 ∧ (vp_in x1 4 ∧ (vp_in (((v2 * 36) + (v1 * 6)) + (S 19 (ix x1))) 2304 ∧ (∀ S3 : St, S3 = up S 51 (ix (((v2 * 36) + (v1 * 6)) + (S 19 (ix x1)))) (S 21 (ix x1)) → B_X4_explore_91 post x1 x2 x3 v2 S3))))
def BD_X4_explore_11 (k11 : Int32 → Int32 → Int32 → Int32 → Int32 → St → Prop) (post : St → Prop) (x1 : Int32) (x2 : Int32) (x3 : Int32) (x4 : Int32) (x5 : Int32) (S : St) : Prop :=
  ((x4 ≤ x5 → B_X4_explore_33 post x1 x2 x3 S) ∧ (¬ x4 ≤ x5 → vp_in x5 2304 ∧ (∀ S2 : St, S2 = up S 51 (ix x5) 1000000000 → k11 x1 x2 x3 x4 (x5 + 1) S2)))
def L_X4_explore_11 (post : St → Prop) (n : Nat) : Int32 → Int32 → Int32 → Int32 → Int32 → St → Prop := Nat.rec (motive := fun _ => Int32 → Int32 → Int32 → Int32 → Int32 → St → Prop) (fun _ _ _ _ _ _ => False) (fun _ ih => BD_X4_explore_11 ih post) n
def B_X4_explore_11 (post : St → Prop) (x1 : Int32) (x2 : Int32) (x3 : Int32) (x4 : Int32) (x5 : Int32) (S : St) : Prop := ∃ n, L_X4_explore_11 post n x1 x2 x3 x4 x5 S
def wp_X4_explore (x1 : Int32) (x2 : Int32) (x3 : Int32) (S : St) (post : St → Prop) : Prop :=
  ∀ v1 : Int32, v1 = ((x2 + 1) * 36) → B_X4_explore_11 post x1 x2 x3 v1 0 S
theorem w_B_X4_explore_91 {X : Cx} (ok : Ok X cX4_explore 8 RX4 3 85) {post : St → Prop} (hret : RetV X cX4_explore 8 post) {x1 x2 x3 x7 : Int32} {S : St} (h : B_X4_explore_91 post x1 x2 x3 x7 S) : Wp X 8 91 [(0, .ref (xad X 50)), (1, .int x1), (2, .int x2), (3, .int x3), (7, .int x7)] [] S := by
  obtain ⟨n, h⟩ := h
  induction n generalizing x1 x2 x3 x7 S with
  | zero => exact False.elim h
  | succ n ih =>
    have hk91 : ∀ x1 x2 x3 x7 S, L_X4_explore_91 post n x1 x2 x3 x7 S → Wp X 8 91 [(0, .ref (xad X 50)), (1, .int x1), (2, .int x2), (3, .int x3), (7, .int x7)] [] S := by intros; apply ih; assumption
    replace h : BD_X4_explore_91 (L_X4_explore_91 post n) post x1 x2 x3 x7 S := h
    unfold BD_X4_explore_91 at h
    generalize L_X4_explore_91 post n = k91 at h hk91
    refine r_iload ok dX4_explore_91 4 rfl ?_
    refine r_iload_n ok dX4_explore_93 2 rfl ?_
    refine r_icmp_gt (tgt := 120) ok dX4_explore_94 rfl (fun hc1 => ?_) (fun hc1 => ?_)
    · replace h := h.1 hc1
      exact hret _ _ _ dX4_explore_120 h
    · replace h := h.2 hc1
      refine r_iload ok dX4_explore_97 4 rfl ?_
      refine r_iload_n ok dX4_explore_99 2 rfl ?_
      refine r_ior ok dX4_explore_100 ?_
      refine r_iload_n ok dX4_explore_101 2 rfl ?_
      refine r_icmp_ne (tgt := 114) ok dX4_explore_102 rfl (fun hc2 => ?_) (fun hc2 => ?_)
      · replace h := h.1 hc2
        refine r_iinc (v := x7 + 1) ok dX4_explore_114 4 rfl rfl (by decide) [(0, .ref (xad X 50)), (1, .int x1), (2, .int x2), (3, .int x3), (7, .int (x7 + 1))] [1, 2, 3, 4, 0] rfl ?_
        refine r_goto (tgt := 91) ok dX4_explore_117 rfl ?_
        exact hk91 _ _ _ _ _ h
      · replace h := h.2 hc2
        refine r_aload_n ok dX4_explore_105 0 rfl ?_
        refine r_iload_n ok dX4_explore_106 1 rfl ?_
        refine r_iload_n ok dX4_explore_107 2 rfl ?_
        refine r_iload ok dX4_explore_108 4 rfl ?_
        refine r_iload_n ok dX4_explore_110 3 rfl ?_
        refine cl_X4_41 ok dX4_explore_111 (by decide) (Nat.le_of_ble_eq_true rfl) h (fun S3 h => ?_)
        refine r_iinc (v := x7 + 1) ok dX4_explore_114 4 rfl rfl (by decide) [(0, .ref (xad X 50)), (1, .int x1), (2, .int x2), (3, .int x3), (7, .int (x7 + 1))] [1, 2, 3, 4, 0] rfl ?_
        refine r_goto (tgt := 91) ok dX4_explore_117 rfl ?_
        exact hk91 _ _ _ _ _ h
theorem w_B_X4_explore_33 {X : Cx} (ok : Ok X cX4_explore 8 RX4 3 85) {post : St → Prop} (hret : RetV X cX4_explore 8 post) {x1 x2 x3 : Int32} {S : St} (h : B_X4_explore_33 post x1 x2 x3 S) : Wp X 8 33 [(0, .ref (xad X 50)), (1, .int x1), (2, .int x2), (3, .int x3)] [] S := by
  unfold B_X4_explore_33 at h
  refine r_aload_n ok dX4_explore_33 0 rfl ?_
  refine gf_X4_25 ok dX4_explore_34 ?_
  refine gf_X4_30 ok isW_11 dX4_explore_37 ?_
  refine r_iload_n ok dX4_explore_40 1 rfl ?_
  refine r_iald ok ai_18 h.1 rfl dX4_explore_41 ?_
  replace h := h.2
  refine r_top (fun v1 ev1 => ?_)
  replace h := h v1 ev1
  refine r_istore ok dX4_explore_42 (by decide) [(0, .ref (xad X 50)), (1, .int x1), (2, .int x2), (3, .int x3), (5, .int v1)] [1, 2, 3, 4, 0] rfl ?_
  refine r_iload_n ok dX4_explore_44 2 rfl ?_
  refine r_iconst (v := 1) ok dX4_explore_45 rfl ?_
  refine r_iload ok dX4_explore_46 4 rfl ?_
  refine r_ishl ok dX4_explore_48 ?_
  refine r_iand ok dX4_explore_49 ?_
  refine r_top (fun v2 ev2 => ?_)
  replace h := h v2 ev2
  refine r_istore ok dX4_explore_50 (by decide) [(0, .ref (xad X 50)), (1, .int x1), (2, .int x2), (3, .int x3), (5, .int v1), (6, .int v2)] [1, 2, 3, 4, 5, 0] rfl ?_
  refine r_aload_n ok dX4_explore_52 0 rfl ?_
  refine gf_X4_9 ok dX4_explore_53 ?_
  refine r_iload ok dX4_explore_56 5 rfl ?_
  refine r_bipush (v := 36) ok dX4_explore_58 rfl ?_
  refine r_imul ok dX4_explore_60 ?_
  refine r_iload ok dX4_explore_61 4 rfl ?_
  refine r_bipush (v := 6) ok dX4_explore_63 rfl ?_
  refine r_imul ok dX4_explore_65 ?_
  refine r_iadd ok dX4_explore_66 ?_
  refine r_aload_n ok dX4_explore_67 0 rfl ?_
  refine gf_X4_25 ok dX4_explore_68 ?_
  refine gf_X4_35 ok isW_11 dX4_explore_71 ?_
  refine r_iload_n ok dX4_explore_74 1 rfl ?_
  refine r_iald ok ai_19 h.1 rfl dX4_explore_75 ?_
  replace h := h.2
  refine r_iadd ok dX4_explore_76 ?_
  refine r_aload_n ok dX4_explore_77 0 rfl ?_
  refine gf_X4_25 ok dX4_explore_78 ?_
  refine gf_X4_38 ok isW_11 dX4_explore_81 ?_
  refine r_iload_n ok dX4_explore_84 1 rfl ?_
  refine r_iald ok ai_21 h.1 rfl dX4_explore_85 ?_
  replace h := h.2
  have hi4 := h.1
  replace h := h.2
  refine r_iast ok ai_51 hi4 rfl dX4_explore_86 (fun S3 eS3 => ?_)
  replace h := h S3 eS3
  refine r_iload ok dX4_explore_87 5 rfl ?_
  refine r_istore ok dX4_explore_89 (by decide) [(0, .ref (xad X 50)), (1, .int x1), (2, .int x2), (3, .int x3), (7, .int v2)] [1, 2, 3, 4, 0] rfl ?_
  exact w_B_X4_explore_91 ok hret h
theorem w_B_X4_explore_11 {X : Cx} (ok : Ok X cX4_explore 8 RX4 3 85) {post : St → Prop} (hret : RetV X cX4_explore 8 post) {x1 x2 x3 x4 x5 : Int32} {S : St} (h : B_X4_explore_11 post x1 x2 x3 x4 x5 S) : Wp X 8 11 [(0, .ref (xad X 50)), (1, .int x1), (2, .int x2), (3, .int x3), (4, .int x4), (5, .int x5)] [] S := by
  obtain ⟨n, h⟩ := h
  induction n generalizing x1 x2 x3 x4 x5 S with
  | zero => exact False.elim h
  | succ n ih =>
    have hk11 : ∀ x1 x2 x3 x4 x5 S, L_X4_explore_11 post n x1 x2 x3 x4 x5 S → Wp X 8 11 [(0, .ref (xad X 50)), (1, .int x1), (2, .int x2), (3, .int x3), (4, .int x4), (5, .int x5)] [] S := by intros; apply ih; assumption
    replace h : BD_X4_explore_11 (L_X4_explore_11 post n) post x1 x2 x3 x4 x5 S := h
    unfold BD_X4_explore_11 at h
    generalize L_X4_explore_11 post n = k11 at h hk11
    refine r_iload ok dX4_explore_11 5 rfl ?_
    refine r_iload ok dX4_explore_13 4 rfl ?_
    refine r_icmp_ge (tgt := 33) ok dX4_explore_15 rfl (fun hc1 => ?_) (fun hc1 => ?_)
    · replace h := h.1 hc1
      refine r_sub [(0, .ref (xad X 50)), (1, .int x1), (2, .int x2), (3, .int x3)] [0, 1, 2, 3] rfl ?_
      exact w_B_X4_explore_33 ok hret h
    · replace h := h.2 hc1
      refine r_aload_n ok dX4_explore_18 0 rfl ?_
      refine gf_X4_9 ok dX4_explore_19 ?_
      refine r_iload ok dX4_explore_22 5 rfl ?_
      refine r_ldc (v := 1000000000) ok dX4_explore_24 tw_k_X4_29 ?_
      have hi3 := h.1
      replace h := h.2
      refine r_iast ok ai_51 hi3 rfl dX4_explore_26 (fun S2 eS2 => ?_)
      replace h := h S2 eS2
      refine r_iinc (v := x5 + 1) ok dX4_explore_27 5 rfl rfl (by decide) [(0, .ref (xad X 50)), (1, .int x1), (2, .int x2), (3, .int x3), (4, .int x4), (5, .int (x5 + 1))] [1, 2, 3, 4, 5, 0] rfl ?_
      refine r_goto (tgt := 11) ok dX4_explore_30 rfl ?_
      exact hk11 _ _ _ _ _ _ h
theorem w_wp_X4_explore {X : Cx} (ok : Ok X cX4_explore 8 RX4 3 85) {post : St → Prop} (hret : RetV X cX4_explore 8 post) {x1 x2 x3 : Int32} {S : St} (h : wp_X4_explore x1 x2 x3 S post) : Wp X 8 0 [(0, .ref (xad X 50)), (1, .int x1), (2, .int x2), (3, .int x3)] [] S := by
  unfold wp_X4_explore at h
  refine r_iload_n ok dX4_explore_0 2 rfl ?_
  refine r_iconst (v := 1) ok dX4_explore_1 rfl ?_
  refine r_iadd ok dX4_explore_2 ?_
  refine r_bipush (v := 36) ok dX4_explore_3 rfl ?_
  refine r_imul ok dX4_explore_5 ?_
  refine r_top (fun v1 ev1 => ?_)
  replace h := h v1 ev1
  refine r_istore ok dX4_explore_6 (by decide) [(0, .ref (xad X 50)), (1, .int x1), (2, .int x2), (3, .int x3), (4, .int v1)] [1, 2, 3, 4, 0] rfl ?_
  refine r_iconst (v := 0) ok dX4_explore_8 rfl ?_
  refine r_istore ok dX4_explore_9 (by decide) [(0, .ref (xad X 50)), (1, .int x1), (2, .int x2), (3, .int x3), (4, .int v1), (5, .int 0)] [1, 2, 3, 4, 5, 0] rfl ?_
  exact w_B_X4_explore_11 ok hret h
theorem c_X4_explore (l : Launch) (G : Gx) {x1 x2 x3 : Int32} {S : St} {post : St → Prop} (h : wp_X4_explore x1 x2 x3 S post) : MtV l yX4_explore cX4_explore 8 3 85 G [.ref (G.2.2 50), .int x1, .int x2, .int x3] S post :=
  ctV (by decide) rfl (Nat.le_of_ble_eq_true rfl) (fun X _ hG ok hret => by subst hG; exact w_wp_X4_explore ok hret h)

/-! HasteRoads$Search.soonestAt(I)I -/
theorem dX4_soonestAt_0 : decode cX4_soonestAt 0 = .ok (.ldc 29, 2) := by decide +kernel
theorem dX4_soonestAt_2 : decode cX4_soonestAt 2 = .ok (.istore_n 2, 1) := by decide +kernel
theorem dX4_soonestAt_3 : decode cX4_soonestAt 3 = .ok (.iconst 0, 1) := by decide +kernel
theorem dX4_soonestAt_4 : decode cX4_soonestAt 4 = .ok (.istore_n 3, 1) := by decide +kernel
theorem dX4_soonestAt_5 : decode cX4_soonestAt 5 = .ok (.iload_n 3, 1) := by decide +kernel
theorem dX4_soonestAt_6 : decode cX4_soonestAt 6 = .ok (.bipush 6, 2) := by decide +kernel
theorem dX4_soonestAt_8 : decode cX4_soonestAt 8 = .ok (.if_icmp .ge 25, 3) := by decide +kernel
theorem dX4_soonestAt_11 : decode cX4_soonestAt 11 = .ok (.iload_n 2, 1) := by decide +kernel
theorem dX4_soonestAt_12 : decode cX4_soonestAt 12 = .ok (.aload_n 0, 1) := by decide +kernel
theorem dX4_soonestAt_13 : decode cX4_soonestAt 13 = .ok (.getfield 9, 3) := by decide +kernel
theorem dX4_soonestAt_16 : decode cX4_soonestAt 16 = .ok (.iload_n 1, 1) := by decide +kernel
theorem dX4_soonestAt_17 : decode cX4_soonestAt 17 = .ok (.bipush 6, 2) := by decide +kernel
theorem dX4_soonestAt_19 : decode cX4_soonestAt 19 = .ok (.imul, 1) := by decide +kernel
theorem dX4_soonestAt_20 : decode cX4_soonestAt 20 = .ok (.iload_n 3, 1) := by decide +kernel
theorem dX4_soonestAt_21 : decode cX4_soonestAt 21 = .ok (.iadd, 1) := by decide +kernel
theorem dX4_soonestAt_22 : decode cX4_soonestAt 22 = .ok (.iaload, 1) := by decide +kernel
theorem dX4_soonestAt_23 : decode cX4_soonestAt 23 = .ok (.invokestatic 45, 3) := by decide +kernel
theorem dX4_soonestAt_26 : decode cX4_soonestAt 26 = .ok (.istore_n 2, 1) := by decide +kernel
theorem dX4_soonestAt_27 : decode cX4_soonestAt 27 = .ok (.iinc 3 1, 3) := by decide +kernel
theorem dX4_soonestAt_30 : decode cX4_soonestAt 30 = .ok (.goto (-25), 3) := by decide +kernel
theorem dX4_soonestAt_33 : decode cX4_soonestAt 33 = .ok (.iload_n 2, 1) := by decide +kernel
theorem dX4_soonestAt_34 : decode cX4_soonestAt 34 = .ok (.ldc 29, 2) := by decide +kernel
theorem dX4_soonestAt_36 : decode cX4_soonestAt 36 = .ok (.if_icmp .ne 7, 3) := by decide +kernel
theorem dX4_soonestAt_39 : decode cX4_soonestAt 39 = .ok (.iconst (-1), 1) := by decide +kernel
theorem dX4_soonestAt_40 : decode cX4_soonestAt 40 = .ok (.goto 4, 3) := by decide +kernel
theorem dX4_soonestAt_43 : decode cX4_soonestAt 43 = .ok (.iload_n 2, 1) := by decide +kernel
theorem dX4_soonestAt_44 : decode cX4_soonestAt 44 = .ok (.ireturn, 1) := by decide +kernel

def B_X4_soonestAt_33 (post : Int32 → St → Prop) (x2 : Int32) (S : St) : Prop :=
  ((¬ x2 = 1000000000 → post x2 S) ∧ (x2 = 1000000000 → post (-1) S))
def BD_X4_soonestAt_5 (k5 : Int32 → Int32 → Int32 → St → Prop) (post : Int32 → St → Prop) (x1 : Int32) (x2 : Int32) (x3 : Int32) (S : St) : Prop :=
  ((6 ≤ x3 → B_X4_soonestAt_33 post x2 S) ∧ (¬ 6 ≤ x3 → vp_in ((x1 * 6) + x3) 2304 ∧ (∀ v2 : Int32, v2 = (if (S 51 (ix ((x1 * 6) + x3))) < x2 then (S 51 (ix ((x1 * 6) + x3))) else x2) → k5 x1 v2 (x3 + 1) S)))
def L_X4_soonestAt_5 (post : Int32 → St → Prop) (n : Nat) : Int32 → Int32 → Int32 → St → Prop := Nat.rec (motive := fun _ => Int32 → Int32 → Int32 → St → Prop) (fun _ _ _ _ => False) (fun _ ih => BD_X4_soonestAt_5 ih post) n
def B_X4_soonestAt_5 (post : Int32 → St → Prop) (x1 : Int32) (x2 : Int32) (x3 : Int32) (S : St) : Prop := ∃ n, L_X4_soonestAt_5 post n x1 x2 x3 S
def wp_X4_soonestAt (x1 : Int32) (S : St) (post : Int32 → St → Prop) : Prop :=
  B_X4_soonestAt_5 post x1 1000000000 0 S
theorem w_B_X4_soonestAt_33 {X : Cx} (ok : Ok X cX4_soonestAt 4 RX4 1 21) {post : Int32 → St → Prop} (hret : RetI X cX4_soonestAt 4 post) {x2 : Int32} {S : St} (h : B_X4_soonestAt_33 post x2 S) : Wp X 4 33 [(2, .int x2)] [] S := by
  unfold B_X4_soonestAt_33 at h
  refine r_iload_n ok dX4_soonestAt_33 0 rfl ?_
  refine r_ldc (v := 1000000000) ok dX4_soonestAt_34 tw_k_X4_29 ?_
  refine r_icmp_ne (tgt := 43) ok dX4_soonestAt_36 rfl (fun hc1 => ?_) (fun hc1 => ?_)
  · replace h := h.1 hc1
    refine r_iload_n ok dX4_soonestAt_43 0 rfl ?_
    exact hret _ _ _ _ dX4_soonestAt_44 h
  · replace h := h.2 hc1
    refine r_iconst (v := (-1)) ok dX4_soonestAt_39 rfl ?_
    refine r_goto (tgt := 44) ok dX4_soonestAt_40 rfl ?_
    exact hret _ _ _ _ dX4_soonestAt_44 h
theorem w_B_X4_soonestAt_5 {X : Cx} (ok : Ok X cX4_soonestAt 4 RX4 1 21) {post : Int32 → St → Prop} (hret : RetI X cX4_soonestAt 4 post) {x1 x2 x3 : Int32} {S : St} (h : B_X4_soonestAt_5 post x1 x2 x3 S) : Wp X 4 5 [(0, .ref (xad X 50)), (1, .int x1), (2, .int x2), (3, .int x3)] [] S := by
  obtain ⟨n, h⟩ := h
  induction n generalizing x1 x2 x3 S with
  | zero => exact False.elim h
  | succ n ih =>
    have hk5 : ∀ x1 x2 x3 S, L_X4_soonestAt_5 post n x1 x2 x3 S → Wp X 4 5 [(0, .ref (xad X 50)), (1, .int x1), (2, .int x2), (3, .int x3)] [] S := by intros; apply ih; assumption
    replace h : BD_X4_soonestAt_5 (L_X4_soonestAt_5 post n) post x1 x2 x3 S := h
    unfold BD_X4_soonestAt_5 at h
    generalize L_X4_soonestAt_5 post n = k5 at h hk5
    refine r_iload_n ok dX4_soonestAt_5 3 rfl ?_
    refine r_bipush (v := 6) ok dX4_soonestAt_6 rfl ?_
    refine r_icmp_ge (tgt := 33) ok dX4_soonestAt_8 rfl (fun hc1 => ?_) (fun hc1 => ?_)
    · replace h := h.1 hc1
      refine r_sub [(2, .int x2)] [2] rfl ?_
      exact w_B_X4_soonestAt_33 ok hret h
    · replace h := h.2 hc1
      refine r_iload_n ok dX4_soonestAt_11 2 rfl ?_
      refine r_aload_n ok dX4_soonestAt_12 0 rfl ?_
      refine gf_X4_9 ok dX4_soonestAt_13 ?_
      refine r_iload_n ok dX4_soonestAt_16 1 rfl ?_
      refine r_bipush (v := 6) ok dX4_soonestAt_17 rfl ?_
      refine r_imul ok dX4_soonestAt_19 ?_
      refine r_iload_n ok dX4_soonestAt_20 3 rfl ?_
      refine r_iadd ok dX4_soonestAt_21 ?_
      refine r_iald ok ai_51 h.1 rfl dX4_soonestAt_22 ?_
      replace h := h.2
      refine r_min ok dX4_soonestAt_23 tw_ml_X4_45 tw_st_Math_min tw_in_Math tw_co_Math_min (by decide) (Nat.le_of_ble_eq_true rfl) ?_
      refine r_top (fun v2 ev2 => ?_)
      replace h := h v2 ev2
      refine r_istore_n ok dX4_soonestAt_26 (by decide) [(0, .ref (xad X 50)), (1, .int x1), (2, .int v2), (3, .int x3)] [1, 2, 0, 3] rfl ?_
      refine r_iinc (v := x3 + 1) ok dX4_soonestAt_27 3 rfl rfl (by decide) [(0, .ref (xad X 50)), (1, .int x1), (2, .int v2), (3, .int (x3 + 1))] [1, 2, 3, 0] rfl ?_
      refine r_goto (tgt := 5) ok dX4_soonestAt_30 rfl ?_
      exact hk5 _ _ _ _ h
theorem w_wp_X4_soonestAt {X : Cx} (ok : Ok X cX4_soonestAt 4 RX4 1 21) {post : Int32 → St → Prop} (hret : RetI X cX4_soonestAt 4 post) {x1 : Int32} {S : St} (h : wp_X4_soonestAt x1 S post) : Wp X 4 0 [(0, .ref (xad X 50)), (1, .int x1)] [] S := by
  unfold wp_X4_soonestAt at h
  refine r_ldc (v := 1000000000) ok dX4_soonestAt_0 tw_k_X4_29 ?_
  refine r_istore_n ok dX4_soonestAt_2 (by decide) [(0, .ref (xad X 50)), (1, .int x1), (2, .int 1000000000)] [1, 2, 0] rfl ?_
  refine r_iconst (v := 0) ok dX4_soonestAt_3 rfl ?_
  refine r_istore_n ok dX4_soonestAt_4 (by decide) [(0, .ref (xad X 50)), (1, .int x1), (2, .int 1000000000), (3, .int 0)] [1, 2, 3, 0] rfl ?_
  exact w_B_X4_soonestAt_5 ok hret h
theorem c_X4_soonestAt (l : Launch) (G : Gx) {x1 : Int32} {S : St} {post : Int32 → St → Prop} (h : wp_X4_soonestAt x1 S post) : MtI l yX4_soonestAt cX4_soonestAt 4 (some .int) 1 21 G [.ref (G.2.2 50), .int x1] S post :=
  ctI (by decide) rfl (Nat.le_of_ble_eq_true rfl) (fun X _ hG ok hret => by subst hG; exact w_wp_X4_soonestAt ok hret h)

/-! HasteRoads$Search.soonestAtErrand(I)I -/
theorem dX4_soonestAtErrand_0 : decode cX4_soonestAtErrand 0 = .ok (.aload_n 0, 1) := by decide +kernel
theorem dX4_soonestAtErrand_1 : decode cX4_soonestAtErrand 1 = .ok (.iload_n 1, 1) := by decide +kernel
theorem dX4_soonestAtErrand_2 : decode cX4_soonestAtErrand 2 = .ok (.iconst 0, 1) := by decide +kernel
theorem dX4_soonestAtErrand_3 : decode cX4_soonestAtErrand 3 = .ok (.aload_n 0, 1) := by decide +kernel
theorem dX4_soonestAtErrand_4 : decode cX4_soonestAtErrand 4 = .ok (.getfield 25, 3) := by decide +kernel
theorem dX4_soonestAtErrand_7 : decode cX4_soonestAtErrand 7 = .ok (.getfield 51, 3) := by decide +kernel
theorem dX4_soonestAtErrand_10 : decode cX4_soonestAtErrand 10 = .ok (.iload_n 1, 1) := by decide +kernel
theorem dX4_soonestAtErrand_11 : decode cX4_soonestAtErrand 11 = .ok (.iaload, 1) := by decide +kernel
theorem dX4_soonestAtErrand_12 : decode cX4_soonestAtErrand 12 = .ok (.invokevirtual 54, 3) := by decide +kernel
theorem dX4_soonestAtErrand_15 : decode cX4_soonestAtErrand 15 = .ok (.aload_n 0, 1) := by decide +kernel
theorem dX4_soonestAtErrand_16 : decode cX4_soonestAtErrand 16 = .ok (.aload_n 0, 1) := by decide +kernel
theorem dX4_soonestAtErrand_17 : decode cX4_soonestAtErrand 17 = .ok (.getfield 25, 3) := by decide +kernel
theorem dX4_soonestAtErrand_20 : decode cX4_soonestAtErrand 20 = .ok (.getfield 51, 3) := by decide +kernel
theorem dX4_soonestAtErrand_23 : decode cX4_soonestAtErrand 23 = .ok (.iload_n 1, 1) := by decide +kernel
theorem dX4_soonestAtErrand_24 : decode cX4_soonestAtErrand 24 = .ok (.iaload, 1) := by decide +kernel
theorem dX4_soonestAtErrand_25 : decode cX4_soonestAtErrand 25 = .ok (.invokevirtual 58, 3) := by decide +kernel
theorem dX4_soonestAtErrand_28 : decode cX4_soonestAtErrand 28 = .ok (.ireturn, 1) := by decide +kernel
theorem gf_X4_51 {X : Cx} {cc : ByteArray} {nL pc fr lo : Nat} {L : List (Nat × Value)} {st : List Value} {S : St} (ok : Ok X cc nL RX4 fr lo) {o : Nat} (ho : isW o) (d : decode cc pc = .ok (.getfield 51, 3)) (k : Wp X nL (pc + 3) L (.ref (xad X (o + 4)) :: st) S) : Wp X nL pc L (.ref (xad X o) :: st) S :=
  r_get (C := RX6) (T := TX6) ok ho.ob rfl i_X6 9 (by decide) tw_fl_X4_51 d (by rw [show fvl (xad X) S o 9 = .ref (xad X (o + 4)) from (fvl_ref (d := o + 4) (ho.rr 3 (by decide)))]; exact k)
theorem cl_X4_54 {X : Cx} {cc : ByteArray} {nL pc fr lo : Nat} {L : List (Nat × Value)} {st : List Value} {S : St} (ok : Ok X cc nL RX4 fr lo) {x1 x2 x3 : Int32} (d : decode cc pc = .ok (.invokevirtual 54, 3)) (hroom : 4 ≤ fr ∧ 112 ≤ lo) (hst : (st.map fun v => v.category).sum ≤ 8) {post : St → Prop} (h : wp_X4_explore x1 x2 x3 S post) (kk : ∀ S1 : St, post S1 → Wp X nL (pc + 3) L st S1) : Wp X nL pc L (.int x3 :: .int x2 :: .int x1 :: .ref (xad X 50) :: st) S :=
  r_callVv (n := 8) (f := 3) (lo1 := 85) (N := 3) (As := [.int x1, .int x2, .int x3]) ok tw_in_X4 tw_im_X4_explore tw_se_X4_explore tw_co_X4_explore tw_ml_X4_54 (by decide +kernel) rfl ob_50 rfl hroom hst d rfl (c_X4_explore (xl X) (xG X) h) kk
theorem cl_X4_58 {X : Cx} {cc : ByteArray} {nL pc fr lo : Nat} {L : List (Nat × Value)} {st : List Value} {S : St} (ok : Ok X cc nL RX4 fr lo) {x1 : Int32} (d : decode cc pc = .ok (.invokevirtual 58, 3)) (hroom : 2 ≤ fr ∧ 44 ≤ lo) (hst : (st.map fun v => v.category).sum ≤ 8) {post : Int32 → St → Prop} (h : wp_X4_soonestAt x1 S post) (kk : ∀ (r : Int32) (S1 : St), post r S1 → Wp X nL (pc + 3) L (.int r :: st) S1) : Wp X nL pc L (.int x1 :: .ref (xad X 50) :: st) S :=
  r_callVi (n := 4) (f := 1) (lo1 := 21) (N := 1) (As := [.int x1]) ok tw_in_X4 tw_im_X4_soonestAt tw_se_X4_soonestAt tw_co_X4_soonestAt tw_ml_X4_58 (by decide +kernel) rfl ob_50 rfl hroom hst d rfl (c_X4_soonestAt (xl X) (xG X) h) kk
def wp_X4_soonestAtErrand (x1 : Int32) (S : St) (post : Int32 → St → Prop) : Prop :=
  vp_in x1 4 ∧ (wp_X4_explore x1 0 (S 15 (ix x1)) S (fun S1 => vp_in x1 4 ∧ (wp_X4_soonestAt (S1 15 (ix x1)) S1 (fun r3 S2 => post r3 S2))))
theorem w_wp_X4_soonestAtErrand {X : Cx} (ok : Ok X cX4_soonestAtErrand 2 RX4 4 112) {post : Int32 → St → Prop} (hret : RetI X cX4_soonestAtErrand 2 post) {x1 : Int32} {S : St} (h : wp_X4_soonestAtErrand x1 S post) : Wp X 2 0 [(0, .ref (xad X 50)), (1, .int x1)] [] S := by
  unfold wp_X4_soonestAtErrand at h
  refine r_aload_n ok dX4_soonestAtErrand_0 0 rfl ?_
  refine r_iload_n ok dX4_soonestAtErrand_1 1 rfl ?_
  refine r_iconst (v := 0) ok dX4_soonestAtErrand_2 rfl ?_
  refine r_aload_n ok dX4_soonestAtErrand_3 0 rfl ?_
  refine gf_X4_25 ok dX4_soonestAtErrand_4 ?_
  refine gf_X4_51 ok isW_11 dX4_soonestAtErrand_7 ?_
  refine r_iload_n ok dX4_soonestAtErrand_10 1 rfl ?_
  refine r_iald ok ai_15 h.1 rfl dX4_soonestAtErrand_11 ?_
  replace h := h.2
  refine cl_X4_54 ok dX4_soonestAtErrand_12 (by decide) (Nat.le_of_ble_eq_true rfl) h (fun S1 h => ?_)
  refine r_aload_n ok dX4_soonestAtErrand_15 0 rfl ?_
  refine r_aload_n ok dX4_soonestAtErrand_16 0 rfl ?_
  refine gf_X4_25 ok dX4_soonestAtErrand_17 ?_
  refine gf_X4_51 ok isW_11 dX4_soonestAtErrand_20 ?_
  refine r_iload_n ok dX4_soonestAtErrand_23 1 rfl ?_
  refine r_iald ok ai_15 h.1 rfl dX4_soonestAtErrand_24 ?_
  replace h := h.2
  refine cl_X4_58 ok dX4_soonestAtErrand_25 (by decide) (Nat.le_of_ble_eq_true rfl) h (fun r3 S2 h => ?_)
  exact hret _ _ _ _ dX4_soonestAtErrand_28 h
theorem c_X4_soonestAtErrand (l : Launch) (G : Gx) {x1 : Int32} {S : St} {post : Int32 → St → Prop} (h : wp_X4_soonestAtErrand x1 S post) : MtI l yX4_soonestAtErrand cX4_soonestAtErrand 2 (some .int) 4 112 G [.ref (G.2.2 50), .int x1] S post :=
  ctI (by decide) rfl (Nat.le_of_ble_eq_true rfl) (fun X _ hG ok hret => by subst hG; exact w_wp_X4_soonestAtErrand ok hret h)

/-! HasteRoads$Search.lastUnsettled()I -/
theorem dX4_lastUnsettled_0 : decode cX4_lastUnsettled 0 = .ok (.iconst (-1), 1) := by decide +kernel
theorem dX4_lastUnsettled_1 : decode cX4_lastUnsettled 1 = .ok (.istore_n 1, 1) := by decide +kernel
theorem dX4_lastUnsettled_2 : decode cX4_lastUnsettled 2 = .ok (.ldc 98, 2) := by decide +kernel
theorem dX4_lastUnsettled_4 : decode cX4_lastUnsettled 4 = .ok (.istore_n 2, 1) := by decide +kernel
theorem dX4_lastUnsettled_5 : decode cX4_lastUnsettled 5 = .ok (.iconst 0, 1) := by decide +kernel
theorem dX4_lastUnsettled_6 : decode cX4_lastUnsettled 6 = .ok (.istore_n 3, 1) := by decide +kernel
theorem dX4_lastUnsettled_7 : decode cX4_lastUnsettled 7 = .ok (.iload_n 3, 1) := by decide +kernel
theorem dX4_lastUnsettled_8 : decode cX4_lastUnsettled 8 = .ok (.bipush 36, 2) := by decide +kernel
theorem dX4_lastUnsettled_10 : decode cX4_lastUnsettled 10 = .ok (.if_icmp .ge 37, 3) := by decide +kernel
theorem dX4_lastUnsettled_13 : decode cX4_lastUnsettled 13 = .ok (.aload_n 0, 1) := by decide +kernel
theorem dX4_lastUnsettled_14 : decode cX4_lastUnsettled 14 = .ok (.getfield 18, 3) := by decide +kernel
theorem dX4_lastUnsettled_17 : decode cX4_lastUnsettled 17 = .ok (.iload_n 3, 1) := by decide +kernel
theorem dX4_lastUnsettled_18 : decode cX4_lastUnsettled 18 = .ok (.baload, 1) := by decide +kernel
theorem dX4_lastUnsettled_19 : decode cX4_lastUnsettled 19 = .ok (.ifCond .ne 22, 3) := by decide +kernel
theorem dX4_lastUnsettled_22 : decode cX4_lastUnsettled 22 = .ok (.aload_n 0, 1) := by decide +kernel
theorem dX4_lastUnsettled_23 : decode cX4_lastUnsettled 23 = .ok (.getfield 15, 3) := by decide +kernel
theorem dX4_lastUnsettled_26 : decode cX4_lastUnsettled 26 = .ok (.iload_n 3, 1) := by decide +kernel
theorem dX4_lastUnsettled_27 : decode cX4_lastUnsettled 27 = .ok (.iaload, 1) := by decide +kernel
theorem dX4_lastUnsettled_28 : decode cX4_lastUnsettled 28 = .ok (.iload_n 2, 1) := by decide +kernel
theorem dX4_lastUnsettled_29 : decode cX4_lastUnsettled 29 = .ok (.if_icmp .le 12, 3) := by decide +kernel
theorem dX4_lastUnsettled_32 : decode cX4_lastUnsettled 32 = .ok (.aload_n 0, 1) := by decide +kernel
theorem dX4_lastUnsettled_33 : decode cX4_lastUnsettled 33 = .ok (.getfield 15, 3) := by decide +kernel
theorem dX4_lastUnsettled_36 : decode cX4_lastUnsettled 36 = .ok (.iload_n 3, 1) := by decide +kernel
theorem dX4_lastUnsettled_37 : decode cX4_lastUnsettled 37 = .ok (.iaload, 1) := by decide +kernel
theorem dX4_lastUnsettled_38 : decode cX4_lastUnsettled 38 = .ok (.istore_n 2, 1) := by decide +kernel
theorem dX4_lastUnsettled_39 : decode cX4_lastUnsettled 39 = .ok (.iload_n 3, 1) := by decide +kernel
theorem dX4_lastUnsettled_40 : decode cX4_lastUnsettled 40 = .ok (.istore_n 1, 1) := by decide +kernel
theorem dX4_lastUnsettled_41 : decode cX4_lastUnsettled 41 = .ok (.iinc 3 1, 3) := by decide +kernel
theorem dX4_lastUnsettled_44 : decode cX4_lastUnsettled 44 = .ok (.goto (-37), 3) := by decide +kernel
theorem dX4_lastUnsettled_47 : decode cX4_lastUnsettled 47 = .ok (.iload_n 1, 1) := by decide +kernel
theorem dX4_lastUnsettled_48 : decode cX4_lastUnsettled 48 = .ok (.ireturn, 1) := by decide +kernel
theorem gf_X4_15 {X : Cx} {cc : ByteArray} {nL pc fr lo : Nat} {L : List (Nat × Value)} {st : List Value} {S : St} (ok : Ok X cc nL RX4 fr lo) (d : decode cc pc = .ok (.getfield 15, 3)) (k : Wp X nL (pc + 3) L (.ref (xad X 52) :: st) S) : Wp X nL pc L (.ref (xad X 50) :: st) S :=
  r_get (C := RX4) (T := TX4) ok ob_50 rfl i_X4 2 (by decide) tw_fl_X4_15 d (by rw [show fvl (xad X) S 50 2 = .ref (xad X 52) from (fvl_ref (d := 52) (by decide))]; exact k)
def BD_X4_lastUnsettled_7 (k7 : Int32 → Int32 → Int32 → St → Prop) (post : Int32 → St → Prop) (x1 : Int32) (x2 : Int32) (x3 : Int32) (S : St) : Prop :=
  ((36 ≤ x3 → post x1 S) ∧ (¬ 36 ≤ x3 → vp_in x3 36 ∧ (((¬ (S 53 (ix x3)) = 0 → k7 x1 x2 (x3 + 1) S) ∧ ((S 53 (ix x3)) = 0 → vp_in x3 36 ∧ ((((S 52 (ix x3)) ≤ x2 → k7 x1 x2 (x3 + 1) S) ∧ (¬ (S 52 (ix x3)) ≤ x2 → vp_in x3 36 ∧ (∀ v4 : Int32, v4 = (S 52 (ix x3)) → k7 x3 v4 (x3 + 1) S)))))))))
def L_X4_lastUnsettled_7 (post : Int32 → St → Prop) (n : Nat) : Int32 → Int32 → Int32 → St → Prop := Nat.rec (motive := fun _ => Int32 → Int32 → Int32 → St → Prop) (fun _ _ _ _ => False) (fun _ ih => BD_X4_lastUnsettled_7 ih post) n
def B_X4_lastUnsettled_7 (post : Int32 → St → Prop) (x1 : Int32) (x2 : Int32) (x3 : Int32) (S : St) : Prop := ∃ n, L_X4_lastUnsettled_7 post n x1 x2 x3 S
def wp_X4_lastUnsettled (S : St) (post : Int32 → St → Prop) : Prop :=
  B_X4_lastUnsettled_7 post (-1) (-1000000000) 0 S
theorem w_B_X4_lastUnsettled_7 {X : Cx} (ok : Ok X cX4_lastUnsettled 4 RX4 0 0) {post : Int32 → St → Prop} (hret : RetI X cX4_lastUnsettled 4 post) {x1 x2 x3 : Int32} {S : St} (h : B_X4_lastUnsettled_7 post x1 x2 x3 S) : Wp X 4 7 [(0, .ref (xad X 50)), (1, .int x1), (2, .int x2), (3, .int x3)] [] S := by
  obtain ⟨n, h⟩ := h
  induction n generalizing x1 x2 x3 S with
  | zero => exact False.elim h
  | succ n ih =>
    have hk7 : ∀ x1 x2 x3 S, L_X4_lastUnsettled_7 post n x1 x2 x3 S → Wp X 4 7 [(0, .ref (xad X 50)), (1, .int x1), (2, .int x2), (3, .int x3)] [] S := by intros; apply ih; assumption
    replace h : BD_X4_lastUnsettled_7 (L_X4_lastUnsettled_7 post n) post x1 x2 x3 S := h
    unfold BD_X4_lastUnsettled_7 at h
    generalize L_X4_lastUnsettled_7 post n = k7 at h hk7
    refine r_iload_n ok dX4_lastUnsettled_7 3 rfl ?_
    refine r_bipush (v := 36) ok dX4_lastUnsettled_8 rfl ?_
    refine r_icmp_ge (tgt := 47) ok dX4_lastUnsettled_10 rfl (fun hc1 => ?_) (fun hc1 => ?_)
    · replace h := h.1 hc1
      refine r_iload_n ok dX4_lastUnsettled_47 1 rfl ?_
      exact hret _ _ _ _ dX4_lastUnsettled_48 h
    · replace h := h.2 hc1
      refine r_aload_n ok dX4_lastUnsettled_13 0 rfl ?_
      refine gf_X4_18 ok dX4_lastUnsettled_14 ?_
      refine r_iload_n ok dX4_lastUnsettled_17 3 rfl ?_
      refine r_zald ok az_53 h.1 rfl dX4_lastUnsettled_18 ?_
      replace h := h.2
      refine r_if_ne (tgt := 41) ok dX4_lastUnsettled_19 rfl (fun hc2 => ?_) (fun hc2 => ?_)
      · replace h := h.1 hc2
        refine r_iinc (v := x3 + 1) ok dX4_lastUnsettled_41 3 rfl rfl (by decide) [(0, .ref (xad X 50)), (1, .int x1), (2, .int x2), (3, .int (x3 + 1))] [1, 2, 3, 0] rfl ?_
        refine r_goto (tgt := 7) ok dX4_lastUnsettled_44 rfl ?_
        exact hk7 _ _ _ _ h
      · replace h := h.2 hc2
        refine r_aload_n ok dX4_lastUnsettled_22 0 rfl ?_
        refine gf_X4_15 ok dX4_lastUnsettled_23 ?_
        refine r_iload_n ok dX4_lastUnsettled_26 3 rfl ?_
        refine r_iald ok ai_52 h.1 rfl dX4_lastUnsettled_27 ?_
        replace h := h.2
        refine r_iload_n ok dX4_lastUnsettled_28 2 rfl ?_
        refine r_icmp_le (tgt := 41) ok dX4_lastUnsettled_29 rfl (fun hc3 => ?_) (fun hc3 => ?_)
        · replace h := h.1 hc3
          refine r_iinc (v := x3 + 1) ok dX4_lastUnsettled_41 3 rfl rfl (by decide) [(0, .ref (xad X 50)), (1, .int x1), (2, .int x2), (3, .int (x3 + 1))] [1, 2, 3, 0] rfl ?_
          refine r_goto (tgt := 7) ok dX4_lastUnsettled_44 rfl ?_
          exact hk7 _ _ _ _ h
        · replace h := h.2 hc3
          refine r_aload_n ok dX4_lastUnsettled_32 0 rfl ?_
          refine gf_X4_15 ok dX4_lastUnsettled_33 ?_
          refine r_iload_n ok dX4_lastUnsettled_36 3 rfl ?_
          refine r_iald ok ai_52 h.1 rfl dX4_lastUnsettled_37 ?_
          replace h := h.2
          refine r_top (fun v4 ev4 => ?_)
          replace h := h v4 ev4
          refine r_istore_n ok dX4_lastUnsettled_38 (by decide) [(0, .ref (xad X 50)), (2, .int v4), (3, .int x3)] [1, 0, 3] rfl ?_
          refine r_iload_n ok dX4_lastUnsettled_39 2 rfl ?_
          refine r_istore_n ok dX4_lastUnsettled_40 (by decide) [(0, .ref (xad X 50)), (1, .int x3), (2, .int v4), (3, .int x3)] [1, 0, 2, 3] rfl ?_
          refine r_iinc (v := x3 + 1) ok dX4_lastUnsettled_41 3 rfl rfl (by decide) [(0, .ref (xad X 50)), (1, .int x3), (2, .int v4), (3, .int (x3 + 1))] [1, 2, 3, 0] rfl ?_
          refine r_goto (tgt := 7) ok dX4_lastUnsettled_44 rfl ?_
          exact hk7 _ _ _ _ h
theorem w_wp_X4_lastUnsettled {X : Cx} (ok : Ok X cX4_lastUnsettled 4 RX4 0 0) {post : Int32 → St → Prop} (hret : RetI X cX4_lastUnsettled 4 post) {S : St} (h : wp_X4_lastUnsettled S post) : Wp X 4 0 [(0, .ref (xad X 50))] [] S := by
  unfold wp_X4_lastUnsettled at h
  refine r_iconst (v := (-1)) ok dX4_lastUnsettled_0 rfl ?_
  refine r_istore_n ok dX4_lastUnsettled_1 (by decide) [(0, .ref (xad X 50)), (1, .int (-1))] [1, 0] rfl ?_
  refine r_ldc (v := (-1000000000)) ok dX4_lastUnsettled_2 tw_k_X4_98 ?_
  refine r_istore_n ok dX4_lastUnsettled_4 (by decide) [(0, .ref (xad X 50)), (1, .int (-1)), (2, .int (-1000000000))] [1, 2, 0] rfl ?_
  refine r_iconst (v := 0) ok dX4_lastUnsettled_5 rfl ?_
  refine r_istore_n ok dX4_lastUnsettled_6 (by decide) [(0, .ref (xad X 50)), (1, .int (-1)), (2, .int (-1000000000)), (3, .int 0)] [1, 2, 3, 0] rfl ?_
  exact w_B_X4_lastUnsettled_7 ok hret h
theorem c_X4_lastUnsettled (l : Launch) (G : Gx) {S : St} {post : Int32 → St → Prop} (h : wp_X4_lastUnsettled S post) : MtI l yX4_lastUnsettled cX4_lastUnsettled 4 (some .int) 0 0 G [.ref (G.2.2 50)] S post :=
  ctI (by decide) rfl (Nat.le_of_ble_eq_true rfl) (fun X _ hG ok hret => by subst hG; exact w_wp_X4_lastUnsettled ok hret h)

/-! HasteRoads$Search.reachBack(III)V -/
theorem dX4_reachBack_0 : decode cX4_reachBack 0 = .ok (.iload_n 1, 1) := by decide +kernel
theorem dX4_reachBack_1 : decode cX4_reachBack 1 = .ok (.bipush 6, 2) := by decide +kernel
theorem dX4_reachBack_3 : decode cX4_reachBack 3 = .ok (.imul, 1) := by decide +kernel
theorem dX4_reachBack_4 : decode cX4_reachBack 4 = .ok (.iload_n 2, 1) := by decide +kernel
theorem dX4_reachBack_5 : decode cX4_reachBack 5 = .ok (.iadd, 1) := by decide +kernel
theorem dX4_reachBack_6 : decode cX4_reachBack 6 = .ok (.istore 4, 2) := by decide +kernel
theorem dX4_reachBack_8 : decode cX4_reachBack 8 = .ok (.iload_n 3, 1) := by decide +kernel
theorem dX4_reachBack_9 : decode cX4_reachBack 9 = .ok (.aload_n 0, 1) := by decide +kernel
theorem dX4_reachBack_10 : decode cX4_reachBack 10 = .ok (.getfield 15, 3) := by decide +kernel
theorem dX4_reachBack_13 : decode cX4_reachBack 13 = .ok (.iload 4, 2) := by decide +kernel
theorem dX4_reachBack_15 : decode cX4_reachBack 15 = .ok (.iaload, 1) := by decide +kernel
theorem dX4_reachBack_16 : decode cX4_reachBack 16 = .ok (.if_icmp .le 11, 3) := by decide +kernel
theorem dX4_reachBack_19 : decode cX4_reachBack 19 = .ok (.aload_n 0, 1) := by decide +kernel
theorem dX4_reachBack_20 : decode cX4_reachBack 20 = .ok (.getfield 15, 3) := by decide +kernel
theorem dX4_reachBack_23 : decode cX4_reachBack 23 = .ok (.iload 4, 2) := by decide +kernel
theorem dX4_reachBack_25 : decode cX4_reachBack 25 = .ok (.iload_n 3, 1) := by decide +kernel
theorem dX4_reachBack_26 : decode cX4_reachBack 26 = .ok (.iastore, 1) := by decide +kernel
theorem dX4_reachBack_27 : decode cX4_reachBack 27 = .ok (.return_, 1) := by decide +kernel

def wp_X4_reachBack (x1 : Int32) (x2 : Int32) (x3 : Int32) (S : St) (post : St → Prop) : Prop :=
  ∀ v1 : Int32, v1 = ((x1 * 6) + x2) → vp_in v1 36 ∧ (((x3 ≤ (S 52 (ix v1)) → post S) ∧ (¬ x3 ≤ (S 52 (ix v1)) → vp_in v1 36 ∧ (∀ S3 : St, S3 = up S 52 (ix v1) x3 → post S3))))
theorem w_wp_X4_reachBack {X : Cx} (ok : Ok X cX4_reachBack 5 RX4 0 0) {post : St → Prop} (hret : RetV X cX4_reachBack 5 post) {x1 x2 x3 : Int32} {S : St} (h : wp_X4_reachBack x1 x2 x3 S post) : Wp X 5 0 [(0, .ref (xad X 50)), (1, .int x1), (2, .int x2), (3, .int x3)] [] S := by
  unfold wp_X4_reachBack at h
  refine r_iload_n ok dX4_reachBack_0 1 rfl ?_
  refine r_bipush (v := 6) ok dX4_reachBack_1 rfl ?_
  refine r_imul ok dX4_reachBack_3 ?_
  refine r_iload_n ok dX4_reachBack_4 2 rfl ?_
  refine r_iadd ok dX4_reachBack_5 ?_
  refine r_top (fun v1 ev1 => ?_)
  replace h := h v1 ev1
  refine r_istore ok dX4_reachBack_6 (by decide) [(0, .ref (xad X 50)), (3, .int x3), (4, .int v1)] [1, 4, 0] rfl ?_
  refine r_iload_n ok dX4_reachBack_8 1 rfl ?_
  refine r_aload_n ok dX4_reachBack_9 0 rfl ?_
  refine gf_X4_15 ok dX4_reachBack_10 ?_
  refine r_iload ok dX4_reachBack_13 2 rfl ?_
  refine r_iald ok ai_52 h.1 rfl dX4_reachBack_15 ?_
  replace h := h.2
  refine r_icmp_le (tgt := 27) ok dX4_reachBack_16 rfl (fun hc2 => ?_) (fun hc2 => ?_)
  · replace h := h.1 hc2
    exact hret _ _ _ dX4_reachBack_27 h
  · replace h := h.2 hc2
    refine r_aload_n ok dX4_reachBack_19 0 rfl ?_
    refine gf_X4_15 ok dX4_reachBack_20 ?_
    refine r_iload ok dX4_reachBack_23 2 rfl ?_
    refine r_iload_n ok dX4_reachBack_25 1 rfl ?_
    have hi4 := h.1
    replace h := h.2
    refine r_iast ok ai_52 hi4 rfl dX4_reachBack_26 (fun S3 eS3 => ?_)
    replace h := h S3 eS3
    exact hret _ _ _ dX4_reachBack_27 h
theorem c_X4_reachBack (l : Launch) (G : Gx) {x1 x2 x3 : Int32} {S : St} {post : St → Prop} (h : wp_X4_reachBack x1 x2 x3 S post) : MtV l yX4_reachBack cX4_reachBack 5 0 0 G [.ref (G.2.2 50), .int x1, .int x2, .int x3] S post :=
  ctV (by decide) rfl (Nat.le_of_ble_eq_true rfl) (fun X _ hG ok hret => by subst hG; exact w_wp_X4_reachBack ok hret h)

/-! HasteRoads$Search.leavesBy(IIIII)I -/
theorem dX4_leavesBy_0 : decode cX4_leavesBy 0 = .ok (.aload_n 0, 1) := by decide +kernel
theorem dX4_leavesBy_1 : decode cX4_leavesBy 1 = .ok (.getfield 25, 3) := by decide +kernel
theorem dX4_leavesBy_4 : decode cX4_leavesBy 4 = .ok (.getfield 114, 3) := by decide +kernel
theorem dX4_leavesBy_7 : decode cX4_leavesBy 7 = .ok (.iload_n 1, 1) := by decide +kernel
theorem dX4_leavesBy_8 : decode cX4_leavesBy 8 = .ok (.iaload, 1) := by decide +kernel
theorem dX4_leavesBy_9 : decode cX4_leavesBy 9 = .ok (.istore 6, 2) := by decide +kernel
theorem dX4_leavesBy_11 : decode cX4_leavesBy 11 = .ok (.iload 5, 2) := by decide +kernel
theorem dX4_leavesBy_13 : decode cX4_leavesBy 13 = .ok (.aload_n 0, 1) := by decide +kernel
theorem dX4_leavesBy_14 : decode cX4_leavesBy 14 = .ok (.getfield 25, 3) := by decide +kernel
theorem dX4_leavesBy_17 : decode cX4_leavesBy 17 = .ok (.iload_n 1, 1) := by decide +kernel
theorem dX4_leavesBy_18 : decode cX4_leavesBy 18 = .ok (.iload_n 2, 1) := by decide +kernel
theorem dX4_leavesBy_19 : decode cX4_leavesBy 19 = .ok (.iload_n 3, 1) := by decide +kernel
theorem dX4_leavesBy_20 : decode cX4_leavesBy 20 = .ok (.iload 6, 2) := by decide +kernel
theorem dX4_leavesBy_22 : decode cX4_leavesBy 22 = .ok (.iconst 1, 1) := by decide +kernel
theorem dX4_leavesBy_23 : decode cX4_leavesBy 23 = .ok (.iadd, 1) := by decide +kernel
theorem dX4_leavesBy_24 : decode cX4_leavesBy 24 = .ok (.iload 4, 2) := by decide +kernel
theorem dX4_leavesBy_26 : decode cX4_leavesBy 26 = .ok (.invokevirtual 117, 3) := by decide +kernel
theorem dX4_leavesBy_29 : decode cX4_leavesBy 29 = .ok (.isub, 1) := by decide +kernel
theorem dX4_leavesBy_30 : decode cX4_leavesBy 30 = .ok (.istore 7, 2) := by decide +kernel
theorem dX4_leavesBy_32 : decode cX4_leavesBy 32 = .ok (.iload 7, 2) := by decide +kernel
theorem dX4_leavesBy_34 : decode cX4_leavesBy 34 = .ok (.iload 6, 2) := by decide +kernel
theorem dX4_leavesBy_36 : decode cX4_leavesBy 36 = .ok (.if_icmp .le 6, 3) := by decide +kernel
theorem dX4_leavesBy_39 : decode cX4_leavesBy 39 = .ok (.iload 7, 2) := by decide +kernel
theorem dX4_leavesBy_41 : decode cX4_leavesBy 41 = .ok (.ireturn, 1) := by decide +kernel
theorem dX4_leavesBy_42 : decode cX4_leavesBy 42 = .ok (.iload 6, 2) := by decide +kernel
theorem dX4_leavesBy_44 : decode cX4_leavesBy 44 = .ok (.iload 5, 2) := by decide +kernel
theorem dX4_leavesBy_46 : decode cX4_leavesBy 46 = .ok (.aload_n 0, 1) := by decide +kernel
theorem dX4_leavesBy_47 : decode cX4_leavesBy 47 = .ok (.getfield 25, 3) := by decide +kernel
theorem dX4_leavesBy_50 : decode cX4_leavesBy 50 = .ok (.iload_n 1, 1) := by decide +kernel
theorem dX4_leavesBy_51 : decode cX4_leavesBy 51 = .ok (.iload_n 2, 1) := by decide +kernel
theorem dX4_leavesBy_52 : decode cX4_leavesBy 52 = .ok (.iload_n 3, 1) := by decide +kernel
theorem dX4_leavesBy_53 : decode cX4_leavesBy 53 = .ok (.iload 6, 2) := by decide +kernel
theorem dX4_leavesBy_55 : decode cX4_leavesBy 55 = .ok (.iload 4, 2) := by decide +kernel
theorem dX4_leavesBy_57 : decode cX4_leavesBy 57 = .ok (.invokevirtual 117, 3) := by decide +kernel
theorem dX4_leavesBy_60 : decode cX4_leavesBy 60 = .ok (.isub, 1) := by decide +kernel
theorem dX4_leavesBy_61 : decode cX4_leavesBy 61 = .ok (.invokestatic 45, 3) := by decide +kernel
theorem dX4_leavesBy_64 : decode cX4_leavesBy 64 = .ok (.istore 8, 2) := by decide +kernel
theorem dX4_leavesBy_66 : decode cX4_leavesBy 66 = .ok (.iload 8, 2) := by decide +kernel
theorem dX4_leavesBy_68 : decode cX4_leavesBy 68 = .ok (.iload 6, 2) := by decide +kernel
theorem dX4_leavesBy_70 : decode cX4_leavesBy 70 = .ok (.bipush 10, 2) := by decide +kernel
theorem dX4_leavesBy_72 : decode cX4_leavesBy 72 = .ok (.isub, 1) := by decide +kernel
theorem dX4_leavesBy_73 : decode cX4_leavesBy 73 = .ok (.if_icmp .le 6, 3) := by decide +kernel
theorem dX4_leavesBy_76 : decode cX4_leavesBy 76 = .ok (.iload 8, 2) := by decide +kernel
theorem dX4_leavesBy_78 : decode cX4_leavesBy 78 = .ok (.ireturn, 1) := by decide +kernel
theorem dX4_leavesBy_79 : decode cX4_leavesBy 79 = .ok (.iload 6, 2) := by decide +kernel
theorem dX4_leavesBy_81 : decode cX4_leavesBy 81 = .ok (.bipush 10, 2) := by decide +kernel
theorem dX4_leavesBy_83 : decode cX4_leavesBy 83 = .ok (.isub, 1) := by decide +kernel
theorem dX4_leavesBy_84 : decode cX4_leavesBy 84 = .ok (.iload 5, 2) := by decide +kernel
theorem dX4_leavesBy_86 : decode cX4_leavesBy 86 = .ok (.aload_n 0, 1) := by decide +kernel
theorem dX4_leavesBy_87 : decode cX4_leavesBy 87 = .ok (.getfield 25, 3) := by decide +kernel
theorem dX4_leavesBy_90 : decode cX4_leavesBy 90 = .ok (.iload_n 1, 1) := by decide +kernel
theorem dX4_leavesBy_91 : decode cX4_leavesBy 91 = .ok (.iload_n 2, 1) := by decide +kernel
theorem dX4_leavesBy_92 : decode cX4_leavesBy 92 = .ok (.iload_n 3, 1) := by decide +kernel
theorem dX4_leavesBy_93 : decode cX4_leavesBy 93 = .ok (.iload 6, 2) := by decide +kernel
theorem dX4_leavesBy_95 : decode cX4_leavesBy 95 = .ok (.bipush 10, 2) := by decide +kernel
theorem dX4_leavesBy_97 : decode cX4_leavesBy 97 = .ok (.isub, 1) := by decide +kernel
theorem dX4_leavesBy_98 : decode cX4_leavesBy 98 = .ok (.iload 4, 2) := by decide +kernel
theorem dX4_leavesBy_100 : decode cX4_leavesBy 100 = .ok (.invokevirtual 117, 3) := by decide +kernel
theorem dX4_leavesBy_103 : decode cX4_leavesBy 103 = .ok (.isub, 1) := by decide +kernel
theorem dX4_leavesBy_104 : decode cX4_leavesBy 104 = .ok (.invokestatic 45, 3) := by decide +kernel
theorem dX4_leavesBy_107 : decode cX4_leavesBy 107 = .ok (.ireturn, 1) := by decide +kernel
theorem gf_X4_114 {X : Cx} {cc : ByteArray} {nL pc fr lo : Nat} {L : List (Nat × Value)} {st : List Value} {S : St} (ok : Ok X cc nL RX4 fr lo) {o : Nat} (ho : isW o) (d : decode cc pc = .ok (.getfield 114, 3)) (k : Wp X nL (pc + 3) L (.ref (xad X (o + 6)) :: st) S) : Wp X nL pc L (.ref (xad X o) :: st) S :=
  r_get (C := RX6) (T := TX6) ok ho.ob rfl i_X6 11 (by decide) tw_fl_X4_114 d (by rw [show fvl (xad X) S o 11 = .ref (xad X (o + 6)) from (fvl_ref (d := o + 6) (ho.rr 5 (by decide)))]; exact k)
theorem cl_X4_117 {X : Cx} {cc : ByteArray} {nL pc fr lo : Nat} {L : List (Nat × Value)} {st : List Value} {S : St} (ok : Ok X cc nL RX4 fr lo) {o : Nat} (ho : isW o) {x1 x2 x3 x4 x5 : Int32} (d : decode cc pc = .ok (.invokevirtual 117, 3)) (hroom : 2 ≤ fr ∧ 50 ≤ lo) (hst : (st.map fun v => v.category).sum ≤ 8) {post : Int32 → St → Prop} (h : wp_X6_lasts o x1 x2 x3 x4 x5 S post) (kk : ∀ (r : Int32) (S1 : St), post r S1 → Wp X nL (pc + 3) L (.int r :: st) S1) : Wp X nL pc L (.int x5 :: .int x4 :: .int x3 :: .int x2 :: .int x1 :: .ref (xad X o) :: st) S :=
  r_callVi (n := 6) (f := 1) (lo1 := 25) (N := 5) (As := [.int x1, .int x2, .int x3, .int x4, .int x5]) ok tw_in_X6 tw_im_X6_lasts tw_se_X6_lasts tw_co_X6_lasts tw_ml_X4_117 (by decide +kernel) rfl ho.ob rfl hroom hst d rfl (c_X6_lasts (xl X) (xG X) ho h) kk
def wp_X4_leavesBy (x1 : Int32) (x2 : Int32) (x3 : Int32) (x4 : Int32) (x5 : Int32) (S : St) (post : Int32 → St → Prop) : Prop :=
  vp_in x1 4 ∧ (∀ v1 : Int32, v1 = (S 17 (ix x1)) → wp_X6_lasts 11 x1 x2 x3 (v1 + 1) x4 S (fun r3 S2 => ∀ v4 : Int32, v4 = (x5 - r3) → ((v4 ≤ v1 → wp_X6_lasts 11 x1 x2 x3 v1 x4 S2 (fun r7 S6 => ∀ v8 : Int32, v8 = (if (x5 - r7) < v1 then (x5 - r7) else v1) → ((v8 ≤ (v1 - 10) → wp_X6_lasts 11 x1 x2 x3 (v1 - 10) x4 S6 (fun r11 S10 => post (if (x5 - r11) < (v1 - 10) then (x5 - r11) else (v1 - 10)) S10)) ∧ (¬ v8 ≤ (v1 - 10) → post v8 S6)))) ∧ (¬ v4 ≤ v1 → post v4 S2))))
theorem w_wp_X4_leavesBy {X : Cx} (ok : Ok X cX4_leavesBy 9 RX4 2 50) {post : Int32 → St → Prop} (hret : RetI X cX4_leavesBy 9 post) {x1 x2 x3 x4 x5 : Int32} {S : St} (h : wp_X4_leavesBy x1 x2 x3 x4 x5 S post) : Wp X 9 0 [(0, .ref (xad X 50)), (1, .int x1), (2, .int x2), (3, .int x3), (4, .int x4), (5, .int x5)] [] S := by
  unfold wp_X4_leavesBy at h
  refine r_aload_n ok dX4_leavesBy_0 0 rfl ?_
  refine gf_X4_25 ok dX4_leavesBy_1 ?_
  refine gf_X4_114 ok isW_11 dX4_leavesBy_4 ?_
  refine r_iload_n ok dX4_leavesBy_7 1 rfl ?_
  refine r_iald ok ai_17 h.1 rfl dX4_leavesBy_8 ?_
  replace h := h.2
  refine r_top (fun v1 ev1 => ?_)
  replace h := h v1 ev1
  refine r_istore ok dX4_leavesBy_9 (by decide) [(0, .ref (xad X 50)), (1, .int x1), (2, .int x2), (3, .int x3), (4, .int x4), (5, .int x5), (6, .int v1)] [1, 2, 3, 4, 5, 6, 0] rfl ?_
  refine r_iload ok dX4_leavesBy_11 5 rfl ?_
  refine r_aload_n ok dX4_leavesBy_13 0 rfl ?_
  refine gf_X4_25 ok dX4_leavesBy_14 ?_
  refine r_iload_n ok dX4_leavesBy_17 1 rfl ?_
  refine r_iload_n ok dX4_leavesBy_18 2 rfl ?_
  refine r_iload_n ok dX4_leavesBy_19 3 rfl ?_
  refine r_iload ok dX4_leavesBy_20 6 rfl ?_
  refine r_iconst (v := 1) ok dX4_leavesBy_22 rfl ?_
  refine r_iadd ok dX4_leavesBy_23 ?_
  refine r_iload ok dX4_leavesBy_24 4 rfl ?_
  refine cl_X4_117 ok isW_11 dX4_leavesBy_26 (by decide) (Nat.le_of_ble_eq_true rfl) h (fun r3 S2 h => ?_)
  refine r_isub ok dX4_leavesBy_29 ?_
  refine r_top (fun v4 ev4 => ?_)
  replace h := h v4 ev4
  refine r_istore ok dX4_leavesBy_30 (by decide) [(0, .ref (xad X 50)), (1, .int x1), (2, .int x2), (3, .int x3), (4, .int x4), (5, .int x5), (6, .int v1), (7, .int v4)] [1, 2, 3, 4, 5, 6, 7, 0] rfl ?_
  refine r_iload ok dX4_leavesBy_32 7 rfl ?_
  refine r_iload ok dX4_leavesBy_34 6 rfl ?_
  refine r_icmp_le (tgt := 42) ok dX4_leavesBy_36 rfl (fun hc5 => ?_) (fun hc5 => ?_)
  · replace h := h.1 hc5
    refine r_iload ok dX4_leavesBy_42 6 rfl ?_
    refine r_iload ok dX4_leavesBy_44 5 rfl ?_
    refine r_aload_n ok dX4_leavesBy_46 0 rfl ?_
    refine gf_X4_25 ok dX4_leavesBy_47 ?_
    refine r_iload_n ok dX4_leavesBy_50 1 rfl ?_
    refine r_iload_n ok dX4_leavesBy_51 2 rfl ?_
    refine r_iload_n ok dX4_leavesBy_52 3 rfl ?_
    refine r_iload ok dX4_leavesBy_53 6 rfl ?_
    refine r_iload ok dX4_leavesBy_55 4 rfl ?_
    refine cl_X4_117 ok isW_11 dX4_leavesBy_57 (by decide) (Nat.le_of_ble_eq_true rfl) h (fun r7 S6 h => ?_)
    refine r_isub ok dX4_leavesBy_60 ?_
    refine r_min ok dX4_leavesBy_61 tw_ml_X4_45 tw_st_Math_min tw_in_Math tw_co_Math_min (by decide) (Nat.le_of_ble_eq_true rfl) ?_
    refine r_top (fun v8 ev8 => ?_)
    replace h := h v8 ev8
    refine r_istore ok dX4_leavesBy_64 (by decide) [(0, .ref (xad X 50)), (1, .int x1), (2, .int x2), (3, .int x3), (4, .int x4), (5, .int x5), (6, .int v1), (8, .int v8)] [1, 2, 3, 4, 5, 6, 7, 0] rfl ?_
    refine r_iload ok dX4_leavesBy_66 7 rfl ?_
    refine r_iload ok dX4_leavesBy_68 6 rfl ?_
    refine r_bipush (v := 10) ok dX4_leavesBy_70 rfl ?_
    refine r_isub ok dX4_leavesBy_72 ?_
    refine r_icmp_le (tgt := 79) ok dX4_leavesBy_73 rfl (fun hc9 => ?_) (fun hc9 => ?_)
    · replace h := h.1 hc9
      refine r_iload ok dX4_leavesBy_79 6 rfl ?_
      refine r_bipush (v := 10) ok dX4_leavesBy_81 rfl ?_
      refine r_isub ok dX4_leavesBy_83 ?_
      refine r_iload ok dX4_leavesBy_84 5 rfl ?_
      refine r_aload_n ok dX4_leavesBy_86 0 rfl ?_
      refine gf_X4_25 ok dX4_leavesBy_87 ?_
      refine r_iload_n ok dX4_leavesBy_90 1 rfl ?_
      refine r_iload_n ok dX4_leavesBy_91 2 rfl ?_
      refine r_iload_n ok dX4_leavesBy_92 3 rfl ?_
      refine r_iload ok dX4_leavesBy_93 6 rfl ?_
      refine r_bipush (v := 10) ok dX4_leavesBy_95 rfl ?_
      refine r_isub ok dX4_leavesBy_97 ?_
      refine r_iload ok dX4_leavesBy_98 4 rfl ?_
      refine cl_X4_117 ok isW_11 dX4_leavesBy_100 (by decide) (Nat.le_of_ble_eq_true rfl) h (fun r11 S10 h => ?_)
      refine r_isub ok dX4_leavesBy_103 ?_
      refine r_min ok dX4_leavesBy_104 tw_ml_X4_45 tw_st_Math_min tw_in_Math tw_co_Math_min (by decide) (Nat.le_of_ble_eq_true rfl) ?_
      exact hret _ _ _ _ dX4_leavesBy_107 h
    · replace h := h.2 hc9
      refine r_iload ok dX4_leavesBy_76 7 rfl ?_
      exact hret _ _ _ _ dX4_leavesBy_78 h
  · replace h := h.2 hc5
    refine r_iload ok dX4_leavesBy_39 7 rfl ?_
    exact hret _ _ _ _ dX4_leavesBy_41 h
theorem c_X4_leavesBy (l : Launch) (G : Gx) {x1 x2 x3 x4 x5 : Int32} {S : St} {post : Int32 → St → Prop} (h : wp_X4_leavesBy x1 x2 x3 x4 x5 S post) : MtI l yX4_leavesBy cX4_leavesBy 9 (some .int) 2 50 G [.ref (G.2.2 50), .int x1, .int x2, .int x3, .int x4, .int x5] S post :=
  ctI (by decide) rfl (Nat.le_of_ble_eq_true rfl) (fun X _ hG ok hret => by subst hG; exact w_wp_X4_leavesBy ok hret h)

/-! HasteRoads$Search.spreadBack(II)V -/
theorem dX4_spreadBack_0 : decode cX4_spreadBack 0 = .ok (.iload_n 2, 1) := by decide +kernel
theorem dX4_spreadBack_1 : decode cX4_spreadBack 1 = .ok (.bipush 6, 2) := by decide +kernel
theorem dX4_spreadBack_3 : decode cX4_spreadBack 3 = .ok (.idiv, 1) := by decide +kernel
theorem dX4_spreadBack_4 : decode cX4_spreadBack 4 = .ok (.istore_n 3, 1) := by decide +kernel
theorem dX4_spreadBack_5 : decode cX4_spreadBack 5 = .ok (.iload_n 2, 1) := by decide +kernel
theorem dX4_spreadBack_6 : decode cX4_spreadBack 6 = .ok (.bipush 6, 2) := by decide +kernel
theorem dX4_spreadBack_8 : decode cX4_spreadBack 8 = .ok (.irem, 1) := by decide +kernel
theorem dX4_spreadBack_9 : decode cX4_spreadBack 9 = .ok (.istore 4, 2) := by decide +kernel
theorem dX4_spreadBack_11 : decode cX4_spreadBack 11 = .ok (.aload_n 0, 1) := by decide +kernel
theorem dX4_spreadBack_12 : decode cX4_spreadBack 12 = .ok (.getfield 15, 3) := by decide +kernel
theorem dX4_spreadBack_15 : decode cX4_spreadBack 15 = .ok (.iload_n 2, 1) := by decide +kernel
theorem dX4_spreadBack_16 : decode cX4_spreadBack 16 = .ok (.iaload, 1) := by decide +kernel
theorem dX4_spreadBack_17 : decode cX4_spreadBack 17 = .ok (.istore 5, 2) := by decide +kernel
theorem dX4_spreadBack_19 : decode cX4_spreadBack 19 = .ok (.aload_n 0, 1) := by decide +kernel
theorem dX4_spreadBack_20 : decode cX4_spreadBack 20 = .ok (.getfield 25, 3) := by decide +kernel
theorem dX4_spreadBack_23 : decode cX4_spreadBack 23 = .ok (.iload_n 3, 1) := by decide +kernel
theorem dX4_spreadBack_24 : decode cX4_spreadBack 24 = .ok (.invokevirtual 78, 3) := by decide +kernel
theorem dX4_spreadBack_27 : decode cX4_spreadBack 27 = .ok (.ifCond .eq 21, 3) := by decide +kernel
theorem dX4_spreadBack_30 : decode cX4_spreadBack 30 = .ok (.iload 4, 2) := by decide +kernel
theorem dX4_spreadBack_32 : decode cX4_spreadBack 32 = .ok (.ifCond .le 16, 3) := by decide +kernel
theorem dX4_spreadBack_35 : decode cX4_spreadBack 35 = .ok (.aload_n 0, 1) := by decide +kernel
theorem dX4_spreadBack_36 : decode cX4_spreadBack 36 = .ok (.iload_n 3, 1) := by decide +kernel
theorem dX4_spreadBack_37 : decode cX4_spreadBack 37 = .ok (.iload 4, 2) := by decide +kernel
theorem dX4_spreadBack_39 : decode cX4_spreadBack 39 = .ok (.iconst 1, 1) := by decide +kernel
theorem dX4_spreadBack_40 : decode cX4_spreadBack 40 = .ok (.isub, 1) := by decide +kernel
theorem dX4_spreadBack_41 : decode cX4_spreadBack 41 = .ok (.iload 5, 2) := by decide +kernel
theorem dX4_spreadBack_43 : decode cX4_spreadBack 43 = .ok (.iconst 1, 1) := by decide +kernel
theorem dX4_spreadBack_44 : decode cX4_spreadBack 44 = .ok (.isub, 1) := by decide +kernel
theorem dX4_spreadBack_45 : decode cX4_spreadBack 45 = .ok (.invokevirtual 107, 3) := by decide +kernel
theorem dX4_spreadBack_48 : decode cX4_spreadBack 48 = .ok (.iconst 0, 1) := by decide +kernel
theorem dX4_spreadBack_49 : decode cX4_spreadBack 49 = .ok (.istore 6, 2) := by decide +kernel
theorem dX4_spreadBack_51 : decode cX4_spreadBack 51 = .ok (.iload 6, 2) := by decide +kernel
theorem dX4_spreadBack_53 : decode cX4_spreadBack 53 = .ok (.aload_n 0, 1) := by decide +kernel
theorem dX4_spreadBack_54 : decode cX4_spreadBack 54 = .ok (.getfield 25, 3) := by decide +kernel
theorem dX4_spreadBack_57 : decode cX4_spreadBack 57 = .ok (.getfield 89, 3) := by decide +kernel
theorem dX4_spreadBack_60 : decode cX4_spreadBack 60 = .ok (.if_icmp .ge 72, 3) := by decide +kernel
theorem dX4_spreadBack_63 : decode cX4_spreadBack 63 = .ok (.aload_n 0, 1) := by decide +kernel
theorem dX4_spreadBack_64 : decode cX4_spreadBack 64 = .ok (.getfield 25, 3) := by decide +kernel
theorem dX4_spreadBack_67 : decode cX4_spreadBack 67 = .ok (.iload 6, 2) := by decide +kernel
theorem dX4_spreadBack_69 : decode cX4_spreadBack 69 = .ok (.iload_n 3, 1) := by decide +kernel
theorem dX4_spreadBack_70 : decode cX4_spreadBack 70 = .ok (.invokevirtual 92, 3) := by decide +kernel
theorem dX4_spreadBack_73 : decode cX4_spreadBack 73 = .ok (.istore 7, 2) := by decide +kernel
theorem dX4_spreadBack_75 : decode cX4_spreadBack 75 = .ok (.iload 7, 2) := by decide +kernel
theorem dX4_spreadBack_77 : decode cX4_spreadBack 77 = .ok (.iconst (-1), 1) := by decide +kernel
theorem dX4_spreadBack_78 : decode cX4_spreadBack 78 = .ok (.if_icmp .ne 6, 3) := by decide +kernel
theorem dX4_spreadBack_81 : decode cX4_spreadBack 81 = .ok (.goto 45, 3) := by decide +kernel
theorem dX4_spreadBack_84 : decode cX4_spreadBack 84 = .ok (.iconst 0, 1) := by decide +kernel
theorem dX4_spreadBack_85 : decode cX4_spreadBack 85 = .ok (.istore 8, 2) := by decide +kernel
theorem dX4_spreadBack_87 : decode cX4_spreadBack 87 = .ok (.iload 4, 2) := by decide +kernel
theorem dX4_spreadBack_89 : decode cX4_spreadBack 89 = .ok (.iload 8, 2) := by decide +kernel
theorem dX4_spreadBack_91 : decode cX4_spreadBack 91 = .ok (.iadd, 1) := by decide +kernel
theorem dX4_spreadBack_92 : decode cX4_spreadBack 92 = .ok (.iconst 5, 1) := by decide +kernel
theorem dX4_spreadBack_93 : decode cX4_spreadBack 93 = .ok (.if_icmp .gt 33, 3) := by decide +kernel
theorem dX4_spreadBack_96 : decode cX4_spreadBack 96 = .ok (.aload_n 0, 1) := by decide +kernel
theorem dX4_spreadBack_97 : decode cX4_spreadBack 97 = .ok (.iload 7, 2) := by decide +kernel
theorem dX4_spreadBack_99 : decode cX4_spreadBack 99 = .ok (.iload 4, 2) := by decide +kernel
theorem dX4_spreadBack_101 : decode cX4_spreadBack 101 = .ok (.iload 8, 2) := by decide +kernel
theorem dX4_spreadBack_103 : decode cX4_spreadBack 103 = .ok (.iadd, 1) := by decide +kernel
theorem dX4_spreadBack_104 : decode cX4_spreadBack 104 = .ok (.aload_n 0, 1) := by decide +kernel
theorem dX4_spreadBack_105 : decode cX4_spreadBack 105 = .ok (.iload_n 1, 1) := by decide +kernel
theorem dX4_spreadBack_106 : decode cX4_spreadBack 106 = .ok (.iload 6, 2) := by decide +kernel
theorem dX4_spreadBack_108 : decode cX4_spreadBack 108 = .ok (.iload 7, 2) := by decide +kernel
theorem dX4_spreadBack_110 : decode cX4_spreadBack 110 = .ok (.iload 8, 2) := by decide +kernel
theorem dX4_spreadBack_112 : decode cX4_spreadBack 112 = .ok (.iload 5, 2) := by decide +kernel
theorem dX4_spreadBack_114 : decode cX4_spreadBack 114 = .ok (.invokevirtual 110, 3) := by decide +kernel
theorem dX4_spreadBack_117 : decode cX4_spreadBack 117 = .ok (.invokevirtual 107, 3) := by decide +kernel
theorem dX4_spreadBack_120 : decode cX4_spreadBack 120 = .ok (.iinc 8 1, 3) := by decide +kernel
theorem dX4_spreadBack_123 : decode cX4_spreadBack 123 = .ok (.goto (-36), 3) := by decide +kernel
theorem dX4_spreadBack_126 : decode cX4_spreadBack 126 = .ok (.iinc 6 1, 3) := by decide +kernel
theorem dX4_spreadBack_129 : decode cX4_spreadBack 129 = .ok (.goto (-78), 3) := by decide +kernel
theorem dX4_spreadBack_132 : decode cX4_spreadBack 132 = .ok (.return_, 1) := by decide +kernel
theorem cl_X4_107 {X : Cx} {cc : ByteArray} {nL pc fr lo : Nat} {L : List (Nat × Value)} {st : List Value} {S : St} (ok : Ok X cc nL RX4 fr lo) {x1 x2 x3 : Int32} (d : decode cc pc = .ok (.invokevirtual 107, 3)) (hroom : 1 ≤ fr ∧ 24 ≤ lo) (hst : (st.map fun v => v.category).sum ≤ 8) {post : St → Prop} (h : wp_X4_reachBack x1 x2 x3 S post) (kk : ∀ S1 : St, post S1 → Wp X nL (pc + 3) L st S1) : Wp X nL pc L (.int x3 :: .int x2 :: .int x1 :: .ref (xad X 50) :: st) S :=
  r_callVv (n := 5) (f := 0) (lo1 := 0) (N := 3) (As := [.int x1, .int x2, .int x3]) ok tw_in_X4 tw_im_X4_reachBack tw_se_X4_reachBack tw_co_X4_reachBack tw_ml_X4_107 (by decide +kernel) rfl ob_50 rfl hroom hst d rfl (c_X4_reachBack (xl X) (xG X) h) kk
theorem cl_X4_110 {X : Cx} {cc : ByteArray} {nL pc fr lo : Nat} {L : List (Nat × Value)} {st : List Value} {S : St} (ok : Ok X cc nL RX4 fr lo) {x1 x2 x3 x4 x5 : Int32} (d : decode cc pc = .ok (.invokevirtual 110, 3)) (hroom : 3 ≤ fr ∧ 78 ≤ lo) (hst : (st.map fun v => v.category).sum ≤ 8) {post : Int32 → St → Prop} (h : wp_X4_leavesBy x1 x2 x3 x4 x5 S post) (kk : ∀ (r : Int32) (S1 : St), post r S1 → Wp X nL (pc + 3) L (.int r :: st) S1) : Wp X nL pc L (.int x5 :: .int x4 :: .int x3 :: .int x2 :: .int x1 :: .ref (xad X 50) :: st) S :=
  r_callVi (n := 9) (f := 2) (lo1 := 50) (N := 5) (As := [.int x1, .int x2, .int x3, .int x4, .int x5]) ok tw_in_X4 tw_im_X4_leavesBy tw_se_X4_leavesBy tw_co_X4_leavesBy tw_ml_X4_110 (by decide +kernel) rfl ob_50 rfl hroom hst d rfl (c_X4_leavesBy (xl X) (xG X) h) kk
def BD_X4_spreadBack_87 (k51 : Int32 → Int32 → Int32 → Int32 → Int32 → St → Prop) (k87 : Int32 → Int32 → Int32 → Int32 → Int32 → Int32 → Int32 → St → Prop) (post : St → Prop) (x1 : Int32) (x3 : Int32) (x4 : Int32) (x5 : Int32) (x6 : Int32) (x7 : Int32) (x8 : Int32) (S : St) : Prop :=
  ((5 < (x4 + x8) → k51 x1 x3 x4 x5 (x6 + 1) S) ∧ (¬ 5 < (x4 + x8) → wp_X4_leavesBy x1 x6 x7 x8 x5 S (fun r3 S2 => wp_X4_reachBack x7 (x4 + x8) r3 S2 (fun S4 => k87 x1 x3 x4 x5 x6 x7 (x8 + 1) S4))))
def L_X4_spreadBack_87 (k51 : Int32 → Int32 → Int32 → Int32 → Int32 → St → Prop) (post : St → Prop) (n : Nat) : Int32 → Int32 → Int32 → Int32 → Int32 → Int32 → Int32 → St → Prop := Nat.rec (motive := fun _ => Int32 → Int32 → Int32 → Int32 → Int32 → Int32 → Int32 → St → Prop) (fun _ _ _ _ _ _ _ _ => False) (fun _ ih => BD_X4_spreadBack_87 k51 ih post) n
def B_X4_spreadBack_87 (k51 : Int32 → Int32 → Int32 → Int32 → Int32 → St → Prop) (post : St → Prop) (x1 : Int32) (x3 : Int32) (x4 : Int32) (x5 : Int32) (x6 : Int32) (x7 : Int32) (x8 : Int32) (S : St) : Prop := ∃ n, L_X4_spreadBack_87 k51 post n x1 x3 x4 x5 x6 x7 x8 S
def BD_X4_spreadBack_51 (k51 : Int32 → Int32 → Int32 → Int32 → Int32 → St → Prop) (post : St → Prop) (x1 : Int32) (x3 : Int32) (x4 : Int32) (x5 : Int32) (x6 : Int32) (S : St) : Prop :=
  (((S 11 1) ≤ x6 → post S) ∧ (¬ (S 11 1) ≤ x6 → wp_X6_otherEnd 11 x6 x3 S (fun r3 S2 => ((¬ r3 = (-1) → B_X4_spreadBack_87 k51 post x1 x3 x4 x5 x6 r3 0 S2) ∧ (r3 = (-1) → k51 x1 x3 x4 x5 (x6 + 1) S2)))))
def L_X4_spreadBack_51 (post : St → Prop) (n : Nat) : Int32 → Int32 → Int32 → Int32 → Int32 → St → Prop := Nat.rec (motive := fun _ => Int32 → Int32 → Int32 → Int32 → Int32 → St → Prop) (fun _ _ _ _ _ _ => False) (fun _ ih => BD_X4_spreadBack_51 ih post) n
def B_X4_spreadBack_51 (post : St → Prop) (x1 : Int32) (x3 : Int32) (x4 : Int32) (x5 : Int32) (x6 : Int32) (S : St) : Prop := ∃ n, L_X4_spreadBack_51 post n x1 x3 x4 x5 x6 S
def wp_X4_spreadBack (x1 : Int32) (x2 : Int32) (S : St) (post : St → Prop) : Prop :=
  ∀ v1 : Int32, v1 = (x2 / 6) → ∀ v2 : Int32, v2 = (x2 - x2 / 6 * 6) → vp_in x2 36 ∧ (∀ v3 : Int32, v3 = (S 52 (ix x2)) → wp_X6_hasInn 11 v1 S (fun r5 S4 => ((r5 = 0 → B_X4_spreadBack_51 post x1 v1 v2 v3 0 S4) ∧ (¬ r5 = 0 → ((v2 ≤ 0 → B_X4_spreadBack_51 post x1 v1 v2 v3 0 S4) ∧ (¬ v2 ≤ 0 → wp_X4_reachBack v1 (v2 - 1) (v3 - 1) S4 (fun S8 => B_X4_spreadBack_51 post x1 v1 v2 v3 0 S8)))))))
theorem w_B_X4_spreadBack_87 {X : Cx} (ok : Ok X cX4_spreadBack 9 RX4 3 78) {post : St → Prop} (hret : RetV X cX4_spreadBack 9 post) {k51 : Int32 → Int32 → Int32 → Int32 → Int32 → St → Prop} (hk51 : ∀ x1 x3 x4 x5 x6 S, k51 x1 x3 x4 x5 x6 S → Wp X 9 51 [(0, .ref (xad X 50)), (1, .int x1), (3, .int x3), (4, .int x4), (5, .int x5), (6, .int x6)] [] S) {x1 x3 x4 x5 x6 x7 x8 : Int32} {S : St} (h : B_X4_spreadBack_87 k51 post x1 x3 x4 x5 x6 x7 x8 S) : Wp X 9 87 [(0, .ref (xad X 50)), (1, .int x1), (3, .int x3), (4, .int x4), (5, .int x5), (6, .int x6), (7, .int x7), (8, .int x8)] [] S := by
  obtain ⟨n, h⟩ := h
  induction n generalizing x1 x3 x4 x5 x6 x7 x8 S with
  | zero => exact False.elim h
  | succ n ih =>
    have hk87 : ∀ x1 x3 x4 x5 x6 x7 x8 S, L_X4_spreadBack_87 k51 post n x1 x3 x4 x5 x6 x7 x8 S → Wp X 9 87 [(0, .ref (xad X 50)), (1, .int x1), (3, .int x3), (4, .int x4), (5, .int x5), (6, .int x6), (7, .int x7), (8, .int x8)] [] S := by intros; apply ih; assumption
    replace h : BD_X4_spreadBack_87 k51 (L_X4_spreadBack_87 k51 post n) post x1 x3 x4 x5 x6 x7 x8 S := h
    unfold BD_X4_spreadBack_87 at h
    generalize L_X4_spreadBack_87 k51 post n = k87 at h hk87
    refine r_iload ok dX4_spreadBack_87 3 rfl ?_
    refine r_iload ok dX4_spreadBack_89 7 rfl ?_
    refine r_iadd ok dX4_spreadBack_91 ?_
    refine r_iconst (v := 5) ok dX4_spreadBack_92 rfl ?_
    refine r_icmp_gt (tgt := 126) ok dX4_spreadBack_93 rfl (fun hc1 => ?_) (fun hc1 => ?_)
    · replace h := h.1 hc1
      refine r_iinc (v := x6 + 1) ok dX4_spreadBack_126 5 rfl rfl (by decide) [(0, .ref (xad X 50)), (1, .int x1), (3, .int x3), (4, .int x4), (5, .int x5), (6, .int (x6 + 1))] [1, 2, 3, 4, 5, 0] rfl ?_
      refine r_goto (tgt := 51) ok dX4_spreadBack_129 rfl ?_
      exact hk51 _ _ _ _ _ _ h
    · replace h := h.2 hc1
      refine r_aload_n ok dX4_spreadBack_96 0 rfl ?_
      refine r_iload ok dX4_spreadBack_97 6 rfl ?_
      refine r_iload ok dX4_spreadBack_99 3 rfl ?_
      refine r_iload ok dX4_spreadBack_101 7 rfl ?_
      refine r_iadd ok dX4_spreadBack_103 ?_
      refine r_aload_n ok dX4_spreadBack_104 0 rfl ?_
      refine r_iload_n ok dX4_spreadBack_105 1 rfl ?_
      refine r_iload ok dX4_spreadBack_106 5 rfl ?_
      refine r_iload ok dX4_spreadBack_108 6 rfl ?_
      refine r_iload ok dX4_spreadBack_110 7 rfl ?_
      refine r_iload ok dX4_spreadBack_112 4 rfl ?_
      refine cl_X4_110 ok dX4_spreadBack_114 (by decide) (Nat.le_of_ble_eq_true rfl) h (fun r3 S2 h => ?_)
      refine cl_X4_107 ok dX4_spreadBack_117 (by decide) (Nat.le_of_ble_eq_true rfl) h (fun S4 h => ?_)
      refine r_iinc (v := x8 + 1) ok dX4_spreadBack_120 7 rfl rfl (by decide) [(0, .ref (xad X 50)), (1, .int x1), (3, .int x3), (4, .int x4), (5, .int x5), (6, .int x6), (7, .int x7), (8, .int (x8 + 1))] [1, 2, 3, 4, 5, 6, 7, 0] rfl ?_
      refine r_goto (tgt := 87) ok dX4_spreadBack_123 rfl ?_
      exact hk87 _ _ _ _ _ _ _ _ h
theorem w_B_X4_spreadBack_51 {X : Cx} (ok : Ok X cX4_spreadBack 9 RX4 3 78) {post : St → Prop} (hret : RetV X cX4_spreadBack 9 post) {x1 x3 x4 x5 x6 : Int32} {S : St} (h : B_X4_spreadBack_51 post x1 x3 x4 x5 x6 S) : Wp X 9 51 [(0, .ref (xad X 50)), (1, .int x1), (3, .int x3), (4, .int x4), (5, .int x5), (6, .int x6)] [] S := by
  obtain ⟨n, h⟩ := h
  induction n generalizing x1 x3 x4 x5 x6 S with
  | zero => exact False.elim h
  | succ n ih =>
    have hk51 : ∀ x1 x3 x4 x5 x6 S, L_X4_spreadBack_51 post n x1 x3 x4 x5 x6 S → Wp X 9 51 [(0, .ref (xad X 50)), (1, .int x1), (3, .int x3), (4, .int x4), (5, .int x5), (6, .int x6)] [] S := by intros; apply ih; assumption
    replace h : BD_X4_spreadBack_51 (L_X4_spreadBack_51 post n) post x1 x3 x4 x5 x6 S := h
    unfold BD_X4_spreadBack_51 at h
    generalize L_X4_spreadBack_51 post n = k51 at h hk51
    refine r_iload ok dX4_spreadBack_51 5 rfl ?_
    refine r_aload_n ok dX4_spreadBack_53 0 rfl ?_
    refine gf_X4_25 ok dX4_spreadBack_54 ?_
    refine gf_X4_89 ok isW_11 dX4_spreadBack_57 ?_
    refine r_icmp_ge (tgt := 132) ok dX4_spreadBack_60 rfl (fun hc1 => ?_) (fun hc1 => ?_)
    · replace h := h.1 hc1
      exact hret _ _ _ dX4_spreadBack_132 h
    · replace h := h.2 hc1
      refine r_aload_n ok dX4_spreadBack_63 0 rfl ?_
      refine gf_X4_25 ok dX4_spreadBack_64 ?_
      refine r_iload ok dX4_spreadBack_67 5 rfl ?_
      refine r_iload_n ok dX4_spreadBack_69 2 rfl ?_
      refine cl_X4_92 ok isW_11 dX4_spreadBack_70 (by decide) (Nat.le_of_ble_eq_true rfl) h (fun r3 S2 h => ?_)
      refine r_istore ok dX4_spreadBack_73 (by decide) [(0, .ref (xad X 50)), (1, .int x1), (3, .int x3), (4, .int x4), (5, .int x5), (6, .int x6), (7, .int r3)] [1, 2, 3, 4, 5, 6, 0] rfl ?_
      refine r_iload ok dX4_spreadBack_75 6 rfl ?_
      refine r_iconst (v := (-1)) ok dX4_spreadBack_77 rfl ?_
      refine r_icmp_ne (tgt := 84) ok dX4_spreadBack_78 rfl (fun hc4 => ?_) (fun hc4 => ?_)
      · replace h := h.1 hc4
        refine r_iconst (v := 0) ok dX4_spreadBack_84 rfl ?_
        refine r_istore ok dX4_spreadBack_85 (by decide) [(0, .ref (xad X 50)), (1, .int x1), (3, .int x3), (4, .int x4), (5, .int x5), (6, .int x6), (7, .int r3), (8, .int 0)] [1, 2, 3, 4, 5, 6, 7, 0] rfl ?_
        exact w_B_X4_spreadBack_87 ok hret hk51 h
      · replace h := h.2 hc4
        refine r_goto (tgt := 126) ok dX4_spreadBack_81 rfl ?_
        refine r_iinc (v := x6 + 1) ok dX4_spreadBack_126 5 rfl rfl (by decide) [(0, .ref (xad X 50)), (1, .int x1), (3, .int x3), (4, .int x4), (5, .int x5), (6, .int (x6 + 1))] [1, 2, 3, 4, 5, 0] rfl ?_
        refine r_goto (tgt := 51) ok dX4_spreadBack_129 rfl ?_
        exact hk51 _ _ _ _ _ _ h
theorem w_wp_X4_spreadBack {X : Cx} (ok : Ok X cX4_spreadBack 9 RX4 3 78) {post : St → Prop} (hret : RetV X cX4_spreadBack 9 post) {x1 x2 : Int32} {S : St} (h : wp_X4_spreadBack x1 x2 S post) : Wp X 9 0 [(0, .ref (xad X 50)), (1, .int x1), (2, .int x2)] [] S := by
  unfold wp_X4_spreadBack at h
  refine r_iload_n ok dX4_spreadBack_0 2 rfl ?_
  refine r_bipush (v := 6) ok dX4_spreadBack_1 rfl ?_
  refine r_idiv ok dX4_spreadBack_3 (by decide) ?_
  refine r_top (fun v1 ev1 => ?_)
  replace h := h v1 ev1
  refine r_istore_n ok dX4_spreadBack_4 (by decide) [(0, .ref (xad X 50)), (1, .int x1), (2, .int x2), (3, .int v1)] [1, 2, 3, 0] rfl ?_
  refine r_iload_n ok dX4_spreadBack_5 2 rfl ?_
  refine r_bipush (v := 6) ok dX4_spreadBack_6 rfl ?_
  refine r_irem ok dX4_spreadBack_8 (by decide) ?_
  refine r_top (fun v2 ev2 => ?_)
  replace h := h v2 ev2
  refine r_istore ok dX4_spreadBack_9 (by decide) [(0, .ref (xad X 50)), (1, .int x1), (2, .int x2), (3, .int v1), (4, .int v2)] [1, 2, 3, 4, 0] rfl ?_
  refine r_aload_n ok dX4_spreadBack_11 0 rfl ?_
  refine gf_X4_15 ok dX4_spreadBack_12 ?_
  refine r_iload_n ok dX4_spreadBack_15 2 rfl ?_
  refine r_iald ok ai_52 h.1 rfl dX4_spreadBack_16 ?_
  replace h := h.2
  refine r_top (fun v3 ev3 => ?_)
  replace h := h v3 ev3
  refine r_istore ok dX4_spreadBack_17 (by decide) [(0, .ref (xad X 50)), (1, .int x1), (3, .int v1), (4, .int v2), (5, .int v3)] [1, 2, 4, 5, 0] rfl ?_
  refine r_aload_n ok dX4_spreadBack_19 0 rfl ?_
  refine gf_X4_25 ok dX4_spreadBack_20 ?_
  refine r_iload_n ok dX4_spreadBack_23 2 rfl ?_
  refine cl_X4_78 ok isW_11 dX4_spreadBack_24 (by decide) (Nat.le_of_ble_eq_true rfl) h (fun r5 S4 h => ?_)
  refine r_if_eq (tgt := 48) ok dX4_spreadBack_27 rfl (fun hc6 => ?_) (fun hc6 => ?_)
  · replace h := h.1 hc6
    refine r_iconst (v := 0) ok dX4_spreadBack_48 rfl ?_
    refine r_istore ok dX4_spreadBack_49 (by decide) [(0, .ref (xad X 50)), (1, .int x1), (3, .int v1), (4, .int v2), (5, .int v3), (6, .int 0)] [1, 2, 3, 4, 5, 0] rfl ?_
    exact w_B_X4_spreadBack_51 ok hret h
  · replace h := h.2 hc6
    refine r_iload ok dX4_spreadBack_30 3 rfl ?_
    refine r_if_le (tgt := 48) ok dX4_spreadBack_32 rfl (fun hc7 => ?_) (fun hc7 => ?_)
    · replace h := h.1 hc7
      refine r_iconst (v := 0) ok dX4_spreadBack_48 rfl ?_
      refine r_istore ok dX4_spreadBack_49 (by decide) [(0, .ref (xad X 50)), (1, .int x1), (3, .int v1), (4, .int v2), (5, .int v3), (6, .int 0)] [1, 2, 3, 4, 5, 0] rfl ?_
      exact w_B_X4_spreadBack_51 ok hret h
    · replace h := h.2 hc7
      refine r_aload_n ok dX4_spreadBack_35 0 rfl ?_
      refine r_iload_n ok dX4_spreadBack_36 2 rfl ?_
      refine r_iload ok dX4_spreadBack_37 3 rfl ?_
      refine r_iconst (v := 1) ok dX4_spreadBack_39 rfl ?_
      refine r_isub ok dX4_spreadBack_40 ?_
      refine r_iload ok dX4_spreadBack_41 4 rfl ?_
      refine r_iconst (v := 1) ok dX4_spreadBack_43 rfl ?_
      refine r_isub ok dX4_spreadBack_44 ?_
      refine cl_X4_107 ok dX4_spreadBack_45 (by decide) (Nat.le_of_ble_eq_true rfl) h (fun S8 h => ?_)
      refine r_iconst (v := 0) ok dX4_spreadBack_48 rfl ?_
      refine r_istore ok dX4_spreadBack_49 (by decide) [(0, .ref (xad X 50)), (1, .int x1), (3, .int v1), (4, .int v2), (5, .int v3), (6, .int 0)] [1, 2, 3, 4, 5, 0] rfl ?_
      exact w_B_X4_spreadBack_51 ok hret h
theorem c_X4_spreadBack (l : Launch) (G : Gx) {x1 x2 : Int32} {S : St} {post : St → Prop} (h : wp_X4_spreadBack x1 x2 S post) : MtV l yX4_spreadBack cX4_spreadBack 9 3 78 G [.ref (G.2.2 50), .int x1, .int x2] S post :=
  ctV (by decide) rfl (Nat.le_of_ble_eq_true rfl) (fun X _ hG ok hret => by subst hG; exact w_wp_X4_spreadBack ok hret h)

/-! HasteRoads$Search.lookBack(II)V -/
theorem dX4_lookBack_0 : decode cX4_lookBack 0 = .ok (.iconst 0, 1) := by decide +kernel
theorem dX4_lookBack_1 : decode cX4_lookBack 1 = .ok (.istore_n 3, 1) := by decide +kernel
theorem dX4_lookBack_2 : decode cX4_lookBack 2 = .ok (.iload_n 3, 1) := by decide +kernel
theorem dX4_lookBack_3 : decode cX4_lookBack 3 = .ok (.bipush 36, 2) := by decide +kernel
theorem dX4_lookBack_5 : decode cX4_lookBack 5 = .ok (.if_icmp .ge 44, 3) := by decide +kernel
theorem dX4_lookBack_8 : decode cX4_lookBack 8 = .ok (.aload_n 0, 1) := by decide +kernel
theorem dX4_lookBack_9 : decode cX4_lookBack 9 = .ok (.getfield 15, 3) := by decide +kernel
theorem dX4_lookBack_12 : decode cX4_lookBack 12 = .ok (.iload_n 3, 1) := by decide +kernel
theorem dX4_lookBack_13 : decode cX4_lookBack 13 = .ok (.iload_n 3, 1) := by decide +kernel
theorem dX4_lookBack_14 : decode cX4_lookBack 14 = .ok (.bipush 6, 2) := by decide +kernel
theorem dX4_lookBack_16 : decode cX4_lookBack 16 = .ok (.idiv, 1) := by decide +kernel
theorem dX4_lookBack_17 : decode cX4_lookBack 17 = .ok (.aload_n 0, 1) := by decide +kernel
theorem dX4_lookBack_18 : decode cX4_lookBack 18 = .ok (.getfield 25, 3) := by decide +kernel
theorem dX4_lookBack_21 : decode cX4_lookBack 21 = .ok (.getfield 51, 3) := by decide +kernel
theorem dX4_lookBack_24 : decode cX4_lookBack 24 = .ok (.iload_n 1, 1) := by decide +kernel
theorem dX4_lookBack_25 : decode cX4_lookBack 25 = .ok (.iaload, 1) := by decide +kernel
theorem dX4_lookBack_26 : decode cX4_lookBack 26 = .ok (.if_icmp .ne 7, 3) := by decide +kernel
theorem dX4_lookBack_29 : decode cX4_lookBack 29 = .ok (.iload_n 2, 1) := by decide +kernel
theorem dX4_lookBack_30 : decode cX4_lookBack 30 = .ok (.goto 5, 3) := by decide +kernel
theorem dX4_lookBack_33 : decode cX4_lookBack 33 = .ok (.ldc 98, 2) := by decide +kernel
theorem dX4_lookBack_35 : decode cX4_lookBack 35 = .ok (.iastore, 1) := by decide +kernel
theorem dX4_lookBack_36 : decode cX4_lookBack 36 = .ok (.aload_n 0, 1) := by decide +kernel
theorem dX4_lookBack_37 : decode cX4_lookBack 37 = .ok (.getfield 18, 3) := by decide +kernel
theorem dX4_lookBack_40 : decode cX4_lookBack 40 = .ok (.iload_n 3, 1) := by decide +kernel
theorem dX4_lookBack_41 : decode cX4_lookBack 41 = .ok (.iconst 0, 1) := by decide +kernel
theorem dX4_lookBack_42 : decode cX4_lookBack 42 = .ok (.bastore, 1) := by decide +kernel
theorem dX4_lookBack_43 : decode cX4_lookBack 43 = .ok (.iinc 3 1, 3) := by decide +kernel
theorem dX4_lookBack_46 : decode cX4_lookBack 46 = .ok (.goto (-44), 3) := by decide +kernel
theorem dX4_lookBack_49 : decode cX4_lookBack 49 = .ok (.iconst 0, 1) := by decide +kernel
theorem dX4_lookBack_50 : decode cX4_lookBack 50 = .ok (.istore_n 3, 1) := by decide +kernel
theorem dX4_lookBack_51 : decode cX4_lookBack 51 = .ok (.iload_n 3, 1) := by decide +kernel
theorem dX4_lookBack_52 : decode cX4_lookBack 52 = .ok (.bipush 36, 2) := by decide +kernel
theorem dX4_lookBack_54 : decode cX4_lookBack 54 = .ok (.if_icmp .ge 37, 3) := by decide +kernel
theorem dX4_lookBack_57 : decode cX4_lookBack 57 = .ok (.aload_n 0, 1) := by decide +kernel
theorem dX4_lookBack_58 : decode cX4_lookBack 58 = .ok (.invokevirtual 99, 3) := by decide +kernel
theorem dX4_lookBack_61 : decode cX4_lookBack 61 = .ok (.istore 4, 2) := by decide +kernel
theorem dX4_lookBack_63 : decode cX4_lookBack 63 = .ok (.iload 4, 2) := by decide +kernel
theorem dX4_lookBack_65 : decode cX4_lookBack 65 = .ok (.iconst (-1), 1) := by decide +kernel
theorem dX4_lookBack_66 : decode cX4_lookBack 66 = .ok (.if_icmp .ne 4, 3) := by decide +kernel
theorem dX4_lookBack_69 : decode cX4_lookBack 69 = .ok (.return_, 1) := by decide +kernel
theorem dX4_lookBack_70 : decode cX4_lookBack 70 = .ok (.aload_n 0, 1) := by decide +kernel
theorem dX4_lookBack_71 : decode cX4_lookBack 71 = .ok (.getfield 18, 3) := by decide +kernel
theorem dX4_lookBack_74 : decode cX4_lookBack 74 = .ok (.iload 4, 2) := by decide +kernel
theorem dX4_lookBack_76 : decode cX4_lookBack 76 = .ok (.iconst 1, 1) := by decide +kernel
theorem dX4_lookBack_77 : decode cX4_lookBack 77 = .ok (.bastore, 1) := by decide +kernel
theorem dX4_lookBack_78 : decode cX4_lookBack 78 = .ok (.aload_n 0, 1) := by decide +kernel
theorem dX4_lookBack_79 : decode cX4_lookBack 79 = .ok (.iload_n 1, 1) := by decide +kernel
theorem dX4_lookBack_80 : decode cX4_lookBack 80 = .ok (.iload 4, 2) := by decide +kernel
theorem dX4_lookBack_82 : decode cX4_lookBack 82 = .ok (.invokevirtual 103, 3) := by decide +kernel
theorem dX4_lookBack_85 : decode cX4_lookBack 85 = .ok (.iinc 3 1, 3) := by decide +kernel
theorem dX4_lookBack_88 : decode cX4_lookBack 88 = .ok (.goto (-37), 3) := by decide +kernel
theorem dX4_lookBack_91 : decode cX4_lookBack 91 = .ok (.return_, 1) := by decide +kernel
theorem cl_X4_99 {X : Cx} {cc : ByteArray} {nL pc fr lo : Nat} {L : List (Nat × Value)} {st : List Value} {S : St} (ok : Ok X cc nL RX4 fr lo) (d : decode cc pc = .ok (.invokevirtual 99, 3)) (hroom : 1 ≤ fr ∧ 23 ≤ lo) (hst : (st.map fun v => v.category).sum ≤ 8) {post : Int32 → St → Prop} (h : wp_X4_lastUnsettled S post) (kk : ∀ (r : Int32) (S1 : St), post r S1 → Wp X nL (pc + 3) L (.int r :: st) S1) : Wp X nL pc L (.ref (xad X 50) :: st) S :=
  r_callVi (n := 4) (f := 0) (lo1 := 0) (N := 0) (As := []) ok tw_in_X4 tw_im_X4_lastUnsettled tw_se_X4_lastUnsettled tw_co_X4_lastUnsettled tw_ml_X4_99 (by decide +kernel) rfl ob_50 rfl hroom hst d rfl (c_X4_lastUnsettled (xl X) (xG X) h) kk
theorem cl_X4_103 {X : Cx} {cc : ByteArray} {nL pc fr lo : Nat} {L : List (Nat × Value)} {st : List Value} {S : St} (ok : Ok X cc nL RX4 fr lo) {x1 x2 : Int32} (d : decode cc pc = .ok (.invokevirtual 103, 3)) (hroom : 4 ≤ fr ∧ 106 ≤ lo) (hst : (st.map fun v => v.category).sum ≤ 8) {post : St → Prop} (h : wp_X4_spreadBack x1 x2 S post) (kk : ∀ S1 : St, post S1 → Wp X nL (pc + 3) L st S1) : Wp X nL pc L (.int x2 :: .int x1 :: .ref (xad X 50) :: st) S :=
  r_callVv (n := 9) (f := 3) (lo1 := 78) (N := 2) (As := [.int x1, .int x2]) ok tw_in_X4 tw_im_X4_spreadBack tw_se_X4_spreadBack tw_co_X4_spreadBack tw_ml_X4_103 (by decide +kernel) rfl ob_50 rfl hroom hst d rfl (c_X4_spreadBack (xl X) (xG X) h) kk
def BD_X4_lookBack_51 (k51 : Int32 → Int32 → St → Prop) (post : St → Prop) (x1 : Int32) (x3 : Int32) (S : St) : Prop :=
  ((36 ≤ x3 → post S) ∧ (¬ 36 ≤ x3 → wp_X4_lastUnsettled S (fun r3 S2 => ((¬ r3 = (-1) → vp_in r3 36 ∧ (∀ S5 : St, S5 = up S2 53 (ix r3) 1 → wp_X4_spreadBack x1 r3 S5 (fun S7 => k51 x1 (x3 + 1) S7))) ∧ (r3 = (-1) → post S2)))))
def L_X4_lookBack_51 (post : St → Prop) (n : Nat) : Int32 → Int32 → St → Prop := Nat.rec (motive := fun _ => Int32 → Int32 → St → Prop) (fun _ _ _ => False) (fun _ ih => BD_X4_lookBack_51 ih post) n
def B_X4_lookBack_51 (post : St → Prop) (x1 : Int32) (x3 : Int32) (S : St) : Prop := ∃ n, L_X4_lookBack_51 post n x1 x3 S
def BD_X4_lookBack_2 (k2 : Int32 → Int32 → Int32 → St → Prop) (post : St → Prop) (x1 : Int32) (x2 : Int32) (x3 : Int32) (S : St) : Prop :=
  ((36 ≤ x3 → B_X4_lookBack_51 post x1 0 S) ∧ (¬ 36 ≤ x3 → vp_in x1 4 ∧ (((¬ (x3 / 6) = (S 15 (ix x1)) → vp_in x3 36 ∧ (∀ S3 : St, S3 = up S 52 (ix x3) (-1000000000) → vp_in x3 36 ∧ (∀ S5 : St, S5 = up S3 53 (ix x3) 0 → k2 x1 x2 (x3 + 1) S5))) ∧ ((x3 / 6) = (S 15 (ix x1)) → vp_in x3 36 ∧ (∀ S7 : St, S7 = up S 52 (ix x3) x2 → vp_in x3 36 ∧ (∀ S9 : St, S9 = up S7 53 (ix x3) 0 → k2 x1 x2 (x3 + 1) S9)))))))
def L_X4_lookBack_2 (post : St → Prop) (n : Nat) : Int32 → Int32 → Int32 → St → Prop := Nat.rec (motive := fun _ => Int32 → Int32 → Int32 → St → Prop) (fun _ _ _ _ => False) (fun _ ih => BD_X4_lookBack_2 ih post) n
def B_X4_lookBack_2 (post : St → Prop) (x1 : Int32) (x2 : Int32) (x3 : Int32) (S : St) : Prop := ∃ n, L_X4_lookBack_2 post n x1 x2 x3 S
def wp_X4_lookBack (x1 : Int32) (x2 : Int32) (S : St) (post : St → Prop) : Prop :=
  B_X4_lookBack_2 post x1 x2 0 S
theorem w_B_X4_lookBack_51 {X : Cx} (ok : Ok X cX4_lookBack 5 RX4 4 106) {post : St → Prop} (hret : RetV X cX4_lookBack 5 post) {x1 x3 : Int32} {S : St} (h : B_X4_lookBack_51 post x1 x3 S) : Wp X 5 51 [(0, .ref (xad X 50)), (1, .int x1), (3, .int x3)] [] S := by
  obtain ⟨n, h⟩ := h
  induction n generalizing x1 x3 S with
  | zero => exact False.elim h
  | succ n ih =>
    have hk51 : ∀ x1 x3 S, L_X4_lookBack_51 post n x1 x3 S → Wp X 5 51 [(0, .ref (xad X 50)), (1, .int x1), (3, .int x3)] [] S := by intros; apply ih; assumption
    replace h : BD_X4_lookBack_51 (L_X4_lookBack_51 post n) post x1 x3 S := h
    unfold BD_X4_lookBack_51 at h
    generalize L_X4_lookBack_51 post n = k51 at h hk51
    refine r_iload_n ok dX4_lookBack_51 2 rfl ?_
    refine r_bipush (v := 36) ok dX4_lookBack_52 rfl ?_
    refine r_icmp_ge (tgt := 91) ok dX4_lookBack_54 rfl (fun hc1 => ?_) (fun hc1 => ?_)
    · replace h := h.1 hc1
      exact hret _ _ _ dX4_lookBack_91 h
    · replace h := h.2 hc1
      refine r_aload_n ok dX4_lookBack_57 0 rfl ?_
      refine cl_X4_99 ok dX4_lookBack_58 (by decide) (Nat.le_of_ble_eq_true rfl) h (fun r3 S2 h => ?_)
      refine r_istore ok dX4_lookBack_61 (by decide) [(0, .ref (xad X 50)), (1, .int x1), (3, .int x3), (4, .int r3)] [1, 2, 3, 0] rfl ?_
      refine r_iload ok dX4_lookBack_63 3 rfl ?_
      refine r_iconst (v := (-1)) ok dX4_lookBack_65 rfl ?_
      refine r_icmp_ne (tgt := 70) ok dX4_lookBack_66 rfl (fun hc4 => ?_) (fun hc4 => ?_)
      · replace h := h.1 hc4
        refine r_aload_n ok dX4_lookBack_70 0 rfl ?_
        refine gf_X4_18 ok dX4_lookBack_71 ?_
        refine r_iload ok dX4_lookBack_74 3 rfl ?_
        refine r_iconst (v := 1) ok dX4_lookBack_76 rfl ?_
        have hi6 := h.1
        replace h := h.2
        refine r_zast ok az_53 hi6 rfl (Or.inr rfl) dX4_lookBack_77 (fun S5 eS5 => ?_)
        replace h := h S5 eS5
        refine r_aload_n ok dX4_lookBack_78 0 rfl ?_
        refine r_iload_n ok dX4_lookBack_79 1 rfl ?_
        refine r_iload ok dX4_lookBack_80 3 rfl ?_
        refine cl_X4_103 ok dX4_lookBack_82 (by decide) (Nat.le_of_ble_eq_true rfl) h (fun S7 h => ?_)
        refine r_iinc (v := x3 + 1) ok dX4_lookBack_85 2 rfl rfl (by decide) [(0, .ref (xad X 50)), (1, .int x1), (3, .int (x3 + 1))] [1, 2, 0] rfl ?_
        refine r_goto (tgt := 51) ok dX4_lookBack_88 rfl ?_
        exact hk51 _ _ _ h
      · replace h := h.2 hc4
        exact hret _ _ _ dX4_lookBack_69 h
theorem w_B_X4_lookBack_2 {X : Cx} (ok : Ok X cX4_lookBack 5 RX4 4 106) {post : St → Prop} (hret : RetV X cX4_lookBack 5 post) {x1 x2 x3 : Int32} {S : St} (h : B_X4_lookBack_2 post x1 x2 x3 S) : Wp X 5 2 [(0, .ref (xad X 50)), (1, .int x1), (2, .int x2), (3, .int x3)] [] S := by
  obtain ⟨n, h⟩ := h
  induction n generalizing x1 x2 x3 S with
  | zero => exact False.elim h
  | succ n ih =>
    have hk2 : ∀ x1 x2 x3 S, L_X4_lookBack_2 post n x1 x2 x3 S → Wp X 5 2 [(0, .ref (xad X 50)), (1, .int x1), (2, .int x2), (3, .int x3)] [] S := by intros; apply ih; assumption
    replace h : BD_X4_lookBack_2 (L_X4_lookBack_2 post n) post x1 x2 x3 S := h
    unfold BD_X4_lookBack_2 at h
    generalize L_X4_lookBack_2 post n = k2 at h hk2
    refine r_iload_n ok dX4_lookBack_2 3 rfl ?_
    refine r_bipush (v := 36) ok dX4_lookBack_3 rfl ?_
    refine r_icmp_ge (tgt := 49) ok dX4_lookBack_5 rfl (fun hc1 => ?_) (fun hc1 => ?_)
    · replace h := h.1 hc1
      refine r_iconst (v := 0) ok dX4_lookBack_49 rfl ?_
      refine r_istore_n ok dX4_lookBack_50 (by decide) [(0, .ref (xad X 50)), (1, .int x1), (3, .int 0)] [1, 2, 0] rfl ?_
      exact w_B_X4_lookBack_51 ok hret h
    · replace h := h.2 hc1
      refine r_aload_n ok dX4_lookBack_8 0 rfl ?_
      refine gf_X4_15 ok dX4_lookBack_9 ?_
      refine r_iload_n ok dX4_lookBack_12 3 rfl ?_
      refine r_iload_n ok dX4_lookBack_13 3 rfl ?_
      refine r_bipush (v := 6) ok dX4_lookBack_14 rfl ?_
      refine r_idiv ok dX4_lookBack_16 (by decide) ?_
      refine r_aload_n ok dX4_lookBack_17 0 rfl ?_
      refine gf_X4_25 ok dX4_lookBack_18 ?_
      refine gf_X4_51 ok isW_11 dX4_lookBack_21 ?_
      refine r_iload_n ok dX4_lookBack_24 1 rfl ?_
      refine r_iald ok ai_15 h.1 rfl dX4_lookBack_25 ?_
      replace h := h.2
      refine r_icmp_ne (tgt := 33) ok dX4_lookBack_26 rfl (fun hc2 => ?_) (fun hc2 => ?_)
      · replace h := h.1 hc2
        refine r_ldc (v := (-1000000000)) ok dX4_lookBack_33 tw_k_X4_98 ?_
        have hi4 := h.1
        replace h := h.2
        refine r_iast ok ai_52 hi4 rfl dX4_lookBack_35 (fun S3 eS3 => ?_)
        replace h := h S3 eS3
        refine r_aload_n ok dX4_lookBack_36 0 rfl ?_
        refine gf_X4_18 ok dX4_lookBack_37 ?_
        refine r_iload_n ok dX4_lookBack_40 3 rfl ?_
        refine r_iconst (v := 0) ok dX4_lookBack_41 rfl ?_
        have hi6 := h.1
        replace h := h.2
        refine r_zast ok az_53 hi6 rfl (Or.inl rfl) dX4_lookBack_42 (fun S5 eS5 => ?_)
        replace h := h S5 eS5
        refine r_iinc (v := x3 + 1) ok dX4_lookBack_43 3 rfl rfl (by decide) [(0, .ref (xad X 50)), (1, .int x1), (2, .int x2), (3, .int (x3 + 1))] [1, 2, 3, 0] rfl ?_
        refine r_goto (tgt := 2) ok dX4_lookBack_46 rfl ?_
        exact hk2 _ _ _ _ h
      · replace h := h.2 hc2
        refine r_iload_n ok dX4_lookBack_29 2 rfl ?_
        refine r_goto (tgt := 35) ok dX4_lookBack_30 rfl ?_
        have hi8 := h.1
        replace h := h.2
        refine r_iast ok ai_52 hi8 rfl dX4_lookBack_35 (fun S7 eS7 => ?_)
        replace h := h S7 eS7
        refine r_aload_n ok dX4_lookBack_36 0 rfl ?_
        refine gf_X4_18 ok dX4_lookBack_37 ?_
        refine r_iload_n ok dX4_lookBack_40 3 rfl ?_
        refine r_iconst (v := 0) ok dX4_lookBack_41 rfl ?_
        have hi10 := h.1
        replace h := h.2
        refine r_zast ok az_53 hi10 rfl (Or.inl rfl) dX4_lookBack_42 (fun S9 eS9 => ?_)
        replace h := h S9 eS9
        refine r_iinc (v := x3 + 1) ok dX4_lookBack_43 3 rfl rfl (by decide) [(0, .ref (xad X 50)), (1, .int x1), (2, .int x2), (3, .int (x3 + 1))] [1, 2, 3, 0] rfl ?_
        refine r_goto (tgt := 2) ok dX4_lookBack_46 rfl ?_
        exact hk2 _ _ _ _ h
theorem w_wp_X4_lookBack {X : Cx} (ok : Ok X cX4_lookBack 5 RX4 4 106) {post : St → Prop} (hret : RetV X cX4_lookBack 5 post) {x1 x2 : Int32} {S : St} (h : wp_X4_lookBack x1 x2 S post) : Wp X 5 0 [(0, .ref (xad X 50)), (1, .int x1), (2, .int x2)] [] S := by
  unfold wp_X4_lookBack at h
  refine r_iconst (v := 0) ok dX4_lookBack_0 rfl ?_
  refine r_istore_n ok dX4_lookBack_1 (by decide) [(0, .ref (xad X 50)), (1, .int x1), (2, .int x2), (3, .int 0)] [1, 2, 3, 0] rfl ?_
  exact w_B_X4_lookBack_2 ok hret h
theorem c_X4_lookBack (l : Launch) (G : Gx) {x1 x2 : Int32} {S : St} {post : St → Prop} (h : wp_X4_lookBack x1 x2 S post) : MtV l yX4_lookBack cX4_lookBack 5 4 106 G [.ref (G.2.2 50), .int x1, .int x2] S post :=
  ctV (by decide) rfl (Nat.le_of_ble_eq_true rfl) (fun X _ hG ok hret => by subst hG; exact w_wp_X4_lookBack ok hret h)

/-! HasteRoads$Search.latestAt(II)I -/
theorem dX4_latestAt_0 : decode cX4_latestAt 0 = .ok (.aload_n 0, 1) := by decide +kernel
theorem dX4_latestAt_1 : decode cX4_latestAt 1 = .ok (.getfield 15, 3) := by decide +kernel
theorem dX4_latestAt_4 : decode cX4_latestAt 4 = .ok (.iload_n 1, 1) := by decide +kernel
theorem dX4_latestAt_5 : decode cX4_latestAt 5 = .ok (.bipush 6, 2) := by decide +kernel
theorem dX4_latestAt_7 : decode cX4_latestAt 7 = .ok (.imul, 1) := by decide +kernel
theorem dX4_latestAt_8 : decode cX4_latestAt 8 = .ok (.iload_n 2, 1) := by decide +kernel
theorem dX4_latestAt_9 : decode cX4_latestAt 9 = .ok (.iadd, 1) := by decide +kernel
theorem dX4_latestAt_10 : decode cX4_latestAt 10 = .ok (.iaload, 1) := by decide +kernel
theorem dX4_latestAt_11 : decode cX4_latestAt 11 = .ok (.ireturn, 1) := by decide +kernel

def wp_X4_latestAt (x1 : Int32) (x2 : Int32) (S : St) (post : Int32 → St → Prop) : Prop :=
  vp_in ((x1 * 6) + x2) 36 ∧ (post (S 52 (ix ((x1 * 6) + x2))) S)
theorem w_wp_X4_latestAt {X : Cx} (ok : Ok X cX4_latestAt 3 RX4 0 0) {post : Int32 → St → Prop} (hret : RetI X cX4_latestAt 3 post) {x1 x2 : Int32} {S : St} (h : wp_X4_latestAt x1 x2 S post) : Wp X 3 0 [(0, .ref (xad X 50)), (1, .int x1), (2, .int x2)] [] S := by
  unfold wp_X4_latestAt at h
  refine r_aload_n ok dX4_latestAt_0 0 rfl ?_
  refine gf_X4_15 ok dX4_latestAt_1 ?_
  refine r_iload_n ok dX4_latestAt_4 1 rfl ?_
  refine r_bipush (v := 6) ok dX4_latestAt_5 rfl ?_
  refine r_imul ok dX4_latestAt_7 ?_
  refine r_iload_n ok dX4_latestAt_8 2 rfl ?_
  refine r_iadd ok dX4_latestAt_9 ?_
  refine r_iald ok ai_52 h.1 rfl dX4_latestAt_10 ?_
  replace h := h.2
  exact hret _ _ _ _ dX4_latestAt_11 h
theorem c_X4_latestAt (l : Launch) (G : Gx) {x1 x2 : Int32} {S : St} {post : Int32 → St → Prop} (h : wp_X4_latestAt x1 x2 S post) : MtI l yX4_latestAt cX4_latestAt 3 (some .int) 0 0 G [.ref (G.2.2 50), .int x1, .int x2] S post :=
  ctI (by decide) rfl (Nat.le_of_ble_eq_true rfl) (fun X _ hG ok hret => by subst hG; exact w_wp_X4_latestAt ok hret h)

/-! HasteRoads$Search.firstStep(I)I -/
theorem dX4_firstStep_0 : decode cX4_firstStep 0 = .ok (.aload_n 0, 1) := by decide +kernel
theorem dX4_firstStep_1 : decode cX4_firstStep 1 = .ok (.getfield 25, 3) := by decide +kernel
theorem dX4_firstStep_4 : decode cX4_firstStep 4 = .ok (.getfield 30, 3) := by decide +kernel
theorem dX4_firstStep_7 : decode cX4_firstStep 7 = .ok (.iload_n 1, 1) := by decide +kernel
theorem dX4_firstStep_8 : decode cX4_firstStep 8 = .ok (.iaload, 1) := by decide +kernel
theorem dX4_firstStep_9 : decode cX4_firstStep 9 = .ok (.istore_n 2, 1) := by decide +kernel
theorem dX4_firstStep_10 : decode cX4_firstStep 10 = .ok (.aload_n 0, 1) := by decide +kernel
theorem dX4_firstStep_11 : decode cX4_firstStep 11 = .ok (.getfield 25, 3) := by decide +kernel
theorem dX4_firstStep_14 : decode cX4_firstStep 14 = .ok (.getfield 35, 3) := by decide +kernel
theorem dX4_firstStep_17 : decode cX4_firstStep 17 = .ok (.iload_n 1, 1) := by decide +kernel
theorem dX4_firstStep_18 : decode cX4_firstStep 18 = .ok (.iaload, 1) := by decide +kernel
theorem dX4_firstStep_19 : decode cX4_firstStep 19 = .ok (.istore_n 3, 1) := by decide +kernel
theorem dX4_firstStep_20 : decode cX4_firstStep 20 = .ok (.aload_n 0, 1) := by decide +kernel
theorem dX4_firstStep_21 : decode cX4_firstStep 21 = .ok (.getfield 25, 3) := by decide +kernel
theorem dX4_firstStep_24 : decode cX4_firstStep 24 = .ok (.getfield 38, 3) := by decide +kernel
theorem dX4_firstStep_27 : decode cX4_firstStep 27 = .ok (.iload_n 1, 1) := by decide +kernel
theorem dX4_firstStep_28 : decode cX4_firstStep 28 = .ok (.iaload, 1) := by decide +kernel
theorem dX4_firstStep_29 : decode cX4_firstStep 29 = .ok (.istore 4, 2) := by decide +kernel
theorem dX4_firstStep_31 : decode cX4_firstStep 31 = .ok (.iload_n 2, 1) := by decide +kernel
theorem dX4_firstStep_32 : decode cX4_firstStep 32 = .ok (.aload_n 0, 1) := by decide +kernel
theorem dX4_firstStep_33 : decode cX4_firstStep 33 = .ok (.getfield 25, 3) := by decide +kernel
theorem dX4_firstStep_36 : decode cX4_firstStep 36 = .ok (.getfield 51, 3) := by decide +kernel
theorem dX4_firstStep_39 : decode cX4_firstStep 39 = .ok (.iload_n 1, 1) := by decide +kernel
theorem dX4_firstStep_40 : decode cX4_firstStep 40 = .ok (.iaload, 1) := by decide +kernel
theorem dX4_firstStep_41 : decode cX4_firstStep 41 = .ok (.if_icmp .ne 5, 3) := by decide +kernel
theorem dX4_firstStep_44 : decode cX4_firstStep 44 = .ok (.iconst (-1), 1) := by decide +kernel
theorem dX4_firstStep_45 : decode cX4_firstStep 45 = .ok (.ireturn, 1) := by decide +kernel
theorem dX4_firstStep_46 : decode cX4_firstStep 46 = .ok (.iload 4, 2) := by decide +kernel
theorem dX4_firstStep_48 : decode cX4_firstStep 48 = .ok (.iconst 1, 1) := by decide +kernel
theorem dX4_firstStep_49 : decode cX4_firstStep 49 = .ok (.iadd, 1) := by decide +kernel
theorem dX4_firstStep_50 : decode cX4_firstStep 50 = .ok (.aload_n 0, 1) := by decide +kernel
theorem dX4_firstStep_51 : decode cX4_firstStep 51 = .ok (.iload_n 2, 1) := by decide +kernel
theorem dX4_firstStep_52 : decode cX4_firstStep 52 = .ok (.aload_n 0, 1) := by decide +kernel
theorem dX4_firstStep_53 : decode cX4_firstStep 53 = .ok (.getfield 25, 3) := by decide +kernel
theorem dX4_firstStep_56 : decode cX4_firstStep 56 = .ok (.iload_n 2, 1) := by decide +kernel
theorem dX4_firstStep_57 : decode cX4_firstStep 57 = .ok (.iload_n 3, 1) := by decide +kernel
theorem dX4_firstStep_58 : decode cX4_firstStep 58 = .ok (.iconst 1, 1) := by decide +kernel
theorem dX4_firstStep_59 : decode cX4_firstStep 59 = .ok (.invokevirtual 132, 3) := by decide +kernel
theorem dX4_firstStep_62 : decode cX4_firstStep 62 = .ok (.invokevirtual 135, 3) := by decide +kernel
theorem dX4_firstStep_65 : decode cX4_firstStep 65 = .ok (.if_icmp .gt 6, 3) := by decide +kernel
theorem dX4_firstStep_68 : decode cX4_firstStep 68 = .ok (.bipush (-2), 2) := by decide +kernel
theorem dX4_firstStep_70 : decode cX4_firstStep 70 = .ok (.ireturn, 1) := by decide +kernel
theorem dX4_firstStep_71 : decode cX4_firstStep 71 = .ok (.iconst 0, 1) := by decide +kernel
theorem dX4_firstStep_72 : decode cX4_firstStep 72 = .ok (.istore 5, 2) := by decide +kernel
theorem dX4_firstStep_74 : decode cX4_firstStep 74 = .ok (.iload 5, 2) := by decide +kernel
theorem dX4_firstStep_76 : decode cX4_firstStep 76 = .ok (.aload_n 0, 1) := by decide +kernel
theorem dX4_firstStep_77 : decode cX4_firstStep 77 = .ok (.getfield 25, 3) := by decide +kernel
theorem dX4_firstStep_80 : decode cX4_firstStep 80 = .ok (.getfield 89, 3) := by decide +kernel
theorem dX4_firstStep_83 : decode cX4_firstStep 83 = .ok (.if_icmp .ge 85, 3) := by decide +kernel
theorem dX4_firstStep_86 : decode cX4_firstStep 86 = .ok (.aload_n 0, 1) := by decide +kernel
theorem dX4_firstStep_87 : decode cX4_firstStep 87 = .ok (.getfield 25, 3) := by decide +kernel
theorem dX4_firstStep_90 : decode cX4_firstStep 90 = .ok (.iload 5, 2) := by decide +kernel
theorem dX4_firstStep_92 : decode cX4_firstStep 92 = .ok (.iload_n 2, 1) := by decide +kernel
theorem dX4_firstStep_93 : decode cX4_firstStep 93 = .ok (.invokevirtual 92, 3) := by decide +kernel
theorem dX4_firstStep_96 : decode cX4_firstStep 96 = .ok (.istore 6, 2) := by decide +kernel
theorem dX4_firstStep_98 : decode cX4_firstStep 98 = .ok (.iload 6, 2) := by decide +kernel
theorem dX4_firstStep_100 : decode cX4_firstStep 100 = .ok (.iconst (-1), 1) := by decide +kernel
theorem dX4_firstStep_101 : decode cX4_firstStep 101 = .ok (.if_icmp .ne 6, 3) := by decide +kernel
theorem dX4_firstStep_104 : decode cX4_firstStep 104 = .ok (.goto 58, 3) := by decide +kernel
theorem dX4_firstStep_107 : decode cX4_firstStep 107 = .ok (.iconst 0, 1) := by decide +kernel
theorem dX4_firstStep_108 : decode cX4_firstStep 108 = .ok (.istore 7, 2) := by decide +kernel
theorem dX4_firstStep_110 : decode cX4_firstStep 110 = .ok (.iload 7, 2) := by decide +kernel
theorem dX4_firstStep_112 : decode cX4_firstStep 112 = .ok (.iload_n 3, 1) := by decide +kernel
theorem dX4_firstStep_113 : decode cX4_firstStep 113 = .ok (.if_icmp .gt 49, 3) := by decide +kernel
theorem dX4_firstStep_116 : decode cX4_firstStep 116 = .ok (.iload 4, 2) := by decide +kernel
theorem dX4_firstStep_118 : decode cX4_firstStep 118 = .ok (.aload_n 0, 1) := by decide +kernel
theorem dX4_firstStep_119 : decode cX4_firstStep 119 = .ok (.getfield 25, 3) := by decide +kernel
theorem dX4_firstStep_122 : decode cX4_firstStep 122 = .ok (.iload_n 1, 1) := by decide +kernel
theorem dX4_firstStep_123 : decode cX4_firstStep 123 = .ok (.iload 5, 2) := by decide +kernel
theorem dX4_firstStep_125 : decode cX4_firstStep 125 = .ok (.iload_n 2, 1) := by decide +kernel
theorem dX4_firstStep_126 : decode cX4_firstStep 126 = .ok (.iload 4, 2) := by decide +kernel
theorem dX4_firstStep_128 : decode cX4_firstStep 128 = .ok (.iload 7, 2) := by decide +kernel
theorem dX4_firstStep_130 : decode cX4_firstStep 130 = .ok (.invokevirtual 117, 3) := by decide +kernel
theorem dX4_firstStep_133 : decode cX4_firstStep 133 = .ok (.iadd, 1) := by decide +kernel
theorem dX4_firstStep_134 : decode cX4_firstStep 134 = .ok (.aload_n 0, 1) := by decide +kernel
theorem dX4_firstStep_135 : decode cX4_firstStep 135 = .ok (.iload 6, 2) := by decide +kernel
theorem dX4_firstStep_137 : decode cX4_firstStep 137 = .ok (.iload_n 3, 1) := by decide +kernel
theorem dX4_firstStep_138 : decode cX4_firstStep 138 = .ok (.iload 7, 2) := by decide +kernel
theorem dX4_firstStep_140 : decode cX4_firstStep 140 = .ok (.isub, 1) := by decide +kernel
theorem dX4_firstStep_141 : decode cX4_firstStep 141 = .ok (.invokevirtual 135, 3) := by decide +kernel
theorem dX4_firstStep_144 : decode cX4_firstStep 144 = .ok (.if_icmp .gt 12, 3) := by decide +kernel
theorem dX4_firstStep_147 : decode cX4_firstStep 147 = .ok (.bipush 10, 2) := by decide +kernel
theorem dX4_firstStep_149 : decode cX4_firstStep 149 = .ok (.iload 5, 2) := by decide +kernel
theorem dX4_firstStep_151 : decode cX4_firstStep 151 = .ok (.imul, 1) := by decide +kernel
theorem dX4_firstStep_152 : decode cX4_firstStep 152 = .ok (.iload 7, 2) := by decide +kernel
theorem dX4_firstStep_154 : decode cX4_firstStep 154 = .ok (.iadd, 1) := by decide +kernel
theorem dX4_firstStep_155 : decode cX4_firstStep 155 = .ok (.ireturn, 1) := by decide +kernel
theorem dX4_firstStep_156 : decode cX4_firstStep 156 = .ok (.iinc 7 1, 3) := by decide +kernel
theorem dX4_firstStep_159 : decode cX4_firstStep 159 = .ok (.goto (-49), 3) := by decide +kernel
theorem dX4_firstStep_162 : decode cX4_firstStep 162 = .ok (.iinc 5 1, 3) := by decide +kernel
theorem dX4_firstStep_165 : decode cX4_firstStep 165 = .ok (.goto (-91), 3) := by decide +kernel
theorem dX4_firstStep_168 : decode cX4_firstStep 168 = .ok (.iconst (-1), 1) := by decide +kernel
theorem dX4_firstStep_169 : decode cX4_firstStep 169 = .ok (.ireturn, 1) := by decide +kernel
theorem cl_X4_132 {X : Cx} {cc : ByteArray} {nL pc fr lo : Nat} {L : List (Nat × Value)} {st : List Value} {S : St} (ok : Ok X cc nL RX4 fr lo) {o : Nat} (ho : isW o) {x1 x2 x3 : Int32} (d : decode cc pc = .ok (.invokevirtual 132, 3)) (hroom : 2 ≤ fr ∧ 44 ≤ lo) (hst : (st.map fun v => v.category).sum ≤ 8) {post : Int32 → St → Prop} (h : wp_X6_calmAfter o x1 x2 x3 S post) (kk : ∀ (r : Int32) (S1 : St), post r S1 → Wp X nL (pc + 3) L (.int r :: st) S1) : Wp X nL pc L (.int x3 :: .int x2 :: .int x1 :: .ref (xad X o) :: st) S :=
  r_callVi (n := 4) (f := 1) (lo1 := 21) (N := 3) (As := [.int x1, .int x2, .int x3]) ok tw_in_X6 tw_im_X6_calmAfter tw_se_X6_calmAfter tw_co_X6_calmAfter tw_ml_X4_132 (by decide +kernel) rfl ho.ob rfl hroom hst d rfl (c_X6_calmAfter (xl X) (xG X) ho h) kk
theorem cl_X4_135 {X : Cx} {cc : ByteArray} {nL pc fr lo : Nat} {L : List (Nat × Value)} {st : List Value} {S : St} (ok : Ok X cc nL RX4 fr lo) {x1 x2 : Int32} (d : decode cc pc = .ok (.invokevirtual 135, 3)) (hroom : 1 ≤ fr ∧ 22 ≤ lo) (hst : (st.map fun v => v.category).sum ≤ 8) {post : Int32 → St → Prop} (h : wp_X4_latestAt x1 x2 S post) (kk : ∀ (r : Int32) (S1 : St), post r S1 → Wp X nL (pc + 3) L (.int r :: st) S1) : Wp X nL pc L (.int x2 :: .int x1 :: .ref (xad X 50) :: st) S :=
  r_callVi (n := 3) (f := 0) (lo1 := 0) (N := 2) (As := [.int x1, .int x2]) ok tw_in_X4 tw_im_X4_latestAt tw_se_X4_latestAt tw_co_X4_latestAt tw_ml_X4_135 (by decide +kernel) rfl ob_50 rfl hroom hst d rfl (c_X4_latestAt (xl X) (xG X) h) kk
def B_X4_firstStep_147 (post : Int32 → St → Prop) (x5 : Int32) (x7 : Int32) (S : St) : Prop :=
  post (((10 : Int32) * x5) + x7) S
def BD_X4_firstStep_110 (k74 : Int32 → Int32 → Int32 → Int32 → Int32 → St → Prop) (k110 : Int32 → Int32 → Int32 → Int32 → Int32 → Int32 → Int32 → St → Prop) (post : Int32 → St → Prop) (x1 : Int32) (x2 : Int32) (x3 : Int32) (x4 : Int32) (x5 : Int32) (x6 : Int32) (x7 : Int32) (S : St) : Prop :=
  ((x3 < x7 → k74 x1 x2 x3 x4 (x5 + 1) S) ∧ (¬ x3 < x7 → wp_X6_lasts 11 x1 x5 x2 x4 x7 S (fun r3 S2 => wp_X4_latestAt x6 (x3 - x7) S2 (fun r5 S4 => ((r5 < (x4 + r3) → k110 x1 x2 x3 x4 x5 x6 (x7 + 1) S4) ∧ (¬ r5 < (x4 + r3) → B_X4_firstStep_147 post x5 x7 S4))))))
def L_X4_firstStep_110 (k74 : Int32 → Int32 → Int32 → Int32 → Int32 → St → Prop) (post : Int32 → St → Prop) (n : Nat) : Int32 → Int32 → Int32 → Int32 → Int32 → Int32 → Int32 → St → Prop := Nat.rec (motive := fun _ => Int32 → Int32 → Int32 → Int32 → Int32 → Int32 → Int32 → St → Prop) (fun _ _ _ _ _ _ _ _ => False) (fun _ ih => BD_X4_firstStep_110 k74 ih post) n
def B_X4_firstStep_110 (k74 : Int32 → Int32 → Int32 → Int32 → Int32 → St → Prop) (post : Int32 → St → Prop) (x1 : Int32) (x2 : Int32) (x3 : Int32) (x4 : Int32) (x5 : Int32) (x6 : Int32) (x7 : Int32) (S : St) : Prop := ∃ n, L_X4_firstStep_110 k74 post n x1 x2 x3 x4 x5 x6 x7 S
def BD_X4_firstStep_74 (k74 : Int32 → Int32 → Int32 → Int32 → Int32 → St → Prop) (post : Int32 → St → Prop) (x1 : Int32) (x2 : Int32) (x3 : Int32) (x4 : Int32) (x5 : Int32) (S : St) : Prop :=
  (((S 11 1) ≤ x5 → post (-1) S) ∧ (¬ (S 11 1) ≤ x5 → wp_X6_otherEnd 11 x5 x2 S (fun r3 S2 => ((¬ r3 = (-1) → B_X4_firstStep_110 k74 post x1 x2 x3 x4 x5 r3 0 S2) ∧ (r3 = (-1) → k74 x1 x2 x3 x4 (x5 + 1) S2)))))
def L_X4_firstStep_74 (post : Int32 → St → Prop) (n : Nat) : Int32 → Int32 → Int32 → Int32 → Int32 → St → Prop := Nat.rec (motive := fun _ => Int32 → Int32 → Int32 → Int32 → Int32 → St → Prop) (fun _ _ _ _ _ _ => False) (fun _ ih => BD_X4_firstStep_74 ih post) n
def B_X4_firstStep_74 (post : Int32 → St → Prop) (x1 : Int32) (x2 : Int32) (x3 : Int32) (x4 : Int32) (x5 : Int32) (S : St) : Prop := ∃ n, L_X4_firstStep_74 post n x1 x2 x3 x4 x5 S
def wp_X4_firstStep (x1 : Int32) (S : St) (post : Int32 → St → Prop) : Prop :=
  vp_in x1 4 ∧ (∀ v1 : Int32, v1 = (S 18 (ix x1)) → vp_in x1 4 ∧ (∀ v2 : Int32, v2 = (S 19 (ix x1)) → vp_in x1 4 ∧ (∀ v3 : Int32, v3 = (S 21 (ix x1)) → vp_in x1 4 ∧ (((¬ v1 = (S 15 (ix x1)) → wp_X6_calmAfter 11 v1 v2 1 S (fun r6 S5 => wp_X4_latestAt v1 r6 S5 (fun r8 S7 => ((r8 < (v3 + 1) → B_X4_firstStep_74 post x1 v1 v2 v3 0 S7) ∧ (¬ r8 < (v3 + 1) → post (-2) S7))))) ∧ (v1 = (S 15 (ix x1)) → post (-1) S))))))
theorem w_B_X4_firstStep_147 {X : Cx} (ok : Ok X cX4_firstStep 8 RX4 2 50) {post : Int32 → St → Prop} (hret : RetI X cX4_firstStep 8 post) {x5 x7 : Int32} {S : St} (h : B_X4_firstStep_147 post x5 x7 S) : Wp X 8 147 [(5, .int x5), (7, .int x7)] [] S := by
  unfold B_X4_firstStep_147 at h
  refine r_bipush (v := 10) ok dX4_firstStep_147 rfl ?_
  refine r_iload ok dX4_firstStep_149 0 rfl ?_
  refine r_imul ok dX4_firstStep_151 ?_
  refine r_iload ok dX4_firstStep_152 1 rfl ?_
  refine r_iadd ok dX4_firstStep_154 ?_
  exact hret _ _ _ _ dX4_firstStep_155 h
theorem w_B_X4_firstStep_110 {X : Cx} (ok : Ok X cX4_firstStep 8 RX4 2 50) {post : Int32 → St → Prop} (hret : RetI X cX4_firstStep 8 post) {k74 : Int32 → Int32 → Int32 → Int32 → Int32 → St → Prop} (hk74 : ∀ x1 x2 x3 x4 x5 S, k74 x1 x2 x3 x4 x5 S → Wp X 8 74 [(0, .ref (xad X 50)), (1, .int x1), (2, .int x2), (3, .int x3), (4, .int x4), (5, .int x5)] [] S) {x1 x2 x3 x4 x5 x6 x7 : Int32} {S : St} (h : B_X4_firstStep_110 k74 post x1 x2 x3 x4 x5 x6 x7 S) : Wp X 8 110 [(0, .ref (xad X 50)), (1, .int x1), (2, .int x2), (3, .int x3), (4, .int x4), (5, .int x5), (6, .int x6), (7, .int x7)] [] S := by
  obtain ⟨n, h⟩ := h
  induction n generalizing x1 x2 x3 x4 x5 x6 x7 S with
  | zero => exact False.elim h
  | succ n ih =>
    have hk110 : ∀ x1 x2 x3 x4 x5 x6 x7 S, L_X4_firstStep_110 k74 post n x1 x2 x3 x4 x5 x6 x7 S → Wp X 8 110 [(0, .ref (xad X 50)), (1, .int x1), (2, .int x2), (3, .int x3), (4, .int x4), (5, .int x5), (6, .int x6), (7, .int x7)] [] S := by intros; apply ih; assumption
    replace h : BD_X4_firstStep_110 k74 (L_X4_firstStep_110 k74 post n) post x1 x2 x3 x4 x5 x6 x7 S := h
    unfold BD_X4_firstStep_110 at h
    generalize L_X4_firstStep_110 k74 post n = k110 at h hk110
    refine r_iload ok dX4_firstStep_110 7 rfl ?_
    refine r_iload_n ok dX4_firstStep_112 3 rfl ?_
    refine r_icmp_gt (tgt := 162) ok dX4_firstStep_113 rfl (fun hc1 => ?_) (fun hc1 => ?_)
    · replace h := h.1 hc1
      refine r_iinc (v := x5 + 1) ok dX4_firstStep_162 5 rfl rfl (by decide) [(0, .ref (xad X 50)), (1, .int x1), (2, .int x2), (3, .int x3), (4, .int x4), (5, .int (x5 + 1))] [1, 2, 3, 4, 5, 0] rfl ?_
      refine r_goto (tgt := 74) ok dX4_firstStep_165 rfl ?_
      exact hk74 _ _ _ _ _ _ h
    · replace h := h.2 hc1
      refine r_iload ok dX4_firstStep_116 4 rfl ?_
      refine r_aload_n ok dX4_firstStep_118 0 rfl ?_
      refine gf_X4_25 ok dX4_firstStep_119 ?_
      refine r_iload_n ok dX4_firstStep_122 1 rfl ?_
      refine r_iload ok dX4_firstStep_123 5 rfl ?_
      refine r_iload_n ok dX4_firstStep_125 2 rfl ?_
      refine r_iload ok dX4_firstStep_126 4 rfl ?_
      refine r_iload ok dX4_firstStep_128 7 rfl ?_
      refine cl_X4_117 ok isW_11 dX4_firstStep_130 (by decide) (Nat.le_of_ble_eq_true rfl) h (fun r3 S2 h => ?_)
      refine r_iadd ok dX4_firstStep_133 ?_
      refine r_aload_n ok dX4_firstStep_134 0 rfl ?_
      refine r_iload ok dX4_firstStep_135 6 rfl ?_
      refine r_iload_n ok dX4_firstStep_137 3 rfl ?_
      refine r_iload ok dX4_firstStep_138 7 rfl ?_
      refine r_isub ok dX4_firstStep_140 ?_
      refine cl_X4_135 ok dX4_firstStep_141 (by decide) (Nat.le_of_ble_eq_true rfl) h (fun r5 S4 h => ?_)
      refine r_icmp_gt (tgt := 156) ok dX4_firstStep_144 rfl (fun hc6 => ?_) (fun hc6 => ?_)
      · replace h := h.1 hc6
        refine r_iinc (v := x7 + 1) ok dX4_firstStep_156 7 rfl rfl (by decide) [(0, .ref (xad X 50)), (1, .int x1), (2, .int x2), (3, .int x3), (4, .int x4), (5, .int x5), (6, .int x6), (7, .int (x7 + 1))] [1, 2, 3, 4, 5, 6, 7, 0] rfl ?_
        refine r_goto (tgt := 110) ok dX4_firstStep_159 rfl ?_
        exact hk110 _ _ _ _ _ _ _ _ h
      · replace h := h.2 hc6
        refine r_sub [(5, .int x5), (7, .int x7)] [5, 7] rfl ?_
        exact w_B_X4_firstStep_147 ok hret h
theorem w_B_X4_firstStep_74 {X : Cx} (ok : Ok X cX4_firstStep 8 RX4 2 50) {post : Int32 → St → Prop} (hret : RetI X cX4_firstStep 8 post) {x1 x2 x3 x4 x5 : Int32} {S : St} (h : B_X4_firstStep_74 post x1 x2 x3 x4 x5 S) : Wp X 8 74 [(0, .ref (xad X 50)), (1, .int x1), (2, .int x2), (3, .int x3), (4, .int x4), (5, .int x5)] [] S := by
  obtain ⟨n, h⟩ := h
  induction n generalizing x1 x2 x3 x4 x5 S with
  | zero => exact False.elim h
  | succ n ih =>
    have hk74 : ∀ x1 x2 x3 x4 x5 S, L_X4_firstStep_74 post n x1 x2 x3 x4 x5 S → Wp X 8 74 [(0, .ref (xad X 50)), (1, .int x1), (2, .int x2), (3, .int x3), (4, .int x4), (5, .int x5)] [] S := by intros; apply ih; assumption
    replace h : BD_X4_firstStep_74 (L_X4_firstStep_74 post n) post x1 x2 x3 x4 x5 S := h
    unfold BD_X4_firstStep_74 at h
    generalize L_X4_firstStep_74 post n = k74 at h hk74
    refine r_iload ok dX4_firstStep_74 5 rfl ?_
    refine r_aload_n ok dX4_firstStep_76 0 rfl ?_
    refine gf_X4_25 ok dX4_firstStep_77 ?_
    refine gf_X4_89 ok isW_11 dX4_firstStep_80 ?_
    refine r_icmp_ge (tgt := 168) ok dX4_firstStep_83 rfl (fun hc1 => ?_) (fun hc1 => ?_)
    · replace h := h.1 hc1
      refine r_iconst (v := (-1)) ok dX4_firstStep_168 rfl ?_
      exact hret _ _ _ _ dX4_firstStep_169 h
    · replace h := h.2 hc1
      refine r_aload_n ok dX4_firstStep_86 0 rfl ?_
      refine gf_X4_25 ok dX4_firstStep_87 ?_
      refine r_iload ok dX4_firstStep_90 5 rfl ?_
      refine r_iload_n ok dX4_firstStep_92 2 rfl ?_
      refine cl_X4_92 ok isW_11 dX4_firstStep_93 (by decide) (Nat.le_of_ble_eq_true rfl) h (fun r3 S2 h => ?_)
      refine r_istore ok dX4_firstStep_96 (by decide) [(0, .ref (xad X 50)), (1, .int x1), (2, .int x2), (3, .int x3), (4, .int x4), (5, .int x5), (6, .int r3)] [1, 2, 3, 4, 5, 6, 0] rfl ?_
      refine r_iload ok dX4_firstStep_98 6 rfl ?_
      refine r_iconst (v := (-1)) ok dX4_firstStep_100 rfl ?_
      refine r_icmp_ne (tgt := 107) ok dX4_firstStep_101 rfl (fun hc4 => ?_) (fun hc4 => ?_)
      · replace h := h.1 hc4
        refine r_iconst (v := 0) ok dX4_firstStep_107 rfl ?_
        refine r_istore ok dX4_firstStep_108 (by decide) [(0, .ref (xad X 50)), (1, .int x1), (2, .int x2), (3, .int x3), (4, .int x4), (5, .int x5), (6, .int r3), (7, .int 0)] [1, 2, 3, 4, 5, 6, 7, 0] rfl ?_
        exact w_B_X4_firstStep_110 ok hret hk74 h
      · replace h := h.2 hc4
        refine r_goto (tgt := 162) ok dX4_firstStep_104 rfl ?_
        refine r_iinc (v := x5 + 1) ok dX4_firstStep_162 5 rfl rfl (by decide) [(0, .ref (xad X 50)), (1, .int x1), (2, .int x2), (3, .int x3), (4, .int x4), (5, .int (x5 + 1))] [1, 2, 3, 4, 5, 0] rfl ?_
        refine r_goto (tgt := 74) ok dX4_firstStep_165 rfl ?_
        exact hk74 _ _ _ _ _ _ h
theorem w_wp_X4_firstStep {X : Cx} (ok : Ok X cX4_firstStep 8 RX4 2 50) {post : Int32 → St → Prop} (hret : RetI X cX4_firstStep 8 post) {x1 : Int32} {S : St} (h : wp_X4_firstStep x1 S post) : Wp X 8 0 [(0, .ref (xad X 50)), (1, .int x1)] [] S := by
  unfold wp_X4_firstStep at h
  refine r_aload_n ok dX4_firstStep_0 0 rfl ?_
  refine gf_X4_25 ok dX4_firstStep_1 ?_
  refine gf_X4_30 ok isW_11 dX4_firstStep_4 ?_
  refine r_iload_n ok dX4_firstStep_7 1 rfl ?_
  refine r_iald ok ai_18 h.1 rfl dX4_firstStep_8 ?_
  replace h := h.2
  refine r_top (fun v1 ev1 => ?_)
  replace h := h v1 ev1
  refine r_istore_n ok dX4_firstStep_9 (by decide) [(0, .ref (xad X 50)), (1, .int x1), (2, .int v1)] [1, 2, 0] rfl ?_
  refine r_aload_n ok dX4_firstStep_10 0 rfl ?_
  refine gf_X4_25 ok dX4_firstStep_11 ?_
  refine gf_X4_35 ok isW_11 dX4_firstStep_14 ?_
  refine r_iload_n ok dX4_firstStep_17 1 rfl ?_
  refine r_iald ok ai_19 h.1 rfl dX4_firstStep_18 ?_
  replace h := h.2
  refine r_top (fun v2 ev2 => ?_)
  replace h := h v2 ev2
  refine r_istore_n ok dX4_firstStep_19 (by decide) [(0, .ref (xad X 50)), (1, .int x1), (2, .int v1), (3, .int v2)] [1, 2, 3, 0] rfl ?_
  refine r_aload_n ok dX4_firstStep_20 0 rfl ?_
  refine gf_X4_25 ok dX4_firstStep_21 ?_
  refine gf_X4_38 ok isW_11 dX4_firstStep_24 ?_
  refine r_iload_n ok dX4_firstStep_27 1 rfl ?_
  refine r_iald ok ai_21 h.1 rfl dX4_firstStep_28 ?_
  replace h := h.2
  refine r_top (fun v3 ev3 => ?_)
  replace h := h v3 ev3
  refine r_istore ok dX4_firstStep_29 (by decide) [(0, .ref (xad X 50)), (1, .int x1), (2, .int v1), (3, .int v2), (4, .int v3)] [1, 2, 3, 4, 0] rfl ?_
  refine r_iload_n ok dX4_firstStep_31 2 rfl ?_
  refine r_aload_n ok dX4_firstStep_32 0 rfl ?_
  refine gf_X4_25 ok dX4_firstStep_33 ?_
  refine gf_X4_51 ok isW_11 dX4_firstStep_36 ?_
  refine r_iload_n ok dX4_firstStep_39 1 rfl ?_
  refine r_iald ok ai_15 h.1 rfl dX4_firstStep_40 ?_
  replace h := h.2
  refine r_icmp_ne (tgt := 46) ok dX4_firstStep_41 rfl (fun hc4 => ?_) (fun hc4 => ?_)
  · replace h := h.1 hc4
    refine r_iload ok dX4_firstStep_46 4 rfl ?_
    refine r_iconst (v := 1) ok dX4_firstStep_48 rfl ?_
    refine r_iadd ok dX4_firstStep_49 ?_
    refine r_aload_n ok dX4_firstStep_50 0 rfl ?_
    refine r_iload_n ok dX4_firstStep_51 2 rfl ?_
    refine r_aload_n ok dX4_firstStep_52 0 rfl ?_
    refine gf_X4_25 ok dX4_firstStep_53 ?_
    refine r_iload_n ok dX4_firstStep_56 2 rfl ?_
    refine r_iload_n ok dX4_firstStep_57 3 rfl ?_
    refine r_iconst (v := 1) ok dX4_firstStep_58 rfl ?_
    refine cl_X4_132 ok isW_11 dX4_firstStep_59 (by decide) (Nat.le_of_ble_eq_true rfl) h (fun r6 S5 h => ?_)
    refine cl_X4_135 ok dX4_firstStep_62 (by decide) (Nat.le_of_ble_eq_true rfl) h (fun r8 S7 h => ?_)
    refine r_icmp_gt (tgt := 71) ok dX4_firstStep_65 rfl (fun hc9 => ?_) (fun hc9 => ?_)
    · replace h := h.1 hc9
      refine r_iconst (v := 0) ok dX4_firstStep_71 rfl ?_
      refine r_istore ok dX4_firstStep_72 (by decide) [(0, .ref (xad X 50)), (1, .int x1), (2, .int v1), (3, .int v2), (4, .int v3), (5, .int 0)] [1, 2, 3, 4, 5, 0] rfl ?_
      exact w_B_X4_firstStep_74 ok hret h
    · replace h := h.2 hc9
      refine r_bipush (v := (-2)) ok dX4_firstStep_68 rfl ?_
      exact hret _ _ _ _ dX4_firstStep_70 h
  · replace h := h.2 hc4
    refine r_iconst (v := (-1)) ok dX4_firstStep_44 rfl ?_
    exact hret _ _ _ _ dX4_firstStep_45 h
theorem c_X4_firstStep (l : Launch) (G : Gx) {x1 : Int32} {S : St} {post : Int32 → St → Prop} (h : wp_X4_firstStep x1 S post) : MtI l yX4_firstStep cX4_firstStep 8 (some .int) 2 50 G [.ref (G.2.2 50), .int x1] S post :=
  ctI (by decide) rfl (Nat.le_of_ble_eq_true rfl) (fun X _ hG ok hret => by subst hG; exact w_wp_X4_firstStep ok hret h)
