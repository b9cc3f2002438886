/-! HasteRoads$Text.add(I)I -/
theorem dX5_add_0 : decode cX5_add 0 = .ok (.aload_n 0, 1) := by decide +kernel
theorem dX5_add_1 : decode cX5_add 1 = .ok (.getfield 19, 3) := by decide +kernel
theorem dX5_add_4 : decode cX5_add 4 = .ok (.sipush 250, 3) := by decide +kernel
theorem dX5_add_7 : decode cX5_add 7 = .ok (.if_icmp .lt 6, 3) := by decide +kernel
theorem dX5_add_10 : decode cX5_add 10 = .ok (.ldc 22, 2) := by decide +kernel
theorem dX5_add_12 : decode cX5_add 12 = .ok (.ireturn, 1) := by decide +kernel
theorem dX5_add_13 : decode cX5_add 13 = .ok (.aload_n 0, 1) := by decide +kernel
theorem dX5_add_14 : decode cX5_add 14 = .ok (.getfield 9, 3) := by decide +kernel
theorem dX5_add_17 : decode cX5_add 17 = .ok (.aload_n 0, 1) := by decide +kernel
theorem dX5_add_18 : decode cX5_add 18 = .ok (.getfield 19, 3) := by decide +kernel
theorem dX5_add_21 : decode cX5_add 21 = .ok (.iload_n 1, 1) := by decide +kernel
theorem dX5_add_22 : decode cX5_add 22 = .ok (.iastore, 1) := by decide +kernel
theorem dX5_add_23 : decode cX5_add 23 = .ok (.aload_n 0, 1) := by decide +kernel
theorem dX5_add_24 : decode cX5_add 24 = .ok (.dup, 1) := by decide +kernel
theorem dX5_add_25 : decode cX5_add 25 = .ok (.getfield 19, 3) := by decide +kernel
theorem dX5_add_28 : decode cX5_add 28 = .ok (.iconst 1, 1) := by decide +kernel
theorem dX5_add_29 : decode cX5_add 29 = .ok (.iadd, 1) := by decide +kernel
theorem dX5_add_30 : decode cX5_add 30 = .ok (.putfield 19, 3) := by decide +kernel
theorem dX5_add_33 : decode cX5_add 33 = .ok (.aload_n 0, 1) := by decide +kernel
theorem dX5_add_34 : decode cX5_add 34 = .ok (.getfield 19, 3) := by decide +kernel
theorem dX5_add_37 : decode cX5_add 37 = .ok (.ireturn, 1) := by decide +kernel
theorem gf_X5_19 {X : Cx} {cc : ByteArray} {nL pc fr lo : Nat} {L : List (Nat × Value)} {st : List Value} {S : St} (ok : Ok X cc nL RX5 fr lo) (d : decode cc pc = .ok (.getfield 19, 3)) (k : Wp X nL (pc + 3) L (.int (S 48 1) :: st) S) : Wp X nL pc L (.ref (xad X 48) :: st) S :=
  r_get (C := RX5) (T := TX5) ok ob_48 rfl i_X5 1 (by decide) tw_fl_X5_19 d (by rw [show fvl (xad X) S 48 1 = .int (S 48 1) from (fvl_int (by decide))]; exact k)
theorem gf_X5_9 {X : Cx} {cc : ByteArray} {nL pc fr lo : Nat} {L : List (Nat × Value)} {st : List Value} {S : St} (ok : Ok X cc nL RX5 fr lo) (d : decode cc pc = .ok (.getfield 9, 3)) (k : Wp X nL (pc + 3) L (.ref (xad X 49) :: st) S) : Wp X nL pc L (.ref (xad X 48) :: st) S :=
  r_get (C := RX5) (T := TX5) ok ob_48 rfl i_X5 0 (by decide) tw_fl_X5_9 d (by rw [show fvl (xad X) S 48 0 = .ref (xad X 49) from (fvl_ref (d := 49) (by decide))]; exact k)
theorem pf_X5_19 {X : Cx} {cc : ByteArray} {nL pc fr lo : Nat} {L : List (Nat × Value)} {st : List Value} {S : St} {v : Int32} (ok : Ok X cc nL RX5 fr lo) (d : decode cc pc = .ok (.putfield 19, 3)) (k : ∀ S1 : St, S1 = up S 48 1 v → Wp X nL (pc + 3) L st S1) : Wp X nL pc L (.int v :: .ref (xad X 48) :: st) S :=
  r_put (C := RX5) (T := TX5) ok ob_48 rfl i_X5 tyX5 tyX5_ok nmX5 1 (by decide) tw_fl_X5_19 rfl rfl (by decide) d (k _ rfl)
def wp_X5_add (x1 : Int32) (S : St) (post : Int32 → St → Prop) : Prop :=
  (((S 48 1) < 250 → vp_in (S 48 1) 250 ∧ (∀ S2 : St, S2 = up S 49 (ix (S 48 1)) x1 → ∀ S4 : St, S4 = up S2 48 1 ((S2 48 1) + 1) → post (S4 48 1) S4)) ∧ (¬ (S 48 1) < 250 → post (-1000000004) S))
theorem w_wp_X5_add {X : Cx} (ok : Ok X cX5_add 2 RX5 0 0) {post : Int32 → St → Prop} (hret : RetI X cX5_add 2 post) {x1 : Int32} {S : St} (h : wp_X5_add x1 S post) : Wp X 2 0 [(0, .ref (xad X 48)), (1, .int x1)] [] S := by
  unfold wp_X5_add at h
  refine r_aload_n ok dX5_add_0 0 rfl ?_
  refine gf_X5_19 ok dX5_add_1 ?_
  refine r_sipush (v := 250) ok dX5_add_4 rfl ?_
  refine r_icmp_lt (tgt := 13) ok dX5_add_7 rfl (fun hc1 => ?_) (fun hc1 => ?_)
  · replace h := h.1 hc1
    refine r_aload_n ok dX5_add_13 0 rfl ?_
    refine gf_X5_9 ok dX5_add_14 ?_
    refine r_aload_n ok dX5_add_17 0 rfl ?_
    refine gf_X5_19 ok dX5_add_18 ?_
    refine r_iload_n ok dX5_add_21 1 rfl ?_
    have hi3 := h.1
    replace h := h.2
    refine r_iast ok ai_49 hi3 rfl dX5_add_22 (fun S2 eS2 => ?_)
    replace h := h S2 eS2
    refine r_aload_n ok dX5_add_23 0 rfl ?_
    refine r_dup ok dX5_add_24 rfl ?_
    refine gf_X5_19 ok dX5_add_25 ?_
    refine r_iconst (v := 1) ok dX5_add_28 rfl ?_
    refine r_iadd ok dX5_add_29 ?_
    refine pf_X5_19 ok dX5_add_30 (fun S4 eS4 => ?_)
    replace h := h S4 eS4
    refine r_aload_n ok dX5_add_33 0 rfl ?_
    refine gf_X5_19 ok dX5_add_34 ?_
    exact hret _ _ _ _ dX5_add_37 h
  · replace h := h.2 hc1
    refine r_ldc (v := (-1000000004)) ok dX5_add_10 tw_k_X5_22 ?_
    exact hret _ _ _ _ dX5_add_12 h
theorem c_X5_add (l : Launch) (G : Gx) {x1 : Int32} {S : St} {post : Int32 → St → Prop} (h : wp_X5_add x1 S post) : MtI l yX5_add cX5_add 2 (some .int) 0 0 G [.ref (G.2.2 48), .int x1] S post :=
  ctI (by decide) rfl (Nat.le_of_ble_eq_true rfl) (fun X _ hG ok hret => by subst hG; exact w_wp_X5_add ok hret h)

/-! HasteRoads$Text.passBlanks()V -/
theorem dX5_passBlanks_0 : decode cX5_passBlanks 0 = .ok (.aload_n 0, 1) := by decide +kernel
theorem dX5_passBlanks_1 : decode cX5_passBlanks 1 = .ok (.getfield 26, 3) := by decide +kernel
theorem dX5_passBlanks_4 : decode cX5_passBlanks 4 = .ok (.aload_n 0, 1) := by decide +kernel
theorem dX5_passBlanks_5 : decode cX5_passBlanks 5 = .ok (.getfield 19, 3) := by decide +kernel
theorem dX5_passBlanks_8 : decode cX5_passBlanks 8 = .ok (.if_icmp .ge 30, 3) := by decide +kernel
theorem dX5_passBlanks_11 : decode cX5_passBlanks 11 = .ok (.aload_n 0, 1) := by decide +kernel
theorem dX5_passBlanks_12 : decode cX5_passBlanks 12 = .ok (.getfield 9, 3) := by decide +kernel
theorem dX5_passBlanks_15 : decode cX5_passBlanks 15 = .ok (.aload_n 0, 1) := by decide +kernel
theorem dX5_passBlanks_16 : decode cX5_passBlanks 16 = .ok (.getfield 26, 3) := by decide +kernel
theorem dX5_passBlanks_19 : decode cX5_passBlanks 19 = .ok (.iaload, 1) := by decide +kernel
theorem dX5_passBlanks_20 : decode cX5_passBlanks 20 = .ok (.bipush 32, 2) := by decide +kernel
theorem dX5_passBlanks_22 : decode cX5_passBlanks 22 = .ok (.if_icmp .ne 16, 3) := by decide +kernel
theorem dX5_passBlanks_25 : decode cX5_passBlanks 25 = .ok (.aload_n 0, 1) := by decide +kernel
theorem dX5_passBlanks_26 : decode cX5_passBlanks 26 = .ok (.dup, 1) := by decide +kernel
theorem dX5_passBlanks_27 : decode cX5_passBlanks 27 = .ok (.getfield 26, 3) := by decide +kernel
theorem dX5_passBlanks_30 : decode cX5_passBlanks 30 = .ok (.iconst 1, 1) := by decide +kernel
theorem dX5_passBlanks_31 : decode cX5_passBlanks 31 = .ok (.iadd, 1) := by decide +kernel
theorem dX5_passBlanks_32 : decode cX5_passBlanks 32 = .ok (.putfield 26, 3) := by decide +kernel
theorem dX5_passBlanks_35 : decode cX5_passBlanks 35 = .ok (.goto (-35), 3) := by decide +kernel
theorem dX5_passBlanks_38 : decode cX5_passBlanks 38 = .ok (.return_, 1) := by decide +kernel
theorem gf_X5_26 {X : Cx} {cc : ByteArray} {nL pc fr lo : Nat} {L : List (Nat × Value)} {st : List Value} {S : St} (ok : Ok X cc nL RX5 fr lo) (d : decode cc pc = .ok (.getfield 26, 3)) (k : Wp X nL (pc + 3) L (.int (S 48 4) :: st) S) : Wp X nL pc L (.ref (xad X 48) :: st) S :=
  r_get (C := RX5) (T := TX5) ok ob_48 rfl i_X5 4 (by decide) tw_fl_X5_26 d (by rw [show fvl (xad X) S 48 4 = .int (S 48 4) from (fvl_int (by decide))]; exact k)
theorem pf_X5_26 {X : Cx} {cc : ByteArray} {nL pc fr lo : Nat} {L : List (Nat × Value)} {st : List Value} {S : St} {v : Int32} (ok : Ok X cc nL RX5 fr lo) (d : decode cc pc = .ok (.putfield 26, 3)) (k : ∀ S1 : St, S1 = up S 48 4 v → Wp X nL (pc + 3) L st S1) : Wp X nL pc L (.int v :: .ref (xad X 48) :: st) S :=
  r_put (C := RX5) (T := TX5) ok ob_48 rfl i_X5 tyX5 tyX5_ok nmX5 4 (by decide) tw_fl_X5_26 rfl rfl (by decide) d (k _ rfl)
def BD_X5_passBlanks_0 (k0 : St → Prop) (post : St → Prop) (S : St) : Prop :=
  (((S 48 1) ≤ (S 48 4) → post S) ∧ (¬ (S 48 1) ≤ (S 48 4) → vp_in (S 48 4) 250 ∧ (((¬ (S 49 (ix (S 48 4))) = 32 → post S) ∧ ((S 49 (ix (S 48 4))) = 32 → ∀ S3 : St, S3 = up S 48 4 ((S 48 4) + 1) → k0 S3)))))
def L_X5_passBlanks_0 (post : St → Prop) (n : Nat) : St → Prop := Nat.rec (motive := fun _ => St → Prop) (fun _ => False) (fun _ ih => BD_X5_passBlanks_0 ih post) n
def B_X5_passBlanks_0 (post : St → Prop) (S : St) : Prop := ∃ n, L_X5_passBlanks_0 post n S
def wp_X5_passBlanks (S : St) (post : St → Prop) : Prop := B_X5_passBlanks_0 post S
theorem w_B_X5_passBlanks_0 {X : Cx} (ok : Ok X cX5_passBlanks 1 RX5 0 0) {post : St → Prop} (hret : RetV X cX5_passBlanks 1 post) {S : St} (h : B_X5_passBlanks_0 post S) : Wp X 1 0 [(0, .ref (xad X 48))] [] S := by
  obtain ⟨n, h⟩ := h
  induction n generalizing S with
  | zero => exact False.elim h
  | succ n ih =>
    have hk0 : ∀ S, L_X5_passBlanks_0 post n S → Wp X 1 0 [(0, .ref (xad X 48))] [] S := by intros; apply ih; assumption
    replace h : BD_X5_passBlanks_0 (L_X5_passBlanks_0 post n) post S := h
    unfold BD_X5_passBlanks_0 at h
    generalize L_X5_passBlanks_0 post n = k0 at h hk0
    refine r_aload_n ok dX5_passBlanks_0 0 rfl ?_
    refine gf_X5_26 ok dX5_passBlanks_1 ?_
    refine r_aload_n ok dX5_passBlanks_4 0 rfl ?_
    refine gf_X5_19 ok dX5_passBlanks_5 ?_
    refine r_icmp_ge (tgt := 38) ok dX5_passBlanks_8 rfl (fun hc1 => ?_) (fun hc1 => ?_)
    · replace h := h.1 hc1
      exact hret _ _ _ dX5_passBlanks_38 h
    · replace h := h.2 hc1
      refine r_aload_n ok dX5_passBlanks_11 0 rfl ?_
      refine gf_X5_9 ok dX5_passBlanks_12 ?_
      refine r_aload_n ok dX5_passBlanks_15 0 rfl ?_
      refine gf_X5_26 ok dX5_passBlanks_16 ?_
      refine r_iald ok ai_49 h.1 rfl dX5_passBlanks_19 ?_
      replace h := h.2
      refine r_bipush (v := 32) ok dX5_passBlanks_20 rfl ?_
      refine r_icmp_ne (tgt := 38) ok dX5_passBlanks_22 rfl (fun hc2 => ?_) (fun hc2 => ?_)
      · replace h := h.1 hc2
        exact hret _ _ _ dX5_passBlanks_38 h
      · replace h := h.2 hc2
        refine r_aload_n ok dX5_passBlanks_25 0 rfl ?_
        refine r_dup ok dX5_passBlanks_26 rfl ?_
        refine gf_X5_26 ok dX5_passBlanks_27 ?_
        refine r_iconst (v := 1) ok dX5_passBlanks_30 rfl ?_
        refine r_iadd ok dX5_passBlanks_31 ?_
        refine pf_X5_26 ok dX5_passBlanks_32 (fun S3 eS3 => ?_)
        replace h := h S3 eS3
        refine r_goto (tgt := 0) ok dX5_passBlanks_35 rfl ?_
        exact hk0 _ h
theorem w_wp_X5_passBlanks {X : Cx} (ok : Ok X cX5_passBlanks 1 RX5 0 0) {post : St → Prop} (hret : RetV X cX5_passBlanks 1 post) {S : St} (h : wp_X5_passBlanks S post) : Wp X 1 0 [(0, .ref (xad X 48))] [] S := w_B_X5_passBlanks_0 ok hret h
theorem c_X5_passBlanks (l : Launch) (G : Gx) {S : St} {post : St → Prop} (h : wp_X5_passBlanks S post) : MtV l yX5_passBlanks cX5_passBlanks 1 0 0 G [.ref (G.2.2 48)] S post :=
  ctV (by decide) rfl (Nat.le_of_ble_eq_true rfl) (fun X _ hG ok hret => by subst hG; exact w_wp_X5_passBlanks ok hret h)

/-! HasteRoads$Text.blame(II)V -/
theorem dX5_blame_0 : decode cX5_blame 0 = .ok (.aload_n 0, 1) := by decide +kernel
theorem dX5_blame_1 : decode cX5_blame 1 = .ok (.getfield 23, 3) := by decide +kernel
theorem dX5_blame_4 : decode cX5_blame 4 = .ok (.ifCond .eq 4, 3) := by decide +kernel
theorem dX5_blame_7 : decode cX5_blame 7 = .ok (.return_, 1) := by decide +kernel
theorem dX5_blame_8 : decode cX5_blame 8 = .ok (.aload_n 0, 1) := by decide +kernel
theorem dX5_blame_9 : decode cX5_blame 9 = .ok (.iload_n 1, 1) := by decide +kernel
theorem dX5_blame_10 : decode cX5_blame 10 = .ok (.putfield 23, 3) := by decide +kernel
theorem dX5_blame_13 : decode cX5_blame 13 = .ok (.aload_n 0, 1) := by decide +kernel
theorem dX5_blame_14 : decode cX5_blame 14 = .ok (.iload_n 2, 1) := by decide +kernel
theorem dX5_blame_15 : decode cX5_blame 15 = .ok (.putfield 15, 3) := by decide +kernel
theorem dX5_blame_18 : decode cX5_blame 18 = .ok (.return_, 1) := by decide +kernel
theorem gf_X5_23 {X : Cx} {cc : ByteArray} {nL pc fr lo : Nat} {L : List (Nat × Value)} {st : List Value} {S : St} (ok : Ok X cc nL RX5 fr lo) (d : decode cc pc = .ok (.getfield 23, 3)) (k : Wp X nL (pc + 3) L (.int (S 48 3) :: st) S) : Wp X nL pc L (.ref (xad X 48) :: st) S :=
  r_get (C := RX5) (T := TX5) ok ob_48 rfl i_X5 3 (by decide) tw_fl_X5_23 d (by rw [show fvl (xad X) S 48 3 = .int (S 48 3) from (fvl_int (by decide))]; exact k)
theorem pf_X5_23 {X : Cx} {cc : ByteArray} {nL pc fr lo : Nat} {L : List (Nat × Value)} {st : List Value} {S : St} {v : Int32} (ok : Ok X cc nL RX5 fr lo) (d : decode cc pc = .ok (.putfield 23, 3)) (k : ∀ S1 : St, S1 = up S 48 3 v → Wp X nL (pc + 3) L st S1) : Wp X nL pc L (.int v :: .ref (xad X 48) :: st) S :=
  r_put (C := RX5) (T := TX5) ok ob_48 rfl i_X5 tyX5 tyX5_ok nmX5 3 (by decide) tw_fl_X5_23 rfl rfl (by decide) d (k _ rfl)
theorem pf_X5_15 {X : Cx} {cc : ByteArray} {nL pc fr lo : Nat} {L : List (Nat × Value)} {st : List Value} {S : St} {v : Int32} (ok : Ok X cc nL RX5 fr lo) (d : decode cc pc = .ok (.putfield 15, 3)) (k : ∀ S1 : St, S1 = up S 48 2 v → Wp X nL (pc + 3) L st S1) : Wp X nL pc L (.int v :: .ref (xad X 48) :: st) S :=
  r_put (C := RX5) (T := TX5) ok ob_48 rfl i_X5 tyX5 tyX5_ok nmX5 2 (by decide) tw_fl_X5_15 rfl rfl (by decide) d (k _ rfl)
def wp_X5_blame (x1 : Int32) (x2 : Int32) (S : St) (post : St → Prop) : Prop :=
  (((S 48 3) = 0 → ∀ S2 : St, S2 = up S 48 3 x1 → ∀ S3 : St, S3 = up S2 48 2 x2 → post S3) ∧ (¬ (S 48 3) = 0 → post S))
theorem w_wp_X5_blame {X : Cx} (ok : Ok X cX5_blame 3 RX5 0 0) {post : St → Prop} (hret : RetV X cX5_blame 3 post) {x1 x2 : Int32} {S : St} (h : wp_X5_blame x1 x2 S post) : Wp X 3 0 [(0, .ref (xad X 48)), (1, .int x1), (2, .int x2)] [] S := by
  unfold wp_X5_blame at h
  refine r_aload_n ok dX5_blame_0 0 rfl ?_
  refine gf_X5_23 ok dX5_blame_1 ?_
  refine r_if_eq (tgt := 8) ok dX5_blame_4 rfl (fun hc1 => ?_) (fun hc1 => ?_)
  · replace h := h.1 hc1
    refine r_aload_n ok dX5_blame_8 0 rfl ?_
    refine r_iload_n ok dX5_blame_9 1 rfl ?_
    refine pf_X5_23 ok dX5_blame_10 (fun S2 eS2 => ?_)
    replace h := h S2 eS2
    refine r_aload_n ok dX5_blame_13 0 rfl ?_
    refine r_iload_n ok dX5_blame_14 2 rfl ?_
    refine pf_X5_15 ok dX5_blame_15 (fun S3 eS3 => ?_)
    replace h := h S3 eS3
    exact hret _ _ _ dX5_blame_18 h
  · replace h := h.2 hc1
    exact hret _ _ _ dX5_blame_7 h
theorem c_X5_blame (l : Launch) (G : Gx) {x1 x2 : Int32} {S : St} {post : St → Prop} (h : wp_X5_blame x1 x2 S post) : MtV l yX5_blame cX5_blame 3 0 0 G [.ref (G.2.2 48), .int x1, .int x2] S post :=
  ctV (by decide) rfl (Nat.le_of_ble_eq_true rfl) (fun X _ hG ok hret => by subst hG; exact w_wp_X5_blame ok hret h)

/-! HasteRoads$Text.isFigure(I)Z -/
theorem dX5_isFigure_0 : decode cX5_isFigure 0 = .ok (.iload_n 0, 1) := by decide +kernel
theorem dX5_isFigure_1 : decode cX5_isFigure 1 = .ok (.bipush 48, 2) := by decide +kernel
theorem dX5_isFigure_3 : decode cX5_isFigure 3 = .ok (.if_icmp .lt 13, 3) := by decide +kernel
theorem dX5_isFigure_6 : decode cX5_isFigure 6 = .ok (.iload_n 0, 1) := by decide +kernel
theorem dX5_isFigure_7 : decode cX5_isFigure 7 = .ok (.bipush 57, 2) := by decide +kernel
theorem dX5_isFigure_9 : decode cX5_isFigure 9 = .ok (.if_icmp .gt 7, 3) := by decide +kernel
theorem dX5_isFigure_12 : decode cX5_isFigure 12 = .ok (.iconst 1, 1) := by decide +kernel
theorem dX5_isFigure_13 : decode cX5_isFigure 13 = .ok (.goto 4, 3) := by decide +kernel
theorem dX5_isFigure_16 : decode cX5_isFigure 16 = .ok (.iconst 0, 1) := by decide +kernel
theorem dX5_isFigure_17 : decode cX5_isFigure 17 = .ok (.ireturn, 1) := by decide +kernel

def wp_X5_isFigure (x0 : Int32) (S : St) (post : Int32 → St → Prop) : Prop :=
  ((x0 < 48 → post 0 S) ∧ (¬ x0 < 48 → ((57 < x0 → post 0 S) ∧ (¬ 57 < x0 → post 1 S))))
theorem w_wp_X5_isFigure {X : Cx} (ok : Ok X cX5_isFigure 1 RX5 0 0) {post : Int32 → St → Prop} (hret : RetZ X cX5_isFigure 1 post) {x0 : Int32} {S : St} (h : wp_X5_isFigure x0 S post) : Wp X 1 0 [(0, .int x0)] [] S := by
  unfold wp_X5_isFigure at h
  refine r_iload_n ok dX5_isFigure_0 0 rfl ?_
  refine r_bipush (v := 48) ok dX5_isFigure_1 rfl ?_
  refine r_icmp_lt (tgt := 16) ok dX5_isFigure_3 rfl (fun hc1 => ?_) (fun hc1 => ?_)
  · replace h := h.1 hc1
    refine r_iconst (v := 0) ok dX5_isFigure_16 rfl ?_
    exact hret _ _ _ _ dX5_isFigure_17 (Or.inl rfl) h
  · replace h := h.2 hc1
    refine r_iload_n ok dX5_isFigure_6 0 rfl ?_
    refine r_bipush (v := 57) ok dX5_isFigure_7 rfl ?_
    refine r_icmp_gt (tgt := 16) ok dX5_isFigure_9 rfl (fun hc2 => ?_) (fun hc2 => ?_)
    · replace h := h.1 hc2
      refine r_iconst (v := 0) ok dX5_isFigure_16 rfl ?_
      exact hret _ _ _ _ dX5_isFigure_17 (Or.inl rfl) h
    · replace h := h.2 hc2
      refine r_iconst (v := 1) ok dX5_isFigure_12 rfl ?_
      refine r_goto (tgt := 17) ok dX5_isFigure_13 rfl ?_
      exact hret _ _ _ _ dX5_isFigure_17 (Or.inr rfl) h
theorem c_X5_isFigure (l : Launch) (G : Gx) {x0 : Int32} {S : St} {post : Int32 → St → Prop} (h : wp_X5_isFigure x0 S post) : MtI l yX5_isFigure cX5_isFigure 1 (some .boolean) 0 0 G [.int x0] S post :=
  ctZ (by decide) rfl (Nat.le_of_ble_eq_true rfl) (fun X _ hG ok hret => by subst hG; exact w_wp_X5_isFigure ok hret h)

/-! HasteRoads$Text.number(II)I -/
theorem dX5_number_0 : decode cX5_number 0 = .ok (.aload_n 0, 1) := by decide +kernel
theorem dX5_number_1 : decode cX5_number 1 = .ok (.getfield 23, 3) := by decide +kernel
theorem dX5_number_4 : decode cX5_number 4 = .ok (.ifCond .eq 5, 3) := by decide +kernel
theorem dX5_number_7 : decode cX5_number 7 = .ok (.iconst 0, 1) := by decide +kernel
theorem dX5_number_8 : decode cX5_number 8 = .ok (.ireturn, 1) := by decide +kernel
theorem dX5_number_9 : decode cX5_number 9 = .ok (.aload_n 0, 1) := by decide +kernel
theorem dX5_number_10 : decode cX5_number 10 = .ok (.invokevirtual 29, 3) := by decide +kernel
theorem dX5_number_13 : decode cX5_number 13 = .ok (.aload_n 0, 1) := by decide +kernel
theorem dX5_number_14 : decode cX5_number 14 = .ok (.aload_n 0, 1) := by decide +kernel
theorem dX5_number_15 : decode cX5_number 15 = .ok (.getfield 26, 3) := by decide +kernel
theorem dX5_number_18 : decode cX5_number 18 = .ok (.putfield 75, 3) := by decide +kernel
theorem dX5_number_21 : decode cX5_number 21 = .ok (.iconst 0, 1) := by decide +kernel
theorem dX5_number_22 : decode cX5_number 22 = .ok (.istore_n 3, 1) := by decide +kernel
theorem dX5_number_23 : decode cX5_number 23 = .ok (.aload_n 0, 1) := by decide +kernel
theorem dX5_number_24 : decode cX5_number 24 = .ok (.getfield 26, 3) := by decide +kernel
theorem dX5_number_27 : decode cX5_number 27 = .ok (.aload_n 0, 1) := by decide +kernel
theorem dX5_number_28 : decode cX5_number 28 = .ok (.getfield 19, 3) := by decide +kernel
theorem dX5_number_31 : decode cX5_number 31 = .ok (.if_icmp .ge 62, 3) := by decide +kernel
theorem dX5_number_34 : decode cX5_number 34 = .ok (.aload_n 0, 1) := by decide +kernel
theorem dX5_number_35 : decode cX5_number 35 = .ok (.getfield 9, 3) := by decide +kernel
theorem dX5_number_38 : decode cX5_number 38 = .ok (.aload_n 0, 1) := by decide +kernel
theorem dX5_number_39 : decode cX5_number 39 = .ok (.getfield 26, 3) := by decide +kernel
theorem dX5_number_42 : decode cX5_number 42 = .ok (.iaload, 1) := by decide +kernel
theorem dX5_number_43 : decode cX5_number 43 = .ok (.invokestatic 114, 3) := by decide +kernel
theorem dX5_number_46 : decode cX5_number 46 = .ok (.ifCond .eq 47, 3) := by decide +kernel
theorem dX5_number_49 : decode cX5_number 49 = .ok (.aload_n 0, 1) := by decide +kernel
theorem dX5_number_50 : decode cX5_number 50 = .ok (.getfield 26, 3) := by decide +kernel
theorem dX5_number_53 : decode cX5_number 53 = .ok (.aload_n 0, 1) := by decide +kernel
theorem dX5_number_54 : decode cX5_number 54 = .ok (.getfield 75, 3) := by decide +kernel
theorem dX5_number_57 : decode cX5_number 57 = .ok (.isub, 1) := by decide +kernel
theorem dX5_number_58 : decode cX5_number 58 = .ok (.iconst 3, 1) := by decide +kernel
theorem dX5_number_59 : decode cX5_number 59 = .ok (.if_icmp .ge 21, 3) := by decide +kernel
theorem dX5_number_62 : decode cX5_number 62 = .ok (.iload_n 3, 1) := by decide +kernel
theorem dX5_number_63 : decode cX5_number 63 = .ok (.bipush 10, 2) := by decide +kernel
theorem dX5_number_65 : decode cX5_number 65 = .ok (.imul, 1) := by decide +kernel
theorem dX5_number_66 : decode cX5_number 66 = .ok (.aload_n 0, 1) := by decide +kernel
theorem dX5_number_67 : decode cX5_number 67 = .ok (.getfield 9, 3) := by decide +kernel
theorem dX5_number_70 : decode cX5_number 70 = .ok (.aload_n 0, 1) := by decide +kernel
theorem dX5_number_71 : decode cX5_number 71 = .ok (.getfield 26, 3) := by decide +kernel
theorem dX5_number_74 : decode cX5_number 74 = .ok (.iaload, 1) := by decide +kernel
theorem dX5_number_75 : decode cX5_number 75 = .ok (.iadd, 1) := by decide +kernel
theorem dX5_number_76 : decode cX5_number 76 = .ok (.bipush 48, 2) := by decide +kernel
theorem dX5_number_78 : decode cX5_number 78 = .ok (.isub, 1) := by decide +kernel
theorem dX5_number_79 : decode cX5_number 79 = .ok (.istore_n 3, 1) := by decide +kernel
theorem dX5_number_80 : decode cX5_number 80 = .ok (.aload_n 0, 1) := by decide +kernel
theorem dX5_number_81 : decode cX5_number 81 = .ok (.dup, 1) := by decide +kernel
theorem dX5_number_82 : decode cX5_number 82 = .ok (.getfield 26, 3) := by decide +kernel
theorem dX5_number_85 : decode cX5_number 85 = .ok (.iconst 1, 1) := by decide +kernel
theorem dX5_number_86 : decode cX5_number 86 = .ok (.iadd, 1) := by decide +kernel
theorem dX5_number_87 : decode cX5_number 87 = .ok (.putfield 26, 3) := by decide +kernel
theorem dX5_number_90 : decode cX5_number 90 = .ok (.goto (-67), 3) := by decide +kernel
theorem dX5_number_93 : decode cX5_number 93 = .ok (.aload_n 0, 1) := by decide +kernel
theorem dX5_number_94 : decode cX5_number 94 = .ok (.getfield 26, 3) := by decide +kernel
theorem dX5_number_97 : decode cX5_number 97 = .ok (.aload_n 0, 1) := by decide +kernel
theorem dX5_number_98 : decode cX5_number 98 = .ok (.getfield 75, 3) := by decide +kernel
theorem dX5_number_101 : decode cX5_number 101 = .ok (.isub, 1) := by decide +kernel
theorem dX5_number_102 : decode cX5_number 102 = .ok (.istore 4, 2) := by decide +kernel
theorem dX5_number_104 : decode cX5_number 104 = .ok (.iload 4, 2) := by decide +kernel
theorem dX5_number_106 : decode cX5_number 106 = .ok (.ifCond .ne 12, 3) := by decide +kernel
theorem dX5_number_109 : decode cX5_number 109 = .ok (.aload_n 0, 1) := by decide +kernel
theorem dX5_number_110 : decode cX5_number 110 = .ok (.iconst 1, 1) := by decide +kernel
theorem dX5_number_111 : decode cX5_number 111 = .ok (.aload_n 0, 1) := by decide +kernel
theorem dX5_number_112 : decode cX5_number 112 = .ok (.getfield 75, 3) := by decide +kernel
theorem dX5_number_115 : decode cX5_number 115 = .ok (.invokevirtual 49, 3) := by decide +kernel
theorem dX5_number_118 : decode cX5_number 118 = .ok (.iload 4, 2) := by decide +kernel
theorem dX5_number_120 : decode cX5_number 120 = .ok (.iconst 3, 1) := by decide +kernel
theorem dX5_number_121 : decode cX5_number 121 = .ok (.if_icmp .gt 12, 3) := by decide +kernel
theorem dX5_number_124 : decode cX5_number 124 = .ok (.iload_n 3, 1) := by decide +kernel
theorem dX5_number_125 : decode cX5_number 125 = .ok (.iload_n 1, 1) := by decide +kernel
theorem dX5_number_126 : decode cX5_number 126 = .ok (.iload_n 2, 1) := by decide +kernel
theorem dX5_number_127 : decode cX5_number 127 = .ok (.invokestatic 118, 3) := by decide +kernel
theorem dX5_number_130 : decode cX5_number 130 = .ok (.ifCond .eq 12, 3) := by decide +kernel
theorem dX5_number_133 : decode cX5_number 133 = .ok (.aload_n 0, 1) := by decide +kernel
theorem dX5_number_134 : decode cX5_number 134 = .ok (.iconst 2, 1) := by decide +kernel
theorem dX5_number_135 : decode cX5_number 135 = .ok (.aload_n 0, 1) := by decide +kernel
theorem dX5_number_136 : decode cX5_number 136 = .ok (.getfield 75, 3) := by decide +kernel
theorem dX5_number_139 : decode cX5_number 139 = .ok (.invokevirtual 49, 3) := by decide +kernel
theorem dX5_number_142 : decode cX5_number 142 = .ok (.aload_n 0, 1) := by decide +kernel
theorem dX5_number_143 : decode cX5_number 143 = .ok (.getfield 23, 3) := by decide +kernel
theorem dX5_number_146 : decode cX5_number 146 = .ok (.ifCond .ne 7, 3) := by decide +kernel
theorem dX5_number_149 : decode cX5_number 149 = .ok (.iload_n 3, 1) := by decide +kernel
theorem dX5_number_150 : decode cX5_number 150 = .ok (.goto 4, 3) := by decide +kernel
theorem dX5_number_153 : decode cX5_number 153 = .ok (.iconst 0, 1) := by decide +kernel
theorem dX5_number_154 : decode cX5_number 154 = .ok (.ireturn, 1) := by decide +kernel
theorem gf_X5_75 {X : Cx} {cc : ByteArray} {nL pc fr lo : Nat} {L : List (Nat × Value)} {st : List Value} {S : St} (ok : Ok X cc nL RX5 fr lo) (d : decode cc pc = .ok (.getfield 75, 3)) (k : Wp X nL (pc + 3) L (.int (S 48 5) :: st) S) : Wp X nL pc L (.ref (xad X 48) :: st) S :=
  r_get (C := RX5) (T := TX5) ok ob_48 rfl i_X5 5 (by decide) tw_fl_X5_75 d (by rw [show fvl (xad X) S 48 5 = .int (S 48 5) from (fvl_int (by decide))]; exact k)
theorem pf_X5_75 {X : Cx} {cc : ByteArray} {nL pc fr lo : Nat} {L : List (Nat × Value)} {st : List Value} {S : St} {v : Int32} (ok : Ok X cc nL RX5 fr lo) (d : decode cc pc = .ok (.putfield 75, 3)) (k : ∀ S1 : St, S1 = up S 48 5 v → Wp X nL (pc + 3) L st S1) : Wp X nL pc L (.int v :: .ref (xad X 48) :: st) S :=
  r_put (C := RX5) (T := TX5) ok ob_48 rfl i_X5 tyX5 tyX5_ok nmX5 5 (by decide) tw_fl_X5_75 rfl rfl (by decide) d (k _ rfl)
theorem cl_X5_29 {X : Cx} {cc : ByteArray} {nL pc fr lo : Nat} {L : List (Nat × Value)} {st : List Value} {S : St} (ok : Ok X cc nL RX5 fr lo) (d : decode cc pc = .ok (.invokevirtual 29, 3)) (hroom : 1 ≤ fr ∧ 20 ≤ lo) (hst : (st.map fun v => v.category).sum ≤ 8) {post : St → Prop} (h : wp_X5_passBlanks S post) (kk : ∀ S1 : St, post S1 → Wp X nL (pc + 3) L st S1) : Wp X nL pc L (.ref (xad X 48) :: st) S :=
  r_callVv (n := 1) (f := 0) (lo1 := 0) (N := 0) (As := []) ok tw_in_X5 tw_im_X5_passBlanks tw_se_X5_passBlanks tw_co_X5_passBlanks tw_ml_X5_29 (by decide +kernel) rfl ob_48 rfl hroom hst d rfl (c_X5_passBlanks (xl X) (xG X) h) kk
theorem cl_X5_114 {X : Cx} {cc : ByteArray} {nL pc fr lo : Nat} {L : List (Nat × Value)} {st : List Value} {S : St} (ok : Ok X cc nL RX5 fr lo) {x0 : Int32} (d : decode cc pc = .ok (.invokestatic 114, 3)) (hroom : 1 ≤ fr ∧ 20 ≤ lo) (hst : (st.map fun v => v.category).sum ≤ 8) {post : Int32 → St → Prop} (h : wp_X5_isFigure x0 S post) (kk : ∀ (r : Int32) (S1 : St), post r S1 → Wp X nL (pc + 3) L (.int r :: st) S1) : Wp X nL pc L (.int x0 :: st) S :=
  r_callSi (n := 1) (f := 0) (lo1 := 0) (N := 1) (As := [.int x0]) ok tw_in_X5 tw_st_X5_isFigure tw_co_X5_isFigure tw_ml_X5_114 (by decide +kernel) rfl hroom hst d rfl (c_X5_isFigure (xl X) (xG X) h) kk
theorem cl_X5_49 {X : Cx} {cc : ByteArray} {nL pc fr lo : Nat} {L : List (Nat × Value)} {st : List Value} {S : St} (ok : Ok X cc nL RX5 fr lo) {x1 x2 : Int32} (d : decode cc pc = .ok (.invokevirtual 49, 3)) (hroom : 1 ≤ fr ∧ 22 ≤ lo) (hst : (st.map fun v => v.category).sum ≤ 8) {post : St → Prop} (h : wp_X5_blame x1 x2 S post) (kk : ∀ S1 : St, post S1 → Wp X nL (pc + 3) L st S1) : Wp X nL pc L (.int x2 :: .int x1 :: .ref (xad X 48) :: st) S :=
  r_callVv (n := 3) (f := 0) (lo1 := 0) (N := 2) (As := [.int x1, .int x2]) ok tw_in_X5 tw_im_X5_blame tw_se_X5_blame tw_co_X5_blame tw_ml_X5_49 (by decide +kernel) rfl ob_48 rfl hroom hst d rfl (c_X5_blame (xl X) (xG X) h) kk
theorem cl_X5_118 {X : Cx} {cc : ByteArray} {nL pc fr lo : Nat} {L : List (Nat × Value)} {st : List Value} {S : St} (ok : Ok X cc nL RX5 fr lo) {x0 x1 x2 : Int32} (d : decode cc pc = .ok (.invokestatic 118, 3)) (hroom : 1 ≤ fr ∧ 22 ≤ lo) (hst : (st.map fun v => v.category).sum ≤ 8) {post : Int32 → St → Prop} (h : wp_X7_outside x0 x1 x2 S post) (kk : ∀ (r : Int32) (S1 : St), post r S1 → Wp X nL (pc + 3) L (.int r :: st) S1) : Wp X nL pc L (.int x2 :: .int x1 :: .int x0 :: st) S :=
  r_callNi (n := 3) (f := 0) (lo1 := 0) (N := 3) (As := [.int x0, .int x1, .int x2]) (host := RX7) ok tw_in_X7 tw_st_X7_outside tw_co_X7_outside ok.2.2.2.2.2.1.2.1 (by decide +kernel) rfl hroom hst d rfl (c_X7_outside (xl X) (xG X) h) kk
def B_X5_number_133 (post : Int32 → St → Prop) (x3 : Int32) (S : St) : Prop :=
  wp_X5_blame 2 (S 48 5) S (fun S1 => ((¬ (S1 48 3) = 0 → post 0 S1) ∧ ((S1 48 3) = 0 → post x3 S1)))
def B_X5_number_118 (post : Int32 → St → Prop) (x1 : Int32) (x2 : Int32) (x3 : Int32) (x4 : Int32) (S : St) : Prop :=
  ((3 < x4 → B_X5_number_133 post x3 S) ∧ (¬ 3 < x4 → wp_X7_outside x3 x1 x2 S (fun r3 S2 => ((r3 = 0 → ((¬ (S2 48 3) = 0 → post 0 S2) ∧ ((S2 48 3) = 0 → post x3 S2))) ∧ (¬ r3 = 0 → B_X5_number_133 post x3 S2)))))
def B_X5_number_93 (post : Int32 → St → Prop) (x1 : Int32) (x2 : Int32) (x3 : Int32) (S : St) : Prop :=
  ∀ v1 : Int32, v1 = ((S 48 4) - (S 48 5)) → ((¬ v1 = 0 → B_X5_number_118 post x1 x2 x3 v1 S) ∧ (v1 = 0 → wp_X5_blame 1 (S 48 5) S (fun S3 => B_X5_number_118 post x1 x2 x3 v1 S3)))
def BD_X5_number_23 (k23 : Int32 → Int32 → Int32 → St → Prop) (post : Int32 → St → Prop) (x1 : Int32) (x2 : Int32) (x3 : Int32) (S : St) : Prop :=
  (((S 48 1) ≤ (S 48 4) → B_X5_number_93 post x1 x2 x3 S) ∧ (¬ (S 48 1) ≤ (S 48 4) → vp_in (S 48 4) 250 ∧ (wp_X5_isFigure (S 49 (ix (S 48 4))) S (fun r3 S2 => ((r3 = 0 → B_X5_number_93 post x1 x2 x3 S2) ∧ (¬ r3 = 0 → ((3 ≤ ((S2 48 4) - (S2 48 5)) → ∀ S6 : St, S6 = up S2 48 4 ((S2 48 4) + 1) → k23 x1 x2 x3 S6) ∧ (¬ 3 ≤ ((S2 48 4) - (S2 48 5)) → vp_in (S2 48 4) 250 ∧ (∀ v7 : Int32, v7 = (((x3 * 10) + (S2 49 (ix (S2 48 4)))) - 48) → ∀ S8 : St, S8 = up S2 48 4 ((S2 48 4) + 1) → k23 x1 x2 v7 S8)))))))))
def L_X5_number_23 (post : Int32 → St → Prop) (n : Nat) : Int32 → Int32 → Int32 → St → Prop := Nat.rec (motive := fun _ => Int32 → Int32 → Int32 → St → Prop) (fun _ _ _ _ => False) (fun _ ih => BD_X5_number_23 ih post) n
def B_X5_number_23 (post : Int32 → St → Prop) (x1 : Int32) (x2 : Int32) (x3 : Int32) (S : St) : Prop := ∃ n, L_X5_number_23 post n x1 x2 x3 S
def wp_X5_number (x1 : Int32) (x2 : Int32) (S : St) (post : Int32 → St → Prop) : Prop :=
  (((S 48 3) = 0 → wp_X5_passBlanks S (fun S2 => ∀ S3 : St, S3 = up S2 48 5 (S2 48 4) → B_X5_number_23 post x1 x2 0 S3)) ∧ (¬ (S 48 3) = 0 → post 0 S))
theorem w_B_X5_number_133 {X : Cx} (ok : Ok X cX5_number 5 RX5 1 22) {post : Int32 → St → Prop} (hret : RetI X cX5_number 5 post) {x3 : Int32} {S : St} (h : B_X5_number_133 post x3 S) : Wp X 5 133 [(0, .ref (xad X 48)), (3, .int x3)] [] S := by
  unfold B_X5_number_133 at h
  refine r_aload_n ok dX5_number_133 0 rfl ?_
  refine r_iconst (v := 2) ok dX5_number_134 rfl ?_
  refine r_aload_n ok dX5_number_135 0 rfl ?_
  refine gf_X5_75 ok dX5_number_136 ?_
  refine cl_X5_49 ok dX5_number_139 (by decide) (Nat.le_of_ble_eq_true rfl) h (fun S1 h => ?_)
  refine r_aload_n ok dX5_number_142 0 rfl ?_
  refine gf_X5_23 ok dX5_number_143 ?_
  refine r_if_ne (tgt := 153) ok dX5_number_146 rfl (fun hc2 => ?_) (fun hc2 => ?_)
  · replace h := h.1 hc2
    refine r_iconst (v := 0) ok dX5_number_153 rfl ?_
    exact hret _ _ _ _ dX5_number_154 h
  · replace h := h.2 hc2
    refine r_iload_n ok dX5_number_149 1 rfl ?_
    refine r_goto (tgt := 154) ok dX5_number_150 rfl ?_
    exact hret _ _ _ _ dX5_number_154 h
theorem w_B_X5_number_118 {X : Cx} (ok : Ok X cX5_number 5 RX5 1 22) {post : Int32 → St → Prop} (hret : RetI X cX5_number 5 post) {x1 x2 x3 x4 : Int32} {S : St} (h : B_X5_number_118 post x1 x2 x3 x4 S) : Wp X 5 118 [(0, .ref (xad X 48)), (1, .int x1), (2, .int x2), (3, .int x3), (4, .int x4)] [] S := by
  unfold B_X5_number_118 at h
  refine r_iload ok dX5_number_118 4 rfl ?_
  refine r_iconst (v := 3) ok dX5_number_120 rfl ?_
  refine r_icmp_gt (tgt := 133) ok dX5_number_121 rfl (fun hc1 => ?_) (fun hc1 => ?_)
  · replace h := h.1 hc1
    refine r_sub [(0, .ref (xad X 48)), (3, .int x3)] [0, 3] rfl ?_
    exact w_B_X5_number_133 ok hret h
  · replace h := h.2 hc1
    refine r_iload_n ok dX5_number_124 3 rfl ?_
    refine r_iload_n ok dX5_number_125 1 rfl ?_
    refine r_iload_n ok dX5_number_126 2 rfl ?_
    refine cl_X5_118 ok dX5_number_127 (by decide) (Nat.le_of_ble_eq_true rfl) h (fun r3 S2 h => ?_)
    refine r_if_eq (tgt := 142) ok dX5_number_130 rfl (fun hc4 => ?_) (fun hc4 => ?_)
    · replace h := h.1 hc4
      refine r_aload_n ok dX5_number_142 0 rfl ?_
      refine gf_X5_23 ok dX5_number_143 ?_
      refine r_if_ne (tgt := 153) ok dX5_number_146 rfl (fun hc5 => ?_) (fun hc5 => ?_)
      · replace h := h.1 hc5
        refine r_iconst (v := 0) ok dX5_number_153 rfl ?_
        exact hret _ _ _ _ dX5_number_154 h
      · replace h := h.2 hc5
        refine r_iload_n ok dX5_number_149 3 rfl ?_
        refine r_goto (tgt := 154) ok dX5_number_150 rfl ?_
        exact hret _ _ _ _ dX5_number_154 h
    · replace h := h.2 hc4
      refine r_sub [(0, .ref (xad X 48)), (3, .int x3)] [0, 3] rfl ?_
      exact w_B_X5_number_133 ok hret h
theorem w_B_X5_number_93 {X : Cx} (ok : Ok X cX5_number 5 RX5 1 22) {post : Int32 → St → Prop} (hret : RetI X cX5_number 5 post) {x1 x2 x3 : Int32} {S : St} (h : B_X5_number_93 post x1 x2 x3 S) : Wp X 5 93 [(0, .ref (xad X 48)), (1, .int x1), (2, .int x2), (3, .int x3)] [] S := by
  unfold B_X5_number_93 at h
  refine r_aload_n ok dX5_number_93 0 rfl ?_
  refine gf_X5_26 ok dX5_number_94 ?_
  refine r_aload_n ok dX5_number_97 0 rfl ?_
  refine gf_X5_75 ok dX5_number_98 ?_
  refine r_isub ok dX5_number_101 ?_
  refine r_top (fun v1 ev1 => ?_)
  replace h := h v1 ev1
  refine r_istore ok dX5_number_102 (by decide) [(0, .ref (xad X 48)), (1, .int x1), (2, .int x2), (3, .int x3), (4, .int v1)] [1, 2, 3, 4, 0] rfl ?_
  refine r_iload ok dX5_number_104 4 rfl ?_
  refine r_if_ne (tgt := 118) ok dX5_number_106 rfl (fun hc2 => ?_) (fun hc2 => ?_)
  · replace h := h.1 hc2
    exact w_B_X5_number_118 ok hret h
  · replace h := h.2 hc2
    refine r_aload_n ok dX5_number_109 0 rfl ?_
    refine r_iconst (v := 1) ok dX5_number_110 rfl ?_
    refine r_aload_n ok dX5_number_111 0 rfl ?_
    refine gf_X5_75 ok dX5_number_112 ?_
    refine cl_X5_49 ok dX5_number_115 (by decide) (Nat.le_of_ble_eq_true rfl) h (fun S3 h => ?_)
    exact w_B_X5_number_118 ok hret h
theorem w_B_X5_number_23 {X : Cx} (ok : Ok X cX5_number 5 RX5 1 22) {post : Int32 → St → Prop} (hret : RetI X cX5_number 5 post) {x1 x2 x3 : Int32} {S : St} (h : B_X5_number_23 post x1 x2 x3 S) : Wp X 5 23 [(0, .ref (xad X 48)), (1, .int x1), (2, .int x2), (3, .int x3)] [] S := by
  obtain ⟨n, h⟩ := h
  induction n generalizing x1 x2 x3 S with
  | zero => exact False.elim h
  | succ n ih =>
    have hk23 : ∀ x1 x2 x3 S, L_X5_number_23 post n x1 x2 x3 S → Wp X 5 23 [(0, .ref (xad X 48)), (1, .int x1), (2, .int x2), (3, .int x3)] [] S := by intros; apply ih; assumption
    replace h : BD_X5_number_23 (L_X5_number_23 post n) post x1 x2 x3 S := h
    unfold BD_X5_number_23 at h
    generalize L_X5_number_23 post n = k23 at h hk23
    refine r_aload_n ok dX5_number_23 0 rfl ?_
    refine gf_X5_26 ok dX5_number_24 ?_
    refine r_aload_n ok dX5_number_27 0 rfl ?_
    refine gf_X5_19 ok dX5_number_28 ?_
    refine r_icmp_ge (tgt := 93) ok dX5_number_31 rfl (fun hc1 => ?_) (fun hc1 => ?_)
    · replace h := h.1 hc1
      exact w_B_X5_number_93 ok hret h
    · replace h := h.2 hc1
      refine r_aload_n ok dX5_number_34 0 rfl ?_
      refine gf_X5_9 ok dX5_number_35 ?_
      refine r_aload_n ok dX5_number_38 0 rfl ?_
      refine gf_X5_26 ok dX5_number_39 ?_
      refine r_iald ok ai_49 h.1 rfl dX5_number_42 ?_
      replace h := h.2
      refine cl_X5_114 ok dX5_number_43 (by decide) (Nat.le_of_ble_eq_true rfl) h (fun r3 S2 h => ?_)
      refine r_if_eq (tgt := 93) ok dX5_number_46 rfl (fun hc4 => ?_) (fun hc4 => ?_)
      · replace h := h.1 hc4
        exact w_B_X5_number_93 ok hret h
      · replace h := h.2 hc4
        refine r_aload_n ok dX5_number_49 0 rfl ?_
        refine gf_X5_26 ok dX5_number_50 ?_
        refine r_aload_n ok dX5_number_53 0 rfl ?_
        refine gf_X5_75 ok dX5_number_54 ?_
        refine r_isub ok dX5_number_57 ?_
        refine r_iconst (v := 3) ok dX5_number_58 rfl ?_
        refine r_icmp_ge (tgt := 80) ok dX5_number_59 rfl (fun hc5 => ?_) (fun hc5 => ?_)
        · replace h := h.1 hc5
          refine r_aload_n ok dX5_number_80 0 rfl ?_
          refine r_dup ok dX5_number_81 rfl ?_
          refine gf_X5_26 ok dX5_number_82 ?_
          refine r_iconst (v := 1) ok dX5_number_85 rfl ?_
          refine r_iadd ok dX5_number_86 ?_
          refine pf_X5_26 ok dX5_number_87 (fun S6 eS6 => ?_)
          replace h := h S6 eS6
          refine r_goto (tgt := 23) ok dX5_number_90 rfl ?_
          exact hk23 _ _ _ _ h
        · replace h := h.2 hc5
          refine r_iload_n ok dX5_number_62 3 rfl ?_
          refine r_bipush (v := 10) ok dX5_number_63 rfl ?_
          refine r_imul ok dX5_number_65 ?_
          refine r_aload_n ok dX5_number_66 0 rfl ?_
          refine gf_X5_9 ok dX5_number_67 ?_
          refine r_aload_n ok dX5_number_70 0 rfl ?_
          refine gf_X5_26 ok dX5_number_71 ?_
          refine r_iald ok ai_49 h.1 rfl dX5_number_74 ?_
          replace h := h.2
          refine r_iadd ok dX5_number_75 ?_
          refine r_bipush (v := 48) ok dX5_number_76 rfl ?_
          refine r_isub ok dX5_number_78 ?_
          refine r_top (fun v7 ev7 => ?_)
          replace h := h v7 ev7
          refine r_istore_n ok dX5_number_79 (by decide) [(0, .ref (xad X 48)), (1, .int x1), (2, .int x2), (3, .int v7)] [1, 2, 3, 0] rfl ?_
          refine r_aload_n ok dX5_number_80 0 rfl ?_
          refine r_dup ok dX5_number_81 rfl ?_
          refine gf_X5_26 ok dX5_number_82 ?_
          refine r_iconst (v := 1) ok dX5_number_85 rfl ?_
          refine r_iadd ok dX5_number_86 ?_
          refine pf_X5_26 ok dX5_number_87 (fun S8 eS8 => ?_)
          replace h := h S8 eS8
          refine r_goto (tgt := 23) ok dX5_number_90 rfl ?_
          exact hk23 _ _ _ _ h
theorem w_wp_X5_number {X : Cx} (ok : Ok X cX5_number 5 RX5 1 22) {post : Int32 → St → Prop} (hret : RetI X cX5_number 5 post) {x1 x2 : Int32} {S : St} (h : wp_X5_number x1 x2 S post) : Wp X 5 0 [(0, .ref (xad X 48)), (1, .int x1), (2, .int x2)] [] S := by
  unfold wp_X5_number at h
  refine r_aload_n ok dX5_number_0 0 rfl ?_
  refine gf_X5_23 ok dX5_number_1 ?_
  refine r_if_eq (tgt := 9) ok dX5_number_4 rfl (fun hc1 => ?_) (fun hc1 => ?_)
  · replace h := h.1 hc1
    refine r_aload_n ok dX5_number_9 0 rfl ?_
    refine cl_X5_29 ok dX5_number_10 (by decide) (Nat.le_of_ble_eq_true rfl) h (fun S2 h => ?_)
    refine r_aload_n ok dX5_number_13 0 rfl ?_
    refine r_aload_n ok dX5_number_14 0 rfl ?_
    refine gf_X5_26 ok dX5_number_15 ?_
    refine pf_X5_75 ok dX5_number_18 (fun S3 eS3 => ?_)
    replace h := h S3 eS3
    refine r_iconst (v := 0) ok dX5_number_21 rfl ?_
    refine r_istore_n ok dX5_number_22 (by decide) [(0, .ref (xad X 48)), (1, .int x1), (2, .int x2), (3, .int 0)] [1, 2, 3, 0] rfl ?_
    exact w_B_X5_number_23 ok hret h
  · replace h := h.2 hc1
    refine r_iconst (v := 0) ok dX5_number_7 rfl ?_
    exact hret _ _ _ _ dX5_number_8 h
theorem c_X5_number (l : Launch) (G : Gx) {x1 x2 : Int32} {S : St} {post : Int32 → St → Prop} (h : wp_X5_number x1 x2 S post) : MtI l yX5_number cX5_number 5 (some .int) 1 22 G [.ref (G.2.2 48), .int x1, .int x2] S post :=
  ctI (by decide) rfl (Nat.le_of_ble_eq_true rfl) (fun X _ hG ok hret => by subst hG; exact w_wp_X5_number ok hret h)

/-! HasteRoads$Text.tellPlace(LHasteRoads$World;I)V -/
theorem dX5_tellPlace_0 : decode cX5_tellPlace 0 = .ok (.aload_n 1, 1) := by decide +kernel
theorem dX5_tellPlace_1 : decode cX5_tellPlace 1 = .ok (.getfield 56, 3) := by decide +kernel
theorem dX5_tellPlace_4 : decode cX5_tellPlace 4 = .ok (.bipush 6, 2) := by decide +kernel
theorem dX5_tellPlace_6 : decode cX5_tellPlace 6 = .ok (.if_icmp .lt 9, 3) := by decide +kernel
theorem dX5_tellPlace_9 : decode cX5_tellPlace 9 = .ok (.aload_n 0, 1) := by decide +kernel
theorem dX5_tellPlace_10 : decode cX5_tellPlace 10 = .ok (.iconst 3, 1) := by decide +kernel
theorem dX5_tellPlace_11 : decode cX5_tellPlace 11 = .ok (.iload_n 2, 1) := by decide +kernel
theorem dX5_tellPlace_12 : decode cX5_tellPlace 12 = .ok (.invokevirtual 49, 3) := by decide +kernel
theorem dX5_tellPlace_15 : decode cX5_tellPlace 15 = .ok (.aload_n 0, 1) := by decide +kernel
theorem dX5_tellPlace_16 : decode cX5_tellPlace 16 = .ok (.iconst 0, 1) := by decide +kernel
theorem dX5_tellPlace_17 : decode cX5_tellPlace 17 = .ok (.iconst 1, 1) := by decide +kernel
theorem dX5_tellPlace_18 : decode cX5_tellPlace 18 = .ok (.invokevirtual 61, 3) := by decide +kernel
theorem dX5_tellPlace_21 : decode cX5_tellPlace 21 = .ok (.istore_n 3, 1) := by decide +kernel
theorem dX5_tellPlace_22 : decode cX5_tellPlace 22 = .ok (.aload_n 0, 1) := by decide +kernel
theorem dX5_tellPlace_23 : decode cX5_tellPlace 23 = .ok (.getfield 23, 3) := by decide +kernel
theorem dX5_tellPlace_26 : decode cX5_tellPlace 26 = .ok (.ifCond .eq 4, 3) := by decide +kernel
theorem dX5_tellPlace_29 : decode cX5_tellPlace 29 = .ok (.return_, 1) := by decide +kernel
theorem dX5_tellPlace_30 : decode cX5_tellPlace 30 = .ok (.aload_n 1, 1) := by decide +kernel
theorem dX5_tellPlace_31 : decode cX5_tellPlace 31 = .ok (.aload_n 1, 1) := by decide +kernel
theorem dX5_tellPlace_32 : decode cX5_tellPlace 32 = .ok (.getfield 65, 3) := by decide +kernel
theorem dX5_tellPlace_35 : decode cX5_tellPlace 35 = .ok (.aload_n 1, 1) := by decide +kernel
theorem dX5_tellPlace_36 : decode cX5_tellPlace 36 = .ok (.getfield 56, 3) := by decide +kernel
theorem dX5_tellPlace_39 : decode cX5_tellPlace 39 = .ok (.iload_n 3, 1) := by decide +kernel
theorem dX5_tellPlace_40 : decode cX5_tellPlace 40 = .ok (.iconst 1, 1) := by decide +kernel
theorem dX5_tellPlace_41 : decode cX5_tellPlace 41 = .ok (.if_icmp .ne 7, 3) := by decide +kernel
theorem dX5_tellPlace_44 : decode cX5_tellPlace 44 = .ok (.iconst 1, 1) := by decide +kernel
theorem dX5_tellPlace_45 : decode cX5_tellPlace 45 = .ok (.goto 4, 3) := by decide +kernel
theorem dX5_tellPlace_48 : decode cX5_tellPlace 48 = .ok (.iconst 0, 1) := by decide +kernel
theorem dX5_tellPlace_49 : decode cX5_tellPlace 49 = .ok (.invokestatic 68, 3) := by decide +kernel
theorem dX5_tellPlace_52 : decode cX5_tellPlace 52 = .ok (.putfield 65, 3) := by decide +kernel
theorem dX5_tellPlace_55 : decode cX5_tellPlace 55 = .ok (.aload_n 1, 1) := by decide +kernel
theorem dX5_tellPlace_56 : decode cX5_tellPlace 56 = .ok (.dup, 1) := by decide +kernel
theorem dX5_tellPlace_57 : decode cX5_tellPlace 57 = .ok (.getfield 56, 3) := by decide +kernel
theorem dX5_tellPlace_60 : decode cX5_tellPlace 60 = .ok (.iconst 1, 1) := by decide +kernel
theorem dX5_tellPlace_61 : decode cX5_tellPlace 61 = .ok (.iadd, 1) := by decide +kernel
theorem dX5_tellPlace_62 : decode cX5_tellPlace 62 = .ok (.putfield 56, 3) := by decide +kernel
theorem dX5_tellPlace_65 : decode cX5_tellPlace 65 = .ok (.return_, 1) := by decide +kernel
theorem gf_X5_56 {X : Cx} {cc : ByteArray} {nL pc fr lo : Nat} {L : List (Nat × Value)} {st : List Value} {S : St} (ok : Ok X cc nL RX5 fr lo) {o : Nat} (ho : isW o) (d : decode cc pc = .ok (.getfield 56, 3)) (k : Wp X nL (pc + 3) L (.int (S o 0) :: st) S) : Wp X nL pc L (.ref (xad X o) :: st) S :=
  r_get (C := RX6) (T := TX6) ok ho.ob rfl i_X6 0 (by decide) tw_fl_X5_56 d (by rw [show fvl (xad X) S o 0 = .int (S o 0) from (fvl_int (ho.ri 0 (by decide)))]; exact k)
theorem gf_X5_65 {X : Cx} {cc : ByteArray} {nL pc fr lo : Nat} {L : List (Nat × Value)} {st : List Value} {S : St} (ok : Ok X cc nL RX5 fr lo) {o : Nat} (ho : isW o) (d : decode cc pc = .ok (.getfield 65, 3)) (k : Wp X nL (pc + 3) L (.int (S o 3) :: st) S) : Wp X nL pc L (.ref (xad X o) :: st) S :=
  r_get (C := RX6) (T := TX6) ok ho.ob rfl i_X6 3 (by decide) tw_fl_X5_65 d (by rw [show fvl (xad X) S o 3 = .int (S o 3) from (fvl_int (ho.ri 3 (by decide)))]; exact k)
theorem pf_X5_65 {X : Cx} {cc : ByteArray} {nL pc fr lo : Nat} {L : List (Nat × Value)} {st : List Value} {S : St} {v : Int32} (ok : Ok X cc nL RX5 fr lo) {o : Nat} (ho : isW o) (d : decode cc pc = .ok (.putfield 65, 3)) (k : ∀ S1 : St, S1 = up S o 3 v → Wp X nL (pc + 3) L st S1) : Wp X nL pc L (.int v :: .ref (xad X o) :: st) S :=
  r_put (C := RX6) (T := TX6) ok ho.ob rfl i_X6 tyX6 tyX6_ok nmX6 3 (by decide) tw_fl_X5_65 rfl rfl (ho.ri 3 (by decide)) d (k _ rfl)
theorem pf_X5_56 {X : Cx} {cc : ByteArray} {nL pc fr lo : Nat} {L : List (Nat × Value)} {st : List Value} {S : St} {v : Int32} (ok : Ok X cc nL RX5 fr lo) {o : Nat} (ho : isW o) (d : decode cc pc = .ok (.putfield 56, 3)) (k : ∀ S1 : St, S1 = up S o 0 v → Wp X nL (pc + 3) L st S1) : Wp X nL pc L (.int v :: .ref (xad X o) :: st) S :=
  r_put (C := RX6) (T := TX6) ok ho.ob rfl i_X6 tyX6 tyX6_ok nmX6 0 (by decide) tw_fl_X5_56 rfl rfl (ho.ri 0 (by decide)) d (k _ rfl)
theorem cl_X5_61 {X : Cx} {cc : ByteArray} {nL pc fr lo : Nat} {L : List (Nat × Value)} {st : List Value} {S : St} (ok : Ok X cc nL RX5 fr lo) {x1 x2 : Int32} (d : decode cc pc = .ok (.invokevirtual 61, 3)) (hroom : 2 ≤ fr ∧ 46 ≤ lo) (hst : (st.map fun v => v.category).sum ≤ 8) {post : Int32 → St → Prop} (h : wp_X5_number x1 x2 S post) (kk : ∀ (r : Int32) (S1 : St), post r S1 → Wp X nL (pc + 3) L (.int r :: st) S1) : Wp X nL pc L (.int x2 :: .int x1 :: .ref (xad X 48) :: st) S :=
  r_callVi (n := 5) (f := 1) (lo1 := 22) (N := 2) (As := [.int x1, .int x2]) ok tw_in_X5 tw_im_X5_number tw_se_X5_number tw_co_X5_number tw_ml_X5_61 (by decide +kernel) rfl ob_48 rfl hroom hst d rfl (c_X5_number (xl X) (xG X) h) kk
theorem cl_X5_68 {X : Cx} {cc : ByteArray} {nL pc fr lo : Nat} {L : List (Nat × Value)} {st : List Value} {S : St} (ok : Ok X cc nL RX5 fr lo) {x0 x1 x2 : Int32} (d : decode cc pc = .ok (.invokestatic 68, 3)) (hroom : 1 ≤ fr ∧ 22 ≤ lo) (hst : (st.map fun v => v.category).sum ≤ 8) {post : Int32 → St → Prop} (h : wp_X7_withBit x0 x1 x2 S post) (kk : ∀ (r : Int32) (S1 : St), post r S1 → Wp X nL (pc + 3) L (.int r :: st) S1) : Wp X nL pc L (.int x2 :: .int x1 :: .int x0 :: st) S :=
  r_callNi (n := 3) (f := 0) (lo1 := 0) (N := 3) (As := [.int x0, .int x1, .int x2]) (host := RX7) ok tw_in_X7 tw_st_X7_withBit tw_co_X7_withBit ok.2.2.2.2.2.1.2.2 (by decide +kernel) rfl hroom hst d rfl (c_X7_withBit (xl X) (xG X) h) kk
def B_X5_tellPlace_15 (post : St → Prop) (S : St) : Prop :=
  wp_X5_number 0 1 S (fun r2 S1 => (((S1 48 3) = 0 → ((¬ r2 = 1 → wp_X7_withBit (S1 11 3) (S1 11 0) 0 S1 (fun r6 S5 => ∀ S7 : St, S7 = up S5 11 3 r6 → ∀ S8 : St, S8 = up S7 11 0 ((S7 11 0) + 1) → post S8)) ∧ (r2 = 1 → wp_X7_withBit (S1 11 3) (S1 11 0) 1 S1 (fun r10 S9 => ∀ S11 : St, S11 = up S9 11 3 r10 → ∀ S12 : St, S12 = up S11 11 0 ((S11 11 0) + 1) → post S12)))) ∧ (¬ (S1 48 3) = 0 → post S1)))
def wp_X5_tellPlace (x2 : Int32) (S : St) (post : St → Prop) : Prop :=
  (((S 11 0) < 6 → B_X5_tellPlace_15 post S) ∧ (¬ (S 11 0) < 6 → wp_X5_blame 3 x2 S (fun S2 => B_X5_tellPlace_15 post S2)))
theorem w_B_X5_tellPlace_15 {X : Cx} (ok : Ok X cX5_tellPlace 4 RX5 2 46) {post : St → Prop} (hret : RetV X cX5_tellPlace 4 post) {S : St} (h : B_X5_tellPlace_15 post S) : Wp X 4 15 [(0, .ref (xad X 48)), (1, .ref (xad X 11))] [] S := by
  unfold B_X5_tellPlace_15 at h
  refine r_aload_n ok dX5_tellPlace_15 0 rfl ?_
  refine r_iconst (v := 0) ok dX5_tellPlace_16 rfl ?_
  refine r_iconst (v := 1) ok dX5_tellPlace_17 rfl ?_
  refine cl_X5_61 ok dX5_tellPlace_18 (by decide) (Nat.le_of_ble_eq_true rfl) h (fun r2 S1 h => ?_)
  refine r_istore_n ok dX5_tellPlace_21 (by decide) [(0, .ref (xad X 48)), (1, .ref (xad X 11)), (3, .int r2)] [1, 2, 0] rfl ?_
  refine r_aload_n ok dX5_tellPlace_22 0 rfl ?_
  refine gf_X5_23 ok dX5_tellPlace_23 ?_
  refine r_if_eq (tgt := 30) ok dX5_tellPlace_26 rfl (fun hc3 => ?_) (fun hc3 => ?_)
  · replace h := h.1 hc3
    refine r_aload_n ok dX5_tellPlace_30 1 rfl ?_
    refine r_aload_n ok dX5_tellPlace_31 1 rfl ?_
    refine gf_X5_65 ok isW_11 dX5_tellPlace_32 ?_
    refine r_aload_n ok dX5_tellPlace_35 1 rfl ?_
    refine gf_X5_56 ok isW_11 dX5_tellPlace_36 ?_
    refine r_iload_n ok dX5_tellPlace_39 2 rfl ?_
    refine r_iconst (v := 1) ok dX5_tellPlace_40 rfl ?_
    refine r_icmp_ne (tgt := 48) ok dX5_tellPlace_41 rfl (fun hc4 => ?_) (fun hc4 => ?_)
    · replace h := h.1 hc4
      refine r_iconst (v := 0) ok dX5_tellPlace_48 rfl ?_
      refine cl_X5_68 ok dX5_tellPlace_49 (by decide) (Nat.le_of_ble_eq_true rfl) h (fun r6 S5 h => ?_)
      refine pf_X5_65 ok isW_11 dX5_tellPlace_52 (fun S7 eS7 => ?_)
      replace h := h S7 eS7
      refine r_aload_n ok dX5_tellPlace_55 1 rfl ?_
      refine r_dup ok dX5_tellPlace_56 rfl ?_
      refine gf_X5_56 ok isW_11 dX5_tellPlace_57 ?_
      refine r_iconst (v := 1) ok dX5_tellPlace_60 rfl ?_
      refine r_iadd ok dX5_tellPlace_61 ?_
      refine pf_X5_56 ok isW_11 dX5_tellPlace_62 (fun S8 eS8 => ?_)
      replace h := h S8 eS8
      exact hret _ _ _ dX5_tellPlace_65 h
    · replace h := h.2 hc4
      refine r_iconst (v := 1) ok dX5_tellPlace_44 rfl ?_
      refine r_goto (tgt := 49) ok dX5_tellPlace_45 rfl ?_
      refine cl_X5_68 ok dX5_tellPlace_49 (by decide) (Nat.le_of_ble_eq_true rfl) h (fun r10 S9 h => ?_)
      refine pf_X5_65 ok isW_11 dX5_tellPlace_52 (fun S11 eS11 => ?_)
      replace h := h S11 eS11
      refine r_aload_n ok dX5_tellPlace_55 1 rfl ?_
      refine r_dup ok dX5_tellPlace_56 rfl ?_
      refine gf_X5_56 ok isW_11 dX5_tellPlace_57 ?_
      refine r_iconst (v := 1) ok dX5_tellPlace_60 rfl ?_
      refine r_iadd ok dX5_tellPlace_61 ?_
      refine pf_X5_56 ok isW_11 dX5_tellPlace_62 (fun S12 eS12 => ?_)
      replace h := h S12 eS12
      exact hret _ _ _ dX5_tellPlace_65 h
  · replace h := h.2 hc3
    exact hret _ _ _ dX5_tellPlace_29 h
theorem w_wp_X5_tellPlace {X : Cx} (ok : Ok X cX5_tellPlace 4 RX5 2 46) {post : St → Prop} (hret : RetV X cX5_tellPlace 4 post) {x2 : Int32} {S : St} (h : wp_X5_tellPlace x2 S post) : Wp X 4 0 [(0, .ref (xad X 48)), (1, .ref (xad X 11)), (2, .int x2)] [] S := by
  unfold wp_X5_tellPlace at h
  refine r_aload_n ok dX5_tellPlace_0 1 rfl ?_
  refine gf_X5_56 ok isW_11 dX5_tellPlace_1 ?_
  refine r_bipush (v := 6) ok dX5_tellPlace_4 rfl ?_
  refine r_icmp_lt (tgt := 15) ok dX5_tellPlace_6 rfl (fun hc1 => ?_) (fun hc1 => ?_)
  · replace h := h.1 hc1
    refine r_sub [(0, .ref (xad X 48)), (1, .ref (xad X 11))] [0, 1] rfl ?_
    exact w_B_X5_tellPlace_15 ok hret h
  · replace h := h.2 hc1
    refine r_aload_n ok dX5_tellPlace_9 0 rfl ?_
    refine r_iconst (v := 3) ok dX5_tellPlace_10 rfl ?_
    refine r_iload_n ok dX5_tellPlace_11 2 rfl ?_
    refine cl_X5_49 ok dX5_tellPlace_12 (by decide) (Nat.le_of_ble_eq_true rfl) h (fun S2 h => ?_)
    refine r_sub [(0, .ref (xad X 48)), (1, .ref (xad X 11))] [0, 1] rfl ?_
    exact w_B_X5_tellPlace_15 ok hret h
theorem c_X5_tellPlace (l : Launch) (G : Gx) {x2 : Int32} {S : St} {post : St → Prop} (h : wp_X5_tellPlace x2 S post) : MtV l yX5_tellPlace cX5_tellPlace 4 2 46 G [.ref (G.2.2 48), .ref (G.2.2 11), .int x2] S post :=
  ctV (by decide) rfl (Nat.le_of_ble_eq_true rfl) (fun X _ hG ok hret => by subst hG; exact w_wp_X5_tellPlace ok hret h)

/-! HasteRoads$Text.tellRoad(LHasteRoads$World;I)V -/
theorem dX5_tellRoad_0 : decode cX5_tellRoad 0 = .ok (.aload_n 1, 1) := by decide +kernel
theorem dX5_tellRoad_1 : decode cX5_tellRoad 1 = .ok (.getfield 72, 3) := by decide +kernel
theorem dX5_tellRoad_4 : decode cX5_tellRoad 4 = .ok (.bipush 9, 2) := by decide +kernel
theorem dX5_tellRoad_6 : decode cX5_tellRoad 6 = .ok (.if_icmp .lt 9, 3) := by decide +kernel
theorem dX5_tellRoad_9 : decode cX5_tellRoad 9 = .ok (.aload_n 0, 1) := by decide +kernel
theorem dX5_tellRoad_10 : decode cX5_tellRoad 10 = .ok (.iconst 3, 1) := by decide +kernel
theorem dX5_tellRoad_11 : decode cX5_tellRoad 11 = .ok (.iload_n 2, 1) := by decide +kernel
theorem dX5_tellRoad_12 : decode cX5_tellRoad 12 = .ok (.invokevirtual 49, 3) := by decide +kernel
theorem dX5_tellRoad_15 : decode cX5_tellRoad 15 = .ok (.aload_n 0, 1) := by decide +kernel
theorem dX5_tellRoad_16 : decode cX5_tellRoad 16 = .ok (.iconst 0, 1) := by decide +kernel
theorem dX5_tellRoad_17 : decode cX5_tellRoad 17 = .ok (.aload_n 1, 1) := by decide +kernel
theorem dX5_tellRoad_18 : decode cX5_tellRoad 18 = .ok (.getfield 56, 3) := by decide +kernel
theorem dX5_tellRoad_21 : decode cX5_tellRoad 21 = .ok (.iconst 1, 1) := by decide +kernel
theorem dX5_tellRoad_22 : decode cX5_tellRoad 22 = .ok (.isub, 1) := by decide +kernel
theorem dX5_tellRoad_23 : decode cX5_tellRoad 23 = .ok (.invokevirtual 61, 3) := by decide +kernel
theorem dX5_tellRoad_26 : decode cX5_tellRoad 26 = .ok (.istore_n 3, 1) := by decide +kernel
theorem dX5_tellRoad_27 : decode cX5_tellRoad 27 = .ok (.aload_n 0, 1) := by decide +kernel
theorem dX5_tellRoad_28 : decode cX5_tellRoad 28 = .ok (.iconst 0, 1) := by decide +kernel
theorem dX5_tellRoad_29 : decode cX5_tellRoad 29 = .ok (.aload_n 1, 1) := by decide +kernel
theorem dX5_tellRoad_30 : decode cX5_tellRoad 30 = .ok (.getfield 56, 3) := by decide +kernel
theorem dX5_tellRoad_33 : decode cX5_tellRoad 33 = .ok (.iconst 1, 1) := by decide +kernel
theorem dX5_tellRoad_34 : decode cX5_tellRoad 34 = .ok (.isub, 1) := by decide +kernel
theorem dX5_tellRoad_35 : decode cX5_tellRoad 35 = .ok (.invokevirtual 61, 3) := by decide +kernel
theorem dX5_tellRoad_38 : decode cX5_tellRoad 38 = .ok (.istore 4, 2) := by decide +kernel
theorem dX5_tellRoad_40 : decode cX5_tellRoad 40 = .ok (.iload_n 3, 1) := by decide +kernel
theorem dX5_tellRoad_41 : decode cX5_tellRoad 41 = .ok (.iload 4, 2) := by decide +kernel
theorem dX5_tellRoad_43 : decode cX5_tellRoad 43 = .ok (.if_icmp .ne 12, 3) := by decide +kernel
theorem dX5_tellRoad_46 : decode cX5_tellRoad 46 = .ok (.aload_n 0, 1) := by decide +kernel
theorem dX5_tellRoad_47 : decode cX5_tellRoad 47 = .ok (.iconst 4, 1) := by decide +kernel
theorem dX5_tellRoad_48 : decode cX5_tellRoad 48 = .ok (.aload_n 0, 1) := by decide +kernel
theorem dX5_tellRoad_49 : decode cX5_tellRoad 49 = .ok (.getfield 75, 3) := by decide +kernel
theorem dX5_tellRoad_52 : decode cX5_tellRoad 52 = .ok (.invokevirtual 49, 3) := by decide +kernel
theorem dX5_tellRoad_55 : decode cX5_tellRoad 55 = .ok (.aload_n 0, 1) := by decide +kernel
theorem dX5_tellRoad_56 : decode cX5_tellRoad 56 = .ok (.iconst 1, 1) := by decide +kernel
theorem dX5_tellRoad_57 : decode cX5_tellRoad 57 = .ok (.bipush 20, 2) := by decide +kernel
theorem dX5_tellRoad_59 : decode cX5_tellRoad 59 = .ok (.invokevirtual 61, 3) := by decide +kernel
theorem dX5_tellRoad_62 : decode cX5_tellRoad 62 = .ok (.istore 5, 2) := by decide +kernel
theorem dX5_tellRoad_64 : decode cX5_tellRoad 64 = .ok (.aload_n 0, 1) := by decide +kernel
theorem dX5_tellRoad_65 : decode cX5_tellRoad 65 = .ok (.getfield 23, 3) := by decide +kernel
theorem dX5_tellRoad_68 : decode cX5_tellRoad 68 = .ok (.ifCond .eq 4, 3) := by decide +kernel
theorem dX5_tellRoad_71 : decode cX5_tellRoad 71 = .ok (.return_, 1) := by decide +kernel
theorem dX5_tellRoad_72 : decode cX5_tellRoad 72 = .ok (.aload_n 1, 1) := by decide +kernel
theorem dX5_tellRoad_73 : decode cX5_tellRoad 73 = .ok (.getfield 78, 3) := by decide +kernel
theorem dX5_tellRoad_76 : decode cX5_tellRoad 76 = .ok (.aload_n 1, 1) := by decide +kernel
theorem dX5_tellRoad_77 : decode cX5_tellRoad 77 = .ok (.getfield 72, 3) := by decide +kernel
theorem dX5_tellRoad_80 : decode cX5_tellRoad 80 = .ok (.iload_n 3, 1) := by decide +kernel
theorem dX5_tellRoad_81 : decode cX5_tellRoad 81 = .ok (.iastore, 1) := by decide +kernel
theorem dX5_tellRoad_82 : decode cX5_tellRoad 82 = .ok (.aload_n 1, 1) := by decide +kernel
theorem dX5_tellRoad_83 : decode cX5_tellRoad 83 = .ok (.getfield 81, 3) := by decide +kernel
theorem dX5_tellRoad_86 : decode cX5_tellRoad 86 = .ok (.aload_n 1, 1) := by decide +kernel
theorem dX5_tellRoad_87 : decode cX5_tellRoad 87 = .ok (.getfield 72, 3) := by decide +kernel
theorem dX5_tellRoad_90 : decode cX5_tellRoad 90 = .ok (.iload 4, 2) := by decide +kernel
theorem dX5_tellRoad_92 : decode cX5_tellRoad 92 = .ok (.iastore, 1) := by decide +kernel
theorem dX5_tellRoad_93 : decode cX5_tellRoad 93 = .ok (.aload_n 1, 1) := by decide +kernel
theorem dX5_tellRoad_94 : decode cX5_tellRoad 94 = .ok (.getfield 84, 3) := by decide +kernel
theorem dX5_tellRoad_97 : decode cX5_tellRoad 97 = .ok (.aload_n 1, 1) := by decide +kernel
theorem dX5_tellRoad_98 : decode cX5_tellRoad 98 = .ok (.getfield 72, 3) := by decide +kernel
theorem dX5_tellRoad_101 : decode cX5_tellRoad 101 = .ok (.iload 5, 2) := by decide +kernel
theorem dX5_tellRoad_103 : decode cX5_tellRoad 103 = .ok (.iastore, 1) := by decide +kernel
theorem dX5_tellRoad_104 : decode cX5_tellRoad 104 = .ok (.aload_n 1, 1) := by decide +kernel
theorem dX5_tellRoad_105 : decode cX5_tellRoad 105 = .ok (.dup, 1) := by decide +kernel
theorem dX5_tellRoad_106 : decode cX5_tellRoad 106 = .ok (.getfield 72, 3) := by decide +kernel
theorem dX5_tellRoad_109 : decode cX5_tellRoad 109 = .ok (.iconst 1, 1) := by decide +kernel
theorem dX5_tellRoad_110 : decode cX5_tellRoad 110 = .ok (.iadd, 1) := by decide +kernel
theorem dX5_tellRoad_111 : decode cX5_tellRoad 111 = .ok (.putfield 72, 3) := by decide +kernel
theorem dX5_tellRoad_114 : decode cX5_tellRoad 114 = .ok (.return_, 1) := by decide +kernel
theorem gf_X5_72 {X : Cx} {cc : ByteArray} {nL pc fr lo : Nat} {L : List (Nat × Value)} {st : List Value} {S : St} (ok : Ok X cc nL RX5 fr lo) {o : Nat} (ho : isW o) (d : decode cc pc = .ok (.getfield 72, 3)) (k : Wp X nL (pc + 3) L (.int (S o 1) :: st) S) : Wp X nL pc L (.ref (xad X o) :: st) S :=
  r_get (C := RX6) (T := TX6) ok ho.ob rfl i_X6 1 (by decide) tw_fl_X5_72 d (by rw [show fvl (xad X) S o 1 = .int (S o 1) from (fvl_int (ho.ri 1 (by decide)))]; exact k)
theorem gf_X5_78 {X : Cx} {cc : ByteArray} {nL pc fr lo : Nat} {L : List (Nat × Value)} {st : List Value} {S : St} (ok : Ok X cc nL RX5 fr lo) {o : Nat} (ho : isW o) (d : decode cc pc = .ok (.getfield 78, 3)) (k : Wp X nL (pc + 3) L (.ref (xad X (o + 1)) :: st) S) : Wp X nL pc L (.ref (xad X o) :: st) S :=
  r_get (C := RX6) (T := TX6) ok ho.ob rfl i_X6 6 (by decide) tw_fl_X5_78 d (by rw [show fvl (xad X) S o 6 = .ref (xad X (o + 1)) from (fvl_ref (d := o + 1) (ho.rr 0 (by decide)))]; exact k)
theorem gf_X5_81 {X : Cx} {cc : ByteArray} {nL pc fr lo : Nat} {L : List (Nat × Value)} {st : List Value} {S : St} (ok : Ok X cc nL RX5 fr lo) {o : Nat} (ho : isW o) (d : decode cc pc = .ok (.getfield 81, 3)) (k : Wp X nL (pc + 3) L (.ref (xad X (o + 2)) :: st) S) : Wp X nL pc L (.ref (xad X o) :: st) S :=
  r_get (C := RX6) (T := TX6) ok ho.ob rfl i_X6 7 (by decide) tw_fl_X5_81 d (by rw [show fvl (xad X) S o 7 = .ref (xad X (o + 2)) from (fvl_ref (d := o + 2) (ho.rr 1 (by decide)))]; exact k)
theorem gf_X5_84 {X : Cx} {cc : ByteArray} {nL pc fr lo : Nat} {L : List (Nat × Value)} {st : List Value} {S : St} (ok : Ok X cc nL RX5 fr lo) {o : Nat} (ho : isW o) (d : decode cc pc = .ok (.getfield 84, 3)) (k : Wp X nL (pc + 3) L (.ref (xad X (o + 3)) :: st) S) : Wp X nL pc L (.ref (xad X o) :: st) S :=
  r_get (C := RX6) (T := TX6) ok ho.ob rfl i_X6 8 (by decide) tw_fl_X5_84 d (by rw [show fvl (xad X) S o 8 = .ref (xad X (o + 3)) from (fvl_ref (d := o + 3) (ho.rr 2 (by decide)))]; exact k)
theorem pf_X5_72 {X : Cx} {cc : ByteArray} {nL pc fr lo : Nat} {L : List (Nat × Value)} {st : List Value} {S : St} {v : Int32} (ok : Ok X cc nL RX5 fr lo) {o : Nat} (ho : isW o) (d : decode cc pc = .ok (.putfield 72, 3)) (k : ∀ S1 : St, S1 = up S o 1 v → Wp X nL (pc + 3) L st S1) : Wp X nL pc L (.int v :: .ref (xad X o) :: st) S :=
  r_put (C := RX6) (T := TX6) ok ho.ob rfl i_X6 tyX6 tyX6_ok nmX6 1 (by decide) tw_fl_X5_72 rfl rfl (ho.ri 1 (by decide)) d (k _ rfl)
def B_X5_tellRoad_55 (post : St → Prop) (x3 : Int32) (x4 : Int32) (S : St) : Prop :=
  wp_X5_number 1 20 S (fun r2 S1 => (((S1 48 3) = 0 → vp_in (S1 11 1) 9 ∧ (∀ S4 : St, S4 = up S1 12 (ix (S1 11 1)) x3 → vp_in (S4 11 1) 9 ∧ (∀ S6 : St, S6 = up S4 13 (ix (S4 11 1)) x4 → vp_in (S6 11 1) 9 ∧ (∀ S8 : St, S8 = up S6 14 (ix (S6 11 1)) r2 → ∀ S10 : St, S10 = up S8 11 1 ((S8 11 1) + 1) → post S10)))) ∧ (¬ (S1 48 3) = 0 → post S1)))
def B_X5_tellRoad_15 (post : St → Prop) (S : St) : Prop :=
  wp_X5_number 0 ((S 11 0) - 1) S (fun r2 S1 => wp_X5_number 0 ((S1 11 0) - 1) S1 (fun r4 S3 => ((¬ r2 = r4 → B_X5_tellRoad_55 post r2 r4 S3) ∧ (r2 = r4 → wp_X5_blame 4 (S3 48 5) S3 (fun S6 => B_X5_tellRoad_55 post r2 r4 S6)))))
def wp_X5_tellRoad (x2 : Int32) (S : St) (post : St → Prop) : Prop :=
  (((S 11 1) < 9 → B_X5_tellRoad_15 post S) ∧ (¬ (S 11 1) < 9 → wp_X5_blame 3 x2 S (fun S2 => B_X5_tellRoad_15 post S2)))
theorem w_B_X5_tellRoad_55 {X : Cx} (ok : Ok X cX5_tellRoad 6 RX5 2 46) {post : St → Prop} (hret : RetV X cX5_tellRoad 6 post) {x3 x4 : Int32} {S : St} (h : B_X5_tellRoad_55 post x3 x4 S) : Wp X 6 55 [(0, .ref (xad X 48)), (1, .ref (xad X 11)), (3, .int x3), (4, .int x4)] [] S := by
  unfold B_X5_tellRoad_55 at h
  refine r_aload_n ok dX5_tellRoad_55 0 rfl ?_
  refine r_iconst (v := 1) ok dX5_tellRoad_56 rfl ?_
  refine r_bipush (v := 20) ok dX5_tellRoad_57 rfl ?_
  refine cl_X5_61 ok dX5_tellRoad_59 (by decide) (Nat.le_of_ble_eq_true rfl) h (fun r2 S1 h => ?_)
  refine r_istore ok dX5_tellRoad_62 (by decide) [(0, .ref (xad X 48)), (1, .ref (xad X 11)), (3, .int x3), (4, .int x4), (5, .int r2)] [1, 2, 3, 4, 0] rfl ?_
  refine r_aload_n ok dX5_tellRoad_64 0 rfl ?_
  refine gf_X5_23 ok dX5_tellRoad_65 ?_
  refine r_if_eq (tgt := 72) ok dX5_tellRoad_68 rfl (fun hc3 => ?_) (fun hc3 => ?_)
  · replace h := h.1 hc3
    refine r_aload_n ok dX5_tellRoad_72 1 rfl ?_
    refine gf_X5_78 ok isW_11 dX5_tellRoad_73 ?_
    refine r_aload_n ok dX5_tellRoad_76 1 rfl ?_
    refine gf_X5_72 ok isW_11 dX5_tellRoad_77 ?_
    refine r_iload_n ok dX5_tellRoad_80 2 rfl ?_
    have hi5 := h.1
    replace h := h.2
    refine r_iast ok ai_12 hi5 rfl dX5_tellRoad_81 (fun S4 eS4 => ?_)
    replace h := h S4 eS4
    refine r_aload_n ok dX5_tellRoad_82 1 rfl ?_
    refine gf_X5_81 ok isW_11 dX5_tellRoad_83 ?_
    refine r_aload_n ok dX5_tellRoad_86 1 rfl ?_
    refine gf_X5_72 ok isW_11 dX5_tellRoad_87 ?_
    refine r_iload ok dX5_tellRoad_90 3 rfl ?_
    have hi7 := h.1
    replace h := h.2
    refine r_iast ok ai_13 hi7 rfl dX5_tellRoad_92 (fun S6 eS6 => ?_)
    replace h := h S6 eS6
    refine r_aload_n ok dX5_tellRoad_93 1 rfl ?_
    refine gf_X5_84 ok isW_11 dX5_tellRoad_94 ?_
    refine r_aload_n ok dX5_tellRoad_97 1 rfl ?_
    refine gf_X5_72 ok isW_11 dX5_tellRoad_98 ?_
    refine r_iload ok dX5_tellRoad_101 4 rfl ?_
    have hi9 := h.1
    replace h := h.2
    refine r_iast ok ai_14 hi9 rfl dX5_tellRoad_103 (fun S8 eS8 => ?_)
    replace h := h S8 eS8
    refine r_aload_n ok dX5_tellRoad_104 1 rfl ?_
    refine r_dup ok dX5_tellRoad_105 rfl ?_
    refine gf_X5_72 ok isW_11 dX5_tellRoad_106 ?_
    refine r_iconst (v := 1) ok dX5_tellRoad_109 rfl ?_
    refine r_iadd ok dX5_tellRoad_110 ?_
    refine pf_X5_72 ok isW_11 dX5_tellRoad_111 (fun S10 eS10 => ?_)
    replace h := h S10 eS10
    exact hret _ _ _ dX5_tellRoad_114 h
  · replace h := h.2 hc3
    exact hret _ _ _ dX5_tellRoad_71 h
theorem w_B_X5_tellRoad_15 {X : Cx} (ok : Ok X cX5_tellRoad 6 RX5 2 46) {post : St → Prop} (hret : RetV X cX5_tellRoad 6 post) {S : St} (h : B_X5_tellRoad_15 post S) : Wp X 6 15 [(0, .ref (xad X 48)), (1, .ref (xad X 11))] [] S := by
  unfold B_X5_tellRoad_15 at h
  refine r_aload_n ok dX5_tellRoad_15 0 rfl ?_
  refine r_iconst (v := 0) ok dX5_tellRoad_16 rfl ?_
  refine r_aload_n ok dX5_tellRoad_17 1 rfl ?_
  refine gf_X5_56 ok isW_11 dX5_tellRoad_18 ?_
  refine r_iconst (v := 1) ok dX5_tellRoad_21 rfl ?_
  refine r_isub ok dX5_tellRoad_22 ?_
  refine cl_X5_61 ok dX5_tellRoad_23 (by decide) (Nat.le_of_ble_eq_true rfl) h (fun r2 S1 h => ?_)
  refine r_istore_n ok dX5_tellRoad_26 (by decide) [(0, .ref (xad X 48)), (1, .ref (xad X 11)), (3, .int r2)] [1, 2, 0] rfl ?_
  refine r_aload_n ok dX5_tellRoad_27 0 rfl ?_
  refine r_iconst (v := 0) ok dX5_tellRoad_28 rfl ?_
  refine r_aload_n ok dX5_tellRoad_29 1 rfl ?_
  refine gf_X5_56 ok isW_11 dX5_tellRoad_30 ?_
  refine r_iconst (v := 1) ok dX5_tellRoad_33 rfl ?_
  refine r_isub ok dX5_tellRoad_34 ?_
  refine cl_X5_61 ok dX5_tellRoad_35 (by decide) (Nat.le_of_ble_eq_true rfl) h (fun r4 S3 h => ?_)
  refine r_istore ok dX5_tellRoad_38 (by decide) [(0, .ref (xad X 48)), (1, .ref (xad X 11)), (3, .int r2), (4, .int r4)] [1, 2, 3, 0] rfl ?_
  refine r_iload_n ok dX5_tellRoad_40 2 rfl ?_
  refine r_iload ok dX5_tellRoad_41 3 rfl ?_
  refine r_icmp_ne (tgt := 55) ok dX5_tellRoad_43 rfl (fun hc5 => ?_) (fun hc5 => ?_)
  · replace h := h.1 hc5
    exact w_B_X5_tellRoad_55 ok hret h
  · replace h := h.2 hc5
    refine r_aload_n ok dX5_tellRoad_46 0 rfl ?_
    refine r_iconst (v := 4) ok dX5_tellRoad_47 rfl ?_
    refine r_aload_n ok dX5_tellRoad_48 0 rfl ?_
    refine gf_X5_75 ok dX5_tellRoad_49 ?_
    refine cl_X5_49 ok dX5_tellRoad_52 (by decide) (Nat.le_of_ble_eq_true rfl) h (fun S6 h => ?_)
    exact w_B_X5_tellRoad_55 ok hret h
theorem w_wp_X5_tellRoad {X : Cx} (ok : Ok X cX5_tellRoad 6 RX5 2 46) {post : St → Prop} (hret : RetV X cX5_tellRoad 6 post) {x2 : Int32} {S : St} (h : wp_X5_tellRoad x2 S post) : Wp X 6 0 [(0, .ref (xad X 48)), (1, .ref (xad X 11)), (2, .int x2)] [] S := by
  unfold wp_X5_tellRoad at h
  refine r_aload_n ok dX5_tellRoad_0 1 rfl ?_
  refine gf_X5_72 ok isW_11 dX5_tellRoad_1 ?_
  refine r_bipush (v := 9) ok dX5_tellRoad_4 rfl ?_
  refine r_icmp_lt (tgt := 15) ok dX5_tellRoad_6 rfl (fun hc1 => ?_) (fun hc1 => ?_)
  · replace h := h.1 hc1
    refine r_sub [(0, .ref (xad X 48)), (1, .ref (xad X 11))] [0, 1] rfl ?_
    exact w_B_X5_tellRoad_15 ok hret h
  · replace h := h.2 hc1
    refine r_aload_n ok dX5_tellRoad_9 0 rfl ?_
    refine r_iconst (v := 3) ok dX5_tellRoad_10 rfl ?_
    refine r_iload_n ok dX5_tellRoad_11 2 rfl ?_
    refine cl_X5_49 ok dX5_tellRoad_12 (by decide) (Nat.le_of_ble_eq_true rfl) h (fun S2 h => ?_)
    refine r_sub [(0, .ref (xad X 48)), (1, .ref (xad X 11))] [0, 1] rfl ?_
    exact w_B_X5_tellRoad_15 ok hret h
theorem c_X5_tellRoad (l : Launch) (G : Gx) {x2 : Int32} {S : St} {post : St → Prop} (h : wp_X5_tellRoad x2 S post) : MtV l yX5_tellRoad cX5_tellRoad 6 2 46 G [.ref (G.2.2 48), .ref (G.2.2 11), .int x2] S post :=
  ctV (by decide) rfl (Nat.le_of_ble_eq_true rfl) (fun X _ hG ok hret => by subst hG; exact w_wp_X5_tellRoad ok hret h)

/-! HasteRoads$Text.tellPerson(LHasteRoads$World;I)V -/
theorem dX5_tellPerson_0 : decode cX5_tellPerson 0 = .ok (.aload_n 1, 1) := by decide +kernel
theorem dX5_tellPerson_1 : decode cX5_tellPerson 1 = .ok (.getfield 87, 3) := by decide +kernel
theorem dX5_tellPerson_4 : decode cX5_tellPerson 4 = .ok (.iconst 4, 1) := by decide +kernel
theorem dX5_tellPerson_5 : decode cX5_tellPerson 5 = .ok (.if_icmp .lt 9, 3) := by decide +kernel
theorem dX5_tellPerson_8 : decode cX5_tellPerson 8 = .ok (.aload_n 0, 1) := by decide +kernel
theorem dX5_tellPerson_9 : decode cX5_tellPerson 9 = .ok (.iconst 3, 1) := by decide +kernel
theorem dX5_tellPerson_10 : decode cX5_tellPerson 10 = .ok (.iload_n 2, 1) := by decide +kernel
theorem dX5_tellPerson_11 : decode cX5_tellPerson 11 = .ok (.invokevirtual 49, 3) := by decide +kernel
theorem dX5_tellPerson_14 : decode cX5_tellPerson 14 = .ok (.aload_n 0, 1) := by decide +kernel
theorem dX5_tellPerson_15 : decode cX5_tellPerson 15 = .ok (.iconst 0, 1) := by decide +kernel
theorem dX5_tellPerson_16 : decode cX5_tellPerson 16 = .ok (.aload_n 1, 1) := by decide +kernel
theorem dX5_tellPerson_17 : decode cX5_tellPerson 17 = .ok (.getfield 56, 3) := by decide +kernel
theorem dX5_tellPerson_20 : decode cX5_tellPerson 20 = .ok (.iconst 1, 1) := by decide +kernel
theorem dX5_tellPerson_21 : decode cX5_tellPerson 21 = .ok (.isub, 1) := by decide +kernel
theorem dX5_tellPerson_22 : decode cX5_tellPerson 22 = .ok (.invokevirtual 61, 3) := by decide +kernel
theorem dX5_tellPerson_25 : decode cX5_tellPerson 25 = .ok (.istore_n 3, 1) := by decide +kernel
theorem dX5_tellPerson_26 : decode cX5_tellPerson 26 = .ok (.aload_n 0, 1) := by decide +kernel
theorem dX5_tellPerson_27 : decode cX5_tellPerson 27 = .ok (.iconst 0, 1) := by decide +kernel
theorem dX5_tellPerson_28 : decode cX5_tellPerson 28 = .ok (.aload_n 1, 1) := by decide +kernel
theorem dX5_tellPerson_29 : decode cX5_tellPerson 29 = .ok (.getfield 56, 3) := by decide +kernel
theorem dX5_tellPerson_32 : decode cX5_tellPerson 32 = .ok (.iconst 1, 1) := by decide +kernel
theorem dX5_tellPerson_33 : decode cX5_tellPerson 33 = .ok (.isub, 1) := by decide +kernel
theorem dX5_tellPerson_34 : decode cX5_tellPerson 34 = .ok (.invokevirtual 61, 3) := by decide +kernel
theorem dX5_tellPerson_37 : decode cX5_tellPerson 37 = .ok (.istore 4, 2) := by decide +kernel
theorem dX5_tellPerson_39 : decode cX5_tellPerson 39 = .ok (.aload_n 0, 1) := by decide +kernel
theorem dX5_tellPerson_40 : decode cX5_tellPerson 40 = .ok (.iconst 0, 1) := by decide +kernel
theorem dX5_tellPerson_41 : decode cX5_tellPerson 41 = .ok (.bipush 9, 2) := by decide +kernel
theorem dX5_tellPerson_43 : decode cX5_tellPerson 43 = .ok (.invokevirtual 61, 3) := by decide +kernel
theorem dX5_tellPerson_46 : decode cX5_tellPerson 46 = .ok (.istore 5, 2) := by decide +kernel
theorem dX5_tellPerson_48 : decode cX5_tellPerson 48 = .ok (.aload_n 0, 1) := by decide +kernel
theorem dX5_tellPerson_49 : decode cX5_tellPerson 49 = .ok (.iconst 0, 1) := by decide +kernel
theorem dX5_tellPerson_50 : decode cX5_tellPerson 50 = .ok (.iconst 5, 1) := by decide +kernel
theorem dX5_tellPerson_51 : decode cX5_tellPerson 51 = .ok (.invokevirtual 61, 3) := by decide +kernel
theorem dX5_tellPerson_54 : decode cX5_tellPerson 54 = .ok (.istore 6, 2) := by decide +kernel
theorem dX5_tellPerson_56 : decode cX5_tellPerson 56 = .ok (.aload_n 0, 1) := by decide +kernel
theorem dX5_tellPerson_57 : decode cX5_tellPerson 57 = .ok (.iconst 0, 1) := by decide +kernel
theorem dX5_tellPerson_58 : decode cX5_tellPerson 58 = .ok (.sipush 999, 3) := by decide +kernel
theorem dX5_tellPerson_61 : decode cX5_tellPerson 61 = .ok (.invokevirtual 61, 3) := by decide +kernel
theorem dX5_tellPerson_64 : decode cX5_tellPerson 64 = .ok (.istore 7, 2) := by decide +kernel
theorem dX5_tellPerson_66 : decode cX5_tellPerson 66 = .ok (.aload_n 0, 1) := by decide +kernel
theorem dX5_tellPerson_67 : decode cX5_tellPerson 67 = .ok (.getfield 23, 3) := by decide +kernel
theorem dX5_tellPerson_70 : decode cX5_tellPerson 70 = .ok (.ifCond .eq 4, 3) := by decide +kernel
theorem dX5_tellPerson_73 : decode cX5_tellPerson 73 = .ok (.return_, 1) := by decide +kernel
theorem dX5_tellPerson_74 : decode cX5_tellPerson 74 = .ok (.aload_n 1, 1) := by decide +kernel
theorem dX5_tellPerson_75 : decode cX5_tellPerson 75 = .ok (.getfield 87, 3) := by decide +kernel
theorem dX5_tellPerson_78 : decode cX5_tellPerson 78 = .ok (.istore 8, 2) := by decide +kernel
theorem dX5_tellPerson_80 : decode cX5_tellPerson 80 = .ok (.aload_n 1, 1) := by decide +kernel
theorem dX5_tellPerson_81 : decode cX5_tellPerson 81 = .ok (.getfield 90, 3) := by decide +kernel
theorem dX5_tellPerson_84 : decode cX5_tellPerson 84 = .ok (.iload 8, 2) := by decide +kernel
theorem dX5_tellPerson_86 : decode cX5_tellPerson 86 = .ok (.iload_n 3, 1) := by decide +kernel
theorem dX5_tellPerson_87 : decode cX5_tellPerson 87 = .ok (.iastore, 1) := by decide +kernel
theorem dX5_tellPerson_88 : decode cX5_tellPerson 88 = .ok (.aload_n 1, 1) := by decide +kernel
theorem dX5_tellPerson_89 : decode cX5_tellPerson 89 = .ok (.getfield 93, 3) := by decide +kernel
theorem dX5_tellPerson_92 : decode cX5_tellPerson 92 = .ok (.iload 8, 2) := by decide +kernel
theorem dX5_tellPerson_94 : decode cX5_tellPerson 94 = .ok (.iload 4, 2) := by decide +kernel
theorem dX5_tellPerson_96 : decode cX5_tellPerson 96 = .ok (.iastore, 1) := by decide +kernel
theorem dX5_tellPerson_97 : decode cX5_tellPerson 97 = .ok (.aload_n 1, 1) := by decide +kernel
theorem dX5_tellPerson_98 : decode cX5_tellPerson 98 = .ok (.getfield 96, 3) := by decide +kernel
theorem dX5_tellPerson_101 : decode cX5_tellPerson 101 = .ok (.iload 8, 2) := by decide +kernel
theorem dX5_tellPerson_103 : decode cX5_tellPerson 103 = .ok (.iload 5, 2) := by decide +kernel
theorem dX5_tellPerson_105 : decode cX5_tellPerson 105 = .ok (.iastore, 1) := by decide +kernel
theorem dX5_tellPerson_106 : decode cX5_tellPerson 106 = .ok (.aload_n 1, 1) := by decide +kernel
theorem dX5_tellPerson_107 : decode cX5_tellPerson 107 = .ok (.getfield 99, 3) := by decide +kernel
theorem dX5_tellPerson_110 : decode cX5_tellPerson 110 = .ok (.iload 8, 2) := by decide +kernel
theorem dX5_tellPerson_112 : decode cX5_tellPerson 112 = .ok (.iload 6, 2) := by decide +kernel
theorem dX5_tellPerson_114 : decode cX5_tellPerson 114 = .ok (.iastore, 1) := by decide +kernel
theorem dX5_tellPerson_115 : decode cX5_tellPerson 115 = .ok (.aload_n 1, 1) := by decide +kernel
theorem dX5_tellPerson_116 : decode cX5_tellPerson 116 = .ok (.getfield 102, 3) := by decide +kernel
theorem dX5_tellPerson_119 : decode cX5_tellPerson 119 = .ok (.iload 8, 2) := by decide +kernel
theorem dX5_tellPerson_121 : decode cX5_tellPerson 121 = .ok (.iload 7, 2) := by decide +kernel
theorem dX5_tellPerson_123 : decode cX5_tellPerson 123 = .ok (.iastore, 1) := by decide +kernel
theorem dX5_tellPerson_124 : decode cX5_tellPerson 124 = .ok (.aload_n 1, 1) := by decide +kernel
theorem dX5_tellPerson_125 : decode cX5_tellPerson 125 = .ok (.getfield 105, 3) := by decide +kernel
theorem dX5_tellPerson_128 : decode cX5_tellPerson 128 = .ok (.iload 8, 2) := by decide +kernel
theorem dX5_tellPerson_130 : decode cX5_tellPerson 130 = .ok (.iconst 0, 1) := by decide +kernel
theorem dX5_tellPerson_131 : decode cX5_tellPerson 131 = .ok (.iastore, 1) := by decide +kernel
theorem dX5_tellPerson_132 : decode cX5_tellPerson 132 = .ok (.aload_n 1, 1) := by decide +kernel
theorem dX5_tellPerson_133 : decode cX5_tellPerson 133 = .ok (.getfield 108, 3) := by decide +kernel
theorem dX5_tellPerson_136 : decode cX5_tellPerson 136 = .ok (.iload 8, 2) := by decide +kernel
theorem dX5_tellPerson_138 : decode cX5_tellPerson 138 = .ok (.iconst 0, 1) := by decide +kernel
theorem dX5_tellPerson_139 : decode cX5_tellPerson 139 = .ok (.iastore, 1) := by decide +kernel
theorem dX5_tellPerson_140 : decode cX5_tellPerson 140 = .ok (.aload_n 1, 1) := by decide +kernel
theorem dX5_tellPerson_141 : decode cX5_tellPerson 141 = .ok (.dup, 1) := by decide +kernel
theorem dX5_tellPerson_142 : decode cX5_tellPerson 142 = .ok (.getfield 87, 3) := by decide +kernel
theorem dX5_tellPerson_145 : decode cX5_tellPerson 145 = .ok (.iconst 1, 1) := by decide +kernel
theorem dX5_tellPerson_146 : decode cX5_tellPerson 146 = .ok (.iadd, 1) := by decide +kernel
theorem dX5_tellPerson_147 : decode cX5_tellPerson 147 = .ok (.putfield 87, 3) := by decide +kernel
theorem dX5_tellPerson_150 : decode cX5_tellPerson 150 = .ok (.return_, 1) := by decide +kernel
theorem gf_X5_87 {X : Cx} {cc : ByteArray} {nL pc fr lo : Nat} {L : List (Nat × Value)} {st : List Value} {S : St} (ok : Ok X cc nL RX5 fr lo) {o : Nat} (ho : isW o) (d : decode cc pc = .ok (.getfield 87, 3)) (k : Wp X nL (pc + 3) L (.int (S o 2) :: st) S) : Wp X nL pc L (.ref (xad X o) :: st) S :=
  r_get (C := RX6) (T := TX6) ok ho.ob rfl i_X6 2 (by decide) tw_fl_X5_87 d (by rw [show fvl (xad X) S o 2 = .int (S o 2) from (fvl_int (ho.ri 2 (by decide)))]; exact k)
theorem gf_X5_90 {X : Cx} {cc : ByteArray} {nL pc fr lo : Nat} {L : List (Nat × Value)} {st : List Value} {S : St} (ok : Ok X cc nL RX5 fr lo) {o : Nat} (ho : isW o) (d : decode cc pc = .ok (.getfield 90, 3)) (k : Wp X nL (pc + 3) L (.ref (xad X (o + 7)) :: st) S) : Wp X nL pc L (.ref (xad X o) :: st) S :=
  r_get (C := RX6) (T := TX6) ok ho.ob rfl i_X6 12 (by decide) tw_fl_X5_90 d (by rw [show fvl (xad X) S o 12 = .ref (xad X (o + 7)) from (fvl_ref (d := o + 7) (ho.rr 6 (by decide)))]; exact k)
theorem gf_X5_93 {X : Cx} {cc : ByteArray} {nL pc fr lo : Nat} {L : List (Nat × Value)} {st : List Value} {S : St} (ok : Ok X cc nL RX5 fr lo) {o : Nat} (ho : isW o) (d : decode cc pc = .ok (.getfield 93, 3)) (k : Wp X nL (pc + 3) L (.ref (xad X (o + 4)) :: st) S) : Wp X nL pc L (.ref (xad X o) :: st) S :=
  r_get (C := RX6) (T := TX6) ok ho.ob rfl i_X6 9 (by decide) tw_fl_X5_93 d (by rw [show fvl (xad X) S o 9 = .ref (xad X (o + 4)) from (fvl_ref (d := o + 4) (ho.rr 3 (by decide)))]; exact k)
theorem gf_X5_96 {X : Cx} {cc : ByteArray} {nL pc fr lo : Nat} {L : List (Nat × Value)} {st : List Value} {S : St} (ok : Ok X cc nL RX5 fr lo) {o : Nat} (ho : isW o) (d : decode cc pc = .ok (.getfield 96, 3)) (k : Wp X nL (pc + 3) L (.ref (xad X (o + 5)) :: st) S) : Wp X nL pc L (.ref (xad X o) :: st) S :=
  r_get (C := RX6) (T := TX6) ok ho.ob rfl i_X6 10 (by decide) tw_fl_X5_96 d (by rw [show fvl (xad X) S o 10 = .ref (xad X (o + 5)) from (fvl_ref (d := o + 5) (ho.rr 4 (by decide)))]; exact k)
theorem gf_X5_99 {X : Cx} {cc : ByteArray} {nL pc fr lo : Nat} {L : List (Nat × Value)} {st : List Value} {S : St} (ok : Ok X cc nL RX5 fr lo) {o : Nat} (ho : isW o) (d : decode cc pc = .ok (.getfield 99, 3)) (k : Wp X nL (pc + 3) L (.ref (xad X (o + 8)) :: st) S) : Wp X nL pc L (.ref (xad X o) :: st) S :=
  r_get (C := RX6) (T := TX6) ok ho.ob rfl i_X6 13 (by decide) tw_fl_X5_99 d (by rw [show fvl (xad X) S o 13 = .ref (xad X (o + 8)) from (fvl_ref (d := o + 8) (ho.rr 7 (by decide)))]; exact k)
theorem gf_X5_102 {X : Cx} {cc : ByteArray} {nL pc fr lo : Nat} {L : List (Nat × Value)} {st : List Value} {S : St} (ok : Ok X cc nL RX5 fr lo) {o : Nat} (ho : isW o) (d : decode cc pc = .ok (.getfield 102, 3)) (k : Wp X nL (pc + 3) L (.ref (xad X (o + 6)) :: st) S) : Wp X nL pc L (.ref (xad X o) :: st) S :=
  r_get (C := RX6) (T := TX6) ok ho.ob rfl i_X6 11 (by decide) tw_fl_X5_102 d (by rw [show fvl (xad X) S o 11 = .ref (xad X (o + 6)) from (fvl_ref (d := o + 6) (ho.rr 5 (by decide)))]; exact k)
theorem gf_X5_105 {X : Cx} {cc : ByteArray} {nL pc fr lo : Nat} {L : List (Nat × Value)} {st : List Value} {S : St} (ok : Ok X cc nL RX5 fr lo) {o : Nat} (ho : isW o) (d : decode cc pc = .ok (.getfield 105, 3)) (k : Wp X nL (pc + 3) L (.ref (xad X (o + 9)) :: st) S) : Wp X nL pc L (.ref (xad X o) :: st) S :=
  r_get (C := RX6) (T := TX6) ok ho.ob rfl i_X6 14 (by decide) tw_fl_X5_105 d (by rw [show fvl (xad X) S o 14 = .ref (xad X (o + 9)) from (fvl_ref (d := o + 9) (ho.rr 8 (by decide)))]; exact k)
theorem gf_X5_108 {X : Cx} {cc : ByteArray} {nL pc fr lo : Nat} {L : List (Nat × Value)} {st : List Value} {S : St} (ok : Ok X cc nL RX5 fr lo) {o : Nat} (ho : isW o) (d : decode cc pc = .ok (.getfield 108, 3)) (k : Wp X nL (pc + 3) L (.ref (xad X (o + 10)) :: st) S) : Wp X nL pc L (.ref (xad X o) :: st) S :=
  r_get (C := RX6) (T := TX6) ok ho.ob rfl i_X6 15 (by decide) tw_fl_X5_108 d (by rw [show fvl (xad X) S o 15 = .ref (xad X (o + 10)) from (fvl_ref (d := o + 10) (ho.rr 9 (by decide)))]; exact k)
theorem pf_X5_87 {X : Cx} {cc : ByteArray} {nL pc fr lo : Nat} {L : List (Nat × Value)} {st : List Value} {S : St} {v : Int32} (ok : Ok X cc nL RX5 fr lo) {o : Nat} (ho : isW o) (d : decode cc pc = .ok (.putfield 87, 3)) (k : ∀ S1 : St, S1 = up S o 2 v → Wp X nL (pc + 3) L st S1) : Wp X nL pc L (.int v :: .ref (xad X o) :: st) S :=
  r_put (C := RX6) (T := TX6) ok ho.ob rfl i_X6 tyX6 tyX6_ok nmX6 2 (by decide) tw_fl_X5_87 rfl rfl (ho.ri 2 (by decide)) d (k _ rfl)
def B_X5_tellPerson_14 (post : St → Prop) (S : St) : Prop :=
  wp_X5_number 0 ((S 11 0) - 1) S (fun r2 S1 => wp_X5_number 0 ((S1 11 0) - 1) S1 (fun r4 S3 => wp_X5_number 0 9 S3 (fun r6 S5 => wp_X5_number 0 5 S5 (fun r8 S7 => wp_X5_number 0 999 S7 (fun r10 S9 => (((S9 48 3) = 0 → ∀ v12 : Int32, v12 = (S9 11 2) → vp_in v12 4 ∧ (∀ S13 : St, S13 = up S9 18 (ix v12) r2 → vp_in v12 4 ∧ (∀ S15 : St, S15 = up S13 15 (ix v12) r4 → vp_in v12 4 ∧ (∀ S17 : St, S17 = up S15 16 (ix v12) r6 → vp_in v12 4 ∧ (∀ S19 : St, S19 = up S17 19 (ix v12) r8 → vp_in v12 4 ∧ (∀ S21 : St, S21 = up S19 17 (ix v12) r10 → vp_in v12 4 ∧ (∀ S23 : St, S23 = up S21 20 (ix v12) 0 → vp_in v12 4 ∧ (∀ S25 : St, S25 = up S23 21 (ix v12) 0 → ∀ S27 : St, S27 = up S25 11 2 ((S25 11 2) + 1) → post S27)))))))) ∧ (¬ (S9 48 3) = 0 → post S9)))))))
def wp_X5_tellPerson (x2 : Int32) (S : St) (post : St → Prop) : Prop :=
  (((S 11 2) < 4 → B_X5_tellPerson_14 post S) ∧ (¬ (S 11 2) < 4 → wp_X5_blame 3 x2 S (fun S2 => B_X5_tellPerson_14 post S2)))
theorem w_B_X5_tellPerson_14 {X : Cx} (ok : Ok X cX5_tellPerson 9 RX5 2 46) {post : St → Prop} (hret : RetV X cX5_tellPerson 9 post) {S : St} (h : B_X5_tellPerson_14 post S) : Wp X 9 14 [(0, .ref (xad X 48)), (1, .ref (xad X 11))] [] S := by
  unfold B_X5_tellPerson_14 at h
  refine r_aload_n ok dX5_tellPerson_14 0 rfl ?_
  refine r_iconst (v := 0) ok dX5_tellPerson_15 rfl ?_
  refine r_aload_n ok dX5_tellPerson_16 1 rfl ?_
  refine gf_X5_56 ok isW_11 dX5_tellPerson_17 ?_
  refine r_iconst (v := 1) ok dX5_tellPerson_20 rfl ?_
  refine r_isub ok dX5_tellPerson_21 ?_
  refine cl_X5_61 ok dX5_tellPerson_22 (by decide) (Nat.le_of_ble_eq_true rfl) h (fun r2 S1 h => ?_)
  refine r_istore_n ok dX5_tellPerson_25 (by decide) [(0, .ref (xad X 48)), (1, .ref (xad X 11)), (3, .int r2)] [1, 2, 0] rfl ?_
  refine r_aload_n ok dX5_tellPerson_26 0 rfl ?_
  refine r_iconst (v := 0) ok dX5_tellPerson_27 rfl ?_
  refine r_aload_n ok dX5_tellPerson_28 1 rfl ?_
  refine gf_X5_56 ok isW_11 dX5_tellPerson_29 ?_
  refine r_iconst (v := 1) ok dX5_tellPerson_32 rfl ?_
  refine r_isub ok dX5_tellPerson_33 ?_
  refine cl_X5_61 ok dX5_tellPerson_34 (by decide) (Nat.le_of_ble_eq_true rfl) h (fun r4 S3 h => ?_)
  refine r_istore ok dX5_tellPerson_37 (by decide) [(0, .ref (xad X 48)), (1, .ref (xad X 11)), (3, .int r2), (4, .int r4)] [1, 2, 3, 0] rfl ?_
  refine r_aload_n ok dX5_tellPerson_39 0 rfl ?_
  refine r_iconst (v := 0) ok dX5_tellPerson_40 rfl ?_
  refine r_bipush (v := 9) ok dX5_tellPerson_41 rfl ?_
  refine cl_X5_61 ok dX5_tellPerson_43 (by decide) (Nat.le_of_ble_eq_true rfl) h (fun r6 S5 h => ?_)
  refine r_istore ok dX5_tellPerson_46 (by decide) [(0, .ref (xad X 48)), (1, .ref (xad X 11)), (3, .int r2), (4, .int r4), (5, .int r6)] [1, 2, 3, 4, 0] rfl ?_
  refine r_aload_n ok dX5_tellPerson_48 0 rfl ?_
  refine r_iconst (v := 0) ok dX5_tellPerson_49 rfl ?_
  refine r_iconst (v := 5) ok dX5_tellPerson_50 rfl ?_
  refine cl_X5_61 ok dX5_tellPerson_51 (by decide) (Nat.le_of_ble_eq_true rfl) h (fun r8 S7 h => ?_)
  refine r_istore ok dX5_tellPerson_54 (by decide) [(0, .ref (xad X 48)), (1, .ref (xad X 11)), (3, .int r2), (4, .int r4), (5, .int r6), (6, .int r8)] [1, 2, 3, 4, 5, 0] rfl ?_
  refine r_aload_n ok dX5_tellPerson_56 0 rfl ?_
  refine r_iconst (v := 0) ok dX5_tellPerson_57 rfl ?_
  refine r_sipush (v := 999) ok dX5_tellPerson_58 rfl ?_
  refine cl_X5_61 ok dX5_tellPerson_61 (by decide) (Nat.le_of_ble_eq_true rfl) h (fun r10 S9 h => ?_)
  refine r_istore ok dX5_tellPerson_64 (by decide) [(0, .ref (xad X 48)), (1, .ref (xad X 11)), (3, .int r2), (4, .int r4), (5, .int r6), (6, .int r8), (7, .int r10)] [1, 2, 3, 4, 5, 6, 0] rfl ?_
  refine r_aload_n ok dX5_tellPerson_66 0 rfl ?_
  refine gf_X5_23 ok dX5_tellPerson_67 ?_
  refine r_if_eq (tgt := 74) ok dX5_tellPerson_70 rfl (fun hc11 => ?_) (fun hc11 => ?_)
  · replace h := h.1 hc11
    refine r_aload_n ok dX5_tellPerson_74 1 rfl ?_
    refine gf_X5_87 ok isW_11 dX5_tellPerson_75 ?_
    refine r_top (fun v12 ev12 => ?_)
    replace h := h v12 ev12
    refine r_istore ok dX5_tellPerson_78 (by decide) [(1, .ref (xad X 11)), (3, .int r2), (4, .int r4), (5, .int r6), (6, .int r8), (7, .int r10), (8, .int v12)] [2, 3, 4, 5, 6, 7, 0] rfl ?_
    refine r_aload_n ok dX5_tellPerson_80 0 rfl ?_
    refine gf_X5_90 ok isW_11 dX5_tellPerson_81 ?_
    refine r_iload ok dX5_tellPerson_84 6 rfl ?_
    refine r_iload_n ok dX5_tellPerson_86 1 rfl ?_
    have hi14 := h.1
    replace h := h.2
    refine r_iast ok ai_18 hi14 rfl dX5_tellPerson_87 (fun S13 eS13 => ?_)
    replace h := h S13 eS13
    refine r_aload_n ok dX5_tellPerson_88 0 rfl ?_
    refine gf_X5_93 ok isW_11 dX5_tellPerson_89 ?_
    refine r_iload ok dX5_tellPerson_92 6 rfl ?_
    refine r_iload ok dX5_tellPerson_94 2 rfl ?_
    have hi16 := h.1
    replace h := h.2
    refine r_iast ok ai_15 hi16 rfl dX5_tellPerson_96 (fun S15 eS15 => ?_)
    replace h := h S15 eS15
    refine r_aload_n ok dX5_tellPerson_97 0 rfl ?_
    refine gf_X5_96 ok isW_11 dX5_tellPerson_98 ?_
    refine r_iload ok dX5_tellPerson_101 6 rfl ?_
    refine r_iload ok dX5_tellPerson_103 3 rfl ?_
    have hi18 := h.1
    replace h := h.2
    refine r_iast ok ai_16 hi18 rfl dX5_tellPerson_105 (fun S17 eS17 => ?_)
    replace h := h S17 eS17
    refine r_aload_n ok dX5_tellPerson_106 0 rfl ?_
    refine gf_X5_99 ok isW_11 dX5_tellPerson_107 ?_
    refine r_iload ok dX5_tellPerson_110 6 rfl ?_
    refine r_iload ok dX5_tellPerson_112 4 rfl ?_
    have hi20 := h.1
    replace h := h.2
    refine r_iast ok ai_19 hi20 rfl dX5_tellPerson_114 (fun S19 eS19 => ?_)
    replace h := h S19 eS19
    refine r_aload_n ok dX5_tellPerson_115 0 rfl ?_
    refine gf_X5_102 ok isW_11 dX5_tellPerson_116 ?_
    refine r_iload ok dX5_tellPerson_119 6 rfl ?_
    refine r_iload ok dX5_tellPerson_121 5 rfl ?_
    have hi22 := h.1
    replace h := h.2
    refine r_iast ok ai_17 hi22 rfl dX5_tellPerson_123 (fun S21 eS21 => ?_)
    replace h := h S21 eS21
    refine r_aload_n ok dX5_tellPerson_124 0 rfl ?_
    refine gf_X5_105 ok isW_11 dX5_tellPerson_125 ?_
    refine r_iload ok dX5_tellPerson_128 6 rfl ?_
    refine r_iconst (v := 0) ok dX5_tellPerson_130 rfl ?_
    have hi24 := h.1
    replace h := h.2
    refine r_iast ok ai_20 hi24 rfl dX5_tellPerson_131 (fun S23 eS23 => ?_)
    replace h := h S23 eS23
    refine r_aload_n ok dX5_tellPerson_132 0 rfl ?_
    refine gf_X5_108 ok isW_11 dX5_tellPerson_133 ?_
    refine r_iload ok dX5_tellPerson_136 6 rfl ?_
    refine r_iconst (v := 0) ok dX5_tellPerson_138 rfl ?_
    have hi26 := h.1
    replace h := h.2
    refine r_iast ok ai_21 hi26 rfl dX5_tellPerson_139 (fun S25 eS25 => ?_)
    replace h := h S25 eS25
    refine r_aload_n ok dX5_tellPerson_140 0 rfl ?_
    refine r_dup ok dX5_tellPerson_141 rfl ?_
    refine gf_X5_87 ok isW_11 dX5_tellPerson_142 ?_
    refine r_iconst (v := 1) ok dX5_tellPerson_145 rfl ?_
    refine r_iadd ok dX5_tellPerson_146 ?_
    refine pf_X5_87 ok isW_11 dX5_tellPerson_147 (fun S27 eS27 => ?_)
    replace h := h S27 eS27
    exact hret _ _ _ dX5_tellPerson_150 h
  · replace h := h.2 hc11
    exact hret _ _ _ dX5_tellPerson_73 h
theorem w_wp_X5_tellPerson {X : Cx} (ok : Ok X cX5_tellPerson 9 RX5 2 46) {post : St → Prop} (hret : RetV X cX5_tellPerson 9 post) {x2 : Int32} {S : St} (h : wp_X5_tellPerson x2 S post) : Wp X 9 0 [(0, .ref (xad X 48)), (1, .ref (xad X 11)), (2, .int x2)] [] S := by
  unfold wp_X5_tellPerson at h
  refine r_aload_n ok dX5_tellPerson_0 1 rfl ?_
  refine gf_X5_87 ok isW_11 dX5_tellPerson_1 ?_
  refine r_iconst (v := 4) ok dX5_tellPerson_4 rfl ?_
  refine r_icmp_lt (tgt := 14) ok dX5_tellPerson_5 rfl (fun hc1 => ?_) (fun hc1 => ?_)
  · replace h := h.1 hc1
    refine r_sub [(0, .ref (xad X 48)), (1, .ref (xad X 11))] [0, 1] rfl ?_
    exact w_B_X5_tellPerson_14 ok hret h
  · replace h := h.2 hc1
    refine r_aload_n ok dX5_tellPerson_8 0 rfl ?_
    refine r_iconst (v := 3) ok dX5_tellPerson_9 rfl ?_
    refine r_iload_n ok dX5_tellPerson_10 2 rfl ?_
    refine cl_X5_49 ok dX5_tellPerson_11 (by decide) (Nat.le_of_ble_eq_true rfl) h (fun S2 h => ?_)
    refine r_sub [(0, .ref (xad X 48)), (1, .ref (xad X 11))] [0, 1] rfl ?_
    exact w_B_X5_tellPerson_14 ok hret h
theorem c_X5_tellPerson (l : Launch) (G : Gx) {x2 : Int32} {S : St} {post : St → Prop} (h : wp_X5_tellPerson x2 S post) : MtV l yX5_tellPerson cX5_tellPerson 9 2 46 G [.ref (G.2.2 48), .ref (G.2.2 11), .int x2] S post :=
  ctV (by decide) rfl (Nat.le_of_ble_eq_true rfl) (fun X _ hG ok hret => by subst hG; exact w_wp_X5_tellPerson ok hret h)

/-! HasteRoads$Text.tellClock(LHasteRoads$World;)V -/
theorem dX5_tellClock_0 : decode cX5_tellClock 0 = .ok (.aload_n 0, 1) := by decide +kernel
theorem dX5_tellClock_1 : decode cX5_tellClock 1 = .ok (.iconst 0, 1) := by decide +kernel
theorem dX5_tellClock_2 : decode cX5_tellClock 2 = .ok (.aload_n 1, 1) := by decide +kernel
theorem dX5_tellClock_3 : decode cX5_tellClock 3 = .ok (.getfield 56, 3) := by decide +kernel
theorem dX5_tellClock_6 : decode cX5_tellClock 6 = .ok (.iconst 1, 1) := by decide +kernel
theorem dX5_tellClock_7 : decode cX5_tellClock 7 = .ok (.isub, 1) := by decide +kernel
theorem dX5_tellClock_8 : decode cX5_tellClock 8 = .ok (.invokevirtual 61, 3) := by decide +kernel
theorem dX5_tellClock_11 : decode cX5_tellClock 11 = .ok (.istore_n 2, 1) := by decide +kernel
theorem dX5_tellClock_12 : decode cX5_tellClock 12 = .ok (.aload_n 0, 1) := by decide +kernel
theorem dX5_tellClock_13 : decode cX5_tellClock 13 = .ok (.getfield 23, 3) := by decide +kernel
theorem dX5_tellClock_16 : decode cX5_tellClock 16 = .ok (.ifCond .eq 4, 3) := by decide +kernel
theorem dX5_tellClock_19 : decode cX5_tellClock 19 = .ok (.return_, 1) := by decide +kernel
theorem dX5_tellClock_20 : decode cX5_tellClock 20 = .ok (.aload_n 1, 1) := by decide +kernel
theorem dX5_tellClock_21 : decode cX5_tellClock 21 = .ok (.getfield 111, 3) := by decide +kernel
theorem dX5_tellClock_24 : decode cX5_tellClock 24 = .ok (.iload_n 2, 1) := by decide +kernel
theorem dX5_tellClock_25 : decode cX5_tellClock 25 = .ok (.ishr, 1) := by decide +kernel
theorem dX5_tellClock_26 : decode cX5_tellClock 26 = .ok (.iconst 1, 1) := by decide +kernel
theorem dX5_tellClock_27 : decode cX5_tellClock 27 = .ok (.iand, 1) := by decide +kernel
theorem dX5_tellClock_28 : decode cX5_tellClock 28 = .ok (.iconst 1, 1) := by decide +kernel
theorem dX5_tellClock_29 : decode cX5_tellClock 29 = .ok (.if_icmp .ne 12, 3) := by decide +kernel
theorem dX5_tellClock_32 : decode cX5_tellClock 32 = .ok (.aload_n 0, 1) := by decide +kernel
theorem dX5_tellClock_33 : decode cX5_tellClock 33 = .ok (.iconst 4, 1) := by decide +kernel
theorem dX5_tellClock_34 : decode cX5_tellClock 34 = .ok (.aload_n 0, 1) := by decide +kernel
theorem dX5_tellClock_35 : decode cX5_tellClock 35 = .ok (.getfield 75, 3) := by decide +kernel
theorem dX5_tellClock_38 : decode cX5_tellClock 38 = .ok (.invokevirtual 49, 3) := by decide +kernel
theorem dX5_tellClock_41 : decode cX5_tellClock 41 = .ok (.aload_n 1, 1) := by decide +kernel
theorem dX5_tellClock_42 : decode cX5_tellClock 42 = .ok (.dup, 1) := by decide +kernel
theorem dX5_tellClock_43 : decode cX5_tellClock 43 = .ok (.getfield 111, 3) := by decide +kernel
theorem dX5_tellClock_46 : decode cX5_tellClock 46 = .ok (.iconst 1, 1) := by decide +kernel
theorem dX5_tellClock_47 : decode cX5_tellClock 47 = .ok (.iload_n 2, 1) := by decide +kernel
theorem dX5_tellClock_48 : decode cX5_tellClock 48 = .ok (.ishl, 1) := by decide +kernel
theorem dX5_tellClock_49 : decode cX5_tellClock 49 = .ok (.ior, 1) := by decide +kernel
theorem dX5_tellClock_50 : decode cX5_tellClock 50 = .ok (.putfield 111, 3) := by decide +kernel
theorem dX5_tellClock_53 : decode cX5_tellClock 53 = .ok (.return_, 1) := by decide +kernel
theorem gf_X5_111 {X : Cx} {cc : ByteArray} {nL pc fr lo : Nat} {L : List (Nat × Value)} {st : List Value} {S : St} (ok : Ok X cc nL RX5 fr lo) {o : Nat} (ho : isW o) (d : decode cc pc = .ok (.getfield 111, 3)) (k : Wp X nL (pc + 3) L (.int (S o 4) :: st) S) : Wp X nL pc L (.ref (xad X o) :: st) S :=
  r_get (C := RX6) (T := TX6) ok ho.ob rfl i_X6 4 (by decide) tw_fl_X5_111 d (by rw [show fvl (xad X) S o 4 = .int (S o 4) from (fvl_int (ho.ri 4 (by decide)))]; exact k)
theorem pf_X5_111 {X : Cx} {cc : ByteArray} {nL pc fr lo : Nat} {L : List (Nat × Value)} {st : List Value} {S : St} {v : Int32} (ok : Ok X cc nL RX5 fr lo) {o : Nat} (ho : isW o) (d : decode cc pc = .ok (.putfield 111, 3)) (k : ∀ S1 : St, S1 = up S o 4 v → Wp X nL (pc + 3) L st S1) : Wp X nL pc L (.int v :: .ref (xad X o) :: st) S :=
  r_put (C := RX6) (T := TX6) ok ho.ob rfl i_X6 tyX6 tyX6_ok nmX6 4 (by decide) tw_fl_X5_111 rfl rfl (ho.ri 4 (by decide)) d (k _ rfl)
def wp_X5_tellClock (S : St) (post : St → Prop) : Prop :=
  wp_X5_number 0 ((S 11 0) - 1) S (fun r2 S1 => (((S1 48 3) = 0 → ((¬ (((S1 11 4) >>> (r2 &&& 31)) &&& 1) = 1 → ∀ S5 : St, S5 = up S1 11 4 ((S1 11 4) ||| ((1 : Int32) <<< (r2 &&& 31))) → post S5) ∧ ((((S1 11 4) >>> (r2 &&& 31)) &&& 1) = 1 → wp_X5_blame 4 (S1 48 5) S1 (fun S6 => ∀ S7 : St, S7 = up S6 11 4 ((S6 11 4) ||| ((1 : Int32) <<< (r2 &&& 31))) → post S7)))) ∧ (¬ (S1 48 3) = 0 → post S1)))
theorem w_wp_X5_tellClock {X : Cx} (ok : Ok X cX5_tellClock 3 RX5 2 46) {post : St → Prop} (hret : RetV X cX5_tellClock 3 post) {S : St} (h : wp_X5_tellClock S post) : Wp X 3 0 [(0, .ref (xad X 48)), (1, .ref (xad X 11))] [] S := by
  unfold wp_X5_tellClock at h
  refine r_aload_n ok dX5_tellClock_0 0 rfl ?_
  refine r_iconst (v := 0) ok dX5_tellClock_1 rfl ?_
  refine r_aload_n ok dX5_tellClock_2 1 rfl ?_
  refine gf_X5_56 ok isW_11 dX5_tellClock_3 ?_
  refine r_iconst (v := 1) ok dX5_tellClock_6 rfl ?_
  refine r_isub ok dX5_tellClock_7 ?_
  refine cl_X5_61 ok dX5_tellClock_8 (by decide) (Nat.le_of_ble_eq_true rfl) h (fun r2 S1 h => ?_)
  refine r_istore_n ok dX5_tellClock_11 (by decide) [(0, .ref (xad X 48)), (1, .ref (xad X 11)), (2, .int r2)] [1, 2, 0] rfl ?_
  refine r_aload_n ok dX5_tellClock_12 0 rfl ?_
  refine gf_X5_23 ok dX5_tellClock_13 ?_
  refine r_if_eq (tgt := 20) ok dX5_tellClock_16 rfl (fun hc3 => ?_) (fun hc3 => ?_)
  · replace h := h.1 hc3
    refine r_aload_n ok dX5_tellClock_20 1 rfl ?_
    refine gf_X5_111 ok isW_11 dX5_tellClock_21 ?_
    refine r_iload_n ok dX5_tellClock_24 2 rfl ?_
    refine r_ishr ok dX5_tellClock_25 ?_
    refine r_iconst (v := 1) ok dX5_tellClock_26 rfl ?_
    refine r_iand ok dX5_tellClock_27 ?_
    refine r_iconst (v := 1) ok dX5_tellClock_28 rfl ?_
    refine r_icmp_ne (tgt := 41) ok dX5_tellClock_29 rfl (fun hc4 => ?_) (fun hc4 => ?_)
    · replace h := h.1 hc4
      refine r_aload_n ok dX5_tellClock_41 1 rfl ?_
      refine r_dup ok dX5_tellClock_42 rfl ?_
      refine gf_X5_111 ok isW_11 dX5_tellClock_43 ?_
      refine r_iconst (v := 1) ok dX5_tellClock_46 rfl ?_
      refine r_iload_n ok dX5_tellClock_47 2 rfl ?_
      refine r_ishl ok dX5_tellClock_48 ?_
      refine r_ior ok dX5_tellClock_49 ?_
      refine pf_X5_111 ok isW_11 dX5_tellClock_50 (fun S5 eS5 => ?_)
      replace h := h S5 eS5
      exact hret _ _ _ dX5_tellClock_53 h
    · replace h := h.2 hc4
      refine r_aload_n ok dX5_tellClock_32 0 rfl ?_
      refine r_iconst (v := 4) ok dX5_tellClock_33 rfl ?_
      refine r_aload_n ok dX5_tellClock_34 0 rfl ?_
      refine gf_X5_75 ok dX5_tellClock_35 ?_
      refine cl_X5_49 ok dX5_tellClock_38 (by decide) (Nat.le_of_ble_eq_true rfl) h (fun S6 h => ?_)
      refine r_aload_n ok dX5_tellClock_41 1 rfl ?_
      refine r_dup ok dX5_tellClock_42 rfl ?_
      refine gf_X5_111 ok isW_11 dX5_tellClock_43 ?_
      refine r_iconst (v := 1) ok dX5_tellClock_46 rfl ?_
      refine r_iload_n ok dX5_tellClock_47 2 rfl ?_
      refine r_ishl ok dX5_tellClock_48 ?_
      refine r_ior ok dX5_tellClock_49 ?_
      refine pf_X5_111 ok isW_11 dX5_tellClock_50 (fun S7 eS7 => ?_)
      replace h := h S7 eS7
      exact hret _ _ _ dX5_tellClock_53 h
  · replace h := h.2 hc3
    exact hret _ _ _ dX5_tellClock_19 h
theorem c_X5_tellClock (l : Launch) (G : Gx) {S : St} {post : St → Prop} (h : wp_X5_tellClock S post) : MtV l yX5_tellClock cX5_tellClock 3 2 46 G [.ref (G.2.2 48), .ref (G.2.2 11)] S post :=
  ctV (by decide) rfl (Nat.le_of_ble_eq_true rfl) (fun X _ hG ok hret => by subst hG; exact w_wp_X5_tellClock ok hret h)

/-! HasteRoads$Text.passEnd()V -/
theorem dX5_passEnd_0 : decode cX5_passEnd 0 = .ok (.aload_n 0, 1) := by decide +kernel
theorem dX5_passEnd_1 : decode cX5_passEnd 1 = .ok (.invokevirtual 29, 3) := by decide +kernel
theorem dX5_passEnd_4 : decode cX5_passEnd 4 = .ok (.aload_n 0, 1) := by decide +kernel
theorem dX5_passEnd_5 : decode cX5_passEnd 5 = .ok (.getfield 26, 3) := by decide +kernel
theorem dX5_passEnd_8 : decode cX5_passEnd 8 = .ok (.aload_n 0, 1) := by decide +kernel
theorem dX5_passEnd_9 : decode cX5_passEnd 9 = .ok (.getfield 19, 3) := by decide +kernel
theorem dX5_passEnd_12 : decode cX5_passEnd 12 = .ok (.if_icmp .ge 30, 3) := by decide +kernel
theorem dX5_passEnd_15 : decode cX5_passEnd 15 = .ok (.aload_n 0, 1) := by decide +kernel
theorem dX5_passEnd_16 : decode cX5_passEnd 16 = .ok (.getfield 9, 3) := by decide +kernel
theorem dX5_passEnd_19 : decode cX5_passEnd 19 = .ok (.aload_n 0, 1) := by decide +kernel
theorem dX5_passEnd_20 : decode cX5_passEnd 20 = .ok (.getfield 26, 3) := by decide +kernel
theorem dX5_passEnd_23 : decode cX5_passEnd 23 = .ok (.iaload, 1) := by decide +kernel
theorem dX5_passEnd_24 : decode cX5_passEnd 24 = .ok (.bipush 59, 2) := by decide +kernel
theorem dX5_passEnd_26 : decode cX5_passEnd 26 = .ok (.if_icmp .ne 16, 3) := by decide +kernel
theorem dX5_passEnd_29 : decode cX5_passEnd 29 = .ok (.aload_n 0, 1) := by decide +kernel
theorem dX5_passEnd_30 : decode cX5_passEnd 30 = .ok (.dup, 1) := by decide +kernel
theorem dX5_passEnd_31 : decode cX5_passEnd 31 = .ok (.getfield 26, 3) := by decide +kernel
theorem dX5_passEnd_34 : decode cX5_passEnd 34 = .ok (.iconst 1, 1) := by decide +kernel
theorem dX5_passEnd_35 : decode cX5_passEnd 35 = .ok (.iadd, 1) := by decide +kernel
theorem dX5_passEnd_36 : decode cX5_passEnd 36 = .ok (.putfield 26, 3) := by decide +kernel
theorem dX5_passEnd_39 : decode cX5_passEnd 39 = .ok (.goto 12, 3) := by decide +kernel
theorem dX5_passEnd_42 : decode cX5_passEnd 42 = .ok (.aload_n 0, 1) := by decide +kernel
theorem dX5_passEnd_43 : decode cX5_passEnd 43 = .ok (.iconst 1, 1) := by decide +kernel
theorem dX5_passEnd_44 : decode cX5_passEnd 44 = .ok (.aload_n 0, 1) := by decide +kernel
theorem dX5_passEnd_45 : decode cX5_passEnd 45 = .ok (.getfield 26, 3) := by decide +kernel
theorem dX5_passEnd_48 : decode cX5_passEnd 48 = .ok (.invokevirtual 49, 3) := by decide +kernel
theorem dX5_passEnd_51 : decode cX5_passEnd 51 = .ok (.return_, 1) := by decide +kernel

def wp_X5_passEnd (S : St) (post : St → Prop) : Prop :=
  wp_X5_passBlanks S (fun S1 => (((S1 48 1) ≤ (S1 48 4) → wp_X5_blame 1 (S1 48 4) S1 (fun S3 => post S3)) ∧ (¬ (S1 48 1) ≤ (S1 48 4) → vp_in (S1 48 4) 250 ∧ (((¬ (S1 49 (ix (S1 48 4))) = 59 → wp_X5_blame 1 (S1 48 4) S1 (fun S5 => post S5)) ∧ ((S1 49 (ix (S1 48 4))) = 59 → ∀ S6 : St, S6 = up S1 48 4 ((S1 48 4) + 1) → post S6))))))
theorem w_wp_X5_passEnd {X : Cx} (ok : Ok X cX5_passEnd 1 RX5 1 22) {post : St → Prop} (hret : RetV X cX5_passEnd 1 post) {S : St} (h : wp_X5_passEnd S post) : Wp X 1 0 [(0, .ref (xad X 48))] [] S := by
  unfold wp_X5_passEnd at h
  refine r_aload_n ok dX5_passEnd_0 0 rfl ?_
  refine cl_X5_29 ok dX5_passEnd_1 (by decide) (Nat.le_of_ble_eq_true rfl) h (fun S1 h => ?_)
  refine r_aload_n ok dX5_passEnd_4 0 rfl ?_
  refine gf_X5_26 ok dX5_passEnd_5 ?_
  refine r_aload_n ok dX5_passEnd_8 0 rfl ?_
  refine gf_X5_19 ok dX5_passEnd_9 ?_
  refine r_icmp_ge (tgt := 42) ok dX5_passEnd_12 rfl (fun hc2 => ?_) (fun hc2 => ?_)
  · replace h := h.1 hc2
    refine r_aload_n ok dX5_passEnd_42 0 rfl ?_
    refine r_iconst (v := 1) ok dX5_passEnd_43 rfl ?_
    refine r_aload_n ok dX5_passEnd_44 0 rfl ?_
    refine gf_X5_26 ok dX5_passEnd_45 ?_
    refine cl_X5_49 ok dX5_passEnd_48 (by decide) (Nat.le_of_ble_eq_true rfl) h (fun S3 h => ?_)
    exact hret _ _ _ dX5_passEnd_51 h
  · replace h := h.2 hc2
    refine r_aload_n ok dX5_passEnd_15 0 rfl ?_
    refine gf_X5_9 ok dX5_passEnd_16 ?_
    refine r_aload_n ok dX5_passEnd_19 0 rfl ?_
    refine gf_X5_26 ok dX5_passEnd_20 ?_
    refine r_iald ok ai_49 h.1 rfl dX5_passEnd_23 ?_
    replace h := h.2
    refine r_bipush (v := 59) ok dX5_passEnd_24 rfl ?_
    refine r_icmp_ne (tgt := 42) ok dX5_passEnd_26 rfl (fun hc4 => ?_) (fun hc4 => ?_)
    · replace h := h.1 hc4
      refine r_aload_n ok dX5_passEnd_42 0 rfl ?_
      refine r_iconst (v := 1) ok dX5_passEnd_43 rfl ?_
      refine r_aload_n ok dX5_passEnd_44 0 rfl ?_
      refine gf_X5_26 ok dX5_passEnd_45 ?_
      refine cl_X5_49 ok dX5_passEnd_48 (by decide) (Nat.le_of_ble_eq_true rfl) h (fun S5 h => ?_)
      exact hret _ _ _ dX5_passEnd_51 h
    · replace h := h.2 hc4
      refine r_aload_n ok dX5_passEnd_29 0 rfl ?_
      refine r_dup ok dX5_passEnd_30 rfl ?_
      refine gf_X5_26 ok dX5_passEnd_31 ?_
      refine r_iconst (v := 1) ok dX5_passEnd_34 rfl ?_
      refine r_iadd ok dX5_passEnd_35 ?_
      refine pf_X5_26 ok dX5_passEnd_36 (fun S6 eS6 => ?_)
      replace h := h S6 eS6
      refine r_goto (tgt := 51) ok dX5_passEnd_39 rfl ?_
      exact hret _ _ _ dX5_passEnd_51 h
theorem c_X5_passEnd (l : Launch) (G : Gx) {S : St} {post : St → Prop} (h : wp_X5_passEnd S post) : MtV l yX5_passEnd cX5_passEnd 1 1 22 G [.ref (G.2.2 48)] S post :=
  ctV (by decide) rfl (Nat.le_of_ble_eq_true rfl) (fun X _ hG ok hret => by subst hG; exact w_wp_X5_passEnd ok hret h)

/-! HasteRoads$Text.tellClause(LHasteRoads$World;)V -/
theorem dX5_tellClause_0 : decode cX5_tellClause 0 = .ok (.aload_n 0, 1) := by decide +kernel
theorem dX5_tellClause_1 : decode cX5_tellClause 1 = .ok (.getfield 9, 3) := by decide +kernel
theorem dX5_tellClause_4 : decode cX5_tellClause 4 = .ok (.aload_n 0, 1) := by decide +kernel
theorem dX5_tellClause_5 : decode cX5_tellClause 5 = .ok (.getfield 26, 3) := by decide +kernel
theorem dX5_tellClause_8 : decode cX5_tellClause 8 = .ok (.iaload, 1) := by decide +kernel
theorem dX5_tellClause_9 : decode cX5_tellClause 9 = .ok (.istore_n 2, 1) := by decide +kernel
theorem dX5_tellClause_10 : decode cX5_tellClause 10 = .ok (.aload_n 0, 1) := by decide +kernel
theorem dX5_tellClause_11 : decode cX5_tellClause 11 = .ok (.getfield 26, 3) := by decide +kernel
theorem dX5_tellClause_14 : decode cX5_tellClause 14 = .ok (.istore_n 3, 1) := by decide +kernel
theorem dX5_tellClause_15 : decode cX5_tellClause 15 = .ok (.aload_n 0, 1) := by decide +kernel
theorem dX5_tellClause_16 : decode cX5_tellClause 16 = .ok (.dup, 1) := by decide +kernel
theorem dX5_tellClause_17 : decode cX5_tellClause 17 = .ok (.getfield 26, 3) := by decide +kernel
theorem dX5_tellClause_20 : decode cX5_tellClause 20 = .ok (.iconst 1, 1) := by decide +kernel
theorem dX5_tellClause_21 : decode cX5_tellClause 21 = .ok (.iadd, 1) := by decide +kernel
theorem dX5_tellClause_22 : decode cX5_tellClause 22 = .ok (.putfield 26, 3) := by decide +kernel
theorem dX5_tellClause_25 : decode cX5_tellClause 25 = .ok (.iload_n 2, 1) := by decide +kernel
theorem dX5_tellClause_26 : decode cX5_tellClause 26 = .ok (.lookupswitch 77 #[(99, 69), (109, 60), (112, 42), (114, 51)], 42) := by decide +kernel
theorem dX5_tellClause_68 : decode cX5_tellClause 68 = .ok (.aload_n 0, 1) := by decide +kernel
theorem dX5_tellClause_69 : decode cX5_tellClause 69 = .ok (.aload_n 1, 1) := by decide +kernel
theorem dX5_tellClause_70 : decode cX5_tellClause 70 = .ok (.iload_n 3, 1) := by decide +kernel
theorem dX5_tellClause_71 : decode cX5_tellClause 71 = .ok (.invokevirtual 36, 3) := by decide +kernel
theorem dX5_tellClause_74 : decode cX5_tellClause 74 = .ok (.goto 35, 3) := by decide +kernel
theorem dX5_tellClause_77 : decode cX5_tellClause 77 = .ok (.aload_n 0, 1) := by decide +kernel
theorem dX5_tellClause_78 : decode cX5_tellClause 78 = .ok (.aload_n 1, 1) := by decide +kernel
theorem dX5_tellClause_79 : decode cX5_tellClause 79 = .ok (.iload_n 3, 1) := by decide +kernel
theorem dX5_tellClause_80 : decode cX5_tellClause 80 = .ok (.invokevirtual 40, 3) := by decide +kernel
theorem dX5_tellClause_83 : decode cX5_tellClause 83 = .ok (.goto 26, 3) := by decide +kernel
theorem dX5_tellClause_86 : decode cX5_tellClause 86 = .ok (.aload_n 0, 1) := by decide +kernel
theorem dX5_tellClause_87 : decode cX5_tellClause 87 = .ok (.aload_n 1, 1) := by decide +kernel
theorem dX5_tellClause_88 : decode cX5_tellClause 88 = .ok (.iload_n 3, 1) := by decide +kernel
theorem dX5_tellClause_89 : decode cX5_tellClause 89 = .ok (.invokevirtual 43, 3) := by decide +kernel
theorem dX5_tellClause_92 : decode cX5_tellClause 92 = .ok (.goto 17, 3) := by decide +kernel
theorem dX5_tellClause_95 : decode cX5_tellClause 95 = .ok (.aload_n 0, 1) := by decide +kernel
theorem dX5_tellClause_96 : decode cX5_tellClause 96 = .ok (.aload_n 1, 1) := by decide +kernel
theorem dX5_tellClause_97 : decode cX5_tellClause 97 = .ok (.invokevirtual 46, 3) := by decide +kernel
theorem dX5_tellClause_100 : decode cX5_tellClause 100 = .ok (.goto 9, 3) := by decide +kernel
theorem dX5_tellClause_103 : decode cX5_tellClause 103 = .ok (.aload_n 0, 1) := by decide +kernel
theorem dX5_tellClause_104 : decode cX5_tellClause 104 = .ok (.iconst 1, 1) := by decide +kernel
theorem dX5_tellClause_105 : decode cX5_tellClause 105 = .ok (.iload_n 3, 1) := by decide +kernel
theorem dX5_tellClause_106 : decode cX5_tellClause 106 = .ok (.invokevirtual 49, 3) := by decide +kernel
theorem dX5_tellClause_109 : decode cX5_tellClause 109 = .ok (.aload_n 0, 1) := by decide +kernel
theorem dX5_tellClause_110 : decode cX5_tellClause 110 = .ok (.getfield 23, 3) := by decide +kernel
theorem dX5_tellClause_113 : decode cX5_tellClause 113 = .ok (.ifCond .ne 7, 3) := by decide +kernel
theorem dX5_tellClause_116 : decode cX5_tellClause 116 = .ok (.aload_n 0, 1) := by decide +kernel
theorem dX5_tellClause_117 : decode cX5_tellClause 117 = .ok (.invokevirtual 53, 3) := by decide +kernel
theorem dX5_tellClause_120 : decode cX5_tellClause 120 = .ok (.return_, 1) := by decide +kernel
theorem cl_X5_46 {X : Cx} {cc : ByteArray} {nL pc fr lo : Nat} {L : List (Nat × Value)} {st : List Value} {S : St} (ok : Ok X cc nL RX5 fr lo) (d : decode cc pc = .ok (.invokevirtual 46, 3)) (hroom : 3 ≤ fr ∧ 68 ≤ lo) (hst : (st.map fun v => v.category).sum ≤ 8) {post : St → Prop} (h : wp_X5_tellClock S post) (kk : ∀ S1 : St, post S1 → Wp X nL (pc + 3) L st S1) : Wp X nL pc L (.ref (xad X 11) :: .ref (xad X 48) :: st) S :=
  r_callVv (n := 3) (f := 2) (lo1 := 46) (N := 1) (As := [.ref (xad X 11)]) ok tw_in_X5 tw_im_X5_tellClock tw_se_X5_tellClock tw_co_X5_tellClock tw_ml_X5_46 (by decide +kernel) rfl ob_48 rfl hroom hst d rfl (c_X5_tellClock (xl X) (xG X) h) kk
theorem cl_X5_53 {X : Cx} {cc : ByteArray} {nL pc fr lo : Nat} {L : List (Nat × Value)} {st : List Value} {S : St} (ok : Ok X cc nL RX5 fr lo) (d : decode cc pc = .ok (.invokevirtual 53, 3)) (hroom : 2 ≤ fr ∧ 42 ≤ lo) (hst : (st.map fun v => v.category).sum ≤ 8) {post : St → Prop} (h : wp_X5_passEnd S post) (kk : ∀ S1 : St, post S1 → Wp X nL (pc + 3) L st S1) : Wp X nL pc L (.ref (xad X 48) :: st) S :=
  r_callVv (n := 1) (f := 1) (lo1 := 22) (N := 0) (As := []) ok tw_in_X5 tw_im_X5_passEnd tw_se_X5_passEnd tw_co_X5_passEnd tw_ml_X5_53 (by decide +kernel) rfl ob_48 rfl hroom hst d rfl (c_X5_passEnd (xl X) (xG X) h) kk
theorem cl_X5_43 {X : Cx} {cc : ByteArray} {nL pc fr lo : Nat} {L : List (Nat × Value)} {st : List Value} {S : St} (ok : Ok X cc nL RX5 fr lo) {x2 : Int32} (d : decode cc pc = .ok (.invokevirtual 43, 3)) (hroom : 3 ≤ fr ∧ 74 ≤ lo) (hst : (st.map fun v => v.category).sum ≤ 8) {post : St → Prop} (h : wp_X5_tellPerson x2 S post) (kk : ∀ S1 : St, post S1 → Wp X nL (pc + 3) L st S1) : Wp X nL pc L (.int x2 :: .ref (xad X 11) :: .ref (xad X 48) :: st) S :=
  r_callVv (n := 9) (f := 2) (lo1 := 46) (N := 2) (As := [.ref (xad X 11), .int x2]) ok tw_in_X5 tw_im_X5_tellPerson tw_se_X5_tellPerson tw_co_X5_tellPerson tw_ml_X5_43 (by decide +kernel) rfl ob_48 rfl hroom hst d rfl (c_X5_tellPerson (xl X) (xG X) h) kk
theorem cl_X5_36 {X : Cx} {cc : ByteArray} {nL pc fr lo : Nat} {L : List (Nat × Value)} {st : List Value} {S : St} (ok : Ok X cc nL RX5 fr lo) {x2 : Int32} (d : decode cc pc = .ok (.invokevirtual 36, 3)) (hroom : 3 ≤ fr ∧ 69 ≤ lo) (hst : (st.map fun v => v.category).sum ≤ 8) {post : St → Prop} (h : wp_X5_tellPlace x2 S post) (kk : ∀ S1 : St, post S1 → Wp X nL (pc + 3) L st S1) : Wp X nL pc L (.int x2 :: .ref (xad X 11) :: .ref (xad X 48) :: st) S :=
  r_callVv (n := 4) (f := 2) (lo1 := 46) (N := 2) (As := [.ref (xad X 11), .int x2]) ok tw_in_X5 tw_im_X5_tellPlace tw_se_X5_tellPlace tw_co_X5_tellPlace tw_ml_X5_36 (by decide +kernel) rfl ob_48 rfl hroom hst d rfl (c_X5_tellPlace (xl X) (xG X) h) kk
theorem cl_X5_40 {X : Cx} {cc : ByteArray} {nL pc fr lo : Nat} {L : List (Nat × Value)} {st : List Value} {S : St} (ok : Ok X cc nL RX5 fr lo) {x2 : Int32} (d : decode cc pc = .ok (.invokevirtual 40, 3)) (hroom : 3 ≤ fr ∧ 71 ≤ lo) (hst : (st.map fun v => v.category).sum ≤ 8) {post : St → Prop} (h : wp_X5_tellRoad x2 S post) (kk : ∀ S1 : St, post S1 → Wp X nL (pc + 3) L st S1) : Wp X nL pc L (.int x2 :: .ref (xad X 11) :: .ref (xad X 48) :: st) S :=
  r_callVv (n := 6) (f := 2) (lo1 := 46) (N := 2) (As := [.ref (xad X 11), .int x2]) ok tw_in_X5 tw_im_X5_tellRoad tw_se_X5_tellRoad tw_co_X5_tellRoad tw_ml_X5_40 (by decide +kernel) rfl ob_48 rfl hroom hst d rfl (c_X5_tellRoad (xl X) (xG X) h) kk
def wp_X5_tellClause (S : St) (post : St → Prop) : Prop :=
  vp_in (S 48 4) 250 ∧ (∀ v1 : Int32, v1 = (S 49 (ix (S 48 4))) → ∀ v2 : Int32, v2 = (S 48 4) → ∀ S3 : St, S3 = up S 48 4 ((S 48 4) + 1) → ((v1 = 99 → wp_X5_tellClock S3 (fun S6 => ((¬ (S6 48 3) = 0 → post S6) ∧ ((S6 48 3) = 0 → wp_X5_passEnd S6 (fun S8 => post S8))))) ∧ (¬ v1 = 99 → ((v1 = 109 → wp_X5_tellPerson v2 S3 (fun S10 => ((¬ (S10 48 3) = 0 → post S10) ∧ ((S10 48 3) = 0 → wp_X5_passEnd S10 (fun S12 => post S12))))) ∧ (¬ v1 = 109 → ((v1 = 112 → wp_X5_tellPlace v2 S3 (fun S14 => ((¬ (S14 48 3) = 0 → post S14) ∧ ((S14 48 3) = 0 → wp_X5_passEnd S14 (fun S16 => post S16))))) ∧ (¬ v1 = 112 → ((v1 = 114 → wp_X5_tellRoad v2 S3 (fun S18 => ((¬ (S18 48 3) = 0 → post S18) ∧ ((S18 48 3) = 0 → wp_X5_passEnd S18 (fun S20 => post S20))))) ∧ (¬ v1 = 114 → wp_X5_blame 1 v2 S3 (fun S21 => ((¬ (S21 48 3) = 0 → post S21) ∧ ((S21 48 3) = 0 → wp_X5_passEnd S21 (fun S23 => post S23)))))))))))))
theorem w_wp_X5_tellClause {X : Cx} (ok : Ok X cX5_tellClause 4 RX5 3 74) {post : St → Prop} (hret : RetV X cX5_tellClause 4 post) {S : St} (h : wp_X5_tellClause S post) : Wp X 4 0 [(0, .ref (xad X 48)), (1, .ref (xad X 11))] [] S := by
  unfold wp_X5_tellClause at h
  refine r_aload_n ok dX5_tellClause_0 0 rfl ?_
  refine gf_X5_9 ok dX5_tellClause_1 ?_
  refine r_aload_n ok dX5_tellClause_4 0 rfl ?_
  refine gf_X5_26 ok dX5_tellClause_5 ?_
  refine r_iald ok ai_49 h.1 rfl dX5_tellClause_8 ?_
  replace h := h.2
  refine r_top (fun v1 ev1 => ?_)
  replace h := h v1 ev1
  refine r_istore_n ok dX5_tellClause_9 (by decide) [(0, .ref (xad X 48)), (1, .ref (xad X 11)), (2, .int v1)] [1, 2, 0] rfl ?_
  refine r_aload_n ok dX5_tellClause_10 0 rfl ?_
  refine gf_X5_26 ok dX5_tellClause_11 ?_
  refine r_top (fun v2 ev2 => ?_)
  replace h := h v2 ev2
  refine r_istore_n ok dX5_tellClause_14 (by decide) [(0, .ref (xad X 48)), (1, .ref (xad X 11)), (2, .int v1), (3, .int v2)] [1, 2, 3, 0] rfl ?_
  refine r_aload_n ok dX5_tellClause_15 0 rfl ?_
  refine r_dup ok dX5_tellClause_16 rfl ?_
  refine gf_X5_26 ok dX5_tellClause_17 ?_
  refine r_iconst (v := 1) ok dX5_tellClause_20 rfl ?_
  refine r_iadd ok dX5_tellClause_21 ?_
  refine pf_X5_26 ok dX5_tellClause_22 (fun S3 eS3 => ?_)
  replace h := h S3 eS3
  refine r_iload_n ok dX5_tellClause_25 2 rfl ?_
  by_cases hq5 : v1 = 99
  · replace h := h.1 hq5
    refine r_lsw (tgt := 95) ok dX5_tellClause_26 (by decide) (by rw [hq5]; first | done | rfl) rfl ?_
    refine r_aload_n ok dX5_tellClause_95 0 rfl ?_
    refine r_aload_n ok dX5_tellClause_96 1 rfl ?_
    refine cl_X5_46 ok dX5_tellClause_97 (by decide) (Nat.le_of_ble_eq_true rfl) h (fun S6 h => ?_)
    refine r_goto (tgt := 109) ok dX5_tellClause_100 rfl ?_
    refine r_aload_n ok dX5_tellClause_109 0 rfl ?_
    refine gf_X5_23 ok dX5_tellClause_110 ?_
    refine r_if_ne (tgt := 120) ok dX5_tellClause_113 rfl (fun hc7 => ?_) (fun hc7 => ?_)
    · replace h := h.1 hc7
      exact hret _ _ _ dX5_tellClause_120 h
    · replace h := h.2 hc7
      refine r_aload_n ok dX5_tellClause_116 0 rfl ?_
      refine cl_X5_53 ok dX5_tellClause_117 (by decide) (Nat.le_of_ble_eq_true rfl) h (fun S8 h => ?_)
      exact hret _ _ _ dX5_tellClause_120 h
  replace h := h.2 hq5
  by_cases hq9 : v1 = 109
  · replace h := h.1 hq9
    refine r_lsw (tgt := 86) ok dX5_tellClause_26 (by decide) (by rw [hq9]; first | done | rfl) rfl ?_
    refine r_aload_n ok dX5_tellClause_86 0 rfl ?_
    refine r_aload_n ok dX5_tellClause_87 1 rfl ?_
    refine r_iload_n ok dX5_tellClause_88 3 rfl ?_
    refine cl_X5_43 ok dX5_tellClause_89 (by decide) (Nat.le_of_ble_eq_true rfl) h (fun S10 h => ?_)
    refine r_goto (tgt := 109) ok dX5_tellClause_92 rfl ?_
    refine r_aload_n ok dX5_tellClause_109 0 rfl ?_
    refine gf_X5_23 ok dX5_tellClause_110 ?_
    refine r_if_ne (tgt := 120) ok dX5_tellClause_113 rfl (fun hc11 => ?_) (fun hc11 => ?_)
    · replace h := h.1 hc11
      exact hret _ _ _ dX5_tellClause_120 h
    · replace h := h.2 hc11
      refine r_aload_n ok dX5_tellClause_116 0 rfl ?_
      refine cl_X5_53 ok dX5_tellClause_117 (by decide) (Nat.le_of_ble_eq_true rfl) h (fun S12 h => ?_)
      exact hret _ _ _ dX5_tellClause_120 h
  replace h := h.2 hq9
  by_cases hq13 : v1 = 112
  · replace h := h.1 hq13
    refine r_lsw (tgt := 68) ok dX5_tellClause_26 (by decide) (by rw [hq13]; first | done | rfl) rfl ?_
    refine r_aload_n ok dX5_tellClause_68 0 rfl ?_
    refine r_aload_n ok dX5_tellClause_69 1 rfl ?_
    refine r_iload_n ok dX5_tellClause_70 3 rfl ?_
    refine cl_X5_36 ok dX5_tellClause_71 (by decide) (Nat.le_of_ble_eq_true rfl) h (fun S14 h => ?_)
    refine r_goto (tgt := 109) ok dX5_tellClause_74 rfl ?_
    refine r_aload_n ok dX5_tellClause_109 0 rfl ?_
    refine gf_X5_23 ok dX5_tellClause_110 ?_
    refine r_if_ne (tgt := 120) ok dX5_tellClause_113 rfl (fun hc15 => ?_) (fun hc15 => ?_)
    · replace h := h.1 hc15
      exact hret _ _ _ dX5_tellClause_120 h
    · replace h := h.2 hc15
      refine r_aload_n ok dX5_tellClause_116 0 rfl ?_
      refine cl_X5_53 ok dX5_tellClause_117 (by decide) (Nat.le_of_ble_eq_true rfl) h (fun S16 h => ?_)
      exact hret _ _ _ dX5_tellClause_120 h
  replace h := h.2 hq13
  by_cases hq17 : v1 = 114
  · replace h := h.1 hq17
    refine r_lsw (tgt := 77) ok dX5_tellClause_26 (by decide) (by rw [hq17]; first | done | rfl) rfl ?_
    refine r_aload_n ok dX5_tellClause_77 0 rfl ?_
    refine r_aload_n ok dX5_tellClause_78 1 rfl ?_
    refine r_iload_n ok dX5_tellClause_79 3 rfl ?_
    refine cl_X5_40 ok dX5_tellClause_80 (by decide) (Nat.le_of_ble_eq_true rfl) h (fun S18 h => ?_)
    refine r_goto (tgt := 109) ok dX5_tellClause_83 rfl ?_
    refine r_aload_n ok dX5_tellClause_109 0 rfl ?_
    refine gf_X5_23 ok dX5_tellClause_110 ?_
    refine r_if_ne (tgt := 120) ok dX5_tellClause_113 rfl (fun hc19 => ?_) (fun hc19 => ?_)
    · replace h := h.1 hc19
      exact hret _ _ _ dX5_tellClause_120 h
    · replace h := h.2 hc19
      refine r_aload_n ok dX5_tellClause_116 0 rfl ?_
      refine cl_X5_53 ok dX5_tellClause_117 (by decide) (Nat.le_of_ble_eq_true rfl) h (fun S20 h => ?_)
      exact hret _ _ _ dX5_tellClause_120 h
  replace h := h.2 hq17
  refine r_lsw (tgt := 103) ok dX5_tellClause_26 (by decide) ((lv_osw hq5 rfl).trans <| (lv_osw hq9 rfl).trans <| (lv_osw hq13 rfl).trans <| (lv_osw hq17 rfl).trans <| rfl) rfl ?_
  refine r_aload_n ok dX5_tellClause_103 0 rfl ?_
  refine r_iconst (v := 1) ok dX5_tellClause_104 rfl ?_
  refine r_iload_n ok dX5_tellClause_105 3 rfl ?_
  refine cl_X5_49 ok dX5_tellClause_106 (by decide) (Nat.le_of_ble_eq_true rfl) h (fun S21 h => ?_)
  refine r_aload_n ok dX5_tellClause_109 0 rfl ?_
  refine gf_X5_23 ok dX5_tellClause_110 ?_
  refine r_if_ne (tgt := 120) ok dX5_tellClause_113 rfl (fun hc22 => ?_) (fun hc22 => ?_)
  · replace h := h.1 hc22
    exact hret _ _ _ dX5_tellClause_120 h
  · replace h := h.2 hc22
    refine r_aload_n ok dX5_tellClause_116 0 rfl ?_
    refine cl_X5_53 ok dX5_tellClause_117 (by decide) (Nat.le_of_ble_eq_true rfl) h (fun S23 h => ?_)
    exact hret _ _ _ dX5_tellClause_120 h
theorem c_X5_tellClause (l : Launch) (G : Gx) {S : St} {post : St → Prop} (h : wp_X5_tellClause S post) : MtV l yX5_tellClause cX5_tellClause 4 3 74 G [.ref (G.2.2 48), .ref (G.2.2 11)] S post :=
  ctV (by decide) rfl (Nat.le_of_ble_eq_true rfl) (fun X _ hG ok hret => by subst hG; exact w_wp_X5_tellClause ok hret h)

/-! HasteRoads$Text.tell(LHasteRoads$World;)I -/
theorem dX5_tell_0 : decode cX5_tell 0 = .ok (.aload_n 0, 1) := by decide +kernel
theorem dX5_tell_1 : decode cX5_tell 1 = .ok (.iconst 0, 1) := by decide +kernel
theorem dX5_tell_2 : decode cX5_tell 2 = .ok (.putfield 23, 3) := by decide +kernel
theorem dX5_tell_5 : decode cX5_tell 5 = .ok (.aload_n 0, 1) := by decide +kernel
theorem dX5_tell_6 : decode cX5_tell 6 = .ok (.iconst (-1), 1) := by decide +kernel
theorem dX5_tell_7 : decode cX5_tell 7 = .ok (.putfield 15, 3) := by decide +kernel
theorem dX5_tell_10 : decode cX5_tell 10 = .ok (.aload_n 0, 1) := by decide +kernel
theorem dX5_tell_11 : decode cX5_tell 11 = .ok (.iconst 0, 1) := by decide +kernel
theorem dX5_tell_12 : decode cX5_tell 12 = .ok (.putfield 26, 3) := by decide +kernel
theorem dX5_tell_15 : decode cX5_tell 15 = .ok (.aload_n 0, 1) := by decide +kernel
theorem dX5_tell_16 : decode cX5_tell 16 = .ok (.invokevirtual 29, 3) := by decide +kernel
theorem dX5_tell_19 : decode cX5_tell 19 = .ok (.iconst 0, 1) := by decide +kernel
theorem dX5_tell_20 : decode cX5_tell 20 = .ok (.istore_n 2, 1) := by decide +kernel
theorem dX5_tell_21 : decode cX5_tell 21 = .ok (.iload_n 2, 1) := by decide +kernel
theorem dX5_tell_22 : decode cX5_tell 22 = .ok (.sipush 250, 3) := by decide +kernel
theorem dX5_tell_25 : decode cX5_tell 25 = .ok (.if_icmp .ge 36, 3) := by decide +kernel
theorem dX5_tell_28 : decode cX5_tell 28 = .ok (.aload_n 0, 1) := by decide +kernel
theorem dX5_tell_29 : decode cX5_tell 29 = .ok (.getfield 23, 3) := by decide +kernel
theorem dX5_tell_32 : decode cX5_tell 32 = .ok (.ifCond .ne 29, 3) := by decide +kernel
theorem dX5_tell_35 : decode cX5_tell 35 = .ok (.aload_n 0, 1) := by decide +kernel
theorem dX5_tell_36 : decode cX5_tell 36 = .ok (.getfield 26, 3) := by decide +kernel
theorem dX5_tell_39 : decode cX5_tell 39 = .ok (.aload_n 0, 1) := by decide +kernel
theorem dX5_tell_40 : decode cX5_tell 40 = .ok (.getfield 19, 3) := by decide +kernel
theorem dX5_tell_43 : decode cX5_tell 43 = .ok (.if_icmp .ge 18, 3) := by decide +kernel
theorem dX5_tell_46 : decode cX5_tell 46 = .ok (.aload_n 0, 1) := by decide +kernel
theorem dX5_tell_47 : decode cX5_tell 47 = .ok (.aload_n 1, 1) := by decide +kernel
theorem dX5_tell_48 : decode cX5_tell 48 = .ok (.invokevirtual 32, 3) := by decide +kernel
theorem dX5_tell_51 : decode cX5_tell 51 = .ok (.aload_n 0, 1) := by decide +kernel
theorem dX5_tell_52 : decode cX5_tell 52 = .ok (.invokevirtual 29, 3) := by decide +kernel
theorem dX5_tell_55 : decode cX5_tell 55 = .ok (.iinc 2 1, 3) := by decide +kernel
theorem dX5_tell_58 : decode cX5_tell 58 = .ok (.goto (-37), 3) := by decide +kernel
theorem dX5_tell_61 : decode cX5_tell 61 = .ok (.aload_n 0, 1) := by decide +kernel
theorem dX5_tell_62 : decode cX5_tell 62 = .ok (.iconst 0, 1) := by decide +kernel
theorem dX5_tell_63 : decode cX5_tell 63 = .ok (.putfield 19, 3) := by decide +kernel
theorem dX5_tell_66 : decode cX5_tell 66 = .ok (.aload_n 0, 1) := by decide +kernel
theorem dX5_tell_67 : decode cX5_tell 67 = .ok (.getfield 23, 3) := by decide +kernel
theorem dX5_tell_70 : decode cX5_tell 70 = .ok (.ireturn, 1) := by decide +kernel
theorem cl_X5_32 {X : Cx} {cc : ByteArray} {nL pc fr lo : Nat} {L : List (Nat × Value)} {st : List Value} {S : St} (ok : Ok X cc nL RX5 fr lo) (d : decode cc pc = .ok (.invokevirtual 32, 3)) (hroom : 4 ≤ fr ∧ 97 ≤ lo) (hst : (st.map fun v => v.category).sum ≤ 8) {post : St → Prop} (h : wp_X5_tellClause S post) (kk : ∀ S1 : St, post S1 → Wp X nL (pc + 3) L st S1) : Wp X nL pc L (.ref (xad X 11) :: .ref (xad X 48) :: st) S :=
  r_callVv (n := 4) (f := 3) (lo1 := 74) (N := 1) (As := [.ref (xad X 11)]) ok tw_in_X5 tw_im_X5_tellClause tw_se_X5_tellClause tw_co_X5_tellClause tw_ml_X5_32 (by decide +kernel) rfl ob_48 rfl hroom hst d rfl (c_X5_tellClause (xl X) (xG X) h) kk
def B_X5_tell_61 (post : Int32 → St → Prop) (S : St) : Prop :=
  ∀ S1 : St, S1 = up S 48 1 0 → post (S1 48 3) S1
def BD_X5_tell_21 (k21 : Int32 → St → Prop) (post : Int32 → St → Prop) (x2 : Int32) (S : St) : Prop :=
  ((250 ≤ x2 → B_X5_tell_61 post S) ∧ (¬ 250 ≤ x2 → ((¬ (S 48 3) = 0 → B_X5_tell_61 post S) ∧ ((S 48 3) = 0 → (((S 48 1) ≤ (S 48 4) → B_X5_tell_61 post S) ∧ (¬ (S 48 1) ≤ (S 48 4) → wp_X5_tellClause S (fun S4 => wp_X5_passBlanks S4 (fun S5 => k21 (x2 + 1) S5))))))))
def L_X5_tell_21 (post : Int32 → St → Prop) (n : Nat) : Int32 → St → Prop := Nat.rec (motive := fun _ => Int32 → St → Prop) (fun _ _ => False) (fun _ ih => BD_X5_tell_21 ih post) n
def B_X5_tell_21 (post : Int32 → St → Prop) (x2 : Int32) (S : St) : Prop := ∃ n, L_X5_tell_21 post n x2 S
def wp_X5_tell (S : St) (post : Int32 → St → Prop) : Prop :=
  ∀ S1 : St, S1 = up S 48 3 0 → ∀ S2 : St, S2 = up S1 48 2 (-1) → ∀ S3 : St, S3 = up S2 48 4 0 → wp_X5_passBlanks S3 (fun S4 => B_X5_tell_21 post 0 S4)
theorem w_B_X5_tell_61 {X : Cx} (ok : Ok X cX5_tell 3 RX5 4 97) {post : Int32 → St → Prop} (hret : RetI X cX5_tell 3 post) {S : St} (h : B_X5_tell_61 post S) : Wp X 3 61 [(0, .ref (xad X 48))] [] S := by
  unfold B_X5_tell_61 at h
  refine r_aload_n ok dX5_tell_61 0 rfl ?_
  refine r_iconst (v := 0) ok dX5_tell_62 rfl ?_
  refine pf_X5_19 ok dX5_tell_63 (fun S1 eS1 => ?_)
  replace h := h S1 eS1
  refine r_aload_n ok dX5_tell_66 0 rfl ?_
  refine gf_X5_23 ok dX5_tell_67 ?_
  exact hret _ _ _ _ dX5_tell_70 h
theorem w_B_X5_tell_21 {X : Cx} (ok : Ok X cX5_tell 3 RX5 4 97) {post : Int32 → St → Prop} (hret : RetI X cX5_tell 3 post) {x2 : Int32} {S : St} (h : B_X5_tell_21 post x2 S) : Wp X 3 21 [(0, .ref (xad X 48)), (1, .ref (xad X 11)), (2, .int x2)] [] S := by
  obtain ⟨n, h⟩ := h
  induction n generalizing x2 S with
  | zero => exact False.elim h
  | succ n ih =>
    have hk21 : ∀ x2 S, L_X5_tell_21 post n x2 S → Wp X 3 21 [(0, .ref (xad X 48)), (1, .ref (xad X 11)), (2, .int x2)] [] S := by intros; apply ih; assumption
    replace h : BD_X5_tell_21 (L_X5_tell_21 post n) post x2 S := h
    unfold BD_X5_tell_21 at h
    generalize L_X5_tell_21 post n = k21 at h hk21
    refine r_iload_n ok dX5_tell_21 2 rfl ?_
    refine r_sipush (v := 250) ok dX5_tell_22 rfl ?_
    refine r_icmp_ge (tgt := 61) ok dX5_tell_25 rfl (fun hc1 => ?_) (fun hc1 => ?_)
    · replace h := h.1 hc1
      refine r_sub [(0, .ref (xad X 48))] [0] rfl ?_
      exact w_B_X5_tell_61 ok hret h
    · replace h := h.2 hc1
      refine r_aload_n ok dX5_tell_28 0 rfl ?_
      refine gf_X5_23 ok dX5_tell_29 ?_
      refine r_if_ne (tgt := 61) ok dX5_tell_32 rfl (fun hc2 => ?_) (fun hc2 => ?_)
      · replace h := h.1 hc2
        refine r_sub [(0, .ref (xad X 48))] [0] rfl ?_
        exact w_B_X5_tell_61 ok hret h
      · replace h := h.2 hc2
        refine r_aload_n ok dX5_tell_35 0 rfl ?_
        refine gf_X5_26 ok dX5_tell_36 ?_
        refine r_aload_n ok dX5_tell_39 0 rfl ?_
        refine gf_X5_19 ok dX5_tell_40 ?_
        refine r_icmp_ge (tgt := 61) ok dX5_tell_43 rfl (fun hc3 => ?_) (fun hc3 => ?_)
        · replace h := h.1 hc3
          refine r_sub [(0, .ref (xad X 48))] [0] rfl ?_
          exact w_B_X5_tell_61 ok hret h
        · replace h := h.2 hc3
          refine r_aload_n ok dX5_tell_46 0 rfl ?_
          refine r_aload_n ok dX5_tell_47 1 rfl ?_
          refine cl_X5_32 ok dX5_tell_48 (by decide) (Nat.le_of_ble_eq_true rfl) h (fun S4 h => ?_)
          refine r_aload_n ok dX5_tell_51 0 rfl ?_
          refine cl_X5_29 ok dX5_tell_52 (by decide) (Nat.le_of_ble_eq_true rfl) h (fun S5 h => ?_)
          refine r_iinc (v := x2 + 1) ok dX5_tell_55 2 rfl rfl (by decide) [(0, .ref (xad X 48)), (1, .ref (xad X 11)), (2, .int (x2 + 1))] [1, 2, 0] rfl ?_
          refine r_goto (tgt := 21) ok dX5_tell_58 rfl ?_
          exact hk21 _ _ h
theorem w_wp_X5_tell {X : Cx} (ok : Ok X cX5_tell 3 RX5 4 97) {post : Int32 → St → Prop} (hret : RetI X cX5_tell 3 post) {S : St} (h : wp_X5_tell S post) : Wp X 3 0 [(0, .ref (xad X 48)), (1, .ref (xad X 11))] [] S := by
  unfold wp_X5_tell at h
  refine r_aload_n ok dX5_tell_0 0 rfl ?_
  refine r_iconst (v := 0) ok dX5_tell_1 rfl ?_
  refine pf_X5_23 ok dX5_tell_2 (fun S1 eS1 => ?_)
  replace h := h S1 eS1
  refine r_aload_n ok dX5_tell_5 0 rfl ?_
  refine r_iconst (v := (-1)) ok dX5_tell_6 rfl ?_
  refine pf_X5_15 ok dX5_tell_7 (fun S2 eS2 => ?_)
  replace h := h S2 eS2
  refine r_aload_n ok dX5_tell_10 0 rfl ?_
  refine r_iconst (v := 0) ok dX5_tell_11 rfl ?_
  refine pf_X5_26 ok dX5_tell_12 (fun S3 eS3 => ?_)
  replace h := h S3 eS3
  refine r_aload_n ok dX5_tell_15 0 rfl ?_
  refine cl_X5_29 ok dX5_tell_16 (by decide) (Nat.le_of_ble_eq_true rfl) h (fun S4 h => ?_)
  refine r_iconst (v := 0) ok dX5_tell_19 rfl ?_
  refine r_istore_n ok dX5_tell_20 (by decide) [(0, .ref (xad X 48)), (1, .ref (xad X 11)), (2, .int 0)] [1, 2, 0] rfl ?_
  exact w_B_X5_tell_21 ok hret h
theorem c_X5_tell (l : Launch) (G : Gx) {S : St} {post : Int32 → St → Prop} (h : wp_X5_tell S post) : MtI l yX5_tell cX5_tell 3 (some .int) 4 97 G [.ref (G.2.2 48), .ref (G.2.2 11)] S post :=
  ctI (by decide) rfl (Nat.le_of_ble_eq_true rfl) (fun X _ hG ok hret => by subst hG; exact w_wp_X5_tell ok hret h)
