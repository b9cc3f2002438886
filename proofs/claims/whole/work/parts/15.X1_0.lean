/-! HasteRoads$Chase.begin(LHasteRoads$World;)V -/
theorem dX1_begin_0 : decode cX1_begin 0 = .ok (.iconst 0, 1) := by decide +kernel
theorem dX1_begin_1 : decode cX1_begin 1 = .ok (.istore_n 2, 1) := by decide +kernel
theorem dX1_begin_2 : decode cX1_begin 2 = .ok (.iload_n 2, 1) := by decide +kernel
theorem dX1_begin_3 : decode cX1_begin 3 = .ok (.bipush 6, 2) := by decide +kernel
theorem dX1_begin_5 : decode cX1_begin 5 = .ok (.if_icmp .ge 27, 3) := by decide +kernel
theorem dX1_begin_8 : decode cX1_begin 8 = .ok (.aload_n 0, 1) := by decide +kernel
theorem dX1_begin_9 : decode cX1_begin 9 = .ok (.getfield 9, 3) := by decide +kernel
theorem dX1_begin_12 : decode cX1_begin 12 = .ok (.iload_n 2, 1) := by decide +kernel
theorem dX1_begin_13 : decode cX1_begin 13 = .ok (.iconst 1, 1) := by decide +kernel
theorem dX1_begin_14 : decode cX1_begin 14 = .ok (.iload_n 2, 1) := by decide +kernel
theorem dX1_begin_15 : decode cX1_begin 15 = .ok (.ishl, 1) := by decide +kernel
theorem dX1_begin_16 : decode cX1_begin 16 = .ok (.iastore, 1) := by decide +kernel
theorem dX1_begin_17 : decode cX1_begin 17 = .ok (.aload_n 0, 1) := by decide +kernel
theorem dX1_begin_18 : decode cX1_begin 18 = .ok (.getfield 15, 3) := by decide +kernel
theorem dX1_begin_21 : decode cX1_begin 21 = .ok (.iload_n 2, 1) := by decide +kernel
theorem dX1_begin_22 : decode cX1_begin 22 = .ok (.iconst 1, 1) := by decide +kernel
theorem dX1_begin_23 : decode cX1_begin 23 = .ok (.iload_n 2, 1) := by decide +kernel
theorem dX1_begin_24 : decode cX1_begin 24 = .ok (.ishl, 1) := by decide +kernel
theorem dX1_begin_25 : decode cX1_begin 25 = .ok (.iastore, 1) := by decide +kernel
theorem dX1_begin_26 : decode cX1_begin 26 = .ok (.iinc 2 1, 3) := by decide +kernel
theorem dX1_begin_29 : decode cX1_begin 29 = .ok (.goto (-27), 3) := by decide +kernel
theorem dX1_begin_32 : decode cX1_begin 32 = .ok (.iconst 0, 1) := by decide +kernel
theorem dX1_begin_33 : decode cX1_begin 33 = .ok (.istore_n 2, 1) := by decide +kernel
theorem dX1_begin_34 : decode cX1_begin 34 = .ok (.iload_n 2, 1) := by decide +kernel
theorem dX1_begin_35 : decode cX1_begin 35 = .ok (.aload_n 1, 1) := by decide +kernel
theorem dX1_begin_36 : decode cX1_begin 36 = .ok (.getfield 35, 3) := by decide +kernel
theorem dX1_begin_39 : decode cX1_begin 39 = .ok (.if_icmp .ge 53, 3) := by decide +kernel
theorem dX1_begin_42 : decode cX1_begin 42 = .ok (.aload_n 0, 1) := by decide +kernel
theorem dX1_begin_43 : decode cX1_begin 43 = .ok (.getfield 9, 3) := by decide +kernel
theorem dX1_begin_46 : decode cX1_begin 46 = .ok (.aload_n 1, 1) := by decide +kernel
theorem dX1_begin_47 : decode cX1_begin 47 = .ok (.getfield 38, 3) := by decide +kernel
theorem dX1_begin_50 : decode cX1_begin 50 = .ok (.iload_n 2, 1) := by decide +kernel
theorem dX1_begin_51 : decode cX1_begin 51 = .ok (.iaload, 1) := by decide +kernel
theorem dX1_begin_52 : decode cX1_begin 52 = .ok (.dup2, 1) := by decide +kernel
theorem dX1_begin_53 : decode cX1_begin 53 = .ok (.iaload, 1) := by decide +kernel
theorem dX1_begin_54 : decode cX1_begin 54 = .ok (.iconst 1, 1) := by decide +kernel
theorem dX1_begin_55 : decode cX1_begin 55 = .ok (.aload_n 1, 1) := by decide +kernel
theorem dX1_begin_56 : decode cX1_begin 56 = .ok (.getfield 41, 3) := by decide +kernel
theorem dX1_begin_59 : decode cX1_begin 59 = .ok (.iload_n 2, 1) := by decide +kernel
theorem dX1_begin_60 : decode cX1_begin 60 = .ok (.iaload, 1) := by decide +kernel
theorem dX1_begin_61 : decode cX1_begin 61 = .ok (.ishl, 1) := by decide +kernel
theorem dX1_begin_62 : decode cX1_begin 62 = .ok (.ior, 1) := by decide +kernel
theorem dX1_begin_63 : decode cX1_begin 63 = .ok (.iastore, 1) := by decide +kernel
theorem dX1_begin_64 : decode cX1_begin 64 = .ok (.aload_n 0, 1) := by decide +kernel
theorem dX1_begin_65 : decode cX1_begin 65 = .ok (.getfield 9, 3) := by decide +kernel
theorem dX1_begin_68 : decode cX1_begin 68 = .ok (.aload_n 1, 1) := by decide +kernel
theorem dX1_begin_69 : decode cX1_begin 69 = .ok (.getfield 41, 3) := by decide +kernel
theorem dX1_begin_72 : decode cX1_begin 72 = .ok (.iload_n 2, 1) := by decide +kernel
theorem dX1_begin_73 : decode cX1_begin 73 = .ok (.iaload, 1) := by decide +kernel
theorem dX1_begin_74 : decode cX1_begin 74 = .ok (.dup2, 1) := by decide +kernel
theorem dX1_begin_75 : decode cX1_begin 75 = .ok (.iaload, 1) := by decide +kernel
theorem dX1_begin_76 : decode cX1_begin 76 = .ok (.iconst 1, 1) := by decide +kernel
theorem dX1_begin_77 : decode cX1_begin 77 = .ok (.aload_n 1, 1) := by decide +kernel
theorem dX1_begin_78 : decode cX1_begin 78 = .ok (.getfield 38, 3) := by decide +kernel
theorem dX1_begin_81 : decode cX1_begin 81 = .ok (.iload_n 2, 1) := by decide +kernel
theorem dX1_begin_82 : decode cX1_begin 82 = .ok (.iaload, 1) := by decide +kernel
theorem dX1_begin_83 : decode cX1_begin 83 = .ok (.ishl, 1) := by decide +kernel
theorem dX1_begin_84 : decode cX1_begin 84 = .ok (.ior, 1) := by decide +kernel
theorem dX1_begin_85 : decode cX1_begin 85 = .ok (.iastore, 1) := by decide +kernel
theorem dX1_begin_86 : decode cX1_begin 86 = .ok (.iinc 2 1, 3) := by decide +kernel
theorem dX1_begin_89 : decode cX1_begin 89 = .ok (.goto (-55), 3) := by decide +kernel
theorem dX1_begin_92 : decode cX1_begin 92 = .ok (.return_, 1) := by decide +kernel
theorem gf_X1_9 {X : Cx} {cc : ByteArray} {nL pc fr lo : Nat} {L : List (Nat × Value)} {st : List Value} {S : St} (ok : Ok X cc nL RX1 fr lo) (d : decode cc pc = .ok (.getfield 9, 3)) (k : Wp X nL (pc + 3) L (.ref (xad X 60) :: st) S) : Wp X nL pc L (.ref (xad X 59) :: st) S :=
  r_get (C := RX1) (T := TX1) ok ob_59 rfl i_X1 0 (by decide) tw_fl_X1_9 d (by rw [show fvl (xad X) S 59 0 = .ref (xad X 60) from (fvl_ref (d := 60) (by decide))]; exact k)
theorem gf_X1_15 {X : Cx} {cc : ByteArray} {nL pc fr lo : Nat} {L : List (Nat × Value)} {st : List Value} {S : St} (ok : Ok X cc nL RX1 fr lo) (d : decode cc pc = .ok (.getfield 15, 3)) (k : Wp X nL (pc + 3) L (.ref (xad X 61) :: st) S) : Wp X nL pc L (.ref (xad X 59) :: st) S :=
  r_get (C := RX1) (T := TX1) ok ob_59 rfl i_X1 1 (by decide) tw_fl_X1_15 d (by rw [show fvl (xad X) S 59 1 = .ref (xad X 61) from (fvl_ref (d := 61) (by decide))]; exact k)
theorem gf_X1_35 {X : Cx} {cc : ByteArray} {nL pc fr lo : Nat} {L : List (Nat × Value)} {st : List Value} {S : St} (ok : Ok X cc nL RX1 fr lo) {o : Nat} (ho : isW o) (d : decode cc pc = .ok (.getfield 35, 3)) (k : Wp X nL (pc + 3) L (.int (S o 1) :: st) S) : Wp X nL pc L (.ref (xad X o) :: st) S :=
  r_get (C := RX6) (T := TX6) ok ho.ob rfl i_X6 1 (by decide) tw_fl_X1_35 d (by rw [show fvl (xad X) S o 1 = .int (S o 1) from (fvl_int (ho.ri 1 (by decide)))]; exact k)
theorem gf_X1_38 {X : Cx} {cc : ByteArray} {nL pc fr lo : Nat} {L : List (Nat × Value)} {st : List Value} {S : St} (ok : Ok X cc nL RX1 fr lo) {o : Nat} (ho : isW o) (d : decode cc pc = .ok (.getfield 38, 3)) (k : Wp X nL (pc + 3) L (.ref (xad X (o + 1)) :: st) S) : Wp X nL pc L (.ref (xad X o) :: st) S :=
  r_get (C := RX6) (T := TX6) ok ho.ob rfl i_X6 6 (by decide) tw_fl_X1_38 d (by rw [show fvl (xad X) S o 6 = .ref (xad X (o + 1)) from (fvl_ref (d := o + 1) (ho.rr 0 (by decide)))]; exact k)
theorem gf_X1_41 {X : Cx} {cc : ByteArray} {nL pc fr lo : Nat} {L : List (Nat × Value)} {st : List Value} {S : St} (ok : Ok X cc nL RX1 fr lo) {o : Nat} (ho : isW o) (d : decode cc pc = .ok (.getfield 41, 3)) (k : Wp X nL (pc + 3) L (.ref (xad X (o + 2)) :: st) S) : Wp X nL pc L (.ref (xad X o) :: st) S :=
  r_get (C := RX6) (T := TX6) ok ho.ob rfl i_X6 7 (by decide) tw_fl_X1_41 d (by rw [show fvl (xad X) S o 7 = .ref (xad X (o + 2)) from (fvl_ref (d := o + 2) (ho.rr 1 (by decide)))]; exact k)
def BD_X1_begin_34 (k34 : Int32 → St → Prop) (post : St → Prop) (x2 : Int32) (S : St) : Prop :=
  (((S 0 1) ≤ x2 → post S) ∧ (¬ (S 0 1) ≤ x2 → vp_in x2 9 ∧ (vp_in (S 1 (ix x2)) 6 ∧ (vp_in x2 9 ∧ (vp_in (S 1 (ix x2)) 6 ∧ (∀ S2 : St, S2 = up S 60 (ix (S 1 (ix x2))) ((S 60 (ix (S 1 (ix x2)))) ||| ((1 : Int32) <<< ((S 2 (ix x2)) &&& 31))) → vp_in x2 9 ∧ (vp_in (S2 2 (ix x2)) 6 ∧ (vp_in x2 9 ∧ (vp_in (S2 2 (ix x2)) 6 ∧ (∀ S4 : St, S4 = up S2 60 (ix (S2 2 (ix x2))) ((S2 60 (ix (S2 2 (ix x2)))) ||| ((1 : Int32) <<< ((S2 1 (ix x2)) &&& 31))) → k34 (x2 + 1) S4))))))))))
def L_X1_begin_34 (post : St → Prop) (n : Nat) : Int32 → St → Prop := Nat.rec (motive := fun _ => Int32 → St → Prop) (fun _ _ => False) (fun _ ih => BD_X1_begin_34 ih post) n
def B_X1_begin_34 (post : St → Prop) (x2 : Int32) (S : St) : Prop := ∃ n, L_X1_begin_34 post n x2 S
def BD_X1_begin_2 (k2 : Int32 → St → Prop) (post : St → Prop) (x2 : Int32) (S : St) : Prop :=
  ((6 ≤ x2 → B_X1_begin_34 post 0 S) ∧ (¬ 6 ≤ x2 → vp_in x2 6 ∧ (∀ S2 : St, S2 = up S 60 (ix x2) ((1 : Int32) <<< (x2 &&& 31)) → vp_in x2 6 ∧ (∀ S4 : St, S4 = up S2 61 (ix x2) ((1 : Int32) <<< (x2 &&& 31)) → k2 (x2 + 1) S4))))
def L_X1_begin_2 (post : St → Prop) (n : Nat) : Int32 → St → Prop := Nat.rec (motive := fun _ => Int32 → St → Prop) (fun _ _ => False) (fun _ ih => BD_X1_begin_2 ih post) n
def B_X1_begin_2 (post : St → Prop) (x2 : Int32) (S : St) : Prop := ∃ n, L_X1_begin_2 post n x2 S
def wp_X1_begin (S : St) (post : St → Prop) : Prop :=
  B_X1_begin_2 post 0 S
theorem w_B_X1_begin_34 {X : Cx} (ok : Ok X cX1_begin 3 RX1 0 0) {post : St → Prop} (hret : RetV X cX1_begin 3 post) {x2 : Int32} {S : St} (h : B_X1_begin_34 post x2 S) : Wp X 3 34 [(0, .ref (xad X 59)), (1, .ref (xad X 0)), (2, .int x2)] [] S := by
  obtain ⟨n, h⟩ := h
  induction n generalizing x2 S with
  | zero => exact False.elim h
  | succ n ih =>
    have hk34 : ∀ x2 S, L_X1_begin_34 post n x2 S → Wp X 3 34 [(0, .ref (xad X 59)), (1, .ref (xad X 0)), (2, .int x2)] [] S := by intros; apply ih; assumption
    replace h : BD_X1_begin_34 (L_X1_begin_34 post n) post x2 S := h
    unfold BD_X1_begin_34 at h
    generalize L_X1_begin_34 post n = k34 at h hk34
    refine r_iload_n ok dX1_begin_34 2 rfl ?_
    refine r_aload_n ok dX1_begin_35 1 rfl ?_
    refine gf_X1_35 ok isW_0 dX1_begin_36 ?_
    refine r_icmp_ge (tgt := 92) ok dX1_begin_39 rfl (fun hc1 => ?_) (fun hc1 => ?_)
    · replace h := h.1 hc1
      exact hret _ _ _ dX1_begin_92 h
    · replace h := h.2 hc1
      refine r_aload_n ok dX1_begin_42 0 rfl ?_
      refine gf_X1_9 ok dX1_begin_43 ?_
      refine r_aload_n ok dX1_begin_46 1 rfl ?_
      refine gf_X1_38 ok isW_0 dX1_begin_47 ?_
      refine r_iload_n ok dX1_begin_50 2 rfl ?_
      refine r_iald ok ai_1 h.1 rfl dX1_begin_51 ?_
      replace h := h.2
      refine r_dup2 ok dX1_begin_52 rfl rfl ?_
      refine r_iald ok ai_60 h.1 rfl dX1_begin_53 ?_
      replace h := h.2
      refine r_iconst (v := 1) ok dX1_begin_54 rfl ?_
      refine r_aload_n ok dX1_begin_55 1 rfl ?_
      refine gf_X1_41 ok isW_0 dX1_begin_56 ?_
      refine r_iload_n ok dX1_begin_59 2 rfl ?_
      refine r_iald ok ai_2 h.1 rfl dX1_begin_60 ?_
      replace h := h.2
      refine r_ishl ok dX1_begin_61 ?_
      refine r_ior ok dX1_begin_62 ?_
      have hi3 := h.1
      replace h := h.2
      refine r_iast ok ai_60 hi3 rfl dX1_begin_63 (fun S2 eS2 => ?_)
      replace h := h S2 eS2
      refine r_aload_n ok dX1_begin_64 0 rfl ?_
      refine gf_X1_9 ok dX1_begin_65 ?_
      refine r_aload_n ok dX1_begin_68 1 rfl ?_
      refine gf_X1_41 ok isW_0 dX1_begin_69 ?_
      refine r_iload_n ok dX1_begin_72 2 rfl ?_
      refine r_iald ok ai_2 h.1 rfl dX1_begin_73 ?_
      replace h := h.2
      refine r_dup2 ok dX1_begin_74 rfl rfl ?_
      refine r_iald ok ai_60 h.1 rfl dX1_begin_75 ?_
      replace h := h.2
      refine r_iconst (v := 1) ok dX1_begin_76 rfl ?_
      refine r_aload_n ok dX1_begin_77 1 rfl ?_
      refine gf_X1_38 ok isW_0 dX1_begin_78 ?_
      refine r_iload_n ok dX1_begin_81 2 rfl ?_
      refine r_iald ok ai_1 h.1 rfl dX1_begin_82 ?_
      replace h := h.2
      refine r_ishl ok dX1_begin_83 ?_
      refine r_ior ok dX1_begin_84 ?_
      have hi5 := h.1
      replace h := h.2
      refine r_iast ok ai_60 hi5 rfl dX1_begin_85 (fun S4 eS4 => ?_)
      replace h := h S4 eS4
      refine r_iinc (v := x2 + 1) ok dX1_begin_86 2 rfl rfl (by decide) [(0, .ref (xad X 59)), (1, .ref (xad X 0)), (2, .int (x2 + 1))] [1, 2, 0] rfl ?_
      refine r_goto (tgt := 34) ok dX1_begin_89 rfl ?_
      exact hk34 _ _ h
theorem w_B_X1_begin_2 {X : Cx} (ok : Ok X cX1_begin 3 RX1 0 0) {post : St → Prop} (hret : RetV X cX1_begin 3 post) {x2 : Int32} {S : St} (h : B_X1_begin_2 post x2 S) : Wp X 3 2 [(0, .ref (xad X 59)), (1, .ref (xad X 0)), (2, .int x2)] [] S := by
  obtain ⟨n, h⟩ := h
  induction n generalizing x2 S with
  | zero => exact False.elim h
  | succ n ih =>
    have hk2 : ∀ x2 S, L_X1_begin_2 post n x2 S → Wp X 3 2 [(0, .ref (xad X 59)), (1, .ref (xad X 0)), (2, .int x2)] [] S := by intros; apply ih; assumption
    replace h : BD_X1_begin_2 (L_X1_begin_2 post n) post x2 S := h
    unfold BD_X1_begin_2 at h
    generalize L_X1_begin_2 post n = k2 at h hk2
    refine r_iload_n ok dX1_begin_2 2 rfl ?_
    refine r_bipush (v := 6) ok dX1_begin_3 rfl ?_
    refine r_icmp_ge (tgt := 32) ok dX1_begin_5 rfl (fun hc1 => ?_) (fun hc1 => ?_)
    · replace h := h.1 hc1
      refine r_iconst (v := 0) ok dX1_begin_32 rfl ?_
      refine r_istore_n ok dX1_begin_33 (by decide) [(0, .ref (xad X 59)), (1, .ref (xad X 0)), (2, .int 0)] [1, 2, 0] rfl ?_
      exact w_B_X1_begin_34 ok hret h
    · replace h := h.2 hc1
      refine r_aload_n ok dX1_begin_8 0 rfl ?_
      refine gf_X1_9 ok dX1_begin_9 ?_
      refine r_iload_n ok dX1_begin_12 2 rfl ?_
      refine r_iconst (v := 1) ok dX1_begin_13 rfl ?_
      refine r_iload_n ok dX1_begin_14 2 rfl ?_
      refine r_ishl ok dX1_begin_15 ?_
      have hi3 := h.1
      replace h := h.2
      refine r_iast ok ai_60 hi3 rfl dX1_begin_16 (fun S2 eS2 => ?_)
      replace h := h S2 eS2
      refine r_aload_n ok dX1_begin_17 0 rfl ?_
      refine gf_X1_15 ok dX1_begin_18 ?_
      refine r_iload_n ok dX1_begin_21 2 rfl ?_
      refine r_iconst (v := 1) ok dX1_begin_22 rfl ?_
      refine r_iload_n ok dX1_begin_23 2 rfl ?_
      refine r_ishl ok dX1_begin_24 ?_
      have hi5 := h.1
      replace h := h.2
      refine r_iast ok ai_61 hi5 rfl dX1_begin_25 (fun S4 eS4 => ?_)
      replace h := h S4 eS4
      refine r_iinc (v := x2 + 1) ok dX1_begin_26 2 rfl rfl (by decide) [(0, .ref (xad X 59)), (1, .ref (xad X 0)), (2, .int (x2 + 1))] [1, 2, 0] rfl ?_
      refine r_goto (tgt := 2) ok dX1_begin_29 rfl ?_
      exact hk2 _ _ h
theorem w_wp_X1_begin {X : Cx} (ok : Ok X cX1_begin 3 RX1 0 0) {post : St → Prop} (hret : RetV X cX1_begin 3 post) {S : St} (h : wp_X1_begin S post) : Wp X 3 0 [(0, .ref (xad X 59)), (1, .ref (xad X 0))] [] S := by
  unfold wp_X1_begin at h
  refine r_iconst (v := 0) ok dX1_begin_0 rfl ?_
  refine r_istore_n ok dX1_begin_1 (by decide) [(0, .ref (xad X 59)), (1, .ref (xad X 0)), (2, .int 0)] [1, 2, 0] rfl ?_
  exact w_B_X1_begin_2 ok hret h
theorem c_X1_begin (l : Launch) (G : Gx) {S : St} {post : St → Prop} (h : wp_X1_begin S post) : MtV l yX1_begin cX1_begin 3 0 0 G [.ref (G.2.2 59), .ref (G.2.2 0)] S post :=
  ctV (by decide) rfl (Nat.le_of_ble_eq_true rfl) (fun X _ hG ok hret => by subst hG; exact w_wp_X1_begin ok hret h)

/-! HasteRoads$Chase.lookOn(I)V -/
theorem dX1_lookOn_0 : decode cX1_lookOn 0 = .ok (.iconst 0, 1) := by decide +kernel
theorem dX1_lookOn_1 : decode cX1_lookOn 1 = .ok (.istore_n 2, 1) := by decide +kernel
theorem dX1_lookOn_2 : decode cX1_lookOn 2 = .ok (.iload_n 2, 1) := by decide +kernel
theorem dX1_lookOn_3 : decode cX1_lookOn 3 = .ok (.iload_n 1, 1) := by decide +kernel
theorem dX1_lookOn_4 : decode cX1_lookOn 4 = .ok (.if_icmp .ge 57, 3) := by decide +kernel
theorem dX1_lookOn_7 : decode cX1_lookOn 7 = .ok (.aload_n 0, 1) := by decide +kernel
theorem dX1_lookOn_8 : decode cX1_lookOn 8 = .ok (.getfield 18, 3) := by decide +kernel
theorem dX1_lookOn_11 : decode cX1_lookOn 11 = .ok (.iload_n 2, 1) := by decide +kernel
theorem dX1_lookOn_12 : decode cX1_lookOn 12 = .ok (.iconst 0, 1) := by decide +kernel
theorem dX1_lookOn_13 : decode cX1_lookOn 13 = .ok (.iastore, 1) := by decide +kernel
theorem dX1_lookOn_14 : decode cX1_lookOn 14 = .ok (.iconst 0, 1) := by decide +kernel
theorem dX1_lookOn_15 : decode cX1_lookOn 15 = .ok (.istore_n 3, 1) := by decide +kernel
theorem dX1_lookOn_16 : decode cX1_lookOn 16 = .ok (.iload_n 3, 1) := by decide +kernel
theorem dX1_lookOn_17 : decode cX1_lookOn 17 = .ok (.iload_n 1, 1) := by decide +kernel
theorem dX1_lookOn_18 : decode cX1_lookOn 18 = .ok (.if_icmp .ge 37, 3) := by decide +kernel
theorem dX1_lookOn_21 : decode cX1_lookOn 21 = .ok (.aload_n 0, 1) := by decide +kernel
theorem dX1_lookOn_22 : decode cX1_lookOn 22 = .ok (.getfield 9, 3) := by decide +kernel
theorem dX1_lookOn_25 : decode cX1_lookOn 25 = .ok (.iload_n 3, 1) := by decide +kernel
theorem dX1_lookOn_26 : decode cX1_lookOn 26 = .ok (.iaload, 1) := by decide +kernel
theorem dX1_lookOn_27 : decode cX1_lookOn 27 = .ok (.aload_n 0, 1) := by decide +kernel
theorem dX1_lookOn_28 : decode cX1_lookOn 28 = .ok (.getfield 15, 3) := by decide +kernel
theorem dX1_lookOn_31 : decode cX1_lookOn 31 = .ok (.iload_n 2, 1) := by decide +kernel
theorem dX1_lookOn_32 : decode cX1_lookOn 32 = .ok (.iaload, 1) := by decide +kernel
theorem dX1_lookOn_33 : decode cX1_lookOn 33 = .ok (.iand, 1) := by decide +kernel
theorem dX1_lookOn_34 : decode cX1_lookOn 34 = .ok (.ifCond .eq 15, 3) := by decide +kernel
theorem dX1_lookOn_37 : decode cX1_lookOn 37 = .ok (.aload_n 0, 1) := by decide +kernel
theorem dX1_lookOn_38 : decode cX1_lookOn 38 = .ok (.getfield 18, 3) := by decide +kernel
theorem dX1_lookOn_41 : decode cX1_lookOn 41 = .ok (.iload_n 2, 1) := by decide +kernel
theorem dX1_lookOn_42 : decode cX1_lookOn 42 = .ok (.dup2, 1) := by decide +kernel
theorem dX1_lookOn_43 : decode cX1_lookOn 43 = .ok (.iaload, 1) := by decide +kernel
theorem dX1_lookOn_44 : decode cX1_lookOn 44 = .ok (.iconst 1, 1) := by decide +kernel
theorem dX1_lookOn_45 : decode cX1_lookOn 45 = .ok (.iload_n 3, 1) := by decide +kernel
theorem dX1_lookOn_46 : decode cX1_lookOn 46 = .ok (.ishl, 1) := by decide +kernel
theorem dX1_lookOn_47 : decode cX1_lookOn 47 = .ok (.ior, 1) := by decide +kernel
theorem dX1_lookOn_48 : decode cX1_lookOn 48 = .ok (.iastore, 1) := by decide +kernel
theorem dX1_lookOn_49 : decode cX1_lookOn 49 = .ok (.iinc 3 1, 3) := by decide +kernel
theorem dX1_lookOn_52 : decode cX1_lookOn 52 = .ok (.goto (-36), 3) := by decide +kernel
theorem dX1_lookOn_55 : decode cX1_lookOn 55 = .ok (.iinc 2 1, 3) := by decide +kernel
theorem dX1_lookOn_58 : decode cX1_lookOn 58 = .ok (.goto (-56), 3) := by decide +kernel
theorem dX1_lookOn_61 : decode cX1_lookOn 61 = .ok (.iconst 0, 1) := by decide +kernel
theorem dX1_lookOn_62 : decode cX1_lookOn 62 = .ok (.istore_n 2, 1) := by decide +kernel
theorem dX1_lookOn_63 : decode cX1_lookOn 63 = .ok (.iload_n 2, 1) := by decide +kernel
theorem dX1_lookOn_64 : decode cX1_lookOn 64 = .ok (.iload_n 1, 1) := by decide +kernel
theorem dX1_lookOn_65 : decode cX1_lookOn 65 = .ok (.if_icmp .ge 65, 3) := by decide +kernel
theorem dX1_lookOn_68 : decode cX1_lookOn 68 = .ok (.iconst 1, 1) := by decide +kernel
theorem dX1_lookOn_69 : decode cX1_lookOn 69 = .ok (.iload_n 1, 1) := by decide +kernel
theorem dX1_lookOn_70 : decode cX1_lookOn 70 = .ok (.ishl, 1) := by decide +kernel
theorem dX1_lookOn_71 : decode cX1_lookOn 71 = .ok (.iconst 1, 1) := by decide +kernel
theorem dX1_lookOn_72 : decode cX1_lookOn 72 = .ok (.isub, 1) := by decide +kernel
theorem dX1_lookOn_73 : decode cX1_lookOn 73 = .ok (.istore_n 3, 1) := by decide +kernel
theorem dX1_lookOn_74 : decode cX1_lookOn 74 = .ok (.iconst 0, 1) := by decide +kernel
theorem dX1_lookOn_75 : decode cX1_lookOn 75 = .ok (.istore 4, 2) := by decide +kernel
theorem dX1_lookOn_77 : decode cX1_lookOn 77 = .ok (.iload 4, 2) := by decide +kernel
theorem dX1_lookOn_79 : decode cX1_lookOn 79 = .ok (.iload_n 1, 1) := by decide +kernel
theorem dX1_lookOn_80 : decode cX1_lookOn 80 = .ok (.if_icmp .ge 34, 3) := by decide +kernel
theorem dX1_lookOn_83 : decode cX1_lookOn 83 = .ok (.aload_n 0, 1) := by decide +kernel
theorem dX1_lookOn_84 : decode cX1_lookOn 84 = .ok (.getfield 9, 3) := by decide +kernel
theorem dX1_lookOn_87 : decode cX1_lookOn 87 = .ok (.iload_n 2, 1) := by decide +kernel
theorem dX1_lookOn_88 : decode cX1_lookOn 88 = .ok (.iaload, 1) := by decide +kernel
theorem dX1_lookOn_89 : decode cX1_lookOn 89 = .ok (.iload 4, 2) := by decide +kernel
theorem dX1_lookOn_91 : decode cX1_lookOn 91 = .ok (.ishr, 1) := by decide +kernel
theorem dX1_lookOn_92 : decode cX1_lookOn 92 = .ok (.iconst 1, 1) := by decide +kernel
theorem dX1_lookOn_93 : decode cX1_lookOn 93 = .ok (.iand, 1) := by decide +kernel
theorem dX1_lookOn_94 : decode cX1_lookOn 94 = .ok (.iconst 1, 1) := by decide +kernel
theorem dX1_lookOn_95 : decode cX1_lookOn 95 = .ok (.if_icmp .ne 13, 3) := by decide +kernel
theorem dX1_lookOn_98 : decode cX1_lookOn 98 = .ok (.iload_n 3, 1) := by decide +kernel
theorem dX1_lookOn_99 : decode cX1_lookOn 99 = .ok (.aload_n 0, 1) := by decide +kernel
theorem dX1_lookOn_100 : decode cX1_lookOn 100 = .ok (.getfield 18, 3) := by decide +kernel
theorem dX1_lookOn_103 : decode cX1_lookOn 103 = .ok (.iload 4, 2) := by decide +kernel
theorem dX1_lookOn_105 : decode cX1_lookOn 105 = .ok (.iaload, 1) := by decide +kernel
theorem dX1_lookOn_106 : decode cX1_lookOn 106 = .ok (.iand, 1) := by decide +kernel
theorem dX1_lookOn_107 : decode cX1_lookOn 107 = .ok (.istore_n 3, 1) := by decide +kernel
theorem dX1_lookOn_108 : decode cX1_lookOn 108 = .ok (.iinc 4 1, 3) := by decide +kernel
theorem dX1_lookOn_111 : decode cX1_lookOn 111 = .ok (.goto (-34), 3) := by decide +kernel
theorem dX1_lookOn_114 : decode cX1_lookOn 114 = .ok (.aload_n 0, 1) := by decide +kernel
theorem dX1_lookOn_115 : decode cX1_lookOn 115 = .ok (.getfield 15, 3) := by decide +kernel
theorem dX1_lookOn_118 : decode cX1_lookOn 118 = .ok (.iload_n 2, 1) := by decide +kernel
theorem dX1_lookOn_119 : decode cX1_lookOn 119 = .ok (.dup2, 1) := by decide +kernel
theorem dX1_lookOn_120 : decode cX1_lookOn 120 = .ok (.iaload, 1) := by decide +kernel
theorem dX1_lookOn_121 : decode cX1_lookOn 121 = .ok (.iload_n 3, 1) := by decide +kernel
theorem dX1_lookOn_122 : decode cX1_lookOn 122 = .ok (.ior, 1) := by decide +kernel
theorem dX1_lookOn_123 : decode cX1_lookOn 123 = .ok (.iastore, 1) := by decide +kernel
theorem dX1_lookOn_124 : decode cX1_lookOn 124 = .ok (.iinc 2 1, 3) := by decide +kernel
theorem dX1_lookOn_127 : decode cX1_lookOn 127 = .ok (.goto (-64), 3) := by decide +kernel
theorem dX1_lookOn_130 : decode cX1_lookOn 130 = .ok (.return_, 1) := by decide +kernel
theorem gf_X1_18 {X : Cx} {cc : ByteArray} {nL pc fr lo : Nat} {L : List (Nat × Value)} {st : List Value} {S : St} (ok : Ok X cc nL RX1 fr lo) (d : decode cc pc = .ok (.getfield 18, 3)) (k : Wp X nL (pc + 3) L (.ref (xad X 62) :: st) S) : Wp X nL pc L (.ref (xad X 59) :: st) S :=
  r_get (C := RX1) (T := TX1) ok ob_59 rfl i_X1 2 (by decide) tw_fl_X1_18 d (by rw [show fvl (xad X) S 59 2 = .ref (xad X 62) from (fvl_ref (d := 62) (by decide))]; exact k)
def B_X1_lookOn_114 (k63 : Int32 → Int32 → St → Prop) (post : St → Prop) (x1 : Int32) (x2 : Int32) (x3 : Int32) (S : St) : Prop :=
  vp_in x2 6 ∧ (vp_in x2 6 ∧ (∀ S1 : St, S1 = up S 61 (ix x2) ((S 61 (ix x2)) ||| x3) → k63 x1 (x2 + 1) S1))
def BD_X1_lookOn_77 (k63 : Int32 → Int32 → St → Prop) (k77 : Int32 → Int32 → Int32 → Int32 → St → Prop) (post : St → Prop) (x1 : Int32) (x2 : Int32) (x3 : Int32) (x4 : Int32) (S : St) : Prop :=
  ((x1 ≤ x4 → B_X1_lookOn_114 k63 post x1 x2 x3 S) ∧ (¬ x1 ≤ x4 → vp_in x2 6 ∧ (((¬ (((S 60 (ix x2)) >>> (x4 &&& 31)) &&& 1) = 1 → k77 x1 x2 x3 (x4 + 1) S) ∧ ((((S 60 (ix x2)) >>> (x4 &&& 31)) &&& 1) = 1 → vp_in x4 6 ∧ (∀ v3 : Int32, v3 = (x3 &&& (S 62 (ix x4))) → k77 x1 x2 v3 (x4 + 1) S))))))
def L_X1_lookOn_77 (k63 : Int32 → Int32 → St → Prop) (post : St → Prop) (n : Nat) : Int32 → Int32 → Int32 → Int32 → St → Prop := Nat.rec (motive := fun _ => Int32 → Int32 → Int32 → Int32 → St → Prop) (fun _ _ _ _ _ => False) (fun _ ih => BD_X1_lookOn_77 k63 ih post) n
def B_X1_lookOn_77 (k63 : Int32 → Int32 → St → Prop) (post : St → Prop) (x1 : Int32) (x2 : Int32) (x3 : Int32) (x4 : Int32) (S : St) : Prop := ∃ n, L_X1_lookOn_77 k63 post n x1 x2 x3 x4 S
def BD_X1_lookOn_63 (k63 : Int32 → Int32 → St → Prop) (post : St → Prop) (x1 : Int32) (x2 : Int32) (S : St) : Prop :=
  ((x1 ≤ x2 → post S) ∧ (¬ x1 ≤ x2 → ∀ v2 : Int32, v2 = (((1 : Int32) <<< (x1 &&& 31)) - 1) → B_X1_lookOn_77 k63 post x1 x2 v2 0 S))
def L_X1_lookOn_63 (post : St → Prop) (n : Nat) : Int32 → Int32 → St → Prop := Nat.rec (motive := fun _ => Int32 → Int32 → St → Prop) (fun _ _ _ => False) (fun _ ih => BD_X1_lookOn_63 ih post) n
def B_X1_lookOn_63 (post : St → Prop) (x1 : Int32) (x2 : Int32) (S : St) : Prop := ∃ n, L_X1_lookOn_63 post n x1 x2 S
def BD_X1_lookOn_16 (k2 : Int32 → Int32 → St → Prop) (k16 : Int32 → Int32 → Int32 → St → Prop) (post : St → Prop) (x1 : Int32) (x2 : Int32) (x3 : Int32) (S : St) : Prop :=
  ((x1 ≤ x3 → k2 x1 (x2 + 1) S) ∧ (¬ x1 ≤ x3 → vp_in x3 6 ∧ (vp_in x2 6 ∧ (((((S 60 (ix x3)) &&& (S 61 (ix x2))) = 0 → k16 x1 x2 (x3 + 1) S) ∧ (¬ ((S 60 (ix x3)) &&& (S 61 (ix x2))) = 0 → vp_in x2 6 ∧ (vp_in x2 6 ∧ (∀ S3 : St, S3 = up S 62 (ix x2) ((S 62 (ix x2)) ||| ((1 : Int32) <<< (x3 &&& 31))) → k16 x1 x2 (x3 + 1) S3))))))))
def L_X1_lookOn_16 (k2 : Int32 → Int32 → St → Prop) (post : St → Prop) (n : Nat) : Int32 → Int32 → Int32 → St → Prop := Nat.rec (motive := fun _ => Int32 → Int32 → Int32 → St → Prop) (fun _ _ _ _ => False) (fun _ ih => BD_X1_lookOn_16 k2 ih post) n
def B_X1_lookOn_16 (k2 : Int32 → Int32 → St → Prop) (post : St → Prop) (x1 : Int32) (x2 : Int32) (x3 : Int32) (S : St) : Prop := ∃ n, L_X1_lookOn_16 k2 post n x1 x2 x3 S
def BD_X1_lookOn_2 (k2 : Int32 → Int32 → St → Prop) (post : St → Prop) (x1 : Int32) (x2 : Int32) (S : St) : Prop :=
  ((x1 ≤ x2 → B_X1_lookOn_63 post x1 0 S) ∧ (¬ x1 ≤ x2 → vp_in x2 6 ∧ (∀ S2 : St, S2 = up S 62 (ix x2) 0 → B_X1_lookOn_16 k2 post x1 x2 0 S2)))
def L_X1_lookOn_2 (post : St → Prop) (n : Nat) : Int32 → Int32 → St → Prop := Nat.rec (motive := fun _ => Int32 → Int32 → St → Prop) (fun _ _ _ => False) (fun _ ih => BD_X1_lookOn_2 ih post) n
def B_X1_lookOn_2 (post : St → Prop) (x1 : Int32) (x2 : Int32) (S : St) : Prop := ∃ n, L_X1_lookOn_2 post n x1 x2 S
def wp_X1_lookOn (x1 : Int32) (S : St) (post : St → Prop) : Prop :=
  B_X1_lookOn_2 post x1 0 S
theorem w_B_X1_lookOn_114 {X : Cx} (ok : Ok X cX1_lookOn 5 RX1 0 0) {post : St → Prop} (hret : RetV X cX1_lookOn 5 post) {k63 : Int32 → Int32 → St → Prop} (hk63 : ∀ x1 x2 S, k63 x1 x2 S → Wp X 5 63 [(0, .ref (xad X 59)), (1, .int x1), (2, .int x2)] [] S) {x1 x2 x3 : Int32} {S : St} (h : B_X1_lookOn_114 k63 post x1 x2 x3 S) : Wp X 5 114 [(0, .ref (xad X 59)), (1, .int x1), (2, .int x2), (3, .int x3)] [] S := by
  unfold B_X1_lookOn_114 at h
  refine r_aload_n ok dX1_lookOn_114 0 rfl ?_
  refine gf_X1_15 ok dX1_lookOn_115 ?_
  refine r_iload_n ok dX1_lookOn_118 2 rfl ?_
  refine r_dup2 ok dX1_lookOn_119 rfl rfl ?_
  refine r_iald ok ai_61 h.1 rfl dX1_lookOn_120 ?_
  replace h := h.2
  refine r_iload_n ok dX1_lookOn_121 3 rfl ?_
  refine r_ior ok dX1_lookOn_122 ?_
  have hi2 := h.1
  replace h := h.2
  refine r_iast ok ai_61 hi2 rfl dX1_lookOn_123 (fun S1 eS1 => ?_)
  replace h := h S1 eS1
  refine r_iinc (v := x2 + 1) ok dX1_lookOn_124 2 rfl rfl (by decide) [(0, .ref (xad X 59)), (1, .int x1), (2, .int (x2 + 1))] [1, 2, 0] rfl ?_
  refine r_goto (tgt := 63) ok dX1_lookOn_127 rfl ?_
  exact hk63 _ _ _ h
theorem w_B_X1_lookOn_77 {X : Cx} (ok : Ok X cX1_lookOn 5 RX1 0 0) {post : St → Prop} (hret : RetV X cX1_lookOn 5 post) {k63 : Int32 → Int32 → St → Prop} (hk63 : ∀ x1 x2 S, k63 x1 x2 S → Wp X 5 63 [(0, .ref (xad X 59)), (1, .int x1), (2, .int x2)] [] S) {x1 x2 x3 x4 : Int32} {S : St} (h : B_X1_lookOn_77 k63 post x1 x2 x3 x4 S) : Wp X 5 77 [(0, .ref (xad X 59)), (1, .int x1), (2, .int x2), (3, .int x3), (4, .int x4)] [] S := by
  obtain ⟨n, h⟩ := h
  induction n generalizing x1 x2 x3 x4 S with
  | zero => exact False.elim h
  | succ n ih =>
    have hk77 : ∀ x1 x2 x3 x4 S, L_X1_lookOn_77 k63 post n x1 x2 x3 x4 S → Wp X 5 77 [(0, .ref (xad X 59)), (1, .int x1), (2, .int x2), (3, .int x3), (4, .int x4)] [] S := by intros; apply ih; assumption
    replace h : BD_X1_lookOn_77 k63 (L_X1_lookOn_77 k63 post n) post x1 x2 x3 x4 S := h
    unfold BD_X1_lookOn_77 at h
    generalize L_X1_lookOn_77 k63 post n = k77 at h hk77
    refine r_iload ok dX1_lookOn_77 4 rfl ?_
    refine r_iload_n ok dX1_lookOn_79 1 rfl ?_
    refine r_icmp_ge (tgt := 114) ok dX1_lookOn_80 rfl (fun hc1 => ?_) (fun hc1 => ?_)
    · replace h := h.1 hc1
      refine r_sub [(0, .ref (xad X 59)), (1, .int x1), (2, .int x2), (3, .int x3)] [0, 1, 2, 3] rfl ?_
      exact w_B_X1_lookOn_114 ok hret hk63 h
    · replace h := h.2 hc1
      refine r_aload_n ok dX1_lookOn_83 0 rfl ?_
      refine gf_X1_9 ok dX1_lookOn_84 ?_
      refine r_iload_n ok dX1_lookOn_87 2 rfl ?_
      refine r_iald ok ai_60 h.1 rfl dX1_lookOn_88 ?_
      replace h := h.2
      refine r_iload ok dX1_lookOn_89 4 rfl ?_
      refine r_ishr ok dX1_lookOn_91 ?_
      refine r_iconst (v := 1) ok dX1_lookOn_92 rfl ?_
      refine r_iand ok dX1_lookOn_93 ?_
      refine r_iconst (v := 1) ok dX1_lookOn_94 rfl ?_
      refine r_icmp_ne (tgt := 108) ok dX1_lookOn_95 rfl (fun hc2 => ?_) (fun hc2 => ?_)
      · replace h := h.1 hc2
        refine r_iinc (v := x4 + 1) ok dX1_lookOn_108 4 rfl rfl (by decide) [(0, .ref (xad X 59)), (1, .int x1), (2, .int x2), (3, .int x3), (4, .int (x4 + 1))] [1, 2, 3, 4, 0] rfl ?_
        refine r_goto (tgt := 77) ok dX1_lookOn_111 rfl ?_
        exact hk77 _ _ _ _ _ h
      · replace h := h.2 hc2
        refine r_iload_n ok dX1_lookOn_98 3 rfl ?_
        refine r_aload_n ok dX1_lookOn_99 0 rfl ?_
        refine gf_X1_18 ok dX1_lookOn_100 ?_
        refine r_iload ok dX1_lookOn_103 4 rfl ?_
        refine r_iald ok ai_62 h.1 rfl dX1_lookOn_105 ?_
        replace h := h.2
        refine r_iand ok dX1_lookOn_106 ?_
        refine r_top (fun v3 ev3 => ?_)
        replace h := h v3 ev3
        refine r_istore_n ok dX1_lookOn_107 (by decide) [(0, .ref (xad X 59)), (1, .int x1), (2, .int x2), (3, .int v3), (4, .int x4)] [1, 2, 3, 0, 4] rfl ?_
        refine r_iinc (v := x4 + 1) ok dX1_lookOn_108 4 rfl rfl (by decide) [(0, .ref (xad X 59)), (1, .int x1), (2, .int x2), (3, .int v3), (4, .int (x4 + 1))] [1, 2, 3, 4, 0] rfl ?_
        refine r_goto (tgt := 77) ok dX1_lookOn_111 rfl ?_
        exact hk77 _ _ _ _ _ h
theorem w_B_X1_lookOn_63 {X : Cx} (ok : Ok X cX1_lookOn 5 RX1 0 0) {post : St → Prop} (hret : RetV X cX1_lookOn 5 post) {x1 x2 : Int32} {S : St} (h : B_X1_lookOn_63 post x1 x2 S) : Wp X 5 63 [(0, .ref (xad X 59)), (1, .int x1), (2, .int x2)] [] S := by
  obtain ⟨n, h⟩ := h
  induction n generalizing x1 x2 S with
  | zero => exact False.elim h
  | succ n ih =>
    have hk63 : ∀ x1 x2 S, L_X1_lookOn_63 post n x1 x2 S → Wp X 5 63 [(0, .ref (xad X 59)), (1, .int x1), (2, .int x2)] [] S := by intros; apply ih; assumption
    replace h : BD_X1_lookOn_63 (L_X1_lookOn_63 post n) post x1 x2 S := h
    unfold BD_X1_lookOn_63 at h
    generalize L_X1_lookOn_63 post n = k63 at h hk63
    refine r_iload_n ok dX1_lookOn_63 2 rfl ?_
    refine r_iload_n ok dX1_lookOn_64 1 rfl ?_
    refine r_icmp_ge (tgt := 130) ok dX1_lookOn_65 rfl (fun hc1 => ?_) (fun hc1 => ?_)
    · replace h := h.1 hc1
      exact hret _ _ _ dX1_lookOn_130 h
    · replace h := h.2 hc1
      refine r_iconst (v := 1) ok dX1_lookOn_68 rfl ?_
      refine r_iload_n ok dX1_lookOn_69 1 rfl ?_
      refine r_ishl ok dX1_lookOn_70 ?_
      refine r_iconst (v := 1) ok dX1_lookOn_71 rfl ?_
      refine r_isub ok dX1_lookOn_72 ?_
      refine r_top (fun v2 ev2 => ?_)
      replace h := h v2 ev2
      refine r_istore_n ok dX1_lookOn_73 (by decide) [(0, .ref (xad X 59)), (1, .int x1), (2, .int x2), (3, .int v2)] [1, 2, 3, 0] rfl ?_
      refine r_iconst (v := 0) ok dX1_lookOn_74 rfl ?_
      refine r_istore ok dX1_lookOn_75 (by decide) [(0, .ref (xad X 59)), (1, .int x1), (2, .int x2), (3, .int v2), (4, .int 0)] [1, 2, 3, 4, 0] rfl ?_
      exact w_B_X1_lookOn_77 ok hret hk63 h
theorem w_B_X1_lookOn_16 {X : Cx} (ok : Ok X cX1_lookOn 5 RX1 0 0) {post : St → Prop} (hret : RetV X cX1_lookOn 5 post) {k2 : Int32 → Int32 → St → Prop} (hk2 : ∀ x1 x2 S, k2 x1 x2 S → Wp X 5 2 [(0, .ref (xad X 59)), (1, .int x1), (2, .int x2)] [] S) {x1 x2 x3 : Int32} {S : St} (h : B_X1_lookOn_16 k2 post x1 x2 x3 S) : Wp X 5 16 [(0, .ref (xad X 59)), (1, .int x1), (2, .int x2), (3, .int x3)] [] S := by
  obtain ⟨n, h⟩ := h
  induction n generalizing x1 x2 x3 S with
  | zero => exact False.elim h
  | succ n ih =>
    have hk16 : ∀ x1 x2 x3 S, L_X1_lookOn_16 k2 post n x1 x2 x3 S → Wp X 5 16 [(0, .ref (xad X 59)), (1, .int x1), (2, .int x2), (3, .int x3)] [] S := by intros; apply ih; assumption
    replace h : BD_X1_lookOn_16 k2 (L_X1_lookOn_16 k2 post n) post x1 x2 x3 S := h
    unfold BD_X1_lookOn_16 at h
    generalize L_X1_lookOn_16 k2 post n = k16 at h hk16
    refine r_iload_n ok dX1_lookOn_16 3 rfl ?_
    refine r_iload_n ok dX1_lookOn_17 1 rfl ?_
    refine r_icmp_ge (tgt := 55) ok dX1_lookOn_18 rfl (fun hc1 => ?_) (fun hc1 => ?_)
    · replace h := h.1 hc1
      refine r_iinc (v := x2 + 1) ok dX1_lookOn_55 2 rfl rfl (by decide) [(0, .ref (xad X 59)), (1, .int x1), (2, .int (x2 + 1))] [1, 2, 0] rfl ?_
      refine r_goto (tgt := 2) ok dX1_lookOn_58 rfl ?_
      exact hk2 _ _ _ h
    · replace h := h.2 hc1
      refine r_aload_n ok dX1_lookOn_21 0 rfl ?_
      refine gf_X1_9 ok dX1_lookOn_22 ?_
      refine r_iload_n ok dX1_lookOn_25 3 rfl ?_
      refine r_iald ok ai_60 h.1 rfl dX1_lookOn_26 ?_
      replace h := h.2
      refine r_aload_n ok dX1_lookOn_27 0 rfl ?_
      refine gf_X1_15 ok dX1_lookOn_28 ?_
      refine r_iload_n ok dX1_lookOn_31 2 rfl ?_
      refine r_iald ok ai_61 h.1 rfl dX1_lookOn_32 ?_
      replace h := h.2
      refine r_iand ok dX1_lookOn_33 ?_
      refine r_if_eq (tgt := 49) ok dX1_lookOn_34 rfl (fun hc2 => ?_) (fun hc2 => ?_)
      · replace h := h.1 hc2
        refine r_iinc (v := x3 + 1) ok dX1_lookOn_49 3 rfl rfl (by decide) [(0, .ref (xad X 59)), (1, .int x1), (2, .int x2), (3, .int (x3 + 1))] [1, 2, 3, 0] rfl ?_
        refine r_goto (tgt := 16) ok dX1_lookOn_52 rfl ?_
        exact hk16 _ _ _ _ h
      · replace h := h.2 hc2
        refine r_aload_n ok dX1_lookOn_37 0 rfl ?_
        refine gf_X1_18 ok dX1_lookOn_38 ?_
        refine r_iload_n ok dX1_lookOn_41 2 rfl ?_
        refine r_dup2 ok dX1_lookOn_42 rfl rfl ?_
        refine r_iald ok ai_62 h.1 rfl dX1_lookOn_43 ?_
        replace h := h.2
        refine r_iconst (v := 1) ok dX1_lookOn_44 rfl ?_
        refine r_iload_n ok dX1_lookOn_45 3 rfl ?_
        refine r_ishl ok dX1_lookOn_46 ?_
        refine r_ior ok dX1_lookOn_47 ?_
        have hi4 := h.1
        replace h := h.2
        refine r_iast ok ai_62 hi4 rfl dX1_lookOn_48 (fun S3 eS3 => ?_)
        replace h := h S3 eS3
        refine r_iinc (v := x3 + 1) ok dX1_lookOn_49 3 rfl rfl (by decide) [(0, .ref (xad X 59)), (1, .int x1), (2, .int x2), (3, .int (x3 + 1))] [1, 2, 3, 0] rfl ?_
        refine r_goto (tgt := 16) ok dX1_lookOn_52 rfl ?_
        exact hk16 _ _ _ _ h
theorem w_B_X1_lookOn_2 {X : Cx} (ok : Ok X cX1_lookOn 5 RX1 0 0) {post : St → Prop} (hret : RetV X cX1_lookOn 5 post) {x1 x2 : Int32} {S : St} (h : B_X1_lookOn_2 post x1 x2 S) : Wp X 5 2 [(0, .ref (xad X 59)), (1, .int x1), (2, .int x2)] [] S := by
  obtain ⟨n, h⟩ := h
  induction n generalizing x1 x2 S with
  | zero => exact False.elim h
  | succ n ih =>
    have hk2 : ∀ x1 x2 S, L_X1_lookOn_2 post n x1 x2 S → Wp X 5 2 [(0, .ref (xad X 59)), (1, .int x1), (2, .int x2)] [] S := by intros; apply ih; assumption
    replace h : BD_X1_lookOn_2 (L_X1_lookOn_2 post n) post x1 x2 S := h
    unfold BD_X1_lookOn_2 at h
    generalize L_X1_lookOn_2 post n = k2 at h hk2
    refine r_iload_n ok dX1_lookOn_2 2 rfl ?_
    refine r_iload_n ok dX1_lookOn_3 1 rfl ?_
    refine r_icmp_ge (tgt := 61) ok dX1_lookOn_4 rfl (fun hc1 => ?_) (fun hc1 => ?_)
    · replace h := h.1 hc1
      refine r_iconst (v := 0) ok dX1_lookOn_61 rfl ?_
      refine r_istore_n ok dX1_lookOn_62 (by decide) [(0, .ref (xad X 59)), (1, .int x1), (2, .int 0)] [1, 2, 0] rfl ?_
      exact w_B_X1_lookOn_63 ok hret h
    · replace h := h.2 hc1
      refine r_aload_n ok dX1_lookOn_7 0 rfl ?_
      refine gf_X1_18 ok dX1_lookOn_8 ?_
      refine r_iload_n ok dX1_lookOn_11 2 rfl ?_
      refine r_iconst (v := 0) ok dX1_lookOn_12 rfl ?_
      have hi3 := h.1
      replace h := h.2
      refine r_iast ok ai_62 hi3 rfl dX1_lookOn_13 (fun S2 eS2 => ?_)
      replace h := h S2 eS2
      refine r_iconst (v := 0) ok dX1_lookOn_14 rfl ?_
      refine r_istore_n ok dX1_lookOn_15 (by decide) [(0, .ref (xad X 59)), (1, .int x1), (2, .int x2), (3, .int 0)] [1, 2, 3, 0] rfl ?_
      exact w_B_X1_lookOn_16 ok hret hk2 h
theorem w_wp_X1_lookOn {X : Cx} (ok : Ok X cX1_lookOn 5 RX1 0 0) {post : St → Prop} (hret : RetV X cX1_lookOn 5 post) {x1 : Int32} {S : St} (h : wp_X1_lookOn x1 S post) : Wp X 5 0 [(0, .ref (xad X 59)), (1, .int x1)] [] S := by
  unfold wp_X1_lookOn at h
  refine r_iconst (v := 0) ok dX1_lookOn_0 rfl ?_
  refine r_istore_n ok dX1_lookOn_1 (by decide) [(0, .ref (xad X 59)), (1, .int x1), (2, .int 0)] [1, 2, 0] rfl ?_
  exact w_B_X1_lookOn_2 ok hret h
theorem c_X1_lookOn (l : Launch) (G : Gx) {x1 : Int32} {S : St} {post : St → Prop} (h : wp_X1_lookOn x1 S post) : MtV l yX1_lookOn cX1_lookOn 5 0 0 G [.ref (G.2.2 59), .int x1] S post :=
  ctV (by decide) rfl (Nat.le_of_ble_eq_true rfl) (fun X _ hG ok hret => by subst hG; exact w_wp_X1_lookOn ok hret h)

/-! HasteRoads$Chase.turns(LHasteRoads$World;II)I -/
theorem dX1_turns_0 : decode cX1_turns 0 = .ok (.aload_n 0, 1) := by decide +kernel
theorem dX1_turns_1 : decode cX1_turns 1 = .ok (.aload_n 1, 1) := by decide +kernel
theorem dX1_turns_2 : decode cX1_turns 2 = .ok (.invokevirtual 21, 3) := by decide +kernel
theorem dX1_turns_5 : decode cX1_turns 5 = .ok (.iload_n 2, 1) := by decide +kernel
theorem dX1_turns_6 : decode cX1_turns 6 = .ok (.iload_n 3, 1) := by decide +kernel
theorem dX1_turns_7 : decode cX1_turns 7 = .ok (.if_icmp .ne 5, 3) := by decide +kernel
theorem dX1_turns_10 : decode cX1_turns 10 = .ok (.iconst 0, 1) := by decide +kernel
theorem dX1_turns_11 : decode cX1_turns 11 = .ok (.ireturn, 1) := by decide +kernel
theorem dX1_turns_12 : decode cX1_turns 12 = .ok (.iconst 1, 1) := by decide +kernel
theorem dX1_turns_13 : decode cX1_turns 13 = .ok (.istore 4, 2) := by decide +kernel
theorem dX1_turns_15 : decode cX1_turns 15 = .ok (.iload 4, 2) := by decide +kernel
theorem dX1_turns_17 : decode cX1_turns 17 = .ok (.bipush 36, 2) := by decide +kernel
theorem dX1_turns_19 : decode cX1_turns 19 = .ok (.if_icmp .gt 34, 3) := by decide +kernel
theorem dX1_turns_22 : decode cX1_turns 22 = .ok (.aload_n 0, 1) := by decide +kernel
theorem dX1_turns_23 : decode cX1_turns 23 = .ok (.aload_n 1, 1) := by decide +kernel
theorem dX1_turns_24 : decode cX1_turns 24 = .ok (.getfield 25, 3) := by decide +kernel
theorem dX1_turns_27 : decode cX1_turns 27 = .ok (.invokevirtual 31, 3) := by decide +kernel
theorem dX1_turns_30 : decode cX1_turns 30 = .ok (.aload_n 0, 1) := by decide +kernel
theorem dX1_turns_31 : decode cX1_turns 31 = .ok (.getfield 15, 3) := by decide +kernel
theorem dX1_turns_34 : decode cX1_turns 34 = .ok (.iload_n 2, 1) := by decide +kernel
theorem dX1_turns_35 : decode cX1_turns 35 = .ok (.iaload, 1) := by decide +kernel
theorem dX1_turns_36 : decode cX1_turns 36 = .ok (.iload_n 3, 1) := by decide +kernel
theorem dX1_turns_37 : decode cX1_turns 37 = .ok (.ishr, 1) := by decide +kernel
theorem dX1_turns_38 : decode cX1_turns 38 = .ok (.iconst 1, 1) := by decide +kernel
theorem dX1_turns_39 : decode cX1_turns 39 = .ok (.iand, 1) := by decide +kernel
theorem dX1_turns_40 : decode cX1_turns 40 = .ok (.iconst 1, 1) := by decide +kernel
theorem dX1_turns_41 : decode cX1_turns 41 = .ok (.if_icmp .ne 6, 3) := by decide +kernel
theorem dX1_turns_44 : decode cX1_turns 44 = .ok (.iload 4, 2) := by decide +kernel
theorem dX1_turns_46 : decode cX1_turns 46 = .ok (.ireturn, 1) := by decide +kernel
theorem dX1_turns_47 : decode cX1_turns 47 = .ok (.iinc 4 1, 3) := by decide +kernel
theorem dX1_turns_50 : decode cX1_turns 50 = .ok (.goto (-35), 3) := by decide +kernel
theorem dX1_turns_53 : decode cX1_turns 53 = .ok (.iconst (-1), 1) := by decide +kernel
theorem dX1_turns_54 : decode cX1_turns 54 = .ok (.ireturn, 1) := by decide +kernel
theorem gf_X1_25 {X : Cx} {cc : ByteArray} {nL pc fr lo : Nat} {L : List (Nat × Value)} {st : List Value} {S : St} (ok : Ok X cc nL RX1 fr lo) {o : Nat} (ho : isW o) (d : decode cc pc = .ok (.getfield 25, 3)) (k : Wp X nL (pc + 3) L (.int (S o 0) :: st) S) : Wp X nL pc L (.ref (xad X o) :: st) S :=
  r_get (C := RX6) (T := TX6) ok ho.ob rfl i_X6 0 (by decide) tw_fl_X1_25 d (by rw [show fvl (xad X) S o 0 = .int (S o 0) from (fvl_int (ho.ri 0 (by decide)))]; exact k)
theorem cl_X1_21 {X : Cx} {cc : ByteArray} {nL pc fr lo : Nat} {L : List (Nat × Value)} {st : List Value} {S : St} (ok : Ok X cc nL RX1 fr lo) (d : decode cc pc = .ok (.invokevirtual 21, 3)) (hroom : 1 ≤ fr ∧ 22 ≤ lo) (hst : (st.map fun v => v.category).sum ≤ 8) {post : St → Prop} (h : wp_X1_begin S post) (kk : ∀ S1 : St, post S1 → Wp X nL (pc + 3) L st S1) : Wp X nL pc L (.ref (xad X 0) :: .ref (xad X 59) :: st) S :=
  r_callVv (n := 3) (f := 0) (lo1 := 0) (N := 1) (As := [.ref (xad X 0)]) ok tw_in_X1 tw_im_X1_begin tw_se_X1_begin tw_co_X1_begin tw_ml_X1_21 (by decide +kernel) rfl ob_59 rfl hroom hst d rfl (c_X1_begin (xl X) (xG X) h) kk
theorem cl_X1_31 {X : Cx} {cc : ByteArray} {nL pc fr lo : Nat} {L : List (Nat × Value)} {st : List Value} {S : St} (ok : Ok X cc nL RX1 fr lo) {x1 : Int32} (d : decode cc pc = .ok (.invokevirtual 31, 3)) (hroom : 1 ≤ fr ∧ 24 ≤ lo) (hst : (st.map fun v => v.category).sum ≤ 8) {post : St → Prop} (h : wp_X1_lookOn x1 S post) (kk : ∀ S1 : St, post S1 → Wp X nL (pc + 3) L st S1) : Wp X nL pc L (.int x1 :: .ref (xad X 59) :: st) S :=
  r_callVv (n := 5) (f := 0) (lo1 := 0) (N := 1) (As := [.int x1]) ok tw_in_X1 tw_im_X1_lookOn tw_se_X1_lookOn tw_co_X1_lookOn tw_ml_X1_31 (by decide +kernel) rfl ob_59 rfl hroom hst d rfl (c_X1_lookOn (xl X) (xG X) h) kk
def BD_X1_turns_15 (k15 : Int32 → Int32 → Int32 → St → Prop) (post : Int32 → St → Prop) (x2 : Int32) (x3 : Int32) (x4 : Int32) (S : St) : Prop :=
  ((36 < x4 → post (-1) S) ∧ (¬ 36 < x4 → wp_X1_lookOn (S 0 0) S (fun S2 => vp_in x2 6 ∧ (((¬ (((S2 61 (ix x2)) >>> (x3 &&& 31)) &&& 1) = 1 → k15 x2 x3 (x4 + 1) S2) ∧ ((((S2 61 (ix x2)) >>> (x3 &&& 31)) &&& 1) = 1 → post x4 S2))))))
def L_X1_turns_15 (post : Int32 → St → Prop) (n : Nat) : Int32 → Int32 → Int32 → St → Prop := Nat.rec (motive := fun _ => Int32 → Int32 → Int32 → St → Prop) (fun _ _ _ _ => False) (fun _ ih => BD_X1_turns_15 ih post) n
def B_X1_turns_15 (post : Int32 → St → Prop) (x2 : Int32) (x3 : Int32) (x4 : Int32) (S : St) : Prop := ∃ n, L_X1_turns_15 post n x2 x3 x4 S
def wp_X1_turns (x2 : Int32) (x3 : Int32) (S : St) (post : Int32 → St → Prop) : Prop :=
  wp_X1_begin S (fun S1 => ((¬ x2 = x3 → B_X1_turns_15 post x2 x3 1 S1) ∧ (x2 = x3 → post 0 S1)))
theorem w_B_X1_turns_15 {X : Cx} (ok : Ok X cX1_turns 5 RX1 1 24) {post : Int32 → St → Prop} (hret : RetI X cX1_turns 5 post) {x2 x3 x4 : Int32} {S : St} (h : B_X1_turns_15 post x2 x3 x4 S) : Wp X 5 15 [(0, .ref (xad X 59)), (1, .ref (xad X 0)), (2, .int x2), (3, .int x3), (4, .int x4)] [] S := by
  obtain ⟨n, h⟩ := h
  induction n generalizing x2 x3 x4 S with
  | zero => exact False.elim h
  | succ n ih =>
    have hk15 : ∀ x2 x3 x4 S, L_X1_turns_15 post n x2 x3 x4 S → Wp X 5 15 [(0, .ref (xad X 59)), (1, .ref (xad X 0)), (2, .int x2), (3, .int x3), (4, .int x4)] [] S := by intros; apply ih; assumption
    replace h : BD_X1_turns_15 (L_X1_turns_15 post n) post x2 x3 x4 S := h
    unfold BD_X1_turns_15 at h
    generalize L_X1_turns_15 post n = k15 at h hk15
    refine r_iload ok dX1_turns_15 4 rfl ?_
    refine r_bipush (v := 36) ok dX1_turns_17 rfl ?_
    refine r_icmp_gt (tgt := 53) ok dX1_turns_19 rfl (fun hc1 => ?_) (fun hc1 => ?_)
    · replace h := h.1 hc1
      refine r_iconst (v := (-1)) ok dX1_turns_53 rfl ?_
      exact hret _ _ _ _ dX1_turns_54 h
    · replace h := h.2 hc1
      refine r_aload_n ok dX1_turns_22 0 rfl ?_
      refine r_aload_n ok dX1_turns_23 1 rfl ?_
      refine gf_X1_25 ok isW_0 dX1_turns_24 ?_
      refine cl_X1_31 ok dX1_turns_27 (by decide) (Nat.le_of_ble_eq_true rfl) h (fun S2 h => ?_)
      refine r_aload_n ok dX1_turns_30 0 rfl ?_
      refine gf_X1_15 ok dX1_turns_31 ?_
      refine r_iload_n ok dX1_turns_34 2 rfl ?_
      refine r_iald ok ai_61 h.1 rfl dX1_turns_35 ?_
      replace h := h.2
      refine r_iload_n ok dX1_turns_36 3 rfl ?_
      refine r_ishr ok dX1_turns_37 ?_
      refine r_iconst (v := 1) ok dX1_turns_38 rfl ?_
      refine r_iand ok dX1_turns_39 ?_
      refine r_iconst (v := 1) ok dX1_turns_40 rfl ?_
      refine r_icmp_ne (tgt := 47) ok dX1_turns_41 rfl (fun hc3 => ?_) (fun hc3 => ?_)
      · replace h := h.1 hc3
        refine r_iinc (v := x4 + 1) ok dX1_turns_47 4 rfl rfl (by decide) [(0, .ref (xad X 59)), (1, .ref (xad X 0)), (2, .int x2), (3, .int x3), (4, .int (x4 + 1))] [1, 2, 3, 4, 0] rfl ?_
        refine r_goto (tgt := 15) ok dX1_turns_50 rfl ?_
        exact hk15 _ _ _ _ h
      · replace h := h.2 hc3
        refine r_iload ok dX1_turns_44 4 rfl ?_
        exact hret _ _ _ _ dX1_turns_46 h
theorem w_wp_X1_turns {X : Cx} (ok : Ok X cX1_turns 5 RX1 1 24) {post : Int32 → St → Prop} (hret : RetI X cX1_turns 5 post) {x2 x3 : Int32} {S : St} (h : wp_X1_turns x2 x3 S post) : Wp X 5 0 [(0, .ref (xad X 59)), (1, .ref (xad X 0)), (2, .int x2), (3, .int x3)] [] S := by
  unfold wp_X1_turns at h
  refine r_aload_n ok dX1_turns_0 0 rfl ?_
  refine r_aload_n ok dX1_turns_1 1 rfl ?_
  refine cl_X1_21 ok dX1_turns_2 (by decide) (Nat.le_of_ble_eq_true rfl) h (fun S1 h => ?_)
  refine r_iload_n ok dX1_turns_5 2 rfl ?_
  refine r_iload_n ok dX1_turns_6 3 rfl ?_
  refine r_icmp_ne (tgt := 12) ok dX1_turns_7 rfl (fun hc2 => ?_) (fun hc2 => ?_)
  · replace h := h.1 hc2
    refine r_iconst (v := 1) ok dX1_turns_12 rfl ?_
    refine r_istore ok dX1_turns_13 (by decide) [(0, .ref (xad X 59)), (1, .ref (xad X 0)), (2, .int x2), (3, .int x3), (4, .int 1)] [1, 2, 3, 4, 0] rfl ?_
    exact w_B_X1_turns_15 ok hret h
  · replace h := h.2 hc2
    refine r_iconst (v := 0) ok dX1_turns_10 rfl ?_
    exact hret _ _ _ _ dX1_turns_11 h
theorem c_X1_turns (l : Launch) (G : Gx) {x2 x3 : Int32} {S : St} {post : Int32 → St → Prop} (h : wp_X1_turns x2 x3 S post) : MtI l yX1_turns cX1_turns 5 (some .int) 1 24 G [.ref (G.2.2 59), .ref (G.2.2 0), .int x2, .int x3] S post :=
  ctI (by decide) rfl (Nat.le_of_ble_eq_true rfl) (fun X _ hG ok hret => by subst hG; exact w_wp_X1_turns ok hret h)
