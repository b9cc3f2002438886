/-! HasteRoads$World.draw(I)I -/
theorem dX6_draw_0 : decode cX6_draw 0 = .ok (.aload_n 0, 1) := by decide +kernel
theorem dX6_draw_1 : decode cX6_draw 1 = .ok (.aload_n 0, 1) := by decide +kernel
theorem dX6_draw_2 : decode cX6_draw 2 = .ok (.getfield 58, 3) := by decide +kernel
theorem dX6_draw_5 : decode cX6_draw 5 = .ok (.i2l, 1) := by decide +kernel
theorem dX6_draw_6 : decode cX6_draw 6 = .ok (.ldc2_w 118, 3) := by decide +kernel
theorem dX6_draw_9 : decode cX6_draw 9 = .ok (.lmul, 1) := by decide +kernel
theorem dX6_draw_10 : decode cX6_draw 10 = .ok (.ldc2_w 120, 3) := by decide +kernel
theorem dX6_draw_13 : decode cX6_draw 13 = .ok (.ladd, 1) := by decide +kernel
theorem dX6_draw_14 : decode cX6_draw 14 = .ok (.ldc2_w 122, 3) := by decide +kernel
theorem dX6_draw_17 : decode cX6_draw 17 = .ok (.land, 1) := by decide +kernel
theorem dX6_draw_18 : decode cX6_draw 18 = .ok (.l2i, 1) := by decide +kernel
theorem dX6_draw_19 : decode cX6_draw 19 = .ok (.putfield 58, 3) := by decide +kernel
theorem dX6_draw_22 : decode cX6_draw 22 = .ok (.iload_n 1, 1) := by decide +kernel
theorem dX6_draw_23 : decode cX6_draw 23 = .ok (.iconst 1, 1) := by decide +kernel
theorem dX6_draw_24 : decode cX6_draw 24 = .ok (.if_icmp .ge 7, 3) := by decide +kernel
theorem dX6_draw_27 : decode cX6_draw 27 = .ok (.iconst 0, 1) := by decide +kernel
theorem dX6_draw_28 : decode cX6_draw 28 = .ok (.goto 12, 3) := by decide +kernel
theorem dX6_draw_31 : decode cX6_draw 31 = .ok (.aload_n 0, 1) := by decide +kernel
theorem dX6_draw_32 : decode cX6_draw 32 = .ok (.getfield 58, 3) := by decide +kernel
theorem dX6_draw_35 : decode cX6_draw 35 = .ok (.ldc 124, 2) := by decide +kernel
theorem dX6_draw_37 : decode cX6_draw 37 = .ok (.idiv, 1) := by decide +kernel
theorem dX6_draw_38 : decode cX6_draw 38 = .ok (.iload_n 1, 1) := by decide +kernel
theorem dX6_draw_39 : decode cX6_draw 39 = .ok (.irem, 1) := by decide +kernel
theorem dX6_draw_40 : decode cX6_draw 40 = .ok (.ireturn, 1) := by decide +kernel

def wp_X6_draw (o : Nat) (x1 : Int32) (S : St) (post : Int32 → St → Prop) : Prop :=
  ∀ S1 : St, S1 = up S o 5 (Int64.toInt32 (((((S o 5).toInt64) * (1103515245)) + (12345)) &&& (2147483647))) → ((1 ≤ x1 → ¬ x1 = 0 ∧ (post (((S1 o 5) / 65536) - ((S1 o 5) / 65536) / x1 * x1) S1)) ∧ (¬ 1 ≤ x1 → post 0 S1))
theorem w_wp_X6_draw {X : Cx} (ok : Ok X cX6_draw 2 RX6 0 0) {post : Int32 → St → Prop} (hret : RetI X cX6_draw 2 post) {o : Nat} (ho : isW o) {x1 : Int32} {S : St} (h : wp_X6_draw o x1 S post) : Wp X 2 0 [(0, .ref (xad X o)), (1, .int x1)] [] S := by
  unfold wp_X6_draw at h
  refine r_aload_n ok dX6_draw_0 0 rfl ?_
  refine r_aload_n ok dX6_draw_1 0 rfl ?_
  refine gf_X6_58 ok ho dX6_draw_2 ?_
  refine r_i2l ok dX6_draw_5 ?_
  refine r_ldc2 (v := 1103515245) ok dX6_draw_6 tw_kl_X6_118 ?_
  refine r_lmul ok dX6_draw_9 ?_
  refine r_ldc2 (v := 12345) ok dX6_draw_10 tw_kl_X6_120 ?_
  refine r_ladd ok dX6_draw_13 ?_
  refine r_ldc2 (v := 2147483647) ok dX6_draw_14 tw_kl_X6_122 ?_
  refine r_land ok dX6_draw_17 ?_
  refine r_l2i ok dX6_draw_18 ?_
  refine pf_X6_58 ok ho dX6_draw_19 (fun S1 eS1 => ?_)
  replace h := h S1 eS1
  refine r_iload_n ok dX6_draw_22 1 rfl ?_
  refine r_iconst (v := 1) ok dX6_draw_23 rfl ?_
  refine r_icmp_ge (tgt := 31) ok dX6_draw_24 rfl (fun hc2 => ?_) (fun hc2 => ?_)
  · replace h := h.1 hc2
    refine r_aload_n ok dX6_draw_31 0 rfl ?_
    refine gf_X6_58 ok ho dX6_draw_32 ?_
    refine r_ldc (v := 65536) ok dX6_draw_35 tw_k_X6_124 ?_
    refine r_idiv ok dX6_draw_37 (by decide) ?_
    refine r_iload_n ok dX6_draw_38 1 rfl ?_
    refine r_irem ok dX6_draw_39 h.1 ?_
    replace h := h.2
    exact hret _ _ _ _ dX6_draw_40 h
  · replace h := h.2 hc2
    refine r_iconst (v := 0) ok dX6_draw_27 rfl ?_
    refine r_goto (tgt := 40) ok dX6_draw_28 rfl ?_
    exact hret _ _ _ _ dX6_draw_40 h
theorem c_X6_draw (l : Launch) (G : Gx) {o : Nat} (ho : isW o) {x1 : Int32} {S : St} {post : Int32 → St → Prop} (h : wp_X6_draw o x1 S post) : MtI l yX6_draw cX6_draw 2 (some .int) 0 0 G [.ref (G.2.2 o), .int x1] S post :=
  ctI (by decide) rfl (Nat.le_of_ble_eq_true rfl) (fun X _ hG ok hret => by subst hG; exact w_wp_X6_draw ok hret ho h)

/-! HasteRoads$World.waysFrom(I)I -/
theorem dX6_waysFrom_0 : decode cX6_waysFrom 0 = .ok (.iconst 0, 1) := by decide +kernel
theorem dX6_waysFrom_1 : decode cX6_waysFrom 1 = .ok (.istore_n 2, 1) := by decide +kernel
theorem dX6_waysFrom_2 : decode cX6_waysFrom 2 = .ok (.iconst 0, 1) := by decide +kernel
theorem dX6_waysFrom_3 : decode cX6_waysFrom 3 = .ok (.istore_n 3, 1) := by decide +kernel
theorem dX6_waysFrom_4 : decode cX6_waysFrom 4 = .ok (.iload_n 3, 1) := by decide +kernel
theorem dX6_waysFrom_5 : decode cX6_waysFrom 5 = .ok (.aload_n 0, 1) := by decide +kernel
theorem dX6_waysFrom_6 : decode cX6_waysFrom 6 = .ok (.getfield 46, 3) := by decide +kernel
theorem dX6_waysFrom_9 : decode cX6_waysFrom 9 = .ok (.if_icmp .ge 22, 3) := by decide +kernel
theorem dX6_waysFrom_12 : decode cX6_waysFrom 12 = .ok (.aload_n 0, 1) := by decide +kernel
theorem dX6_waysFrom_13 : decode cX6_waysFrom 13 = .ok (.iload_n 3, 1) := by decide +kernel
theorem dX6_waysFrom_14 : decode cX6_waysFrom 14 = .ok (.iload_n 1, 1) := by decide +kernel
theorem dX6_waysFrom_15 : decode cX6_waysFrom 15 = .ok (.invokevirtual 80, 3) := by decide +kernel
theorem dX6_waysFrom_18 : decode cX6_waysFrom 18 = .ok (.iconst (-1), 1) := by decide +kernel
theorem dX6_waysFrom_19 : decode cX6_waysFrom 19 = .ok (.if_icmp .eq 6, 3) := by decide +kernel
theorem dX6_waysFrom_22 : decode cX6_waysFrom 22 = .ok (.iinc 2 1, 3) := by decide +kernel
theorem dX6_waysFrom_25 : decode cX6_waysFrom 25 = .ok (.iinc 3 1, 3) := by decide +kernel
theorem dX6_waysFrom_28 : decode cX6_waysFrom 28 = .ok (.goto (-24), 3) := by decide +kernel
theorem dX6_waysFrom_31 : decode cX6_waysFrom 31 = .ok (.iload_n 2, 1) := by decide +kernel
theorem dX6_waysFrom_32 : decode cX6_waysFrom 32 = .ok (.ireturn, 1) := by decide +kernel

def BD_X6_waysFrom_4 (k4 : Int32 → Int32 → Int32 → St → Prop) (post : Int32 → St → Prop) (o : Nat) (x1 : Int32) (x2 : Int32) (x3 : Int32) (S : St) : Prop :=
  (((S o 1) ≤ x3 → post x2 S) ∧ (¬ (S o 1) ≤ x3 → wp_X6_otherEnd o x3 x1 S (fun r3 S2 => ((r3 = (-1) → k4 x1 x2 (x3 + 1) S2) ∧ (¬ r3 = (-1) → k4 x1 (x2 + 1) (x3 + 1) S2)))))
def L_X6_waysFrom_4 (post : Int32 → St → Prop) (o : Nat) (n : Nat) : Int32 → Int32 → Int32 → St → Prop := Nat.rec (motive := fun _ => Int32 → Int32 → Int32 → St → Prop) (fun _ _ _ _ => False) (fun _ ih => BD_X6_waysFrom_4 ih post o) n
def B_X6_waysFrom_4 (post : Int32 → St → Prop) (o : Nat) (x1 : Int32) (x2 : Int32) (x3 : Int32) (S : St) : Prop := ∃ n, L_X6_waysFrom_4 post o n x1 x2 x3 S
def wp_X6_waysFrom (o : Nat) (x1 : Int32) (S : St) (post : Int32 → St → Prop) : Prop :=
  B_X6_waysFrom_4 post o x1 0 0 S
theorem w_B_X6_waysFrom_4 {X : Cx} (ok : Ok X cX6_waysFrom 4 RX6 1 22) {post : Int32 → St → Prop} (hret : RetI X cX6_waysFrom 4 post) {o : Nat} (ho : isW o) {x1 x2 x3 : Int32} {S : St} (h : B_X6_waysFrom_4 post o x1 x2 x3 S) : Wp X 4 4 [(0, .ref (xad X o)), (1, .int x1), (2, .int x2), (3, .int x3)] [] S := by
  obtain ⟨n, h⟩ := h
  induction n generalizing x1 x2 x3 S with
  | zero => exact False.elim h
  | succ n ih =>
    have hk4 : ∀ x1 x2 x3 S, L_X6_waysFrom_4 post o n x1 x2 x3 S → Wp X 4 4 [(0, .ref (xad X o)), (1, .int x1), (2, .int x2), (3, .int x3)] [] S := by intros; apply ih; assumption
    replace h : BD_X6_waysFrom_4 (L_X6_waysFrom_4 post o n) post o x1 x2 x3 S := h
    unfold BD_X6_waysFrom_4 at h
    generalize L_X6_waysFrom_4 post o n = k4 at h hk4
    refine r_iload_n ok dX6_waysFrom_4 3 rfl ?_
    refine r_aload_n ok dX6_waysFrom_5 0 rfl ?_
    refine gf_X6_46 ok ho dX6_waysFrom_6 ?_
    refine r_icmp_ge (tgt := 31) ok dX6_waysFrom_9 rfl (fun hc1 => ?_) (fun hc1 => ?_)
    · replace h := h.1 hc1
      refine r_iload_n ok dX6_waysFrom_31 2 rfl ?_
      exact hret _ _ _ _ dX6_waysFrom_32 h
    · replace h := h.2 hc1
      refine r_aload_n ok dX6_waysFrom_12 0 rfl ?_
      refine r_iload_n ok dX6_waysFrom_13 3 rfl ?_
      refine r_iload_n ok dX6_waysFrom_14 1 rfl ?_
      refine cl_X6_80 ok ho dX6_waysFrom_15 (by decide) (Nat.le_of_ble_eq_true rfl) h (fun r3 S2 h => ?_)
      refine r_iconst (v := (-1)) ok dX6_waysFrom_18 rfl ?_
      refine r_icmp_eq (tgt := 25) ok dX6_waysFrom_19 rfl (fun hc4 => ?_) (fun hc4 => ?_)
      · replace h := h.1 hc4
        refine r_iinc (v := x3 + 1) ok dX6_waysFrom_25 3 rfl rfl (by decide) [(0, .ref (xad X o)), (1, .int x1), (2, .int x2), (3, .int (x3 + 1))] [1, 2, 3, 0] rfl ?_
        refine r_goto (tgt := 4) ok dX6_waysFrom_28 rfl ?_
        exact hk4 _ _ _ _ h
      · replace h := h.2 hc4
        refine r_iinc (v := x2 + 1) ok dX6_waysFrom_22 2 rfl rfl (by decide) [(0, .ref (xad X o)), (1, .int x1), (2, .int (x2 + 1)), (3, .int x3)] [1, 2, 0, 3] rfl ?_
        refine r_iinc (v := x3 + 1) ok dX6_waysFrom_25 3 rfl rfl (by decide) [(0, .ref (xad X o)), (1, .int x1), (2, .int (x2 + 1)), (3, .int (x3 + 1))] [1, 2, 3, 0] rfl ?_
        refine r_goto (tgt := 4) ok dX6_waysFrom_28 rfl ?_
        exact hk4 _ _ _ _ h
theorem w_wp_X6_waysFrom {X : Cx} (ok : Ok X cX6_waysFrom 4 RX6 1 22) {post : Int32 → St → Prop} (hret : RetI X cX6_waysFrom 4 post) {o : Nat} (ho : isW o) {x1 : Int32} {S : St} (h : wp_X6_waysFrom o x1 S post) : Wp X 4 0 [(0, .ref (xad X o)), (1, .int x1)] [] S := by
  unfold wp_X6_waysFrom at h
  refine r_iconst (v := 0) ok dX6_waysFrom_0 rfl ?_
  refine r_istore_n ok dX6_waysFrom_1 (by decide) [(0, .ref (xad X o)), (1, .int x1), (2, .int 0)] [1, 2, 0] rfl ?_
  refine r_iconst (v := 0) ok dX6_waysFrom_2 rfl ?_
  refine r_istore_n ok dX6_waysFrom_3 (by decide) [(0, .ref (xad X o)), (1, .int x1), (2, .int 0), (3, .int 0)] [1, 2, 3, 0] rfl ?_
  exact w_B_X6_waysFrom_4 ok hret ho h
theorem c_X6_waysFrom (l : Launch) (G : Gx) {o : Nat} (ho : isW o) {x1 : Int32} {S : St} {post : Int32 → St → Prop} (h : wp_X6_waysFrom o x1 S post) : MtI l yX6_waysFrom cX6_waysFrom 4 (some .int) 1 22 G [.ref (G.2.2 o), .int x1] S post :=
  ctI (by decide) rfl (Nat.le_of_ble_eq_true rfl) (fun X _ hG ok hret => by subst hG; exact w_wp_X6_waysFrom ok hret ho h)

/-! HasteRoads$World.roadOfWay(II)I -/
theorem dX6_roadOfWay_0 : decode cX6_roadOfWay 0 = .ok (.iload_n 2, 1) := by decide +kernel
theorem dX6_roadOfWay_1 : decode cX6_roadOfWay 1 = .ok (.istore_n 3, 1) := by decide +kernel
theorem dX6_roadOfWay_2 : decode cX6_roadOfWay 2 = .ok (.iconst 0, 1) := by decide +kernel
theorem dX6_roadOfWay_3 : decode cX6_roadOfWay 3 = .ok (.istore 4, 2) := by decide +kernel
theorem dX6_roadOfWay_5 : decode cX6_roadOfWay 5 = .ok (.iload 4, 2) := by decide +kernel
theorem dX6_roadOfWay_7 : decode cX6_roadOfWay 7 = .ok (.aload_n 0, 1) := by decide +kernel
theorem dX6_roadOfWay_8 : decode cX6_roadOfWay 8 = .ok (.getfield 46, 3) := by decide +kernel
theorem dX6_roadOfWay_11 : decode cX6_roadOfWay 11 = .ok (.if_icmp .ge 33, 3) := by decide +kernel
theorem dX6_roadOfWay_14 : decode cX6_roadOfWay 14 = .ok (.aload_n 0, 1) := by decide +kernel
theorem dX6_roadOfWay_15 : decode cX6_roadOfWay 15 = .ok (.iload 4, 2) := by decide +kernel
theorem dX6_roadOfWay_17 : decode cX6_roadOfWay 17 = .ok (.iload_n 1, 1) := by decide +kernel
theorem dX6_roadOfWay_18 : decode cX6_roadOfWay 18 = .ok (.invokevirtual 80, 3) := by decide +kernel
theorem dX6_roadOfWay_21 : decode cX6_roadOfWay 21 = .ok (.iconst (-1), 1) := by decide +kernel
theorem dX6_roadOfWay_22 : decode cX6_roadOfWay 22 = .ok (.if_icmp .ne 6, 3) := by decide +kernel
theorem dX6_roadOfWay_25 : decode cX6_roadOfWay 25 = .ok (.goto 13, 3) := by decide +kernel
theorem dX6_roadOfWay_28 : decode cX6_roadOfWay 28 = .ok (.iload_n 3, 1) := by decide +kernel
theorem dX6_roadOfWay_29 : decode cX6_roadOfWay 29 = .ok (.ifCond .ne 6, 3) := by decide +kernel
theorem dX6_roadOfWay_32 : decode cX6_roadOfWay 32 = .ok (.iload 4, 2) := by decide +kernel
theorem dX6_roadOfWay_34 : decode cX6_roadOfWay 34 = .ok (.ireturn, 1) := by decide +kernel
theorem dX6_roadOfWay_35 : decode cX6_roadOfWay 35 = .ok (.iinc 3 (-1), 3) := by decide +kernel
theorem dX6_roadOfWay_38 : decode cX6_roadOfWay 38 = .ok (.iinc 4 1, 3) := by decide +kernel
theorem dX6_roadOfWay_41 : decode cX6_roadOfWay 41 = .ok (.goto (-36), 3) := by decide +kernel
theorem dX6_roadOfWay_44 : decode cX6_roadOfWay 44 = .ok (.iconst (-1), 1) := by decide +kernel
theorem dX6_roadOfWay_45 : decode cX6_roadOfWay 45 = .ok (.ireturn, 1) := by decide +kernel

def BD_X6_roadOfWay_5 (k5 : Int32 → Int32 → Int32 → St → Prop) (post : Int32 → St → Prop) (o : Nat) (x1 : Int32) (x3 : Int32) (x4 : Int32) (S : St) : Prop :=
  (((S o 1) ≤ x4 → post (-1) S) ∧ (¬ (S o 1) ≤ x4 → wp_X6_otherEnd o x4 x1 S (fun r3 S2 => ((¬ r3 = (-1) → ((¬ x3 = 0 → k5 x1 (x3 + (-1)) (x4 + 1) S2) ∧ (x3 = 0 → post x4 S2))) ∧ (r3 = (-1) → k5 x1 x3 (x4 + 1) S2)))))
def L_X6_roadOfWay_5 (post : Int32 → St → Prop) (o : Nat) (n : Nat) : Int32 → Int32 → Int32 → St → Prop := Nat.rec (motive := fun _ => Int32 → Int32 → Int32 → St → Prop) (fun _ _ _ _ => False) (fun _ ih => BD_X6_roadOfWay_5 ih post o) n
def B_X6_roadOfWay_5 (post : Int32 → St → Prop) (o : Nat) (x1 : Int32) (x3 : Int32) (x4 : Int32) (S : St) : Prop := ∃ n, L_X6_roadOfWay_5 post o n x1 x3 x4 S
def wp_X6_roadOfWay (o : Nat) (x1 : Int32) (x2 : Int32) (S : St) (post : Int32 → St → Prop) : Prop :=
  B_X6_roadOfWay_5 post o x1 x2 0 S
theorem w_B_X6_roadOfWay_5 {X : Cx} (ok : Ok X cX6_roadOfWay 5 RX6 1 22) {post : Int32 → St → Prop} (hret : RetI X cX6_roadOfWay 5 post) {o : Nat} (ho : isW o) {x1 x3 x4 : Int32} {S : St} (h : B_X6_roadOfWay_5 post o x1 x3 x4 S) : Wp X 5 5 [(0, .ref (xad X o)), (1, .int x1), (3, .int x3), (4, .int x4)] [] S := by
  obtain ⟨n, h⟩ := h
  induction n generalizing x1 x3 x4 S with
  | zero => exact False.elim h
  | succ n ih =>
    have hk5 : ∀ x1 x3 x4 S, L_X6_roadOfWay_5 post o n x1 x3 x4 S → Wp X 5 5 [(0, .ref (xad X o)), (1, .int x1), (3, .int x3), (4, .int x4)] [] S := by intros; apply ih; assumption
    replace h : BD_X6_roadOfWay_5 (L_X6_roadOfWay_5 post o n) post o x1 x3 x4 S := h
    unfold BD_X6_roadOfWay_5 at h
    generalize L_X6_roadOfWay_5 post o n = k5 at h hk5
    refine r_iload ok dX6_roadOfWay_5 3 rfl ?_
    refine r_aload_n ok dX6_roadOfWay_7 0 rfl ?_
    refine gf_X6_46 ok ho dX6_roadOfWay_8 ?_
    refine r_icmp_ge (tgt := 44) ok dX6_roadOfWay_11 rfl (fun hc1 => ?_) (fun hc1 => ?_)
    · replace h := h.1 hc1
      refine r_iconst (v := (-1)) ok dX6_roadOfWay_44 rfl ?_
      exact hret _ _ _ _ dX6_roadOfWay_45 h
    · replace h := h.2 hc1
      refine r_aload_n ok dX6_roadOfWay_14 0 rfl ?_
      refine r_iload ok dX6_roadOfWay_15 3 rfl ?_
      refine r_iload_n ok dX6_roadOfWay_17 1 rfl ?_
      refine cl_X6_80 ok ho dX6_roadOfWay_18 (by decide) (Nat.le_of_ble_eq_true rfl) h (fun r3 S2 h => ?_)
      refine r_iconst (v := (-1)) ok dX6_roadOfWay_21 rfl ?_
      refine r_icmp_ne (tgt := 28) ok dX6_roadOfWay_22 rfl (fun hc4 => ?_) (fun hc4 => ?_)
      · replace h := h.1 hc4
        refine r_iload_n ok dX6_roadOfWay_28 2 rfl ?_
        refine r_if_ne (tgt := 35) ok dX6_roadOfWay_29 rfl (fun hc5 => ?_) (fun hc5 => ?_)
        · replace h := h.1 hc5
          refine r_iinc (v := x3 + (-1)) ok dX6_roadOfWay_35 2 rfl rfl (by decide) [(0, .ref (xad X o)), (1, .int x1), (3, .int (x3 + (-1))), (4, .int x4)] [1, 2, 0, 3] rfl ?_
          refine r_iinc (v := x4 + 1) ok dX6_roadOfWay_38 3 rfl rfl (by decide) [(0, .ref (xad X o)), (1, .int x1), (3, .int (x3 + (-1))), (4, .int (x4 + 1))] [1, 2, 3, 0] rfl ?_
          refine r_goto (tgt := 5) ok dX6_roadOfWay_41 rfl ?_
          exact hk5 _ _ _ _ h
        · replace h := h.2 hc5
          refine r_iload ok dX6_roadOfWay_32 3 rfl ?_
          exact hret _ _ _ _ dX6_roadOfWay_34 h
      · replace h := h.2 hc4
        refine r_goto (tgt := 38) ok dX6_roadOfWay_25 rfl ?_
        refine r_iinc (v := x4 + 1) ok dX6_roadOfWay_38 3 rfl rfl (by decide) [(0, .ref (xad X o)), (1, .int x1), (3, .int x3), (4, .int (x4 + 1))] [1, 2, 3, 0] rfl ?_
        refine r_goto (tgt := 5) ok dX6_roadOfWay_41 rfl ?_
        exact hk5 _ _ _ _ h
theorem w_wp_X6_roadOfWay {X : Cx} (ok : Ok X cX6_roadOfWay 5 RX6 1 22) {post : Int32 → St → Prop} (hret : RetI X cX6_roadOfWay 5 post) {o : Nat} (ho : isW o) {x1 x2 : Int32} {S : St} (h : wp_X6_roadOfWay o x1 x2 S post) : Wp X 5 0 [(0, .ref (xad X o)), (1, .int x1), (2, .int x2)] [] S := by
  unfold wp_X6_roadOfWay at h
  refine r_iload_n ok dX6_roadOfWay_0 2 rfl ?_
  refine r_istore_n ok dX6_roadOfWay_1 (by decide) [(0, .ref (xad X o)), (1, .int x1), (3, .int x2)] [1, 2, 0] rfl ?_
  refine r_iconst (v := 0) ok dX6_roadOfWay_2 rfl ?_
  refine r_istore ok dX6_roadOfWay_3 (by decide) [(0, .ref (xad X o)), (1, .int x1), (3, .int x2), (4, .int 0)] [1, 2, 3, 0] rfl ?_
  exact w_B_X6_roadOfWay_5 ok hret ho h
theorem c_X6_roadOfWay (l : Launch) (G : Gx) {o : Nat} (ho : isW o) {x1 x2 : Int32} {S : St} {post : Int32 → St → Prop} (h : wp_X6_roadOfWay o x1 x2 S post) : MtI l yX6_roadOfWay cX6_roadOfWay 5 (some .int) 1 22 G [.ref (G.2.2 o), .int x1, .int x2] S post :=
  ctI (by decide) rfl (Nat.le_of_ble_eq_true rfl) (fun X _ hG ok hret => by subst hG; exact w_wp_X6_roadOfWay ok hret ho h)

/-! HasteRoads$World.wander()V -/
theorem dX6_wander_0 : decode cX6_wander 0 = .ok (.aload_n 0, 1) := by decide +kernel
theorem dX6_wander_1 : decode cX6_wander 1 = .ok (.aload_n 0, 1) := by decide +kernel
theorem dX6_wander_2 : decode cX6_wander 2 = .ok (.getfield 49, 3) := by decide +kernel
theorem dX6_wander_5 : decode cX6_wander 5 = .ok (.invokevirtual 97, 3) := by decide +kernel
theorem dX6_wander_8 : decode cX6_wander 8 = .ok (.istore_n 1, 1) := by decide +kernel
theorem dX6_wander_9 : decode cX6_wander 9 = .ok (.aload_n 0, 1) := by decide +kernel
theorem dX6_wander_10 : decode cX6_wander 10 = .ok (.iload_n 1, 1) := by decide +kernel
theorem dX6_wander_11 : decode cX6_wander 11 = .ok (.invokevirtual 101, 3) := by decide +kernel
theorem dX6_wander_14 : decode cX6_wander 14 = .ok (.ifCond .eq 15, 3) := by decide +kernel
theorem dX6_wander_17 : decode cX6_wander 17 = .ok (.aload_n 0, 1) := by decide +kernel
theorem dX6_wander_18 : decode cX6_wander 18 = .ok (.getfield 39, 3) := by decide +kernel
theorem dX6_wander_21 : decode cX6_wander 21 = .ok (.iload_n 1, 1) := by decide +kernel
theorem dX6_wander_22 : decode cX6_wander 22 = .ok (.iaload, 1) := by decide +kernel
theorem dX6_wander_23 : decode cX6_wander 23 = .ok (.sipush 9000, 3) := by decide +kernel
theorem dX6_wander_26 : decode cX6_wander 26 = .ok (.if_icmp .le 4, 3) := by decide +kernel
theorem dX6_wander_29 : decode cX6_wander 29 = .ok (.return_, 1) := by decide +kernel
theorem dX6_wander_30 : decode cX6_wander 30 = .ok (.aload_n 0, 1) := by decide +kernel
theorem dX6_wander_31 : decode cX6_wander 31 = .ok (.aload_n 0, 1) := by decide +kernel
theorem dX6_wander_32 : decode cX6_wander 32 = .ok (.getfield 30, 3) := by decide +kernel
theorem dX6_wander_35 : decode cX6_wander 35 = .ok (.iload_n 1, 1) := by decide +kernel
theorem dX6_wander_36 : decode cX6_wander 36 = .ok (.iaload, 1) := by decide +kernel
theorem dX6_wander_37 : decode cX6_wander 37 = .ok (.invokevirtual 104, 3) := by decide +kernel
theorem dX6_wander_40 : decode cX6_wander 40 = .ok (.istore_n 2, 1) := by decide +kernel
theorem dX6_wander_41 : decode cX6_wander 41 = .ok (.aload_n 0, 1) := by decide +kernel
theorem dX6_wander_42 : decode cX6_wander 42 = .ok (.iload_n 2, 1) := by decide +kernel
theorem dX6_wander_43 : decode cX6_wander 43 = .ok (.iconst 1, 1) := by decide +kernel
theorem dX6_wander_44 : decode cX6_wander 44 = .ok (.iadd, 1) := by decide +kernel
theorem dX6_wander_45 : decode cX6_wander 45 = .ok (.invokevirtual 97, 3) := by decide +kernel
theorem dX6_wander_48 : decode cX6_wander 48 = .ok (.istore_n 3, 1) := by decide +kernel
theorem dX6_wander_49 : decode cX6_wander 49 = .ok (.iload_n 3, 1) := by decide +kernel
theorem dX6_wander_50 : decode cX6_wander 50 = .ok (.iload_n 2, 1) := by decide +kernel
theorem dX6_wander_51 : decode cX6_wander 51 = .ok (.if_icmp .ne 10, 3) := by decide +kernel
theorem dX6_wander_54 : decode cX6_wander 54 = .ok (.aload_n 0, 1) := by decide +kernel
theorem dX6_wander_55 : decode cX6_wander 55 = .ok (.iload_n 1, 1) := by decide +kernel
theorem dX6_wander_56 : decode cX6_wander 56 = .ok (.iconst 1, 1) := by decide +kernel
theorem dX6_wander_57 : decode cX6_wander 57 = .ok (.invokevirtual 107, 3) := by decide +kernel
theorem dX6_wander_60 : decode cX6_wander 60 = .ok (.return_, 1) := by decide +kernel
theorem dX6_wander_61 : decode cX6_wander 61 = .ok (.aload_n 0, 1) := by decide +kernel
theorem dX6_wander_62 : decode cX6_wander 62 = .ok (.aload_n 0, 1) := by decide +kernel
theorem dX6_wander_63 : decode cX6_wander 63 = .ok (.getfield 30, 3) := by decide +kernel
theorem dX6_wander_66 : decode cX6_wander 66 = .ok (.iload_n 1, 1) := by decide +kernel
theorem dX6_wander_67 : decode cX6_wander 67 = .ok (.iaload, 1) := by decide +kernel
theorem dX6_wander_68 : decode cX6_wander 68 = .ok (.iload_n 3, 1) := by decide +kernel
theorem dX6_wander_69 : decode cX6_wander 69 = .ok (.invokevirtual 111, 3) := by decide +kernel
theorem dX6_wander_72 : decode cX6_wander 72 = .ok (.istore 4, 2) := by decide +kernel
theorem dX6_wander_74 : decode cX6_wander 74 = .ok (.iload 4, 2) := by decide +kernel
theorem dX6_wander_76 : decode cX6_wander 76 = .ok (.iconst (-1), 1) := by decide +kernel
theorem dX6_wander_77 : decode cX6_wander 77 = .ok (.if_icmp .eq 22, 3) := by decide +kernel
theorem dX6_wander_80 : decode cX6_wander 80 = .ok (.aload_n 0, 1) := by decide +kernel
theorem dX6_wander_81 : decode cX6_wander 81 = .ok (.iload_n 1, 1) := by decide +kernel
theorem dX6_wander_82 : decode cX6_wander 82 = .ok (.iload 4, 2) := by decide +kernel
theorem dX6_wander_84 : decode cX6_wander 84 = .ok (.aload_n 0, 1) := by decide +kernel
theorem dX6_wander_85 : decode cX6_wander 85 = .ok (.aload_n 0, 1) := by decide +kernel
theorem dX6_wander_86 : decode cX6_wander 86 = .ok (.getfield 33, 3) := by decide +kernel
theorem dX6_wander_89 : decode cX6_wander 89 = .ok (.iload_n 1, 1) := by decide +kernel
theorem dX6_wander_90 : decode cX6_wander 90 = .ok (.iaload, 1) := by decide +kernel
theorem dX6_wander_91 : decode cX6_wander 91 = .ok (.iconst 1, 1) := by decide +kernel
theorem dX6_wander_92 : decode cX6_wander 92 = .ok (.iadd, 1) := by decide +kernel
theorem dX6_wander_93 : decode cX6_wander 93 = .ok (.invokevirtual 97, 3) := by decide +kernel
theorem dX6_wander_96 : decode cX6_wander 96 = .ok (.invokevirtual 114, 3) := by decide +kernel
theorem dX6_wander_99 : decode cX6_wander 99 = .ok (.return_, 1) := by decide +kernel
theorem cl_X6_97 {X : Cx} {cc : ByteArray} {nL pc fr lo : Nat} {L : List (Nat × Value)} {st : List Value} {S : St} (ok : Ok X cc nL RX6 fr lo) {o : Nat} (ho : isW o) {x1 : Int32} (d : decode cc pc = .ok (.invokevirtual 97, 3)) (hroom : 1 ≤ fr ∧ 21 ≤ lo) (hst : (st.map fun v => v.category).sum ≤ 8) {post : Int32 → St → Prop} (h : wp_X6_draw o x1 S post) (kk : ∀ (r : Int32) (S1 : St), post r S1 → Wp X nL (pc + 3) L (.int r :: st) S1) : Wp X nL pc L (.int x1 :: .ref (xad X o) :: st) S :=
  r_callVi (n := 2) (f := 0) (lo1 := 0) (N := 1) (As := [.int x1]) ok tw_in_X6 tw_im_X6_draw tw_se_X6_draw tw_co_X6_draw tw_ml_X6_97 (by decide +kernel) rfl ho.ob rfl hroom hst d rfl (c_X6_draw (xl X) (xG X) ho h) kk
theorem cl_X6_101 {X : Cx} {cc : ByteArray} {nL pc fr lo : Nat} {L : List (Nat × Value)} {st : List Value} {S : St} (ok : Ok X cc nL RX6 fr lo) {o : Nat} (ho : isW o) {x1 : Int32} (d : decode cc pc = .ok (.invokevirtual 101, 3)) (hroom : 1 ≤ fr ∧ 21 ≤ lo) (hst : (st.map fun v => v.category).sum ≤ 8) {post : Int32 → St → Prop} (h : wp_X6_hasPerson o x1 S post) (kk : ∀ (r : Int32) (S1 : St), post r S1 → Wp X nL (pc + 3) L (.int r :: st) S1) : Wp X nL pc L (.int x1 :: .ref (xad X o) :: st) S :=
  r_callVi (n := 2) (f := 0) (lo1 := 0) (N := 1) (As := [.int x1]) ok tw_in_X6 tw_im_X6_hasPerson tw_se_X6_hasPerson tw_co_X6_hasPerson tw_ml_X6_101 (by decide +kernel) rfl ho.ob rfl hroom hst d rfl (c_X6_hasPerson (xl X) (xG X) ho h) kk
theorem cl_X6_104 {X : Cx} {cc : ByteArray} {nL pc fr lo : Nat} {L : List (Nat × Value)} {st : List Value} {S : St} (ok : Ok X cc nL RX6 fr lo) {o : Nat} (ho : isW o) {x1 : Int32} (d : decode cc pc = .ok (.invokevirtual 104, 3)) (hroom : 2 ≤ fr ∧ 45 ≤ lo) (hst : (st.map fun v => v.category).sum ≤ 8) {post : Int32 → St → Prop} (h : wp_X6_waysFrom o x1 S post) (kk : ∀ (r : Int32) (S1 : St), post r S1 → Wp X nL (pc + 3) L (.int r :: st) S1) : Wp X nL pc L (.int x1 :: .ref (xad X o) :: st) S :=
  r_callVi (n := 4) (f := 1) (lo1 := 22) (N := 1) (As := [.int x1]) ok tw_in_X6 tw_im_X6_waysFrom tw_se_X6_waysFrom tw_co_X6_waysFrom tw_ml_X6_104 (by decide +kernel) rfl ho.ob rfl hroom hst d rfl (c_X6_waysFrom (xl X) (xG X) ho h) kk
theorem cl_X6_111 {X : Cx} {cc : ByteArray} {nL pc fr lo : Nat} {L : List (Nat × Value)} {st : List Value} {S : St} (ok : Ok X cc nL RX6 fr lo) {o : Nat} (ho : isW o) {x1 x2 : Int32} (d : decode cc pc = .ok (.invokevirtual 111, 3)) (hroom : 2 ≤ fr ∧ 46 ≤ lo) (hst : (st.map fun v => v.category).sum ≤ 8) {post : Int32 → St → Prop} (h : wp_X6_roadOfWay o x1 x2 S post) (kk : ∀ (r : Int32) (S1 : St), post r S1 → Wp X nL (pc + 3) L (.int r :: st) S1) : Wp X nL pc L (.int x2 :: .int x1 :: .ref (xad X o) :: st) S :=
  r_callVi (n := 5) (f := 1) (lo1 := 22) (N := 2) (As := [.int x1, .int x2]) ok tw_in_X6 tw_im_X6_roadOfWay tw_se_X6_roadOfWay tw_co_X6_roadOfWay tw_ml_X6_111 (by decide +kernel) rfl ho.ob rfl hroom hst d rfl (c_X6_roadOfWay (xl X) (xG X) ho h) kk
theorem cl_X6_114 {X : Cx} {cc : ByteArray} {nL pc fr lo : Nat} {L : List (Nat × Value)} {st : List Value} {S : St} (ok : Ok X cc nL RX6 fr lo) {o : Nat} (ho : isW o) {x1 x2 x3 : Int32} (d : decode cc pc = .ok (.invokevirtual 114, 3)) (hroom : 3 ≤ fr ∧ 73 ≤ lo) (hst : (st.map fun v => v.category).sum ≤ 8) {post : St → Prop} (h : wp_X6_move o x1 x2 x3 S post) (kk : ∀ S1 : St, post S1 → Wp X nL (pc + 3) L st S1) : Wp X nL pc L (.int x3 :: .int x2 :: .int x1 :: .ref (xad X o) :: st) S :=
  r_callVv (n := 4) (f := 2) (lo1 := 50) (N := 3) (As := [.int x1, .int x2, .int x3]) ok tw_in_X6 tw_im_X6_move tw_se_X6_move tw_co_X6_move tw_ml_X6_114 (by decide +kernel) rfl ho.ob rfl hroom hst d rfl (c_X6_move (xl X) (xG X) ho h) kk
theorem cl_X6_107 {X : Cx} {cc : ByteArray} {nL pc fr lo : Nat} {L : List (Nat × Value)} {st : List Value} {S : St} (ok : Ok X cc nL RX6 fr lo) {o : Nat} (ho : isW o) {x1 x2 : Int32} (d : decode cc pc = .ok (.invokevirtual 107, 3)) (hroom : 3 ≤ fr ∧ 66 ≤ lo) (hst : (st.map fun v => v.category).sum ≤ 8) {post : St → Prop} (h : wp_X6_rest o x1 x2 S post) (kk : ∀ S1 : St, post S1 → Wp X nL (pc + 3) L st S1) : Wp X nL pc L (.int x2 :: .int x1 :: .ref (xad X o) :: st) S :=
  r_callVv (n := 3) (f := 2) (lo1 := 44) (N := 2) (As := [.int x1, .int x2]) ok tw_in_X6 tw_im_X6_rest tw_se_X6_rest tw_co_X6_rest tw_ml_X6_107 (by decide +kernel) rfl ho.ob rfl hroom hst d rfl (c_X6_rest (xl X) (xG X) ho h) kk
def wp_X6_wander (o : Nat) (S : St) (post : St → Prop) : Prop :=
  wp_X6_draw o (S o 2) S (fun r2 S1 => wp_X6_hasPerson o r2 S1 (fun r4 S3 => ((r4 = 0 → post S3) ∧ (¬ r4 = 0 → vp_in r2 4 ∧ ((((S3 (o + 10) (ix r2)) ≤ 9000 → vp_in r2 4 ∧ (wp_X6_waysFrom o (S3 (o + 7) (ix r2)) S3 (fun r8 S7 => wp_X6_draw o (r8 + 1) S7 (fun r10 S9 => ((¬ r10 = r8 → vp_in r2 4 ∧ (wp_X6_roadOfWay o (S9 (o + 7) (ix r2)) r10 S9 (fun r13 S12 => ((r13 = (-1) → post S12) ∧ (¬ r13 = (-1) → vp_in r2 4 ∧ (wp_X6_draw o ((S12 (o + 8) (ix r2)) + 1) S12 (fun r16 S15 => wp_X6_move o r2 r13 r16 S15 (fun S17 => post S17)))))))) ∧ (r10 = r8 → wp_X6_rest o r2 1 S9 (fun S18 => post S18))))))) ∧ (¬ (S3 (o + 10) (ix r2)) ≤ 9000 → post S3)))))))
theorem w_wp_X6_wander {X : Cx} (ok : Ok X cX6_wander 5 RX6 3 73) {post : St → Prop} (hret : RetV X cX6_wander 5 post) {o : Nat} (ho : isW o) {S : St} (h : wp_X6_wander o S post) : Wp X 5 0 [(0, .ref (xad X o))] [] S := by
  unfold wp_X6_wander at h
  refine r_aload_n ok dX6_wander_0 0 rfl ?_
  refine r_aload_n ok dX6_wander_1 0 rfl ?_
  refine gf_X6_49 ok ho dX6_wander_2 ?_
  refine cl_X6_97 ok ho dX6_wander_5 (by decide) (Nat.le_of_ble_eq_true rfl) h (fun r2 S1 h => ?_)
  refine r_istore_n ok dX6_wander_8 (by decide) [(0, .ref (xad X o)), (1, .int r2)] [1, 0] rfl ?_
  refine r_aload_n ok dX6_wander_9 0 rfl ?_
  refine r_iload_n ok dX6_wander_10 1 rfl ?_
  refine cl_X6_101 ok ho dX6_wander_11 (by decide) (Nat.le_of_ble_eq_true rfl) h (fun r4 S3 h => ?_)
  refine r_if_eq (tgt := 29) ok dX6_wander_14 rfl (fun hc5 => ?_) (fun hc5 => ?_)
  · replace h := h.1 hc5
    exact hret _ _ _ dX6_wander_29 h
  · replace h := h.2 hc5
    refine r_aload_n ok dX6_wander_17 0 rfl ?_
    refine gf_X6_39 ok ho dX6_wander_18 ?_
    refine r_iload_n ok dX6_wander_21 1 rfl ?_
    refine r_iald ok ((ho).a4 6 (by decide)) h.1 rfl dX6_wander_22 ?_
    replace h := h.2
    refine r_sipush (v := 9000) ok dX6_wander_23 rfl ?_
    refine r_icmp_le (tgt := 30) ok dX6_wander_26 rfl (fun hc6 => ?_) (fun hc6 => ?_)
    · replace h := h.1 hc6
      refine r_aload_n ok dX6_wander_30 0 rfl ?_
      refine r_aload_n ok dX6_wander_31 0 rfl ?_
      refine gf_X6_30 ok ho dX6_wander_32 ?_
      refine r_iload_n ok dX6_wander_35 1 rfl ?_
      refine r_iald ok ((ho).a4 3 (by decide)) h.1 rfl dX6_wander_36 ?_
      replace h := h.2
      refine cl_X6_104 ok ho dX6_wander_37 (by decide) (Nat.le_of_ble_eq_true rfl) h (fun r8 S7 h => ?_)
      refine r_istore_n ok dX6_wander_40 (by decide) [(0, .ref (xad X o)), (1, .int r2), (2, .int r8)] [1, 2, 0] rfl ?_
      refine r_aload_n ok dX6_wander_41 0 rfl ?_
      refine r_iload_n ok dX6_wander_42 2 rfl ?_
      refine r_iconst (v := 1) ok dX6_wander_43 rfl ?_
      refine r_iadd ok dX6_wander_44 ?_
      refine cl_X6_97 ok ho dX6_wander_45 (by decide) (Nat.le_of_ble_eq_true rfl) h (fun r10 S9 h => ?_)
      refine r_istore_n ok dX6_wander_48 (by decide) [(0, .ref (xad X o)), (1, .int r2), (2, .int r8), (3, .int r10)] [1, 2, 3, 0] rfl ?_
      refine r_iload_n ok dX6_wander_49 3 rfl ?_
      refine r_iload_n ok dX6_wander_50 2 rfl ?_
      refine r_icmp_ne (tgt := 61) ok dX6_wander_51 rfl (fun hc11 => ?_) (fun hc11 => ?_)
      · replace h := h.1 hc11
        refine r_aload_n ok dX6_wander_61 0 rfl ?_
        refine r_aload_n ok dX6_wander_62 0 rfl ?_
        refine gf_X6_30 ok ho dX6_wander_63 ?_
        refine r_iload_n ok dX6_wander_66 1 rfl ?_
        refine r_iald ok ((ho).a4 3 (by decide)) h.1 rfl dX6_wander_67 ?_
        replace h := h.2
        refine r_iload_n ok dX6_wander_68 3 rfl ?_
        refine cl_X6_111 ok ho dX6_wander_69 (by decide) (Nat.le_of_ble_eq_true rfl) h (fun r13 S12 h => ?_)
        refine r_istore ok dX6_wander_72 (by decide) [(0, .ref (xad X o)), (1, .int r2), (4, .int r13)] [1, 2, 0] rfl ?_
        refine r_iload ok dX6_wander_74 2 rfl ?_
        refine r_iconst (v := (-1)) ok dX6_wander_76 rfl ?_
        refine r_icmp_eq (tgt := 99) ok dX6_wander_77 rfl (fun hc14 => ?_) (fun hc14 => ?_)
        · replace h := h.1 hc14
          exact hret _ _ _ dX6_wander_99 h
        · replace h := h.2 hc14
          refine r_aload_n ok dX6_wander_80 0 rfl ?_
          refine r_iload_n ok dX6_wander_81 1 rfl ?_
          refine r_iload ok dX6_wander_82 2 rfl ?_
          refine r_aload_n ok dX6_wander_84 0 rfl ?_
          refine r_aload_n ok dX6_wander_85 0 rfl ?_
          refine gf_X6_33 ok ho dX6_wander_86 ?_
          refine r_iload_n ok dX6_wander_89 1 rfl ?_
          refine r_iald ok ((ho).a4 4 (by decide)) h.1 rfl dX6_wander_90 ?_
          replace h := h.2
          refine r_iconst (v := 1) ok dX6_wander_91 rfl ?_
          refine r_iadd ok dX6_wander_92 ?_
          refine cl_X6_97 ok ho dX6_wander_93 (by decide) (Nat.le_of_ble_eq_true rfl) h (fun r16 S15 h => ?_)
          refine cl_X6_114 ok ho dX6_wander_96 (by decide) (Nat.le_of_ble_eq_true rfl) h (fun S17 h => ?_)
          exact hret _ _ _ dX6_wander_99 h
      · replace h := h.2 hc11
        refine r_aload_n ok dX6_wander_54 0 rfl ?_
        refine r_iload_n ok dX6_wander_55 1 rfl ?_
        refine r_iconst (v := 1) ok dX6_wander_56 rfl ?_
        refine cl_X6_107 ok ho dX6_wander_57 (by decide) (Nat.le_of_ble_eq_true rfl) h (fun S18 h => ?_)
        exact hret _ _ _ dX6_wander_60 h
    · replace h := h.2 hc6
      exact hret _ _ _ dX6_wander_29 h
theorem c_X6_wander (l : Launch) (G : Gx) {o : Nat} (ho : isW o) {S : St} {post : St → Prop} (h : wp_X6_wander o S post) : MtV l yX6_wander cX6_wander 5 3 73 G [.ref (G.2.2 o)] S post :=
  ctV (by decide) rfl (Nat.le_of_ble_eq_true rfl) (fun X _ hG ok hret => by subst hG; exact w_wp_X6_wander ok hret ho h)

/-! HasteRoads$World.greatestMinute()I -/
theorem dX6_greatestMinute_0 : decode cX6_greatestMinute 0 = .ok (.iconst 0, 1) := by decide +kernel
theorem dX6_greatestMinute_1 : decode cX6_greatestMinute 1 = .ok (.istore_n 1, 1) := by decide +kernel
theorem dX6_greatestMinute_2 : decode cX6_greatestMinute 2 = .ok (.iconst 0, 1) := by decide +kernel
theorem dX6_greatestMinute_3 : decode cX6_greatestMinute 3 = .ok (.istore_n 2, 1) := by decide +kernel
theorem dX6_greatestMinute_4 : decode cX6_greatestMinute 4 = .ok (.iload_n 2, 1) := by decide +kernel
theorem dX6_greatestMinute_5 : decode cX6_greatestMinute 5 = .ok (.aload_n 0, 1) := by decide +kernel
theorem dX6_greatestMinute_6 : decode cX6_greatestMinute 6 = .ok (.getfield 49, 3) := by decide +kernel
theorem dX6_greatestMinute_9 : decode cX6_greatestMinute 9 = .ok (.if_icmp .ge 20, 3) := by decide +kernel
theorem dX6_greatestMinute_12 : decode cX6_greatestMinute 12 = .ok (.iload_n 1, 1) := by decide +kernel
theorem dX6_greatestMinute_13 : decode cX6_greatestMinute 13 = .ok (.aload_n 0, 1) := by decide +kernel
theorem dX6_greatestMinute_14 : decode cX6_greatestMinute 14 = .ok (.getfield 39, 3) := by decide +kernel
theorem dX6_greatestMinute_17 : decode cX6_greatestMinute 17 = .ok (.iload_n 2, 1) := by decide +kernel
theorem dX6_greatestMinute_18 : decode cX6_greatestMinute 18 = .ok (.iaload, 1) := by decide +kernel
theorem dX6_greatestMinute_19 : decode cX6_greatestMinute 19 = .ok (.invokestatic 71, 3) := by decide +kernel
theorem dX6_greatestMinute_22 : decode cX6_greatestMinute 22 = .ok (.istore_n 1, 1) := by decide +kernel
theorem dX6_greatestMinute_23 : decode cX6_greatestMinute 23 = .ok (.iinc 2 1, 3) := by decide +kernel
theorem dX6_greatestMinute_26 : decode cX6_greatestMinute 26 = .ok (.goto (-22), 3) := by decide +kernel
theorem dX6_greatestMinute_29 : decode cX6_greatestMinute 29 = .ok (.iload_n 1, 1) := by decide +kernel
theorem dX6_greatestMinute_30 : decode cX6_greatestMinute 30 = .ok (.ireturn, 1) := by decide +kernel

def BD_X6_greatestMinute_4 (k4 : Int32 → Int32 → St → Prop) (post : Int32 → St → Prop) (o : Nat) (x1 : Int32) (x2 : Int32) (S : St) : Prop :=
  (((S o 2) ≤ x2 → post x1 S) ∧ (¬ (S o 2) ≤ x2 → vp_in x2 4 ∧ (∀ v2 : Int32, v2 = (if x1 < (S (o + 10) (ix x2)) then (S (o + 10) (ix x2)) else x1) → k4 v2 (x2 + 1) S)))
def L_X6_greatestMinute_4 (post : Int32 → St → Prop) (o : Nat) (n : Nat) : Int32 → Int32 → St → Prop := Nat.rec (motive := fun _ => Int32 → Int32 → St → Prop) (fun _ _ _ => False) (fun _ ih => BD_X6_greatestMinute_4 ih post o) n
def B_X6_greatestMinute_4 (post : Int32 → St → Prop) (o : Nat) (x1 : Int32) (x2 : Int32) (S : St) : Prop := ∃ n, L_X6_greatestMinute_4 post o n x1 x2 S
def wp_X6_greatestMinute (o : Nat) (S : St) (post : Int32 → St → Prop) : Prop :=
  B_X6_greatestMinute_4 post o 0 0 S
theorem w_B_X6_greatestMinute_4 {X : Cx} (ok : Ok X cX6_greatestMinute 3 RX6 1 21) {post : Int32 → St → Prop} (hret : RetI X cX6_greatestMinute 3 post) {o : Nat} (ho : isW o) {x1 x2 : Int32} {S : St} (h : B_X6_greatestMinute_4 post o x1 x2 S) : Wp X 3 4 [(0, .ref (xad X o)), (1, .int x1), (2, .int x2)] [] S := by
  obtain ⟨n, h⟩ := h
  induction n generalizing x1 x2 S with
  | zero => exact False.elim h
  | succ n ih =>
    have hk4 : ∀ x1 x2 S, L_X6_greatestMinute_4 post o n x1 x2 S → Wp X 3 4 [(0, .ref (xad X o)), (1, .int x1), (2, .int x2)] [] S := by intros; apply ih; assumption
    replace h : BD_X6_greatestMinute_4 (L_X6_greatestMinute_4 post o n) post o x1 x2 S := h
    unfold BD_X6_greatestMinute_4 at h
    generalize L_X6_greatestMinute_4 post o n = k4 at h hk4
    refine r_iload_n ok dX6_greatestMinute_4 2 rfl ?_
    refine r_aload_n ok dX6_greatestMinute_5 0 rfl ?_
    refine gf_X6_49 ok ho dX6_greatestMinute_6 ?_
    refine r_icmp_ge (tgt := 29) ok dX6_greatestMinute_9 rfl (fun hc1 => ?_) (fun hc1 => ?_)
    · replace h := h.1 hc1
      refine r_iload_n ok dX6_greatestMinute_29 1 rfl ?_
      exact hret _ _ _ _ dX6_greatestMinute_30 h
    · replace h := h.2 hc1
      refine r_iload_n ok dX6_greatestMinute_12 1 rfl ?_
      refine r_aload_n ok dX6_greatestMinute_13 0 rfl ?_
      refine gf_X6_39 ok ho dX6_greatestMinute_14 ?_
      refine r_iload_n ok dX6_greatestMinute_17 2 rfl ?_
      refine r_iald ok ((ho).a4 6 (by decide)) h.1 rfl dX6_greatestMinute_18 ?_
      replace h := h.2
      refine r_max ok dX6_greatestMinute_19 tw_ml_X6_71 tw_st_Math_max tw_in_Math tw_co_Math_max (by decide) (Nat.le_of_ble_eq_true rfl) ?_
      refine r_top (fun v2 ev2 => ?_)
      replace h := h v2 ev2
      refine r_istore_n ok dX6_greatestMinute_22 (by decide) [(0, .ref (xad X o)), (1, .int v2), (2, .int x2)] [1, 0, 2] rfl ?_
      refine r_iinc (v := x2 + 1) ok dX6_greatestMinute_23 2 rfl rfl (by decide) [(0, .ref (xad X o)), (1, .int v2), (2, .int (x2 + 1))] [1, 2, 0] rfl ?_
      refine r_goto (tgt := 4) ok dX6_greatestMinute_26 rfl ?_
      exact hk4 _ _ _ h
theorem w_wp_X6_greatestMinute {X : Cx} (ok : Ok X cX6_greatestMinute 3 RX6 1 21) {post : Int32 → St → Prop} (hret : RetI X cX6_greatestMinute 3 post) {o : Nat} (ho : isW o) {S : St} (h : wp_X6_greatestMinute o S post) : Wp X 3 0 [(0, .ref (xad X o))] [] S := by
  unfold wp_X6_greatestMinute at h
  refine r_iconst (v := 0) ok dX6_greatestMinute_0 rfl ?_
  refine r_istore_n ok dX6_greatestMinute_1 (by decide) [(0, .ref (xad X o)), (1, .int 0)] [1, 0] rfl ?_
  refine r_iconst (v := 0) ok dX6_greatestMinute_2 rfl ?_
  refine r_istore_n ok dX6_greatestMinute_3 (by decide) [(0, .ref (xad X o)), (1, .int 0), (2, .int 0)] [1, 2, 0] rfl ?_
  exact w_B_X6_greatestMinute_4 ok hret ho h
theorem c_X6_greatestMinute (l : Launch) (G : Gx) {o : Nat} (ho : isW o) {S : St} {post : Int32 → St → Prop} (h : wp_X6_greatestMinute o S post) : MtI l yX6_greatestMinute cX6_greatestMinute 3 (some .int) 1 21 G [.ref (G.2.2 o)] S post :=
  ctI (by decide) rfl (Nat.le_of_ble_eq_true rfl) (fun X _ hG ok hret => by subst hG; exact w_wp_X6_greatestMinute ok hret ho h)

/-! HasteRoads$World.allPlaces()I -/
theorem dX6_allPlaces_0 : decode cX6_allPlaces 0 = .ok (.iconst 1, 1) := by decide +kernel
theorem dX6_allPlaces_1 : decode cX6_allPlaces 1 = .ok (.aload_n 0, 1) := by decide +kernel
theorem dX6_allPlaces_2 : decode cX6_allPlaces 2 = .ok (.getfield 42, 3) := by decide +kernel
theorem dX6_allPlaces_5 : decode cX6_allPlaces 5 = .ok (.ishl, 1) := by decide +kernel
theorem dX6_allPlaces_6 : decode cX6_allPlaces 6 = .ok (.iconst 1, 1) := by decide +kernel
theorem dX6_allPlaces_7 : decode cX6_allPlaces 7 = .ok (.isub, 1) := by decide +kernel
theorem dX6_allPlaces_8 : decode cX6_allPlaces 8 = .ok (.ireturn, 1) := by decide +kernel

def wp_X6_allPlaces (o : Nat) (S : St) (post : Int32 → St → Prop) : Prop :=
  post (((1 : Int32) <<< ((S o 0) &&& 31)) - 1) S
theorem w_wp_X6_allPlaces {X : Cx} (ok : Ok X cX6_allPlaces 1 RX6 0 0) {post : Int32 → St → Prop} (hret : RetI X cX6_allPlaces 1 post) {o : Nat} (ho : isW o) {S : St} (h : wp_X6_allPlaces o S post) : Wp X 1 0 [(0, .ref (xad X o))] [] S := by
  unfold wp_X6_allPlaces at h
  refine r_iconst (v := 1) ok dX6_allPlaces_0 rfl ?_
  refine r_aload_n ok dX6_allPlaces_1 0 rfl ?_
  refine gf_X6_42 ok ho dX6_allPlaces_2 ?_
  refine r_ishl ok dX6_allPlaces_5 ?_
  refine r_iconst (v := 1) ok dX6_allPlaces_6 rfl ?_
  refine r_isub ok dX6_allPlaces_7 ?_
  exact hret _ _ _ _ dX6_allPlaces_8 h
theorem c_X6_allPlaces (l : Launch) (G : Gx) {o : Nat} (ho : isW o) {S : St} {post : Int32 → St → Prop} (h : wp_X6_allPlaces o S post) : MtI l yX6_allPlaces cX6_allPlaces 1 (some .int) 0 0 G [.ref (G.2.2 o)] S post :=
  ctI (by decide) rfl (Nat.le_of_ble_eq_true rfl) (fun X _ hG ok hret => by subst hG; exact w_wp_X6_allPlaces ok hret ho h)
