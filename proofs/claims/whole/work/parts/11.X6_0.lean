/-! HasteRoads$World.clear()V -/
theorem dX6_clear_0 : decode cX6_clear 0 = .ok (.aload_n 0, 1) := by decide +kernel
theorem dX6_clear_1 : decode cX6_clear 1 = .ok (.iconst 0, 1) := by decide +kernel
theorem dX6_clear_2 : decode cX6_clear 2 = .ok (.putfield 42, 3) := by decide +kernel
theorem dX6_clear_5 : decode cX6_clear 5 = .ok (.aload_n 0, 1) := by decide +kernel
theorem dX6_clear_6 : decode cX6_clear 6 = .ok (.iconst 0, 1) := by decide +kernel
theorem dX6_clear_7 : decode cX6_clear 7 = .ok (.putfield 46, 3) := by decide +kernel
theorem dX6_clear_10 : decode cX6_clear 10 = .ok (.aload_n 0, 1) := by decide +kernel
theorem dX6_clear_11 : decode cX6_clear 11 = .ok (.iconst 0, 1) := by decide +kernel
theorem dX6_clear_12 : decode cX6_clear 12 = .ok (.putfield 49, 3) := by decide +kernel
theorem dX6_clear_15 : decode cX6_clear 15 = .ok (.aload_n 0, 1) := by decide +kernel
theorem dX6_clear_16 : decode cX6_clear 16 = .ok (.iconst 0, 1) := by decide +kernel
theorem dX6_clear_17 : decode cX6_clear 17 = .ok (.putfield 52, 3) := by decide +kernel
theorem dX6_clear_20 : decode cX6_clear 20 = .ok (.aload_n 0, 1) := by decide +kernel
theorem dX6_clear_21 : decode cX6_clear 21 = .ok (.iconst 0, 1) := by decide +kernel
theorem dX6_clear_22 : decode cX6_clear 22 = .ok (.putfield 55, 3) := by decide +kernel
theorem dX6_clear_25 : decode cX6_clear 25 = .ok (.return_, 1) := by decide +kernel
theorem pf_X6_42 {X : Cx} {cc : ByteArray} {nL pc fr lo : Nat} {L : List (Nat × Value)} {st : List Value} {S : St} {v : Int32} (ok : Ok X cc nL RX6 fr lo) {o : Nat} (ho : isW o) (d : decode cc pc = .ok (.putfield 42, 3)) (k : ∀ S1 : St, S1 = up S o 0 v → Wp X nL (pc + 3) L st S1) : Wp X nL pc L (.int v :: .ref (xad X o) :: st) S :=
  r_put (C := RX6) (T := TX6) ok ho.ob rfl i_X6 tyX6 tyX6_ok nmX6 0 (by decide) tw_fl_X6_42 rfl rfl (ho.ri 0 (by decide)) d (k _ rfl)
theorem pf_X6_46 {X : Cx} {cc : ByteArray} {nL pc fr lo : Nat} {L : List (Nat × Value)} {st : List Value} {S : St} {v : Int32} (ok : Ok X cc nL RX6 fr lo) {o : Nat} (ho : isW o) (d : decode cc pc = .ok (.putfield 46, 3)) (k : ∀ S1 : St, S1 = up S o 1 v → Wp X nL (pc + 3) L st S1) : Wp X nL pc L (.int v :: .ref (xad X o) :: st) S :=
  r_put (C := RX6) (T := TX6) ok ho.ob rfl i_X6 tyX6 tyX6_ok nmX6 1 (by decide) tw_fl_X6_46 rfl rfl (ho.ri 1 (by decide)) d (k _ rfl)
theorem pf_X6_49 {X : Cx} {cc : ByteArray} {nL pc fr lo : Nat} {L : List (Nat × Value)} {st : List Value} {S : St} {v : Int32} (ok : Ok X cc nL RX6 fr lo) {o : Nat} (ho : isW o) (d : decode cc pc = .ok (.putfield 49, 3)) (k : ∀ S1 : St, S1 = up S o 2 v → Wp X nL (pc + 3) L st S1) : Wp X nL pc L (.int v :: .ref (xad X o) :: st) S :=
  r_put (C := RX6) (T := TX6) ok ho.ob rfl i_X6 tyX6 tyX6_ok nmX6 2 (by decide) tw_fl_X6_49 rfl rfl (ho.ri 2 (by decide)) d (k _ rfl)
theorem pf_X6_52 {X : Cx} {cc : ByteArray} {nL pc fr lo : Nat} {L : List (Nat × Value)} {st : List Value} {S : St} {v : Int32} (ok : Ok X cc nL RX6 fr lo) {o : Nat} (ho : isW o) (d : decode cc pc = .ok (.putfield 52, 3)) (k : ∀ S1 : St, S1 = up S o 3 v → Wp X nL (pc + 3) L st S1) : Wp X nL pc L (.int v :: .ref (xad X o) :: st) S :=
  r_put (C := RX6) (T := TX6) ok ho.ob rfl i_X6 tyX6 tyX6_ok nmX6 3 (by decide) tw_fl_X6_52 rfl rfl (ho.ri 3 (by decide)) d (k _ rfl)
theorem pf_X6_55 {X : Cx} {cc : ByteArray} {nL pc fr lo : Nat} {L : List (Nat × Value)} {st : List Value} {S : St} {v : Int32} (ok : Ok X cc nL RX6 fr lo) {o : Nat} (ho : isW o) (d : decode cc pc = .ok (.putfield 55, 3)) (k : ∀ S1 : St, S1 = up S o 4 v → Wp X nL (pc + 3) L st S1) : Wp X nL pc L (.int v :: .ref (xad X o) :: st) S :=
  r_put (C := RX6) (T := TX6) ok ho.ob rfl i_X6 tyX6 tyX6_ok nmX6 4 (by decide) tw_fl_X6_55 rfl rfl (ho.ri 4 (by decide)) d (k _ rfl)
def wp_X6_clear (o : Nat) (S : St) (post : St → Prop) : Prop :=
  ∀ S1 : St, S1 = up S o 0 0 → ∀ S2 : St, S2 = up S1 o 1 0 → ∀ S3 : St, S3 = up S2 o 2 0 → ∀ S4 : St, S4 = up S3 o 3 0 → ∀ S5 : St, S5 = up S4 o 4 0 → post S5
theorem w_wp_X6_clear {X : Cx} (ok : Ok X cX6_clear 1 RX6 0 0) {post : St → Prop} (hret : RetV X cX6_clear 1 post) {o : Nat} (ho : isW o) {S : St} (h : wp_X6_clear o S post) : Wp X 1 0 [(0, .ref (xad X o))] [] S := by
  unfold wp_X6_clear at h
  refine r_aload_n ok dX6_clear_0 0 rfl ?_
  refine r_iconst (v := 0) ok dX6_clear_1 rfl ?_
  refine pf_X6_42 ok ho dX6_clear_2 (fun S1 eS1 => ?_)
  replace h := h S1 eS1
  refine r_aload_n ok dX6_clear_5 0 rfl ?_
  refine r_iconst (v := 0) ok dX6_clear_6 rfl ?_
  refine pf_X6_46 ok ho dX6_clear_7 (fun S2 eS2 => ?_)
  replace h := h S2 eS2
  refine r_aload_n ok dX6_clear_10 0 rfl ?_
  refine r_iconst (v := 0) ok dX6_clear_11 rfl ?_
  refine pf_X6_49 ok ho dX6_clear_12 (fun S3 eS3 => ?_)
  replace h := h S3 eS3
  refine r_aload_n ok dX6_clear_15 0 rfl ?_
  refine r_iconst (v := 0) ok dX6_clear_16 rfl ?_
  refine pf_X6_52 ok ho dX6_clear_17 (fun S4 eS4 => ?_)
  replace h := h S4 eS4
  refine r_aload_n ok dX6_clear_20 0 rfl ?_
  refine r_iconst (v := 0) ok dX6_clear_21 rfl ?_
  refine pf_X6_55 ok ho dX6_clear_22 (fun S5 eS5 => ?_)
  replace h := h S5 eS5
  exact hret _ _ _ dX6_clear_25 h
theorem c_X6_clear (l : Launch) (G : Gx) {o : Nat} (ho : isW o) {S : St} {post : St → Prop} (h : wp_X6_clear o S post) : MtV l yX6_clear cX6_clear 1 0 0 G [.ref (G.2.2 o)] S post :=
  ctV (by decide) rfl (Nat.le_of_ble_eq_true rfl) (fun X _ hG ok hret => by subst hG; exact w_wp_X6_clear ok hret ho h)

/-! HasteRoads$World.become(LHasteRoads$World;)V -/
theorem dX6_become_0 : decode cX6_become 0 = .ok (.aload_n 0, 1) := by decide +kernel
theorem dX6_become_1 : decode cX6_become 1 = .ok (.aload_n 1, 1) := by decide +kernel
theorem dX6_become_2 : decode cX6_become 2 = .ok (.getfield 42, 3) := by decide +kernel
theorem dX6_become_5 : decode cX6_become 5 = .ok (.putfield 42, 3) := by decide +kernel
theorem dX6_become_8 : decode cX6_become 8 = .ok (.aload_n 0, 1) := by decide +kernel
theorem dX6_become_9 : decode cX6_become 9 = .ok (.aload_n 1, 1) := by decide +kernel
theorem dX6_become_10 : decode cX6_become 10 = .ok (.getfield 46, 3) := by decide +kernel
theorem dX6_become_13 : decode cX6_become 13 = .ok (.putfield 46, 3) := by decide +kernel
theorem dX6_become_16 : decode cX6_become 16 = .ok (.aload_n 0, 1) := by decide +kernel
theorem dX6_become_17 : decode cX6_become 17 = .ok (.aload_n 1, 1) := by decide +kernel
theorem dX6_become_18 : decode cX6_become 18 = .ok (.getfield 49, 3) := by decide +kernel
theorem dX6_become_21 : decode cX6_become 21 = .ok (.putfield 49, 3) := by decide +kernel
theorem dX6_become_24 : decode cX6_become 24 = .ok (.aload_n 0, 1) := by decide +kernel
theorem dX6_become_25 : decode cX6_become 25 = .ok (.aload_n 1, 1) := by decide +kernel
theorem dX6_become_26 : decode cX6_become 26 = .ok (.getfield 52, 3) := by decide +kernel
theorem dX6_become_29 : decode cX6_become 29 = .ok (.putfield 52, 3) := by decide +kernel
theorem dX6_become_32 : decode cX6_become 32 = .ok (.aload_n 0, 1) := by decide +kernel
theorem dX6_become_33 : decode cX6_become 33 = .ok (.aload_n 1, 1) := by decide +kernel
theorem dX6_become_34 : decode cX6_become 34 = .ok (.getfield 55, 3) := by decide +kernel
theorem dX6_become_37 : decode cX6_become 37 = .ok (.putfield 55, 3) := by decide +kernel
theorem dX6_become_40 : decode cX6_become 40 = .ok (.aload_n 0, 1) := by decide +kernel
theorem dX6_become_41 : decode cX6_become 41 = .ok (.aload_n 1, 1) := by decide +kernel
theorem dX6_become_42 : decode cX6_become 42 = .ok (.getfield 58, 3) := by decide +kernel
theorem dX6_become_45 : decode cX6_become 45 = .ok (.putfield 58, 3) := by decide +kernel
theorem dX6_become_48 : decode cX6_become 48 = .ok (.aload_n 1, 1) := by decide +kernel
theorem dX6_become_49 : decode cX6_become 49 = .ok (.getfield 9, 3) := by decide +kernel
theorem dX6_become_52 : decode cX6_become 52 = .ok (.iconst 0, 1) := by decide +kernel
theorem dX6_become_53 : decode cX6_become 53 = .ok (.aload_n 0, 1) := by decide +kernel
theorem dX6_become_54 : decode cX6_become 54 = .ok (.getfield 9, 3) := by decide +kernel
theorem dX6_become_57 : decode cX6_become 57 = .ok (.iconst 0, 1) := by decide +kernel
theorem dX6_become_58 : decode cX6_become 58 = .ok (.bipush 9, 2) := by decide +kernel
theorem dX6_become_60 : decode cX6_become 60 = .ok (.invokestatic 61, 3) := by decide +kernel
theorem dX6_become_63 : decode cX6_become 63 = .ok (.aload_n 1, 1) := by decide +kernel
theorem dX6_become_64 : decode cX6_become 64 = .ok (.getfield 15, 3) := by decide +kernel
theorem dX6_become_67 : decode cX6_become 67 = .ok (.iconst 0, 1) := by decide +kernel
theorem dX6_become_68 : decode cX6_become 68 = .ok (.aload_n 0, 1) := by decide +kernel
theorem dX6_become_69 : decode cX6_become 69 = .ok (.getfield 15, 3) := by decide +kernel
theorem dX6_become_72 : decode cX6_become 72 = .ok (.iconst 0, 1) := by decide +kernel
theorem dX6_become_73 : decode cX6_become 73 = .ok (.bipush 9, 2) := by decide +kernel
theorem dX6_become_75 : decode cX6_become 75 = .ok (.invokestatic 61, 3) := by decide +kernel
theorem dX6_become_78 : decode cX6_become 78 = .ok (.aload_n 1, 1) := by decide +kernel
theorem dX6_become_79 : decode cX6_become 79 = .ok (.getfield 18, 3) := by decide +kernel
theorem dX6_become_82 : decode cX6_become 82 = .ok (.iconst 0, 1) := by decide +kernel
theorem dX6_become_83 : decode cX6_become 83 = .ok (.aload_n 0, 1) := by decide +kernel
theorem dX6_become_84 : decode cX6_become 84 = .ok (.getfield 18, 3) := by decide +kernel
theorem dX6_become_87 : decode cX6_become 87 = .ok (.iconst 0, 1) := by decide +kernel
theorem dX6_become_88 : decode cX6_become 88 = .ok (.bipush 9, 2) := by decide +kernel
theorem dX6_become_90 : decode cX6_become 90 = .ok (.invokestatic 61, 3) := by decide +kernel
theorem dX6_become_93 : decode cX6_become 93 = .ok (.aload_n 1, 1) := by decide +kernel
theorem dX6_become_94 : decode cX6_become 94 = .ok (.getfield 21, 3) := by decide +kernel
theorem dX6_become_97 : decode cX6_become 97 = .ok (.iconst 0, 1) := by decide +kernel
theorem dX6_become_98 : decode cX6_become 98 = .ok (.aload_n 0, 1) := by decide +kernel
theorem dX6_become_99 : decode cX6_become 99 = .ok (.getfield 21, 3) := by decide +kernel
theorem dX6_become_102 : decode cX6_become 102 = .ok (.iconst 0, 1) := by decide +kernel
theorem dX6_become_103 : decode cX6_become 103 = .ok (.iconst 4, 1) := by decide +kernel
theorem dX6_become_104 : decode cX6_become 104 = .ok (.invokestatic 61, 3) := by decide +kernel
theorem dX6_become_107 : decode cX6_become 107 = .ok (.aload_n 1, 1) := by decide +kernel
theorem dX6_become_108 : decode cX6_become 108 = .ok (.getfield 24, 3) := by decide +kernel
theorem dX6_become_111 : decode cX6_become 111 = .ok (.iconst 0, 1) := by decide +kernel
theorem dX6_become_112 : decode cX6_become 112 = .ok (.aload_n 0, 1) := by decide +kernel
theorem dX6_become_113 : decode cX6_become 113 = .ok (.getfield 24, 3) := by decide +kernel
theorem dX6_become_116 : decode cX6_become 116 = .ok (.iconst 0, 1) := by decide +kernel
theorem dX6_become_117 : decode cX6_become 117 = .ok (.iconst 4, 1) := by decide +kernel
theorem dX6_become_118 : decode cX6_become 118 = .ok (.invokestatic 61, 3) := by decide +kernel
theorem dX6_become_121 : decode cX6_become 121 = .ok (.aload_n 1, 1) := by decide +kernel
theorem dX6_become_122 : decode cX6_become 122 = .ok (.getfield 27, 3) := by decide +kernel
theorem dX6_become_125 : decode cX6_become 125 = .ok (.iconst 0, 1) := by decide +kernel
theorem dX6_become_126 : decode cX6_become 126 = .ok (.aload_n 0, 1) := by decide +kernel
theorem dX6_become_127 : decode cX6_become 127 = .ok (.getfield 27, 3) := by decide +kernel
theorem dX6_become_130 : decode cX6_become 130 = .ok (.iconst 0, 1) := by decide +kernel
theorem dX6_become_131 : decode cX6_become 131 = .ok (.iconst 4, 1) := by decide +kernel
theorem dX6_become_132 : decode cX6_become 132 = .ok (.invokestatic 61, 3) := by decide +kernel
theorem dX6_become_135 : decode cX6_become 135 = .ok (.aload_n 1, 1) := by decide +kernel
theorem dX6_become_136 : decode cX6_become 136 = .ok (.getfield 30, 3) := by decide +kernel
theorem dX6_become_139 : decode cX6_become 139 = .ok (.iconst 0, 1) := by decide +kernel
theorem dX6_become_140 : decode cX6_become 140 = .ok (.aload_n 0, 1) := by decide +kernel
theorem dX6_become_141 : decode cX6_become 141 = .ok (.getfield 30, 3) := by decide +kernel
theorem dX6_become_144 : decode cX6_become 144 = .ok (.iconst 0, 1) := by decide +kernel
theorem dX6_become_145 : decode cX6_become 145 = .ok (.iconst 4, 1) := by decide +kernel
theorem dX6_become_146 : decode cX6_become 146 = .ok (.invokestatic 61, 3) := by decide +kernel
theorem dX6_become_149 : decode cX6_become 149 = .ok (.aload_n 1, 1) := by decide +kernel
theorem dX6_become_150 : decode cX6_become 150 = .ok (.getfield 33, 3) := by decide +kernel
theorem dX6_become_153 : decode cX6_become 153 = .ok (.iconst 0, 1) := by decide +kernel
theorem dX6_become_154 : decode cX6_become 154 = .ok (.aload_n 0, 1) := by decide +kernel
theorem dX6_become_155 : decode cX6_become 155 = .ok (.getfield 33, 3) := by decide +kernel
theorem dX6_become_158 : decode cX6_become 158 = .ok (.iconst 0, 1) := by decide +kernel
theorem dX6_become_159 : decode cX6_become 159 = .ok (.iconst 4, 1) := by decide +kernel
theorem dX6_become_160 : decode cX6_become 160 = .ok (.invokestatic 61, 3) := by decide +kernel
theorem dX6_become_163 : decode cX6_become 163 = .ok (.aload_n 1, 1) := by decide +kernel
theorem dX6_become_164 : decode cX6_become 164 = .ok (.getfield 36, 3) := by decide +kernel
theorem dX6_become_167 : decode cX6_become 167 = .ok (.iconst 0, 1) := by decide +kernel
theorem dX6_become_168 : decode cX6_become 168 = .ok (.aload_n 0, 1) := by decide +kernel
theorem dX6_become_169 : decode cX6_become 169 = .ok (.getfield 36, 3) := by decide +kernel
theorem dX6_become_172 : decode cX6_become 172 = .ok (.iconst 0, 1) := by decide +kernel
theorem dX6_become_173 : decode cX6_become 173 = .ok (.iconst 4, 1) := by decide +kernel
theorem dX6_become_174 : decode cX6_become 174 = .ok (.invokestatic 61, 3) := by decide +kernel
theorem dX6_become_177 : decode cX6_become 177 = .ok (.aload_n 1, 1) := by decide +kernel
theorem dX6_become_178 : decode cX6_become 178 = .ok (.getfield 39, 3) := by decide +kernel
theorem dX6_become_181 : decode cX6_become 181 = .ok (.iconst 0, 1) := by decide +kernel
theorem dX6_become_182 : decode cX6_become 182 = .ok (.aload_n 0, 1) := by decide +kernel
theorem dX6_become_183 : decode cX6_become 183 = .ok (.getfield 39, 3) := by decide +kernel
theorem dX6_become_186 : decode cX6_become 186 = .ok (.iconst 0, 1) := by decide +kernel
theorem dX6_become_187 : decode cX6_become 187 = .ok (.iconst 4, 1) := by decide +kernel
theorem dX6_become_188 : decode cX6_become 188 = .ok (.invokestatic 61, 3) := by decide +kernel
theorem dX6_become_191 : decode cX6_become 191 = .ok (.return_, 1) := by decide +kernel
theorem gf_X6_42 {X : Cx} {cc : ByteArray} {nL pc fr lo : Nat} {L : List (Nat × Value)} {st : List Value} {S : St} (ok : Ok X cc nL RX6 fr lo) {o : Nat} (ho : isW o) (d : decode cc pc = .ok (.getfield 42, 3)) (k : Wp X nL (pc + 3) L (.int (S o 0) :: st) S) : Wp X nL pc L (.ref (xad X o) :: st) S :=
  r_get (C := RX6) (T := TX6) ok ho.ob rfl i_X6 0 (by decide) tw_fl_X6_42 d (by rw [show fvl (xad X) S o 0 = .int (S o 0) from (fvl_int (ho.ri 0 (by decide)))]; exact k)
theorem gf_X6_46 {X : Cx} {cc : ByteArray} {nL pc fr lo : Nat} {L : List (Nat × Value)} {st : List Value} {S : St} (ok : Ok X cc nL RX6 fr lo) {o : Nat} (ho : isW o) (d : decode cc pc = .ok (.getfield 46, 3)) (k : Wp X nL (pc + 3) L (.int (S o 1) :: st) S) : Wp X nL pc L (.ref (xad X o) :: st) S :=
  r_get (C := RX6) (T := TX6) ok ho.ob rfl i_X6 1 (by decide) tw_fl_X6_46 d (by rw [show fvl (xad X) S o 1 = .int (S o 1) from (fvl_int (ho.ri 1 (by decide)))]; exact k)
theorem gf_X6_49 {X : Cx} {cc : ByteArray} {nL pc fr lo : Nat} {L : List (Nat × Value)} {st : List Value} {S : St} (ok : Ok X cc nL RX6 fr lo) {o : Nat} (ho : isW o) (d : decode cc pc = .ok (.getfield 49, 3)) (k : Wp X nL (pc + 3) L (.int (S o 2) :: st) S) : Wp X nL pc L (.ref (xad X o) :: st) S :=
  r_get (C := RX6) (T := TX6) ok ho.ob rfl i_X6 2 (by decide) tw_fl_X6_49 d (by rw [show fvl (xad X) S o 2 = .int (S o 2) from (fvl_int (ho.ri 2 (by decide)))]; exact k)
theorem gf_X6_52 {X : Cx} {cc : ByteArray} {nL pc fr lo : Nat} {L : List (Nat × Value)} {st : List Value} {S : St} (ok : Ok X cc nL RX6 fr lo) {o : Nat} (ho : isW o) (d : decode cc pc = .ok (.getfield 52, 3)) (k : Wp X nL (pc + 3) L (.int (S o 3) :: st) S) : Wp X nL pc L (.ref (xad X o) :: st) S :=
  r_get (C := RX6) (T := TX6) ok ho.ob rfl i_X6 3 (by decide) tw_fl_X6_52 d (by rw [show fvl (xad X) S o 3 = .int (S o 3) from (fvl_int (ho.ri 3 (by decide)))]; exact k)
theorem gf_X6_55 {X : Cx} {cc : ByteArray} {nL pc fr lo : Nat} {L : List (Nat × Value)} {st : List Value} {S : St} (ok : Ok X cc nL RX6 fr lo) {o : Nat} (ho : isW o) (d : decode cc pc = .ok (.getfield 55, 3)) (k : Wp X nL (pc + 3) L (.int (S o 4) :: st) S) : Wp X nL pc L (.ref (xad X o) :: st) S :=
  r_get (C := RX6) (T := TX6) ok ho.ob rfl i_X6 4 (by decide) tw_fl_X6_55 d (by rw [show fvl (xad X) S o 4 = .int (S o 4) from (fvl_int (ho.ri 4 (by decide)))]; exact k)
theorem gf_X6_58 {X : Cx} {cc : ByteArray} {nL pc fr lo : Nat} {L : List (Nat × Value)} {st : List Value} {S : St} (ok : Ok X cc nL RX6 fr lo) {o : Nat} (ho : isW o) (d : decode cc pc = .ok (.getfield 58, 3)) (k : Wp X nL (pc + 3) L (.int (S o 5) :: st) S) : Wp X nL pc L (.ref (xad X o) :: st) S :=
  r_get (C := RX6) (T := TX6) ok ho.ob rfl i_X6 5 (by decide) tw_fl_X6_58 d (by rw [show fvl (xad X) S o 5 = .int (S o 5) from (fvl_int (ho.ri 5 (by decide)))]; exact k)
theorem gf_X6_9 {X : Cx} {cc : ByteArray} {nL pc fr lo : Nat} {L : List (Nat × Value)} {st : List Value} {S : St} (ok : Ok X cc nL RX6 fr lo) {o : Nat} (ho : isW o) (d : decode cc pc = .ok (.getfield 9, 3)) (k : Wp X nL (pc + 3) L (.ref (xad X (o + 1)) :: st) S) : Wp X nL pc L (.ref (xad X o) :: st) S :=
  r_get (C := RX6) (T := TX6) ok ho.ob rfl i_X6 6 (by decide) tw_fl_X6_9 d (by rw [show fvl (xad X) S o 6 = .ref (xad X (o + 1)) from (fvl_ref (d := o + 1) (ho.rr 0 (by decide)))]; exact k)
theorem gf_X6_15 {X : Cx} {cc : ByteArray} {nL pc fr lo : Nat} {L : List (Nat × Value)} {st : List Value} {S : St} (ok : Ok X cc nL RX6 fr lo) {o : Nat} (ho : isW o) (d : decode cc pc = .ok (.getfield 15, 3)) (k : Wp X nL (pc + 3) L (.ref (xad X (o + 2)) :: st) S) : Wp X nL pc L (.ref (xad X o) :: st) S :=
  r_get (C := RX6) (T := TX6) ok ho.ob rfl i_X6 7 (by decide) tw_fl_X6_15 d (by rw [show fvl (xad X) S o 7 = .ref (xad X (o + 2)) from (fvl_ref (d := o + 2) (ho.rr 1 (by decide)))]; exact k)
theorem gf_X6_18 {X : Cx} {cc : ByteArray} {nL pc fr lo : Nat} {L : List (Nat × Value)} {st : List Value} {S : St} (ok : Ok X cc nL RX6 fr lo) {o : Nat} (ho : isW o) (d : decode cc pc = .ok (.getfield 18, 3)) (k : Wp X nL (pc + 3) L (.ref (xad X (o + 3)) :: st) S) : Wp X nL pc L (.ref (xad X o) :: st) S :=
  r_get (C := RX6) (T := TX6) ok ho.ob rfl i_X6 8 (by decide) tw_fl_X6_18 d (by rw [show fvl (xad X) S o 8 = .ref (xad X (o + 3)) from (fvl_ref (d := o + 3) (ho.rr 2 (by decide)))]; exact k)
theorem gf_X6_21 {X : Cx} {cc : ByteArray} {nL pc fr lo : Nat} {L : List (Nat × Value)} {st : List Value} {S : St} (ok : Ok X cc nL RX6 fr lo) {o : Nat} (ho : isW o) (d : decode cc pc = .ok (.getfield 21, 3)) (k : Wp X nL (pc + 3) L (.ref (xad X (o + 4)) :: st) S) : Wp X nL pc L (.ref (xad X o) :: st) S :=
  r_get (C := RX6) (T := TX6) ok ho.ob rfl i_X6 9 (by decide) tw_fl_X6_21 d (by rw [show fvl (xad X) S o 9 = .ref (xad X (o + 4)) from (fvl_ref (d := o + 4) (ho.rr 3 (by decide)))]; exact k)
theorem gf_X6_24 {X : Cx} {cc : ByteArray} {nL pc fr lo : Nat} {L : List (Nat × Value)} {st : List Value} {S : St} (ok : Ok X cc nL RX6 fr lo) {o : Nat} (ho : isW o) (d : decode cc pc = .ok (.getfield 24, 3)) (k : Wp X nL (pc + 3) L (.ref (xad X (o + 5)) :: st) S) : Wp X nL pc L (.ref (xad X o) :: st) S :=
  r_get (C := RX6) (T := TX6) ok ho.ob rfl i_X6 10 (by decide) tw_fl_X6_24 d (by rw [show fvl (xad X) S o 10 = .ref (xad X (o + 5)) from (fvl_ref (d := o + 5) (ho.rr 4 (by decide)))]; exact k)
theorem gf_X6_27 {X : Cx} {cc : ByteArray} {nL pc fr lo : Nat} {L : List (Nat × Value)} {st : List Value} {S : St} (ok : Ok X cc nL RX6 fr lo) {o : Nat} (ho : isW o) (d : decode cc pc = .ok (.getfield 27, 3)) (k : Wp X nL (pc + 3) L (.ref (xad X (o + 6)) :: st) S) : Wp X nL pc L (.ref (xad X o) :: st) S :=
  r_get (C := RX6) (T := TX6) ok ho.ob rfl i_X6 11 (by decide) tw_fl_X6_27 d (by rw [show fvl (xad X) S o 11 = .ref (xad X (o + 6)) from (fvl_ref (d := o + 6) (ho.rr 5 (by decide)))]; exact k)
theorem gf_X6_30 {X : Cx} {cc : ByteArray} {nL pc fr lo : Nat} {L : List (Nat × Value)} {st : List Value} {S : St} (ok : Ok X cc nL RX6 fr lo) {o : Nat} (ho : isW o) (d : decode cc pc = .ok (.getfield 30, 3)) (k : Wp X nL (pc + 3) L (.ref (xad X (o + 7)) :: st) S) : Wp X nL pc L (.ref (xad X o) :: st) S :=
  r_get (C := RX6) (T := TX6) ok ho.ob rfl i_X6 12 (by decide) tw_fl_X6_30 d (by rw [show fvl (xad X) S o 12 = .ref (xad X (o + 7)) from (fvl_ref (d := o + 7) (ho.rr 6 (by decide)))]; exact k)
theorem gf_X6_33 {X : Cx} {cc : ByteArray} {nL pc fr lo : Nat} {L : List (Nat × Value)} {st : List Value} {S : St} (ok : Ok X cc nL RX6 fr lo) {o : Nat} (ho : isW o) (d : decode cc pc = .ok (.getfield 33, 3)) (k : Wp X nL (pc + 3) L (.ref (xad X (o + 8)) :: st) S) : Wp X nL pc L (.ref (xad X o) :: st) S :=
  r_get (C := RX6) (T := TX6) ok ho.ob rfl i_X6 13 (by decide) tw_fl_X6_33 d (by rw [show fvl (xad X) S o 13 = .ref (xad X (o + 8)) from (fvl_ref (d := o + 8) (ho.rr 7 (by decide)))]; exact k)
theorem gf_X6_36 {X : Cx} {cc : ByteArray} {nL pc fr lo : Nat} {L : List (Nat × Value)} {st : List Value} {S : St} (ok : Ok X cc nL RX6 fr lo) {o : Nat} (ho : isW o) (d : decode cc pc = .ok (.getfield 36, 3)) (k : Wp X nL (pc + 3) L (.ref (xad X (o + 9)) :: st) S) : Wp X nL pc L (.ref (xad X o) :: st) S :=
  r_get (C := RX6) (T := TX6) ok ho.ob rfl i_X6 14 (by decide) tw_fl_X6_36 d (by rw [show fvl (xad X) S o 14 = .ref (xad X (o + 9)) from (fvl_ref (d := o + 9) (ho.rr 8 (by decide)))]; exact k)
theorem gf_X6_39 {X : Cx} {cc : ByteArray} {nL pc fr lo : Nat} {L : List (Nat × Value)} {st : List Value} {S : St} (ok : Ok X cc nL RX6 fr lo) {o : Nat} (ho : isW o) (d : decode cc pc = .ok (.getfield 39, 3)) (k : Wp X nL (pc + 3) L (.ref (xad X (o + 10)) :: st) S) : Wp X nL pc L (.ref (xad X o) :: st) S :=
  r_get (C := RX6) (T := TX6) ok ho.ob rfl i_X6 15 (by decide) tw_fl_X6_39 d (by rw [show fvl (xad X) S o 15 = .ref (xad X (o + 10)) from (fvl_ref (d := o + 10) (ho.rr 9 (by decide)))]; exact k)
theorem pf_X6_58 {X : Cx} {cc : ByteArray} {nL pc fr lo : Nat} {L : List (Nat × Value)} {st : List Value} {S : St} {v : Int32} (ok : Ok X cc nL RX6 fr lo) {o : Nat} (ho : isW o) (d : decode cc pc = .ok (.putfield 58, 3)) (k : ∀ S1 : St, S1 = up S o 5 v → Wp X nL (pc + 3) L st S1) : Wp X nL pc L (.int v :: .ref (xad X o) :: st) S :=
  r_put (C := RX6) (T := TX6) ok ho.ob rfl i_X6 tyX6 tyX6_ok nmX6 5 (by decide) tw_fl_X6_58 rfl rfl (ho.ri 5 (by decide)) d (k _ rfl)
def wp_X6_become (o : Nat) (o2 : Nat) (S : St) (post : St → Prop) : Prop :=
  ∀ S1 : St, S1 = up S o 0 (S o2 0) → ∀ S2 : St, S2 = up S1 o 1 (S1 o2 1) → ∀ S3 : St, S3 = up S2 o 2 (S2 o2 2) → ∀ S4 : St, S4 = up S3 o 3 (S3 o2 3) → ∀ S5 : St, S5 = up S4 o 4 (S4 o2 4) → ∀ S6 : St, S6 = up S5 o 5 (S5 o2 5) → ∀ S7 : St, S7 = cpS S6 (o2 + 1) (o + 1) 9 → ∀ S8 : St, S8 = cpS S7 (o2 + 2) (o + 2) 9 → ∀ S9 : St, S9 = cpS S8 (o2 + 3) (o + 3) 9 → ∀ S10 : St, S10 = cpS S9 (o2 + 4) (o + 4) 4 → ∀ S11 : St, S11 = cpS S10 (o2 + 5) (o + 5) 4 → ∀ S12 : St, S12 = cpS S11 (o2 + 6) (o + 6) 4 → ∀ S13 : St, S13 = cpS S12 (o2 + 7) (o + 7) 4 → ∀ S14 : St, S14 = cpS S13 (o2 + 8) (o + 8) 4 → ∀ S15 : St, S15 = cpS S14 (o2 + 9) (o + 9) 4 → ∀ S16 : St, S16 = cpS S15 (o2 + 10) (o + 10) 4 → post S16
theorem w_wp_X6_become {X : Cx} (ok : Ok X cX6_become 2 RX6 1 26) {post : St → Prop} (hret : RetV X cX6_become 2 post) {o : Nat} (ho : isW o) {o2 : Nat} (ho2 : isW o2) {S : St} (h : wp_X6_become o o2 S post) : Wp X 2 0 [(0, .ref (xad X o)), (1, .ref (xad X o2))] [] S := by
  unfold wp_X6_become at h
  refine r_aload_n ok dX6_become_0 0 rfl ?_
  refine r_aload_n ok dX6_become_1 1 rfl ?_
  refine gf_X6_42 ok ho2 dX6_become_2 ?_
  refine pf_X6_42 ok ho dX6_become_5 (fun S1 eS1 => ?_)
  replace h := h S1 eS1
  refine r_aload_n ok dX6_become_8 0 rfl ?_
  refine r_aload_n ok dX6_become_9 1 rfl ?_
  refine gf_X6_46 ok ho2 dX6_become_10 ?_
  refine pf_X6_46 ok ho dX6_become_13 (fun S2 eS2 => ?_)
  replace h := h S2 eS2
  refine r_aload_n ok dX6_become_16 0 rfl ?_
  refine r_aload_n ok dX6_become_17 1 rfl ?_
  refine gf_X6_49 ok ho2 dX6_become_18 ?_
  refine pf_X6_49 ok ho dX6_become_21 (fun S3 eS3 => ?_)
  replace h := h S3 eS3
  refine r_aload_n ok dX6_become_24 0 rfl ?_
  refine r_aload_n ok dX6_become_25 1 rfl ?_
  refine gf_X6_52 ok ho2 dX6_become_26 ?_
  refine pf_X6_52 ok ho dX6_become_29 (fun S4 eS4 => ?_)
  replace h := h S4 eS4
  refine r_aload_n ok dX6_become_32 0 rfl ?_
  refine r_aload_n ok dX6_become_33 1 rfl ?_
  refine gf_X6_55 ok ho2 dX6_become_34 ?_
  refine pf_X6_55 ok ho dX6_become_37 (fun S5 eS5 => ?_)
  replace h := h S5 eS5
  refine r_aload_n ok dX6_become_40 0 rfl ?_
  refine r_aload_n ok dX6_become_41 1 rfl ?_
  refine gf_X6_58 ok ho2 dX6_become_42 ?_
  refine pf_X6_58 ok ho dX6_become_45 (fun S6 eS6 => ?_)
  replace h := h S6 eS6
  refine r_aload_n ok dX6_become_48 1 rfl ?_
  refine gf_X6_9 ok ho2 dX6_become_49 ?_
  refine r_iconst (v := 0) ok dX6_become_52 rfl ?_
  refine r_aload_n ok dX6_become_53 0 rfl ?_
  refine gf_X6_9 ok ho dX6_become_54 ?_
  refine r_iconst (v := 0) ok dX6_become_57 rfl ?_
  refine r_bipush (v := 9) ok dX6_become_58 rfl ?_
  refine r_copy ok ((ho2).a9 0 (by decide)) ((ho).a9 0 (by decide)) dX6_become_60 tw_ml_X6_61 tw_nat tw_st_Sys_arraycopy tw_in_Sys (by decide) rfl (by decide) (Nat.le_of_ble_eq_true rfl) (fun S7 eS7 => ?_)
  replace h := h S7 eS7
  refine r_aload_n ok dX6_become_63 1 rfl ?_
  refine gf_X6_15 ok ho2 dX6_become_64 ?_
  refine r_iconst (v := 0) ok dX6_become_67 rfl ?_
  refine r_aload_n ok dX6_become_68 0 rfl ?_
  refine gf_X6_15 ok ho dX6_become_69 ?_
  refine r_iconst (v := 0) ok dX6_become_72 rfl ?_
  refine r_bipush (v := 9) ok dX6_become_73 rfl ?_
  refine r_copy ok ((ho2).a9 1 (by decide)) ((ho).a9 1 (by decide)) dX6_become_75 tw_ml_X6_61 tw_nat tw_st_Sys_arraycopy tw_in_Sys (by decide) rfl (by decide) (Nat.le_of_ble_eq_true rfl) (fun S8 eS8 => ?_)
  replace h := h S8 eS8
  refine r_aload_n ok dX6_become_78 1 rfl ?_
  refine gf_X6_18 ok ho2 dX6_become_79 ?_
  refine r_iconst (v := 0) ok dX6_become_82 rfl ?_
  refine r_aload_n ok dX6_become_83 0 rfl ?_
  refine gf_X6_18 ok ho dX6_become_84 ?_
  refine r_iconst (v := 0) ok dX6_become_87 rfl ?_
  refine r_bipush (v := 9) ok dX6_become_88 rfl ?_
  refine r_copy ok ((ho2).a9 2 (by decide)) ((ho).a9 2 (by decide)) dX6_become_90 tw_ml_X6_61 tw_nat tw_st_Sys_arraycopy tw_in_Sys (by decide) rfl (by decide) (Nat.le_of_ble_eq_true rfl) (fun S9 eS9 => ?_)
  replace h := h S9 eS9
  refine r_aload_n ok dX6_become_93 1 rfl ?_
  refine gf_X6_21 ok ho2 dX6_become_94 ?_
  refine r_iconst (v := 0) ok dX6_become_97 rfl ?_
  refine r_aload_n ok dX6_become_98 0 rfl ?_
  refine gf_X6_21 ok ho dX6_become_99 ?_
  refine r_iconst (v := 0) ok dX6_become_102 rfl ?_
  refine r_iconst (v := 4) ok dX6_become_103 rfl ?_
  refine r_copy ok ((ho2).a4 0 (by decide)) ((ho).a4 0 (by decide)) dX6_become_104 tw_ml_X6_61 tw_nat tw_st_Sys_arraycopy tw_in_Sys (by decide) rfl (by decide) (Nat.le_of_ble_eq_true rfl) (fun S10 eS10 => ?_)
  replace h := h S10 eS10
  refine r_aload_n ok dX6_become_107 1 rfl ?_
  refine gf_X6_24 ok ho2 dX6_become_108 ?_
  refine r_iconst (v := 0) ok dX6_become_111 rfl ?_
  refine r_aload_n ok dX6_become_112 0 rfl ?_
  refine gf_X6_24 ok ho dX6_become_113 ?_
  refine r_iconst (v := 0) ok dX6_become_116 rfl ?_
  refine r_iconst (v := 4) ok dX6_become_117 rfl ?_
  refine r_copy ok ((ho2).a4 1 (by decide)) ((ho).a4 1 (by decide)) dX6_become_118 tw_ml_X6_61 tw_nat tw_st_Sys_arraycopy tw_in_Sys (by decide) rfl (by decide) (Nat.le_of_ble_eq_true rfl) (fun S11 eS11 => ?_)
  replace h := h S11 eS11
  refine r_aload_n ok dX6_become_121 1 rfl ?_
  refine gf_X6_27 ok ho2 dX6_become_122 ?_
  refine r_iconst (v := 0) ok dX6_become_125 rfl ?_
  refine r_aload_n ok dX6_become_126 0 rfl ?_
  refine gf_X6_27 ok ho dX6_become_127 ?_
  refine r_iconst (v := 0) ok dX6_become_130 rfl ?_
  refine r_iconst (v := 4) ok dX6_become_131 rfl ?_
  refine r_copy ok ((ho2).a4 2 (by decide)) ((ho).a4 2 (by decide)) dX6_become_132 tw_ml_X6_61 tw_nat tw_st_Sys_arraycopy tw_in_Sys (by decide) rfl (by decide) (Nat.le_of_ble_eq_true rfl) (fun S12 eS12 => ?_)
  replace h := h S12 eS12
  refine r_aload_n ok dX6_become_135 1 rfl ?_
  refine gf_X6_30 ok ho2 dX6_become_136 ?_
  refine r_iconst (v := 0) ok dX6_become_139 rfl ?_
  refine r_aload_n ok dX6_become_140 0 rfl ?_
  refine gf_X6_30 ok ho dX6_become_141 ?_
  refine r_iconst (v := 0) ok dX6_become_144 rfl ?_
  refine r_iconst (v := 4) ok dX6_become_145 rfl ?_
  refine r_copy ok ((ho2).a4 3 (by decide)) ((ho).a4 3 (by decide)) dX6_become_146 tw_ml_X6_61 tw_nat tw_st_Sys_arraycopy tw_in_Sys (by decide) rfl (by decide) (Nat.le_of_ble_eq_true rfl) (fun S13 eS13 => ?_)
  replace h := h S13 eS13
  refine r_aload_n ok dX6_become_149 1 rfl ?_
  refine gf_X6_33 ok ho2 dX6_become_150 ?_
  refine r_iconst (v := 0) ok dX6_become_153 rfl ?_
  refine r_aload_n ok dX6_become_154 0 rfl ?_
  refine gf_X6_33 ok ho dX6_become_155 ?_
  refine r_iconst (v := 0) ok dX6_become_158 rfl ?_
  refine r_iconst (v := 4) ok dX6_become_159 rfl ?_
  refine r_copy ok ((ho2).a4 4 (by decide)) ((ho).a4 4 (by decide)) dX6_become_160 tw_ml_X6_61 tw_nat tw_st_Sys_arraycopy tw_in_Sys (by decide) rfl (by decide) (Nat.le_of_ble_eq_true rfl) (fun S14 eS14 => ?_)
  replace h := h S14 eS14
  refine r_aload_n ok dX6_become_163 1 rfl ?_
  refine gf_X6_36 ok ho2 dX6_become_164 ?_
  refine r_iconst (v := 0) ok dX6_become_167 rfl ?_
  refine r_aload_n ok dX6_become_168 0 rfl ?_
  refine gf_X6_36 ok ho dX6_become_169 ?_
  refine r_iconst (v := 0) ok dX6_become_172 rfl ?_
  refine r_iconst (v := 4) ok dX6_become_173 rfl ?_
  refine r_copy ok ((ho2).a4 5 (by decide)) ((ho).a4 5 (by decide)) dX6_become_174 tw_ml_X6_61 tw_nat tw_st_Sys_arraycopy tw_in_Sys (by decide) rfl (by decide) (Nat.le_of_ble_eq_true rfl) (fun S15 eS15 => ?_)
  replace h := h S15 eS15
  refine r_aload_n ok dX6_become_177 1 rfl ?_
  refine gf_X6_39 ok ho2 dX6_become_178 ?_
  refine r_iconst (v := 0) ok dX6_become_181 rfl ?_
  refine r_aload_n ok dX6_become_182 0 rfl ?_
  refine gf_X6_39 ok ho dX6_become_183 ?_
  refine r_iconst (v := 0) ok dX6_become_186 rfl ?_
  refine r_iconst (v := 4) ok dX6_become_187 rfl ?_
  refine r_copy ok ((ho2).a4 6 (by decide)) ((ho).a4 6 (by decide)) dX6_become_188 tw_ml_X6_61 tw_nat tw_st_Sys_arraycopy tw_in_Sys (by decide) rfl (by decide) (Nat.le_of_ble_eq_true rfl) (fun S16 eS16 => ?_)
  replace h := h S16 eS16
  exact hret _ _ _ dX6_become_191 h
theorem c_X6_become (l : Launch) (G : Gx) {o : Nat} (ho : isW o) {o2 : Nat} (ho2 : isW o2) {S : St} {post : St → Prop} (h : wp_X6_become o o2 S post) : MtV l yX6_become cX6_become 2 1 26 G [.ref (G.2.2 o), .ref (G.2.2 o2)] S post :=
  ctV (by decide) rfl (Nat.le_of_ble_eq_true rfl) (fun X _ hG ok hret => by subst hG; exact w_wp_X6_become ok hret ho ho2 h)

/-! HasteRoads$World.hasRoad(I)Z -/
theorem dX6_hasRoad_0 : decode cX6_hasRoad 0 = .ok (.iload_n 1, 1) := by decide +kernel
theorem dX6_hasRoad_1 : decode cX6_hasRoad 1 = .ok (.ifCond .lt 15, 3) := by decide +kernel
theorem dX6_hasRoad_4 : decode cX6_hasRoad 4 = .ok (.iload_n 1, 1) := by decide +kernel
theorem dX6_hasRoad_5 : decode cX6_hasRoad 5 = .ok (.aload_n 0, 1) := by decide +kernel
theorem dX6_hasRoad_6 : decode cX6_hasRoad 6 = .ok (.getfield 46, 3) := by decide +kernel
theorem dX6_hasRoad_9 : decode cX6_hasRoad 9 = .ok (.if_icmp .ge 7, 3) := by decide +kernel
theorem dX6_hasRoad_12 : decode cX6_hasRoad 12 = .ok (.iconst 1, 1) := by decide +kernel
theorem dX6_hasRoad_13 : decode cX6_hasRoad 13 = .ok (.goto 4, 3) := by decide +kernel
theorem dX6_hasRoad_16 : decode cX6_hasRoad 16 = .ok (.iconst 0, 1) := by decide +kernel
theorem dX6_hasRoad_17 : decode cX6_hasRoad 17 = .ok (.ireturn, 1) := by decide +kernel

def wp_X6_hasRoad (o : Nat) (x1 : Int32) (S : St) (post : Int32 → St → Prop) : Prop :=
  ((x1 < 0 → post 0 S) ∧ (¬ x1 < 0 → (((S o 1) ≤ x1 → post 0 S) ∧ (¬ (S o 1) ≤ x1 → post 1 S))))
theorem w_wp_X6_hasRoad {X : Cx} (ok : Ok X cX6_hasRoad 2 RX6 0 0) {post : Int32 → St → Prop} (hret : RetZ X cX6_hasRoad 2 post) {o : Nat} (ho : isW o) {x1 : Int32} {S : St} (h : wp_X6_hasRoad o x1 S post) : Wp X 2 0 [(0, .ref (xad X o)), (1, .int x1)] [] S := by
  unfold wp_X6_hasRoad at h
  refine r_iload_n ok dX6_hasRoad_0 1 rfl ?_
  refine r_if_lt (tgt := 16) ok dX6_hasRoad_1 rfl (fun hc1 => ?_) (fun hc1 => ?_)
  · replace h := h.1 hc1
    refine r_iconst (v := 0) ok dX6_hasRoad_16 rfl ?_
    exact hret _ _ _ _ dX6_hasRoad_17 (Or.inl rfl) h
  · replace h := h.2 hc1
    refine r_iload_n ok dX6_hasRoad_4 1 rfl ?_
    refine r_aload_n ok dX6_hasRoad_5 0 rfl ?_
    refine gf_X6_46 ok ho dX6_hasRoad_6 ?_
    refine r_icmp_ge (tgt := 16) ok dX6_hasRoad_9 rfl (fun hc2 => ?_) (fun hc2 => ?_)
    · replace h := h.1 hc2
      refine r_iconst (v := 0) ok dX6_hasRoad_16 rfl ?_
      exact hret _ _ _ _ dX6_hasRoad_17 (Or.inl rfl) h
    · replace h := h.2 hc2
      refine r_iconst (v := 1) ok dX6_hasRoad_12 rfl ?_
      refine r_goto (tgt := 17) ok dX6_hasRoad_13 rfl ?_
      exact hret _ _ _ _ dX6_hasRoad_17 (Or.inr rfl) h
theorem c_X6_hasRoad (l : Launch) (G : Gx) {o : Nat} (ho : isW o) {x1 : Int32} {S : St} {post : Int32 → St → Prop} (h : wp_X6_hasRoad o x1 S post) : MtI l yX6_hasRoad cX6_hasRoad 2 (some .boolean) 0 0 G [.ref (G.2.2 o), .int x1] S post :=
  ctZ (by decide) rfl (Nat.le_of_ble_eq_true rfl) (fun X _ hG ok hret => by subst hG; exact w_wp_X6_hasRoad ok hret ho h)

/-! HasteRoads$World.hasPerson(I)Z -/
theorem dX6_hasPerson_0 : decode cX6_hasPerson 0 = .ok (.iload_n 1, 1) := by decide +kernel
theorem dX6_hasPerson_1 : decode cX6_hasPerson 1 = .ok (.ifCond .lt 15, 3) := by decide +kernel
theorem dX6_hasPerson_4 : decode cX6_hasPerson 4 = .ok (.iload_n 1, 1) := by decide +kernel
theorem dX6_hasPerson_5 : decode cX6_hasPerson 5 = .ok (.aload_n 0, 1) := by decide +kernel
theorem dX6_hasPerson_6 : decode cX6_hasPerson 6 = .ok (.getfield 49, 3) := by decide +kernel
theorem dX6_hasPerson_9 : decode cX6_hasPerson 9 = .ok (.if_icmp .ge 7, 3) := by decide +kernel
theorem dX6_hasPerson_12 : decode cX6_hasPerson 12 = .ok (.iconst 1, 1) := by decide +kernel
theorem dX6_hasPerson_13 : decode cX6_hasPerson 13 = .ok (.goto 4, 3) := by decide +kernel
theorem dX6_hasPerson_16 : decode cX6_hasPerson 16 = .ok (.iconst 0, 1) := by decide +kernel
theorem dX6_hasPerson_17 : decode cX6_hasPerson 17 = .ok (.ireturn, 1) := by decide +kernel

def wp_X6_hasPerson (o : Nat) (x1 : Int32) (S : St) (post : Int32 → St → Prop) : Prop :=
  ((x1 < 0 → post 0 S) ∧ (¬ x1 < 0 → (((S o 2) ≤ x1 → post 0 S) ∧ (¬ (S o 2) ≤ x1 → post 1 S))))
theorem w_wp_X6_hasPerson {X : Cx} (ok : Ok X cX6_hasPerson 2 RX6 0 0) {post : Int32 → St → Prop} (hret : RetZ X cX6_hasPerson 2 post) {o : Nat} (ho : isW o) {x1 : Int32} {S : St} (h : wp_X6_hasPerson o x1 S post) : Wp X 2 0 [(0, .ref (xad X o)), (1, .int x1)] [] S := by
  unfold wp_X6_hasPerson at h
  refine r_iload_n ok dX6_hasPerson_0 1 rfl ?_
  refine r_if_lt (tgt := 16) ok dX6_hasPerson_1 rfl (fun hc1 => ?_) (fun hc1 => ?_)
  · replace h := h.1 hc1
    refine r_iconst (v := 0) ok dX6_hasPerson_16 rfl ?_
    exact hret _ _ _ _ dX6_hasPerson_17 (Or.inl rfl) h
  · replace h := h.2 hc1
    refine r_iload_n ok dX6_hasPerson_4 1 rfl ?_
    refine r_aload_n ok dX6_hasPerson_5 0 rfl ?_
    refine gf_X6_49 ok ho dX6_hasPerson_6 ?_
    refine r_icmp_ge (tgt := 16) ok dX6_hasPerson_9 rfl (fun hc2 => ?_) (fun hc2 => ?_)
    · replace h := h.1 hc2
      refine r_iconst (v := 0) ok dX6_hasPerson_16 rfl ?_
      exact hret _ _ _ _ dX6_hasPerson_17 (Or.inl rfl) h
    · replace h := h.2 hc2
      refine r_iconst (v := 1) ok dX6_hasPerson_12 rfl ?_
      refine r_goto (tgt := 17) ok dX6_hasPerson_13 rfl ?_
      exact hret _ _ _ _ dX6_hasPerson_17 (Or.inr rfl) h
theorem c_X6_hasPerson (l : Launch) (G : Gx) {o : Nat} (ho : isW o) {x1 : Int32} {S : St} {post : Int32 → St → Prop} (h : wp_X6_hasPerson o x1 S post) : MtI l yX6_hasPerson cX6_hasPerson 2 (some .boolean) 0 0 G [.ref (G.2.2 o), .int x1] S post :=
  ctZ (by decide) rfl (Nat.le_of_ble_eq_true rfl) (fun X _ hG ok hret => by subst hG; exact w_wp_X6_hasPerson ok hret ho h)

/-! HasteRoads$World.hurry(III)I -/
theorem dX6_hurry_0 : decode cX6_hurry 0 = .ok (.aload_n 0, 1) := by decide +kernel
theorem dX6_hurry_1 : decode cX6_hurry 1 = .ok (.getfield 27, 3) := by decide +kernel
theorem dX6_hurry_4 : decode cX6_hurry 4 = .ok (.iload_n 1, 1) := by decide +kernel
theorem dX6_hurry_5 : decode cX6_hurry 5 = .ok (.iaload, 1) := by decide +kernel
theorem dX6_hurry_6 : decode cX6_hurry 6 = .ok (.iload_n 3, 1) := by decide +kernel
theorem dX6_hurry_7 : decode cX6_hurry 7 = .ok (.isub, 1) := by decide +kernel
theorem dX6_hurry_8 : decode cX6_hurry 8 = .ok (.istore 4, 2) := by decide +kernel
theorem dX6_hurry_10 : decode cX6_hurry 10 = .ok (.aload_n 0, 1) := by decide +kernel
theorem dX6_hurry_11 : decode cX6_hurry 11 = .ok (.getfield 24, 3) := by decide +kernel
theorem dX6_hurry_14 : decode cX6_hurry 14 = .ok (.iload_n 1, 1) := by decide +kernel
theorem dX6_hurry_15 : decode cX6_hurry 15 = .ok (.iaload, 1) := by decide +kernel
theorem dX6_hurry_16 : decode cX6_hurry 16 = .ok (.aload_n 0, 1) := by decide +kernel
theorem dX6_hurry_17 : decode cX6_hurry 17 = .ok (.getfield 36, 3) := by decide +kernel
theorem dX6_hurry_20 : decode cX6_hurry 20 = .ok (.iload_n 1, 1) := by decide +kernel
theorem dX6_hurry_21 : decode cX6_hurry 21 = .ok (.iaload, 1) := by decide +kernel
theorem dX6_hurry_22 : decode cX6_hurry 22 = .ok (.iadd, 1) := by decide +kernel
theorem dX6_hurry_23 : decode cX6_hurry 23 = .ok (.aload_n 0, 1) := by decide +kernel
theorem dX6_hurry_24 : decode cX6_hurry 24 = .ok (.getfield 55, 3) := by decide +kernel
theorem dX6_hurry_27 : decode cX6_hurry 27 = .ok (.iload_n 2, 1) := by decide +kernel
theorem dX6_hurry_28 : decode cX6_hurry 28 = .ok (.ishr, 1) := by decide +kernel
theorem dX6_hurry_29 : decode cX6_hurry 29 = .ok (.iconst 1, 1) := by decide +kernel
theorem dX6_hurry_30 : decode cX6_hurry 30 = .ok (.iand, 1) := by decide +kernel
theorem dX6_hurry_31 : decode cX6_hurry 31 = .ok (.iadd, 1) := by decide +kernel
theorem dX6_hurry_32 : decode cX6_hurry 32 = .ok (.istore 5, 2) := by decide +kernel
theorem dX6_hurry_34 : decode cX6_hurry 34 = .ok (.iload 4, 2) := by decide +kernel
theorem dX6_hurry_36 : decode cX6_hurry 36 = .ok (.bipush 10, 2) := by decide +kernel
theorem dX6_hurry_38 : decode cX6_hurry 38 = .ok (.if_icmp .ge 6, 3) := by decide +kernel
theorem dX6_hurry_41 : decode cX6_hurry 41 = .ok (.iinc 5 1, 3) := by decide +kernel
theorem dX6_hurry_44 : decode cX6_hurry 44 = .ok (.iload 4, 2) := by decide +kernel
theorem dX6_hurry_46 : decode cX6_hurry 46 = .ok (.ifCond .ge 6, 3) := by decide +kernel
theorem dX6_hurry_49 : decode cX6_hurry 49 = .ok (.iinc 5 2, 3) := by decide +kernel
theorem dX6_hurry_52 : decode cX6_hurry 52 = .ok (.iload 5, 2) := by decide +kernel
theorem dX6_hurry_54 : decode cX6_hurry 54 = .ok (.ireturn, 1) := by decide +kernel

def wp_X6_hurry (o : Nat) (x1 : Int32) (x2 : Int32) (x3 : Int32) (S : St) (post : Int32 → St → Prop) : Prop :=
  vp_in x1 4 ∧ (∀ v1 : Int32, v1 = ((S (o + 6) (ix x1)) - x3) → vp_in x1 4 ∧ (vp_in x1 4 ∧ (∀ v2 : Int32, v2 = (((S (o + 5) (ix x1)) + (S (o + 9) (ix x1))) + (((S o 4) >>> (x2 &&& 31)) &&& 1)) → ((10 ≤ v1 → ((0 ≤ v1 → post v2 S) ∧ (¬ 0 ≤ v1 → post (v2 + 2) S))) ∧ (¬ 10 ≤ v1 → ((0 ≤ v1 → post (v2 + 1) S) ∧ (¬ 0 ≤ v1 → post ((v2 + 1) + 2) S)))))))
theorem w_wp_X6_hurry {X : Cx} (ok : Ok X cX6_hurry 6 RX6 0 0) {post : Int32 → St → Prop} (hret : RetI X cX6_hurry 6 post) {o : Nat} (ho : isW o) {x1 x2 x3 : Int32} {S : St} (h : wp_X6_hurry o x1 x2 x3 S post) : Wp X 6 0 [(0, .ref (xad X o)), (1, .int x1), (2, .int x2), (3, .int x3)] [] S := by
  unfold wp_X6_hurry at h
  refine r_aload_n ok dX6_hurry_0 0 rfl ?_
  refine gf_X6_27 ok ho dX6_hurry_1 ?_
  refine r_iload_n ok dX6_hurry_4 1 rfl ?_
  refine r_iald ok ((ho).a4 2 (by decide)) h.1 rfl dX6_hurry_5 ?_
  replace h := h.2
  refine r_iload_n ok dX6_hurry_6 3 rfl ?_
  refine r_isub ok dX6_hurry_7 ?_
  refine r_top (fun v1 ev1 => ?_)
  replace h := h v1 ev1
  refine r_istore ok dX6_hurry_8 (by decide) [(0, .ref (xad X o)), (1, .int x1), (2, .int x2), (4, .int v1)] [1, 2, 3, 0] rfl ?_
  refine r_aload_n ok dX6_hurry_10 0 rfl ?_
  refine gf_X6_24 ok ho dX6_hurry_11 ?_
  refine r_iload_n ok dX6_hurry_14 1 rfl ?_
  refine r_iald ok ((ho).a4 1 (by decide)) h.1 rfl dX6_hurry_15 ?_
  replace h := h.2
  refine r_aload_n ok dX6_hurry_16 0 rfl ?_
  refine gf_X6_36 ok ho dX6_hurry_17 ?_
  refine r_iload_n ok dX6_hurry_20 1 rfl ?_
  refine r_iald ok ((ho).a4 5 (by decide)) h.1 rfl dX6_hurry_21 ?_
  replace h := h.2
  refine r_iadd ok dX6_hurry_22 ?_
  refine r_aload_n ok dX6_hurry_23 0 rfl ?_
  refine gf_X6_55 ok ho dX6_hurry_24 ?_
  refine r_iload_n ok dX6_hurry_27 2 rfl ?_
  refine r_ishr ok dX6_hurry_28 ?_
  refine r_iconst (v := 1) ok dX6_hurry_29 rfl ?_
  refine r_iand ok dX6_hurry_30 ?_
  refine r_iadd ok dX6_hurry_31 ?_
  refine r_top (fun v2 ev2 => ?_)
  replace h := h v2 ev2
  refine r_istore ok dX6_hurry_32 (by decide) [(4, .int v1), (5, .int v2)] [4, 0] rfl ?_
  refine r_iload ok dX6_hurry_34 0 rfl ?_
  refine r_bipush (v := 10) ok dX6_hurry_36 rfl ?_
  refine r_icmp_ge (tgt := 44) ok dX6_hurry_38 rfl (fun hc3 => ?_) (fun hc3 => ?_)
  · replace h := h.1 hc3
    refine r_iload ok dX6_hurry_44 0 rfl ?_
    refine r_if_ge (tgt := 52) ok dX6_hurry_46 rfl (fun hc4 => ?_) (fun hc4 => ?_)
    · replace h := h.1 hc4
      refine r_iload ok dX6_hurry_52 1 rfl ?_
      exact hret _ _ _ _ dX6_hurry_54 h
    · replace h := h.2 hc4
      refine r_iinc (v := v2 + 2) ok dX6_hurry_49 1 rfl rfl (by decide) [(5, .int (v2 + 2))] [0] rfl ?_
      refine r_iload ok dX6_hurry_52 0 rfl ?_
      exact hret _ _ _ _ dX6_hurry_54 h
  · replace h := h.2 hc3
    refine r_iinc (v := v2 + 1) ok dX6_hurry_41 1 rfl rfl (by decide) [(4, .int v1), (5, .int (v2 + 1))] [1, 0] rfl ?_
    refine r_iload ok dX6_hurry_44 0 rfl ?_
    refine r_if_ge (tgt := 52) ok dX6_hurry_46 rfl (fun hc5 => ?_) (fun hc5 => ?_)
    · replace h := h.1 hc5
      refine r_iload ok dX6_hurry_52 1 rfl ?_
      exact hret _ _ _ _ dX6_hurry_54 h
    · replace h := h.2 hc5
      refine r_iinc (v := (v2 + 1) + 2) ok dX6_hurry_49 1 rfl rfl (by decide) [(5, .int ((v2 + 1) + 2))] [0] rfl ?_
      refine r_iload ok dX6_hurry_52 0 rfl ?_
      exact hret _ _ _ _ dX6_hurry_54 h
theorem c_X6_hurry (l : Launch) (G : Gx) {o : Nat} (ho : isW o) {x1 x2 x3 : Int32} {S : St} {post : Int32 → St → Prop} (h : wp_X6_hurry o x1 x2 x3 S post) : MtI l yX6_hurry cX6_hurry 6 (some .int) 0 0 G [.ref (G.2.2 o), .int x1, .int x2, .int x3] S post :=
  ctI (by decide) rfl (Nat.le_of_ble_eq_true rfl) (fun X _ hG ok hret => by subst hG; exact w_wp_X6_hurry ok hret ho h)

/-! HasteRoads$World.hasPlace(I)Z -/
theorem dX6_hasPlace_0 : decode cX6_hasPlace 0 = .ok (.iload_n 1, 1) := by decide +kernel
theorem dX6_hasPlace_1 : decode cX6_hasPlace 1 = .ok (.ifCond .lt 15, 3) := by decide +kernel
theorem dX6_hasPlace_4 : decode cX6_hasPlace 4 = .ok (.iload_n 1, 1) := by decide +kernel
theorem dX6_hasPlace_5 : decode cX6_hasPlace 5 = .ok (.aload_n 0, 1) := by decide +kernel
theorem dX6_hasPlace_6 : decode cX6_hasPlace 6 = .ok (.getfield 42, 3) := by decide +kernel
theorem dX6_hasPlace_9 : decode cX6_hasPlace 9 = .ok (.if_icmp .ge 7, 3) := by decide +kernel
theorem dX6_hasPlace_12 : decode cX6_hasPlace 12 = .ok (.iconst 1, 1) := by decide +kernel
theorem dX6_hasPlace_13 : decode cX6_hasPlace 13 = .ok (.goto 4, 3) := by decide +kernel
theorem dX6_hasPlace_16 : decode cX6_hasPlace 16 = .ok (.iconst 0, 1) := by decide +kernel
theorem dX6_hasPlace_17 : decode cX6_hasPlace 17 = .ok (.ireturn, 1) := by decide +kernel

def wp_X6_hasPlace (o : Nat) (x1 : Int32) (S : St) (post : Int32 → St → Prop) : Prop :=
  ((x1 < 0 → post 0 S) ∧ (¬ x1 < 0 → (((S o 0) ≤ x1 → post 0 S) ∧ (¬ (S o 0) ≤ x1 → post 1 S))))
theorem w_wp_X6_hasPlace {X : Cx} (ok : Ok X cX6_hasPlace 2 RX6 0 0) {post : Int32 → St → Prop} (hret : RetZ X cX6_hasPlace 2 post) {o : Nat} (ho : isW o) {x1 : Int32} {S : St} (h : wp_X6_hasPlace o x1 S post) : Wp X 2 0 [(0, .ref (xad X o)), (1, .int x1)] [] S := by
  unfold wp_X6_hasPlace at h
  refine r_iload_n ok dX6_hasPlace_0 1 rfl ?_
  refine r_if_lt (tgt := 16) ok dX6_hasPlace_1 rfl (fun hc1 => ?_) (fun hc1 => ?_)
  · replace h := h.1 hc1
    refine r_iconst (v := 0) ok dX6_hasPlace_16 rfl ?_
    exact hret _ _ _ _ dX6_hasPlace_17 (Or.inl rfl) h
  · replace h := h.2 hc1
    refine r_iload_n ok dX6_hasPlace_4 1 rfl ?_
    refine r_aload_n ok dX6_hasPlace_5 0 rfl ?_
    refine gf_X6_42 ok ho dX6_hasPlace_6 ?_
    refine r_icmp_ge (tgt := 16) ok dX6_hasPlace_9 rfl (fun hc2 => ?_) (fun hc2 => ?_)
    · replace h := h.1 hc2
      refine r_iconst (v := 0) ok dX6_hasPlace_16 rfl ?_
      exact hret _ _ _ _ dX6_hasPlace_17 (Or.inl rfl) h
    · replace h := h.2 hc2
      refine r_iconst (v := 1) ok dX6_hasPlace_12 rfl ?_
      refine r_goto (tgt := 17) ok dX6_hasPlace_13 rfl ?_
      exact hret _ _ _ _ dX6_hasPlace_17 (Or.inr rfl) h
theorem c_X6_hasPlace (l : Launch) (G : Gx) {o : Nat} (ho : isW o) {x1 : Int32} {S : St} {post : Int32 → St → Prop} (h : wp_X6_hasPlace o x1 S post) : MtI l yX6_hasPlace cX6_hasPlace 2 (some .boolean) 0 0 G [.ref (G.2.2 o), .int x1] S post :=
  ctZ (by decide) rfl (Nat.le_of_ble_eq_true rfl) (fun X _ hG ok hret => by subst hG; exact w_wp_X6_hasPlace ok hret ho h)

/-! HasteRoads$World.otherEnd(II)I -/
theorem dX6_otherEnd_0 : decode cX6_otherEnd 0 = .ok (.aload_n 0, 1) := by decide +kernel
theorem dX6_otherEnd_1 : decode cX6_otherEnd 1 = .ok (.getfield 9, 3) := by decide +kernel
theorem dX6_otherEnd_4 : decode cX6_otherEnd 4 = .ok (.iload_n 1, 1) := by decide +kernel
theorem dX6_otherEnd_5 : decode cX6_otherEnd 5 = .ok (.iaload, 1) := by decide +kernel
theorem dX6_otherEnd_6 : decode cX6_otherEnd 6 = .ok (.iload_n 2, 1) := by decide +kernel
theorem dX6_otherEnd_7 : decode cX6_otherEnd 7 = .ok (.if_icmp .ne 10, 3) := by decide +kernel
theorem dX6_otherEnd_10 : decode cX6_otherEnd 10 = .ok (.aload_n 0, 1) := by decide +kernel
theorem dX6_otherEnd_11 : decode cX6_otherEnd 11 = .ok (.getfield 15, 3) := by decide +kernel
theorem dX6_otherEnd_14 : decode cX6_otherEnd 14 = .ok (.iload_n 1, 1) := by decide +kernel
theorem dX6_otherEnd_15 : decode cX6_otherEnd 15 = .ok (.iaload, 1) := by decide +kernel
theorem dX6_otherEnd_16 : decode cX6_otherEnd 16 = .ok (.ireturn, 1) := by decide +kernel
theorem dX6_otherEnd_17 : decode cX6_otherEnd 17 = .ok (.aload_n 0, 1) := by decide +kernel
theorem dX6_otherEnd_18 : decode cX6_otherEnd 18 = .ok (.getfield 15, 3) := by decide +kernel
theorem dX6_otherEnd_21 : decode cX6_otherEnd 21 = .ok (.iload_n 1, 1) := by decide +kernel
theorem dX6_otherEnd_22 : decode cX6_otherEnd 22 = .ok (.iaload, 1) := by decide +kernel
theorem dX6_otherEnd_23 : decode cX6_otherEnd 23 = .ok (.iload_n 2, 1) := by decide +kernel
theorem dX6_otherEnd_24 : decode cX6_otherEnd 24 = .ok (.if_icmp .ne 12, 3) := by decide +kernel
theorem dX6_otherEnd_27 : decode cX6_otherEnd 27 = .ok (.aload_n 0, 1) := by decide +kernel
theorem dX6_otherEnd_28 : decode cX6_otherEnd 28 = .ok (.getfield 9, 3) := by decide +kernel
theorem dX6_otherEnd_31 : decode cX6_otherEnd 31 = .ok (.iload_n 1, 1) := by decide +kernel
theorem dX6_otherEnd_32 : decode cX6_otherEnd 32 = .ok (.iaload, 1) := by decide +kernel
theorem dX6_otherEnd_33 : decode cX6_otherEnd 33 = .ok (.goto 4, 3) := by decide +kernel
theorem dX6_otherEnd_36 : decode cX6_otherEnd 36 = .ok (.iconst (-1), 1) := by decide +kernel
theorem dX6_otherEnd_37 : decode cX6_otherEnd 37 = .ok (.ireturn, 1) := by decide +kernel

def wp_X6_otherEnd (o : Nat) (x1 : Int32) (x2 : Int32) (S : St) (post : Int32 → St → Prop) : Prop :=
  vp_in x1 9 ∧ (((¬ (S (o + 1) (ix x1)) = x2 → vp_in x1 9 ∧ (((¬ (S (o + 2) (ix x1)) = x2 → post (-1) S) ∧ ((S (o + 2) (ix x1)) = x2 → vp_in x1 9 ∧ (post (S (o + 1) (ix x1)) S))))) ∧ ((S (o + 1) (ix x1)) = x2 → vp_in x1 9 ∧ (post (S (o + 2) (ix x1)) S))))
theorem w_wp_X6_otherEnd {X : Cx} (ok : Ok X cX6_otherEnd 3 RX6 0 0) {post : Int32 → St → Prop} (hret : RetI X cX6_otherEnd 3 post) {o : Nat} (ho : isW o) {x1 x2 : Int32} {S : St} (h : wp_X6_otherEnd o x1 x2 S post) : Wp X 3 0 [(0, .ref (xad X o)), (1, .int x1), (2, .int x2)] [] S := by
  unfold wp_X6_otherEnd at h
  refine r_aload_n ok dX6_otherEnd_0 0 rfl ?_
  refine gf_X6_9 ok ho dX6_otherEnd_1 ?_
  refine r_iload_n ok dX6_otherEnd_4 1 rfl ?_
  refine r_iald ok ((ho).a9 0 (by decide)) h.1 rfl dX6_otherEnd_5 ?_
  replace h := h.2
  refine r_iload_n ok dX6_otherEnd_6 2 rfl ?_
  refine r_icmp_ne (tgt := 17) ok dX6_otherEnd_7 rfl (fun hc1 => ?_) (fun hc1 => ?_)
  · replace h := h.1 hc1
    refine r_aload_n ok dX6_otherEnd_17 0 rfl ?_
    refine gf_X6_15 ok ho dX6_otherEnd_18 ?_
    refine r_iload_n ok dX6_otherEnd_21 1 rfl ?_
    refine r_iald ok ((ho).a9 1 (by decide)) h.1 rfl dX6_otherEnd_22 ?_
    replace h := h.2
    refine r_iload_n ok dX6_otherEnd_23 2 rfl ?_
    refine r_icmp_ne (tgt := 36) ok dX6_otherEnd_24 rfl (fun hc2 => ?_) (fun hc2 => ?_)
    · replace h := h.1 hc2
      refine r_iconst (v := (-1)) ok dX6_otherEnd_36 rfl ?_
      exact hret _ _ _ _ dX6_otherEnd_37 h
    · replace h := h.2 hc2
      refine r_aload_n ok dX6_otherEnd_27 0 rfl ?_
      refine gf_X6_9 ok ho dX6_otherEnd_28 ?_
      refine r_iload_n ok dX6_otherEnd_31 1 rfl ?_
      refine r_iald ok ((ho).a9 0 (by decide)) h.1 rfl dX6_otherEnd_32 ?_
      replace h := h.2
      refine r_goto (tgt := 37) ok dX6_otherEnd_33 rfl ?_
      exact hret _ _ _ _ dX6_otherEnd_37 h
  · replace h := h.2 hc1
    refine r_aload_n ok dX6_otherEnd_10 0 rfl ?_
    refine gf_X6_15 ok ho dX6_otherEnd_11 ?_
    refine r_iload_n ok dX6_otherEnd_14 1 rfl ?_
    refine r_iald ok ((ho).a9 1 (by decide)) h.1 rfl dX6_otherEnd_15 ?_
    replace h := h.2
    exact hret _ _ _ _ dX6_otherEnd_16 h
theorem c_X6_otherEnd (l : Launch) (G : Gx) {o : Nat} (ho : isW o) {x1 x2 : Int32} {S : St} {post : Int32 → St → Prop} (h : wp_X6_otherEnd o x1 x2 S post) : MtI l yX6_otherEnd cX6_otherEnd 3 (some .int) 0 0 G [.ref (G.2.2 o), .int x1, .int x2] S post :=
  ctI (by decide) rfl (Nat.le_of_ble_eq_true rfl) (fun X _ hG ok hret => by subst hG; exact w_wp_X6_otherEnd ok hret ho h)

/-! HasteRoads$World.lastsHurried(II)I -/
theorem dX6_lastsHurried_0 : decode cX6_lastsHurried 0 = .ok (.aload_n 0, 1) := by decide +kernel
theorem dX6_lastsHurried_1 : decode cX6_lastsHurried 1 = .ok (.getfield 18, 3) := by decide +kernel
theorem dX6_lastsHurried_4 : decode cX6_lastsHurried 4 = .ok (.iload_n 1, 1) := by decide +kernel
theorem dX6_lastsHurried_5 : decode cX6_lastsHurried 5 = .ok (.iaload, 1) := by decide +kernel
theorem dX6_lastsHurried_6 : decode cX6_lastsHurried 6 = .ok (.iconst 2, 1) := by decide +kernel
theorem dX6_lastsHurried_7 : decode cX6_lastsHurried 7 = .ok (.iload_n 2, 1) := by decide +kernel
theorem dX6_lastsHurried_8 : decode cX6_lastsHurried 8 = .ok (.iadd, 1) := by decide +kernel
theorem dX6_lastsHurried_9 : decode cX6_lastsHurried 9 = .ok (.imul, 1) := by decide +kernel
theorem dX6_lastsHurried_10 : decode cX6_lastsHurried 10 = .ok (.iconst 1, 1) := by decide +kernel
theorem dX6_lastsHurried_11 : decode cX6_lastsHurried 11 = .ok (.iadd, 1) := by decide +kernel
theorem dX6_lastsHurried_12 : decode cX6_lastsHurried 12 = .ok (.iconst 2, 1) := by decide +kernel
theorem dX6_lastsHurried_13 : decode cX6_lastsHurried 13 = .ok (.idiv, 1) := by decide +kernel
theorem dX6_lastsHurried_14 : decode cX6_lastsHurried 14 = .ok (.ireturn, 1) := by decide +kernel

def wp_X6_lastsHurried (o : Nat) (x1 : Int32) (x2 : Int32) (S : St) (post : Int32 → St → Prop) : Prop :=
  vp_in x1 9 ∧ (post ((((S (o + 3) (ix x1)) * ((2 : Int32) + x2)) + 1) / 2) S)
theorem w_wp_X6_lastsHurried {X : Cx} (ok : Ok X cX6_lastsHurried 3 RX6 0 0) {post : Int32 → St → Prop} (hret : RetI X cX6_lastsHurried 3 post) {o : Nat} (ho : isW o) {x1 x2 : Int32} {S : St} (h : wp_X6_lastsHurried o x1 x2 S post) : Wp X 3 0 [(0, .ref (xad X o)), (1, .int x1), (2, .int x2)] [] S := by
  unfold wp_X6_lastsHurried at h
  refine r_aload_n ok dX6_lastsHurried_0 0 rfl ?_
  refine gf_X6_18 ok ho dX6_lastsHurried_1 ?_
  refine r_iload_n ok dX6_lastsHurried_4 1 rfl ?_
  refine r_iald ok ((ho).a9 2 (by decide)) h.1 rfl dX6_lastsHurried_5 ?_
  replace h := h.2
  refine r_iconst (v := 2) ok dX6_lastsHurried_6 rfl ?_
  refine r_iload_n ok dX6_lastsHurried_7 2 rfl ?_
  refine r_iadd ok dX6_lastsHurried_8 ?_
  refine r_imul ok dX6_lastsHurried_9 ?_
  refine r_iconst (v := 1) ok dX6_lastsHurried_10 rfl ?_
  refine r_iadd ok dX6_lastsHurried_11 ?_
  refine r_iconst (v := 2) ok dX6_lastsHurried_12 rfl ?_
  refine r_idiv ok dX6_lastsHurried_13 (by decide) ?_
  exact hret _ _ _ _ dX6_lastsHurried_14 h
theorem c_X6_lastsHurried (l : Launch) (G : Gx) {o : Nat} (ho : isW o) {x1 x2 : Int32} {S : St} {post : Int32 → St → Prop} (h : wp_X6_lastsHurried o x1 x2 S post) : MtI l yX6_lastsHurried cX6_lastsHurried 3 (some .int) 0 0 G [.ref (G.2.2 o), .int x1, .int x2] S post :=
  ctI (by decide) rfl (Nat.le_of_ble_eq_true rfl) (fun X _ hG ok hret => by subst hG; exact w_wp_X6_lastsHurried ok hret ho h)

/-! HasteRoads$World.lasts(IIIII)I -/
theorem dX6_lasts_0 : decode cX6_lasts 0 = .ok (.aload_n 0, 1) := by decide +kernel
theorem dX6_lasts_1 : decode cX6_lasts 1 = .ok (.iload_n 2, 1) := by decide +kernel
theorem dX6_lasts_2 : decode cX6_lasts 2 = .ok (.iconst 0, 1) := by decide +kernel
theorem dX6_lasts_3 : decode cX6_lasts 3 = .ok (.aload_n 0, 1) := by decide +kernel
theorem dX6_lasts_4 : decode cX6_lasts 4 = .ok (.iload_n 1, 1) := by decide +kernel
theorem dX6_lasts_5 : decode cX6_lasts 5 = .ok (.iload_n 3, 1) := by decide +kernel
theorem dX6_lasts_6 : decode cX6_lasts 6 = .ok (.iload 4, 2) := by decide +kernel
theorem dX6_lasts_8 : decode cX6_lasts 8 = .ok (.invokevirtual 67, 3) := by decide +kernel
theorem dX6_lasts_11 : decode cX6_lasts 11 = .ok (.iload 5, 2) := by decide +kernel
theorem dX6_lasts_13 : decode cX6_lasts 13 = .ok (.isub, 1) := by decide +kernel
theorem dX6_lasts_14 : decode cX6_lasts 14 = .ok (.invokestatic 71, 3) := by decide +kernel
theorem dX6_lasts_17 : decode cX6_lasts 17 = .ok (.invokevirtual 77, 3) := by decide +kernel
theorem dX6_lasts_20 : decode cX6_lasts 20 = .ok (.ireturn, 1) := by decide +kernel
theorem cl_X6_67 {X : Cx} {cc : ByteArray} {nL pc fr lo : Nat} {L : List (Nat × Value)} {st : List Value} {S : St} (ok : Ok X cc nL RX6 fr lo) {o : Nat} (ho : isW o) {x1 x2 x3 : Int32} (d : decode cc pc = .ok (.invokevirtual 67, 3)) (hroom : 1 ≤ fr ∧ 25 ≤ lo) (hst : (st.map fun v => v.category).sum ≤ 8) {post : Int32 → St → Prop} (h : wp_X6_hurry o x1 x2 x3 S post) (kk : ∀ (r : Int32) (S1 : St), post r S1 → Wp X nL (pc + 3) L (.int r :: st) S1) : Wp X nL pc L (.int x3 :: .int x2 :: .int x1 :: .ref (xad X o) :: st) S :=
  r_callVi (n := 6) (f := 0) (lo1 := 0) (N := 3) (As := [.int x1, .int x2, .int x3]) ok tw_in_X6 tw_im_X6_hurry tw_se_X6_hurry tw_co_X6_hurry tw_ml_X6_67 (by decide +kernel) rfl ho.ob rfl hroom hst d rfl (c_X6_hurry (xl X) (xG X) ho h) kk
theorem cl_X6_77 {X : Cx} {cc : ByteArray} {nL pc fr lo : Nat} {L : List (Nat × Value)} {st : List Value} {S : St} (ok : Ok X cc nL RX6 fr lo) {o : Nat} (ho : isW o) {x1 x2 : Int32} (d : decode cc pc = .ok (.invokevirtual 77, 3)) (hroom : 1 ≤ fr ∧ 22 ≤ lo) (hst : (st.map fun v => v.category).sum ≤ 8) {post : Int32 → St → Prop} (h : wp_X6_lastsHurried o x1 x2 S post) (kk : ∀ (r : Int32) (S1 : St), post r S1 → Wp X nL (pc + 3) L (.int r :: st) S1) : Wp X nL pc L (.int x2 :: .int x1 :: .ref (xad X o) :: st) S :=
  r_callVi (n := 3) (f := 0) (lo1 := 0) (N := 2) (As := [.int x1, .int x2]) ok tw_in_X6 tw_im_X6_lastsHurried tw_se_X6_lastsHurried tw_co_X6_lastsHurried tw_ml_X6_77 (by decide +kernel) rfl ho.ob rfl hroom hst d rfl (c_X6_lastsHurried (xl X) (xG X) ho h) kk
def wp_X6_lasts (o : Nat) (x1 : Int32) (x2 : Int32) (x3 : Int32) (x4 : Int32) (x5 : Int32) (S : St) (post : Int32 → St → Prop) : Prop :=
  wp_X6_hurry o x1 x3 x4 S (fun r2 S1 => wp_X6_lastsHurried o x2 (if 0 < (r2 - x5) then (r2 - x5) else 0) S1 (fun r4 S3 => post r4 S3))
theorem w_wp_X6_lasts {X : Cx} (ok : Ok X cX6_lasts 6 RX6 1 25) {post : Int32 → St → Prop} (hret : RetI X cX6_lasts 6 post) {o : Nat} (ho : isW o) {x1 x2 x3 x4 x5 : Int32} {S : St} (h : wp_X6_lasts o x1 x2 x3 x4 x5 S post) : Wp X 6 0 [(0, .ref (xad X o)), (1, .int x1), (2, .int x2), (3, .int x3), (4, .int x4), (5, .int x5)] [] S := by
  unfold wp_X6_lasts at h
  refine r_aload_n ok dX6_lasts_0 0 rfl ?_
  refine r_iload_n ok dX6_lasts_1 2 rfl ?_
  refine r_iconst (v := 0) ok dX6_lasts_2 rfl ?_
  refine r_aload_n ok dX6_lasts_3 0 rfl ?_
  refine r_iload_n ok dX6_lasts_4 1 rfl ?_
  refine r_iload_n ok dX6_lasts_5 3 rfl ?_
  refine r_iload ok dX6_lasts_6 4 rfl ?_
  refine cl_X6_67 ok ho dX6_lasts_8 (by decide) (Nat.le_of_ble_eq_true rfl) h (fun r2 S1 h => ?_)
  refine r_iload ok dX6_lasts_11 5 rfl ?_
  refine r_isub ok dX6_lasts_13 ?_
  refine r_max ok dX6_lasts_14 tw_ml_X6_71 tw_st_Math_max tw_in_Math tw_co_Math_max (by decide) (Nat.le_of_ble_eq_true rfl) ?_
  refine cl_X6_77 ok ho dX6_lasts_17 (by decide) (Nat.le_of_ble_eq_true rfl) h (fun r4 S3 h => ?_)
  exact hret _ _ _ _ dX6_lasts_20 h
theorem c_X6_lasts (l : Launch) (G : Gx) {o : Nat} (ho : isW o) {x1 x2 x3 x4 x5 : Int32} {S : St} {post : Int32 → St → Prop} (h : wp_X6_lasts o x1 x2 x3 x4 x5 S post) : MtI l yX6_lasts cX6_lasts 6 (some .int) 1 25 G [.ref (G.2.2 o), .int x1, .int x2, .int x3, .int x4, .int x5] S post :=
  ctI (by decide) rfl (Nat.le_of_ble_eq_true rfl) (fun X _ hG ok hret => by subst hG; exact w_wp_X6_lasts ok hret ho h)

/-! HasteRoads$World.canMove(III)Z -/
theorem dX6_canMove_0 : decode cX6_canMove 0 = .ok (.aload_n 0, 1) := by decide +kernel
theorem dX6_canMove_1 : decode cX6_canMove 1 = .ok (.iload_n 2, 1) := by decide +kernel
theorem dX6_canMove_2 : decode cX6_canMove 2 = .ok (.aload_n 0, 1) := by decide +kernel
theorem dX6_canMove_3 : decode cX6_canMove 3 = .ok (.getfield 30, 3) := by decide +kernel
theorem dX6_canMove_6 : decode cX6_canMove 6 = .ok (.iload_n 1, 1) := by decide +kernel
theorem dX6_canMove_7 : decode cX6_canMove 7 = .ok (.iaload, 1) := by decide +kernel
theorem dX6_canMove_8 : decode cX6_canMove 8 = .ok (.invokevirtual 80, 3) := by decide +kernel
theorem dX6_canMove_11 : decode cX6_canMove 11 = .ok (.iconst (-1), 1) := by decide +kernel
theorem dX6_canMove_12 : decode cX6_canMove 12 = .ok (.if_icmp .eq 17, 3) := by decide +kernel
theorem dX6_canMove_15 : decode cX6_canMove 15 = .ok (.iload_n 3, 1) := by decide +kernel
theorem dX6_canMove_16 : decode cX6_canMove 16 = .ok (.aload_n 0, 1) := by decide +kernel
theorem dX6_canMove_17 : decode cX6_canMove 17 = .ok (.getfield 33, 3) := by decide +kernel
theorem dX6_canMove_20 : decode cX6_canMove 20 = .ok (.iload_n 1, 1) := by decide +kernel
theorem dX6_canMove_21 : decode cX6_canMove 21 = .ok (.iaload, 1) := by decide +kernel
theorem dX6_canMove_22 : decode cX6_canMove 22 = .ok (.if_icmp .gt 7, 3) := by decide +kernel
theorem dX6_canMove_25 : decode cX6_canMove 25 = .ok (.iconst 1, 1) := by decide +kernel
theorem dX6_canMove_26 : decode cX6_canMove 26 = .ok (.goto 4, 3) := by decide +kernel
theorem dX6_canMove_29 : decode cX6_canMove 29 = .ok (.iconst 0, 1) := by decide +kernel
theorem dX6_canMove_30 : decode cX6_canMove 30 = .ok (.ireturn, 1) := by decide +kernel
theorem cl_X6_80 {X : Cx} {cc : ByteArray} {nL pc fr lo : Nat} {L : List (Nat × Value)} {st : List Value} {S : St} (ok : Ok X cc nL RX6 fr lo) {o : Nat} (ho : isW o) {x1 x2 : Int32} (d : decode cc pc = .ok (.invokevirtual 80, 3)) (hroom : 1 ≤ fr ∧ 22 ≤ lo) (hst : (st.map fun v => v.category).sum ≤ 8) {post : Int32 → St → Prop} (h : wp_X6_otherEnd o x1 x2 S post) (kk : ∀ (r : Int32) (S1 : St), post r S1 → Wp X nL (pc + 3) L (.int r :: st) S1) : Wp X nL pc L (.int x2 :: .int x1 :: .ref (xad X o) :: st) S :=
  r_callVi (n := 3) (f := 0) (lo1 := 0) (N := 2) (As := [.int x1, .int x2]) ok tw_in_X6 tw_im_X6_otherEnd tw_se_X6_otherEnd tw_co_X6_otherEnd tw_ml_X6_80 (by decide +kernel) rfl ho.ob rfl hroom hst d rfl (c_X6_otherEnd (xl X) (xG X) ho h) kk
def wp_X6_canMove (o : Nat) (x1 : Int32) (x2 : Int32) (x3 : Int32) (S : St) (post : Int32 → St → Prop) : Prop :=
  vp_in x1 4 ∧ (wp_X6_otherEnd o x2 (S (o + 7) (ix x1)) S (fun r2 S1 => ((r2 = (-1) → post 0 S1) ∧ (¬ r2 = (-1) → vp_in x1 4 ∧ ((((S1 (o + 8) (ix x1)) < x3 → post 0 S1) ∧ (¬ (S1 (o + 8) (ix x1)) < x3 → post 1 S1)))))))
theorem w_wp_X6_canMove {X : Cx} (ok : Ok X cX6_canMove 4 RX6 1 22) {post : Int32 → St → Prop} (hret : RetZ X cX6_canMove 4 post) {o : Nat} (ho : isW o) {x1 x2 x3 : Int32} {S : St} (h : wp_X6_canMove o x1 x2 x3 S post) : Wp X 4 0 [(0, .ref (xad X o)), (1, .int x1), (2, .int x2), (3, .int x3)] [] S := by
  unfold wp_X6_canMove at h
  refine r_aload_n ok dX6_canMove_0 0 rfl ?_
  refine r_iload_n ok dX6_canMove_1 2 rfl ?_
  refine r_aload_n ok dX6_canMove_2 0 rfl ?_
  refine gf_X6_30 ok ho dX6_canMove_3 ?_
  refine r_iload_n ok dX6_canMove_6 1 rfl ?_
  refine r_iald ok ((ho).a4 3 (by decide)) h.1 rfl dX6_canMove_7 ?_
  replace h := h.2
  refine cl_X6_80 ok ho dX6_canMove_8 (by decide) (Nat.le_of_ble_eq_true rfl) h (fun r2 S1 h => ?_)
  refine r_iconst (v := (-1)) ok dX6_canMove_11 rfl ?_
  refine r_icmp_eq (tgt := 29) ok dX6_canMove_12 rfl (fun hc3 => ?_) (fun hc3 => ?_)
  · replace h := h.1 hc3
    refine r_iconst (v := 0) ok dX6_canMove_29 rfl ?_
    exact hret _ _ _ _ dX6_canMove_30 (Or.inl rfl) h
  · replace h := h.2 hc3
    refine r_iload_n ok dX6_canMove_15 3 rfl ?_
    refine r_aload_n ok dX6_canMove_16 0 rfl ?_
    refine gf_X6_33 ok ho dX6_canMove_17 ?_
    refine r_iload_n ok dX6_canMove_20 1 rfl ?_
    refine r_iald ok ((ho).a4 4 (by decide)) h.1 rfl dX6_canMove_21 ?_
    replace h := h.2
    refine r_icmp_gt (tgt := 29) ok dX6_canMove_22 rfl (fun hc4 => ?_) (fun hc4 => ?_)
    · replace h := h.1 hc4
      refine r_iconst (v := 0) ok dX6_canMove_29 rfl ?_
      exact hret _ _ _ _ dX6_canMove_30 (Or.inl rfl) h
    · replace h := h.2 hc4
      refine r_iconst (v := 1) ok dX6_canMove_25 rfl ?_
      refine r_goto (tgt := 30) ok dX6_canMove_26 rfl ?_
      exact hret _ _ _ _ dX6_canMove_30 (Or.inr rfl) h
theorem c_X6_canMove (l : Launch) (G : Gx) {o : Nat} (ho : isW o) {x1 x2 x3 : Int32} {S : St} {post : Int32 → St → Prop} (h : wp_X6_canMove o x1 x2 x3 S post) : MtI l yX6_canMove cX6_canMove 4 (some .boolean) 1 22 G [.ref (G.2.2 o), .int x1, .int x2, .int x3] S post :=
  ctZ (by decide) rfl (Nat.le_of_ble_eq_true rfl) (fun X _ hG ok hret => by subst hG; exact w_wp_X6_canMove ok hret ho h)

/-! HasteRoads$World.move(III)V -/
theorem dX6_move_0 : decode cX6_move 0 = .ok (.aload_n 0, 1) := by decide +kernel
theorem dX6_move_1 : decode cX6_move 1 = .ok (.getfield 39, 3) := by decide +kernel
theorem dX6_move_4 : decode cX6_move 4 = .ok (.iload_n 1, 1) := by decide +kernel
theorem dX6_move_5 : decode cX6_move 5 = .ok (.dup2, 1) := by decide +kernel
theorem dX6_move_6 : decode cX6_move 6 = .ok (.iaload, 1) := by decide +kernel
theorem dX6_move_7 : decode cX6_move 7 = .ok (.aload_n 0, 1) := by decide +kernel
theorem dX6_move_8 : decode cX6_move 8 = .ok (.iload_n 1, 1) := by decide +kernel
theorem dX6_move_9 : decode cX6_move 9 = .ok (.iload_n 2, 1) := by decide +kernel
theorem dX6_move_10 : decode cX6_move 10 = .ok (.aload_n 0, 1) := by decide +kernel
theorem dX6_move_11 : decode cX6_move 11 = .ok (.getfield 30, 3) := by decide +kernel
theorem dX6_move_14 : decode cX6_move 14 = .ok (.iload_n 1, 1) := by decide +kernel
theorem dX6_move_15 : decode cX6_move 15 = .ok (.iaload, 1) := by decide +kernel
theorem dX6_move_16 : decode cX6_move 16 = .ok (.aload_n 0, 1) := by decide +kernel
theorem dX6_move_17 : decode cX6_move 17 = .ok (.getfield 39, 3) := by decide +kernel
theorem dX6_move_20 : decode cX6_move 20 = .ok (.iload_n 1, 1) := by decide +kernel
theorem dX6_move_21 : decode cX6_move 21 = .ok (.iaload, 1) := by decide +kernel
theorem dX6_move_22 : decode cX6_move 22 = .ok (.iload_n 3, 1) := by decide +kernel
theorem dX6_move_23 : decode cX6_move 23 = .ok (.invokevirtual 83, 3) := by decide +kernel
theorem dX6_move_26 : decode cX6_move 26 = .ok (.iadd, 1) := by decide +kernel
theorem dX6_move_27 : decode cX6_move 27 = .ok (.iastore, 1) := by decide +kernel
theorem dX6_move_28 : decode cX6_move 28 = .ok (.aload_n 0, 1) := by decide +kernel
theorem dX6_move_29 : decode cX6_move 29 = .ok (.getfield 33, 3) := by decide +kernel
theorem dX6_move_32 : decode cX6_move 32 = .ok (.iload_n 1, 1) := by decide +kernel
theorem dX6_move_33 : decode cX6_move 33 = .ok (.dup2, 1) := by decide +kernel
theorem dX6_move_34 : decode cX6_move 34 = .ok (.iaload, 1) := by decide +kernel
theorem dX6_move_35 : decode cX6_move 35 = .ok (.iload_n 3, 1) := by decide +kernel
theorem dX6_move_36 : decode cX6_move 36 = .ok (.isub, 1) := by decide +kernel
theorem dX6_move_37 : decode cX6_move 37 = .ok (.iastore, 1) := by decide +kernel
theorem dX6_move_38 : decode cX6_move 38 = .ok (.aload_n 0, 1) := by decide +kernel
theorem dX6_move_39 : decode cX6_move 39 = .ok (.getfield 30, 3) := by decide +kernel
theorem dX6_move_42 : decode cX6_move 42 = .ok (.iload_n 1, 1) := by decide +kernel
theorem dX6_move_43 : decode cX6_move 43 = .ok (.aload_n 0, 1) := by decide +kernel
theorem dX6_move_44 : decode cX6_move 44 = .ok (.iload_n 2, 1) := by decide +kernel
theorem dX6_move_45 : decode cX6_move 45 = .ok (.aload_n 0, 1) := by decide +kernel
theorem dX6_move_46 : decode cX6_move 46 = .ok (.getfield 30, 3) := by decide +kernel
theorem dX6_move_49 : decode cX6_move 49 = .ok (.iload_n 1, 1) := by decide +kernel
theorem dX6_move_50 : decode cX6_move 50 = .ok (.iaload, 1) := by decide +kernel
theorem dX6_move_51 : decode cX6_move 51 = .ok (.invokevirtual 80, 3) := by decide +kernel
theorem dX6_move_54 : decode cX6_move 54 = .ok (.iastore, 1) := by decide +kernel
theorem dX6_move_55 : decode cX6_move 55 = .ok (.return_, 1) := by decide +kernel
theorem cl_X6_83 {X : Cx} {cc : ByteArray} {nL pc fr lo : Nat} {L : List (Nat × Value)} {st : List Value} {S : St} (ok : Ok X cc nL RX6 fr lo) {o : Nat} (ho : isW o) {x1 x2 x3 x4 x5 : Int32} (d : decode cc pc = .ok (.invokevirtual 83, 3)) (hroom : 2 ≤ fr ∧ 50 ≤ lo) (hst : (st.map fun v => v.category).sum ≤ 8) {post : Int32 → St → Prop} (h : wp_X6_lasts o x1 x2 x3 x4 x5 S post) (kk : ∀ (r : Int32) (S1 : St), post r S1 → Wp X nL (pc + 3) L (.int r :: st) S1) : Wp X nL pc L (.int x5 :: .int x4 :: .int x3 :: .int x2 :: .int x1 :: .ref (xad X o) :: st) S :=
  r_callVi (n := 6) (f := 1) (lo1 := 25) (N := 5) (As := [.int x1, .int x2, .int x3, .int x4, .int x5]) ok tw_in_X6 tw_im_X6_lasts tw_se_X6_lasts tw_co_X6_lasts tw_ml_X6_83 (by decide +kernel) rfl ho.ob rfl hroom hst d rfl (c_X6_lasts (xl X) (xG X) ho h) kk
def wp_X6_move (o : Nat) (x1 : Int32) (x2 : Int32) (x3 : Int32) (S : St) (post : St → Prop) : Prop :=
  vp_in x1 4 ∧ (vp_in x1 4 ∧ (vp_in x1 4 ∧ (wp_X6_lasts o x1 x2 (S (o + 7) (ix x1)) (S (o + 10) (ix x1)) x3 S (fun r2 S1 => vp_in x1 4 ∧ (∀ S3 : St, S3 = up S1 (o + 10) (ix x1) ((S (o + 10) (ix x1)) + r2) → vp_in x1 4 ∧ (vp_in x1 4 ∧ (∀ S5 : St, S5 = up S3 (o + 8) (ix x1) ((S3 (o + 8) (ix x1)) - x3) → vp_in x1 4 ∧ (wp_X6_otherEnd o x2 (S5 (o + 7) (ix x1)) S5 (fun r8 S7 => vp_in x1 4 ∧ (∀ S9 : St, S9 = up S7 (o + 7) (ix x1) r8 → post S9))))))))))
theorem w_wp_X6_move {X : Cx} (ok : Ok X cX6_move 4 RX6 2 50) {post : St → Prop} (hret : RetV X cX6_move 4 post) {o : Nat} (ho : isW o) {x1 x2 x3 : Int32} {S : St} (h : wp_X6_move o x1 x2 x3 S post) : Wp X 4 0 [(0, .ref (xad X o)), (1, .int x1), (2, .int x2), (3, .int x3)] [] S := by
  unfold wp_X6_move at h
  refine r_aload_n ok dX6_move_0 0 rfl ?_
  refine gf_X6_39 ok ho dX6_move_1 ?_
  refine r_iload_n ok dX6_move_4 1 rfl ?_
  refine r_dup2 ok dX6_move_5 rfl rfl ?_
  refine r_iald ok ((ho).a4 6 (by decide)) h.1 rfl dX6_move_6 ?_
  replace h := h.2
  refine r_aload_n ok dX6_move_7 0 rfl ?_
  refine r_iload_n ok dX6_move_8 1 rfl ?_
  refine r_iload_n ok dX6_move_9 2 rfl ?_
  refine r_aload_n ok dX6_move_10 0 rfl ?_
  refine gf_X6_30 ok ho dX6_move_11 ?_
  refine r_iload_n ok dX6_move_14 1 rfl ?_
  refine r_iald ok ((ho).a4 3 (by decide)) h.1 rfl dX6_move_15 ?_
  replace h := h.2
  refine r_aload_n ok dX6_move_16 0 rfl ?_
  refine gf_X6_39 ok ho dX6_move_17 ?_
  refine r_iload_n ok dX6_move_20 1 rfl ?_
  refine r_iald ok ((ho).a4 6 (by decide)) h.1 rfl dX6_move_21 ?_
  replace h := h.2
  refine r_iload_n ok dX6_move_22 3 rfl ?_
  refine cl_X6_83 ok ho dX6_move_23 (by decide) (Nat.le_of_ble_eq_true rfl) h (fun r2 S1 h => ?_)
  refine r_iadd ok dX6_move_26 ?_
  have hi4 := h.1
  replace h := h.2
  refine r_iast ok ((ho).a4 6 (by decide)) hi4 rfl dX6_move_27 (fun S3 eS3 => ?_)
  replace h := h S3 eS3
  refine r_aload_n ok dX6_move_28 0 rfl ?_
  refine gf_X6_33 ok ho dX6_move_29 ?_
  refine r_iload_n ok dX6_move_32 1 rfl ?_
  refine r_dup2 ok dX6_move_33 rfl rfl ?_
  refine r_iald ok ((ho).a4 4 (by decide)) h.1 rfl dX6_move_34 ?_
  replace h := h.2
  refine r_iload_n ok dX6_move_35 3 rfl ?_
  refine r_isub ok dX6_move_36 ?_
  have hi6 := h.1
  replace h := h.2
  refine r_iast ok ((ho).a4 4 (by decide)) hi6 rfl dX6_move_37 (fun S5 eS5 => ?_)
  replace h := h S5 eS5
  refine r_aload_n ok dX6_move_38 0 rfl ?_
  refine gf_X6_30 ok ho dX6_move_39 ?_
  refine r_iload_n ok dX6_move_42 1 rfl ?_
  refine r_aload_n ok dX6_move_43 0 rfl ?_
  refine r_iload_n ok dX6_move_44 2 rfl ?_
  refine r_aload_n ok dX6_move_45 0 rfl ?_
  refine gf_X6_30 ok ho dX6_move_46 ?_
  refine r_iload_n ok dX6_move_49 1 rfl ?_
  refine r_iald ok ((ho).a4 3 (by decide)) h.1 rfl dX6_move_50 ?_
  replace h := h.2
  refine cl_X6_80 ok ho dX6_move_51 (by decide) (Nat.le_of_ble_eq_true rfl) h (fun r8 S7 h => ?_)
  have hi10 := h.1
  replace h := h.2
  refine r_iast ok ((ho).a4 3 (by decide)) hi10 rfl dX6_move_54 (fun S9 eS9 => ?_)
  replace h := h S9 eS9
  exact hret _ _ _ dX6_move_55 h
theorem c_X6_move (l : Launch) (G : Gx) {o : Nat} (ho : isW o) {x1 x2 x3 : Int32} {S : St} {post : St → Prop} (h : wp_X6_move o x1 x2 x3 S post) : MtV l yX6_move cX6_move 4 2 50 G [.ref (G.2.2 o), .int x1, .int x2, .int x3] S post :=
  ctV (by decide) rfl (Nat.le_of_ble_eq_true rfl) (fun X _ hG ok hret => by subst hG; exact w_wp_X6_move ok hret ho h)

/-! HasteRoads$World.hasInn(I)Z -/
theorem dX6_hasInn_0 : decode cX6_hasInn 0 = .ok (.aload_n 0, 1) := by decide +kernel
theorem dX6_hasInn_1 : decode cX6_hasInn 1 = .ok (.getfield 52, 3) := by decide +kernel
theorem dX6_hasInn_4 : decode cX6_hasInn 4 = .ok (.iload_n 1, 1) := by decide +kernel
theorem dX6_hasInn_5 : decode cX6_hasInn 5 = .ok (.ishr, 1) := by decide +kernel
theorem dX6_hasInn_6 : decode cX6_hasInn 6 = .ok (.iconst 1, 1) := by decide +kernel
theorem dX6_hasInn_7 : decode cX6_hasInn 7 = .ok (.iand, 1) := by decide +kernel
theorem dX6_hasInn_8 : decode cX6_hasInn 8 = .ok (.iconst 1, 1) := by decide +kernel
theorem dX6_hasInn_9 : decode cX6_hasInn 9 = .ok (.if_icmp .ne 7, 3) := by decide +kernel
theorem dX6_hasInn_12 : decode cX6_hasInn 12 = .ok (.iconst 1, 1) := by decide +kernel
theorem dX6_hasInn_13 : decode cX6_hasInn 13 = .ok (.goto 4, 3) := by decide +kernel
theorem dX6_hasInn_16 : decode cX6_hasInn 16 = .ok (.iconst 0, 1) := by decide +kernel
theorem dX6_hasInn_17 : decode cX6_hasInn 17 = .ok (.ireturn, 1) := by decide +kernel

def wp_X6_hasInn (o : Nat) (x1 : Int32) (S : St) (post : Int32 → St → Prop) : Prop :=
  ((¬ (((S o 3) >>> (x1 &&& 31)) &&& 1) = 1 → post 0 S) ∧ ((((S o 3) >>> (x1 &&& 31)) &&& 1) = 1 → post 1 S))
theorem w_wp_X6_hasInn {X : Cx} (ok : Ok X cX6_hasInn 2 RX6 0 0) {post : Int32 → St → Prop} (hret : RetZ X cX6_hasInn 2 post) {o : Nat} (ho : isW o) {x1 : Int32} {S : St} (h : wp_X6_hasInn o x1 S post) : Wp X 2 0 [(0, .ref (xad X o)), (1, .int x1)] [] S := by
  unfold wp_X6_hasInn at h
  refine r_aload_n ok dX6_hasInn_0 0 rfl ?_
  refine gf_X6_52 ok ho dX6_hasInn_1 ?_
  refine r_iload_n ok dX6_hasInn_4 1 rfl ?_
  refine r_ishr ok dX6_hasInn_5 ?_
  refine r_iconst (v := 1) ok dX6_hasInn_6 rfl ?_
  refine r_iand ok dX6_hasInn_7 ?_
  refine r_iconst (v := 1) ok dX6_hasInn_8 rfl ?_
  refine r_icmp_ne (tgt := 16) ok dX6_hasInn_9 rfl (fun hc1 => ?_) (fun hc1 => ?_)
  · replace h := h.1 hc1
    refine r_iconst (v := 0) ok dX6_hasInn_16 rfl ?_
    exact hret _ _ _ _ dX6_hasInn_17 (Or.inl rfl) h
  · replace h := h.2 hc1
    refine r_iconst (v := 1) ok dX6_hasInn_12 rfl ?_
    refine r_goto (tgt := 17) ok dX6_hasInn_13 rfl ?_
    exact hret _ _ _ _ dX6_hasInn_17 (Or.inr rfl) h
theorem c_X6_hasInn (l : Launch) (G : Gx) {o : Nat} (ho : isW o) {x1 : Int32} {S : St} {post : Int32 → St → Prop} (h : wp_X6_hasInn o x1 S post) : MtI l yX6_hasInn cX6_hasInn 2 (some .boolean) 0 0 G [.ref (G.2.2 o), .int x1] S post :=
  ctZ (by decide) rfl (Nat.le_of_ble_eq_true rfl) (fun X _ hG ok hret => by subst hG; exact w_wp_X6_hasInn ok hret ho h)

/-! HasteRoads$World.calmAfter(III)I -/
theorem dX6_calmAfter_0 : decode cX6_calmAfter 0 = .ok (.aload_n 0, 1) := by decide +kernel
theorem dX6_calmAfter_1 : decode cX6_calmAfter 1 = .ok (.iload_n 1, 1) := by decide +kernel
theorem dX6_calmAfter_2 : decode cX6_calmAfter 2 = .ok (.invokevirtual 90, 3) := by decide +kernel
theorem dX6_calmAfter_5 : decode cX6_calmAfter 5 = .ok (.ifCond .eq 13, 3) := by decide +kernel
theorem dX6_calmAfter_8 : decode cX6_calmAfter 8 = .ok (.iconst 5, 1) := by decide +kernel
theorem dX6_calmAfter_9 : decode cX6_calmAfter 9 = .ok (.iload_n 2, 1) := by decide +kernel
theorem dX6_calmAfter_10 : decode cX6_calmAfter 10 = .ok (.iload_n 3, 1) := by decide +kernel
theorem dX6_calmAfter_11 : decode cX6_calmAfter 11 = .ok (.iadd, 1) := by decide +kernel
theorem dX6_calmAfter_12 : decode cX6_calmAfter 12 = .ok (.invokestatic 94, 3) := by decide +kernel
theorem dX6_calmAfter_15 : decode cX6_calmAfter 15 = .ok (.goto 4, 3) := by decide +kernel
theorem dX6_calmAfter_18 : decode cX6_calmAfter 18 = .ok (.iload_n 2, 1) := by decide +kernel
theorem dX6_calmAfter_19 : decode cX6_calmAfter 19 = .ok (.ireturn, 1) := by decide +kernel
theorem cl_X6_90 {X : Cx} {cc : ByteArray} {nL pc fr lo : Nat} {L : List (Nat × Value)} {st : List Value} {S : St} (ok : Ok X cc nL RX6 fr lo) {o : Nat} (ho : isW o) {x1 : Int32} (d : decode cc pc = .ok (.invokevirtual 90, 3)) (hroom : 1 ≤ fr ∧ 21 ≤ lo) (hst : (st.map fun v => v.category).sum ≤ 8) {post : Int32 → St → Prop} (h : wp_X6_hasInn o x1 S post) (kk : ∀ (r : Int32) (S1 : St), post r S1 → Wp X nL (pc + 3) L (.int r :: st) S1) : Wp X nL pc L (.int x1 :: .ref (xad X o) :: st) S :=
  r_callVi (n := 2) (f := 0) (lo1 := 0) (N := 1) (As := [.int x1]) ok tw_in_X6 tw_im_X6_hasInn tw_se_X6_hasInn tw_co_X6_hasInn tw_ml_X6_90 (by decide +kernel) rfl ho.ob rfl hroom hst d rfl (c_X6_hasInn (xl X) (xG X) ho h) kk
def wp_X6_calmAfter (o : Nat) (x1 : Int32) (x2 : Int32) (x3 : Int32) (S : St) (post : Int32 → St → Prop) : Prop :=
  wp_X6_hasInn o x1 S (fun r2 S1 => ((r2 = 0 → post x2 S1) ∧ (¬ r2 = 0 → post (if (x2 + x3) < 5 then (x2 + x3) else 5) S1)))
theorem w_wp_X6_calmAfter {X : Cx} (ok : Ok X cX6_calmAfter 4 RX6 1 21) {post : Int32 → St → Prop} (hret : RetI X cX6_calmAfter 4 post) {o : Nat} (ho : isW o) {x1 x2 x3 : Int32} {S : St} (h : wp_X6_calmAfter o x1 x2 x3 S post) : Wp X 4 0 [(0, .ref (xad X o)), (1, .int x1), (2, .int x2), (3, .int x3)] [] S := by
  unfold wp_X6_calmAfter at h
  refine r_aload_n ok dX6_calmAfter_0 0 rfl ?_
  refine r_iload_n ok dX6_calmAfter_1 1 rfl ?_
  refine cl_X6_90 ok ho dX6_calmAfter_2 (by decide) (Nat.le_of_ble_eq_true rfl) h (fun r2 S1 h => ?_)
  refine r_if_eq (tgt := 18) ok dX6_calmAfter_5 rfl (fun hc3 => ?_) (fun hc3 => ?_)
  · replace h := h.1 hc3
    refine r_iload_n ok dX6_calmAfter_18 2 rfl ?_
    exact hret _ _ _ _ dX6_calmAfter_19 h
  · replace h := h.2 hc3
    refine r_iconst (v := 5) ok dX6_calmAfter_8 rfl ?_
    refine r_iload_n ok dX6_calmAfter_9 2 rfl ?_
    refine r_iload_n ok dX6_calmAfter_10 3 rfl ?_
    refine r_iadd ok dX6_calmAfter_11 ?_
    refine r_min ok dX6_calmAfter_12 tw_ml_X6_94 tw_st_Math_min tw_in_Math tw_co_Math_min (by decide) (Nat.le_of_ble_eq_true rfl) ?_
    refine r_goto (tgt := 19) ok dX6_calmAfter_15 rfl ?_
    exact hret _ _ _ _ dX6_calmAfter_19 h
theorem c_X6_calmAfter (l : Launch) (G : Gx) {o : Nat} (ho : isW o) {x1 x2 x3 : Int32} {S : St} {post : Int32 → St → Prop} (h : wp_X6_calmAfter o x1 x2 x3 S post) : MtI l yX6_calmAfter cX6_calmAfter 4 (some .int) 1 21 G [.ref (G.2.2 o), .int x1, .int x2, .int x3] S post :=
  ctI (by decide) rfl (Nat.le_of_ble_eq_true rfl) (fun X _ hG ok hret => by subst hG; exact w_wp_X6_calmAfter ok hret ho h)

/-! HasteRoads$World.rest(II)V -/
theorem dX6_rest_0 : decode cX6_rest 0 = .ok (.aload_n 0, 1) := by decide +kernel
theorem dX6_rest_1 : decode cX6_rest 1 = .ok (.getfield 39, 3) := by decide +kernel
theorem dX6_rest_4 : decode cX6_rest 4 = .ok (.iload_n 1, 1) := by decide +kernel
theorem dX6_rest_5 : decode cX6_rest 5 = .ok (.dup2, 1) := by decide +kernel
theorem dX6_rest_6 : decode cX6_rest 6 = .ok (.iaload, 1) := by decide +kernel
theorem dX6_rest_7 : decode cX6_rest 7 = .ok (.iload_n 2, 1) := by decide +kernel
theorem dX6_rest_8 : decode cX6_rest 8 = .ok (.iadd, 1) := by decide +kernel
theorem dX6_rest_9 : decode cX6_rest 9 = .ok (.iastore, 1) := by decide +kernel
theorem dX6_rest_10 : decode cX6_rest 10 = .ok (.aload_n 0, 1) := by decide +kernel
theorem dX6_rest_11 : decode cX6_rest 11 = .ok (.getfield 33, 3) := by decide +kernel
theorem dX6_rest_14 : decode cX6_rest 14 = .ok (.iload_n 1, 1) := by decide +kernel
theorem dX6_rest_15 : decode cX6_rest 15 = .ok (.aload_n 0, 1) := by decide +kernel
theorem dX6_rest_16 : decode cX6_rest 16 = .ok (.aload_n 0, 1) := by decide +kernel
theorem dX6_rest_17 : decode cX6_rest 17 = .ok (.getfield 30, 3) := by decide +kernel
theorem dX6_rest_20 : decode cX6_rest 20 = .ok (.iload_n 1, 1) := by decide +kernel
theorem dX6_rest_21 : decode cX6_rest 21 = .ok (.iaload, 1) := by decide +kernel
theorem dX6_rest_22 : decode cX6_rest 22 = .ok (.aload_n 0, 1) := by decide +kernel
theorem dX6_rest_23 : decode cX6_rest 23 = .ok (.getfield 33, 3) := by decide +kernel
theorem dX6_rest_26 : decode cX6_rest 26 = .ok (.iload_n 1, 1) := by decide +kernel
theorem dX6_rest_27 : decode cX6_rest 27 = .ok (.iaload, 1) := by decide +kernel
theorem dX6_rest_28 : decode cX6_rest 28 = .ok (.iload_n 2, 1) := by decide +kernel
theorem dX6_rest_29 : decode cX6_rest 29 = .ok (.invokevirtual 87, 3) := by decide +kernel
theorem dX6_rest_32 : decode cX6_rest 32 = .ok (.iastore, 1) := by decide +kernel
theorem dX6_rest_33 : decode cX6_rest 33 = .ok (.return_, 1) := by decide +kernel
theorem cl_X6_87 {X : Cx} {cc : ByteArray} {nL pc fr lo : Nat} {L : List (Nat × Value)} {st : List Value} {S : St} (ok : Ok X cc nL RX6 fr lo) {o : Nat} (ho : isW o) {x1 x2 x3 : Int32} (d : decode cc pc = .ok (.invokevirtual 87, 3)) (hroom : 2 ≤ fr ∧ 44 ≤ lo) (hst : (st.map fun v => v.category).sum ≤ 8) {post : Int32 → St → Prop} (h : wp_X6_calmAfter o x1 x2 x3 S post) (kk : ∀ (r : Int32) (S1 : St), post r S1 → Wp X nL (pc + 3) L (.int r :: st) S1) : Wp X nL pc L (.int x3 :: .int x2 :: .int x1 :: .ref (xad X o) :: st) S :=
  r_callVi (n := 4) (f := 1) (lo1 := 21) (N := 3) (As := [.int x1, .int x2, .int x3]) ok tw_in_X6 tw_im_X6_calmAfter tw_se_X6_calmAfter tw_co_X6_calmAfter tw_ml_X6_87 (by decide +kernel) rfl ho.ob rfl hroom hst d rfl (c_X6_calmAfter (xl X) (xG X) ho h) kk
def wp_X6_rest (o : Nat) (x1 : Int32) (x2 : Int32) (S : St) (post : St → Prop) : Prop :=
  vp_in x1 4 ∧ (vp_in x1 4 ∧ (∀ S1 : St, S1 = up S (o + 10) (ix x1) ((S (o + 10) (ix x1)) + x2) → vp_in x1 4 ∧ (vp_in x1 4 ∧ (wp_X6_calmAfter o (S1 (o + 7) (ix x1)) (S1 (o + 8) (ix x1)) x2 S1 (fun r4 S3 => vp_in x1 4 ∧ (∀ S5 : St, S5 = up S3 (o + 8) (ix x1) r4 → post S5))))))
theorem w_wp_X6_rest {X : Cx} (ok : Ok X cX6_rest 3 RX6 2 44) {post : St → Prop} (hret : RetV X cX6_rest 3 post) {o : Nat} (ho : isW o) {x1 x2 : Int32} {S : St} (h : wp_X6_rest o x1 x2 S post) : Wp X 3 0 [(0, .ref (xad X o)), (1, .int x1), (2, .int x2)] [] S := by
  unfold wp_X6_rest at h
  refine r_aload_n ok dX6_rest_0 0 rfl ?_
  refine gf_X6_39 ok ho dX6_rest_1 ?_
  refine r_iload_n ok dX6_rest_4 1 rfl ?_
  refine r_dup2 ok dX6_rest_5 rfl rfl ?_
  refine r_iald ok ((ho).a4 6 (by decide)) h.1 rfl dX6_rest_6 ?_
  replace h := h.2
  refine r_iload_n ok dX6_rest_7 2 rfl ?_
  refine r_iadd ok dX6_rest_8 ?_
  have hi2 := h.1
  replace h := h.2
  refine r_iast ok ((ho).a4 6 (by decide)) hi2 rfl dX6_rest_9 (fun S1 eS1 => ?_)
  replace h := h S1 eS1
  refine r_aload_n ok dX6_rest_10 0 rfl ?_
  refine gf_X6_33 ok ho dX6_rest_11 ?_
  refine r_iload_n ok dX6_rest_14 1 rfl ?_
  refine r_aload_n ok dX6_rest_15 0 rfl ?_
  refine r_aload_n ok dX6_rest_16 0 rfl ?_
  refine gf_X6_30 ok ho dX6_rest_17 ?_
  refine r_iload_n ok dX6_rest_20 1 rfl ?_
  refine r_iald ok ((ho).a4 3 (by decide)) h.1 rfl dX6_rest_21 ?_
  replace h := h.2
  refine r_aload_n ok dX6_rest_22 0 rfl ?_
  refine gf_X6_33 ok ho dX6_rest_23 ?_
  refine r_iload_n ok dX6_rest_26 1 rfl ?_
  refine r_iald ok ((ho).a4 4 (by decide)) h.1 rfl dX6_rest_27 ?_
  replace h := h.2
  refine r_iload_n ok dX6_rest_28 2 rfl ?_
  refine cl_X6_87 ok ho dX6_rest_29 (by decide) (Nat.le_of_ble_eq_true rfl) h (fun r4 S3 h => ?_)
  have hi6 := h.1
  replace h := h.2
  refine r_iast ok ((ho).a4 4 (by decide)) hi6 rfl dX6_rest_32 (fun S5 eS5 => ?_)
  replace h := h S5 eS5
  exact hret _ _ _ dX6_rest_33 h
theorem c_X6_rest (l : Launch) (G : Gx) {o : Nat} (ho : isW o) {x1 x2 : Int32} {S : St} {post : St → Prop} (h : wp_X6_rest o x1 x2 S post) : MtV l yX6_rest cX6_rest 3 2 44 G [.ref (G.2.2 o), .int x1, .int x2] S post :=
  ctV (by decide) rfl (Nat.le_of_ble_eq_true rfl) (fun X _ hG ok hret => by subst hG; exact w_wp_X6_rest ok hret ho h)
