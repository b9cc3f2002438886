/-! the law's own script -/
def LwX (X : Cx) (b Ln : Nat) (xs : Nat → Int32) : Prop := va_X b Ln xs (Prod.fst (Prod.snd (Prod.snd (Prod.snd (Prod.snd X))))) (Prod.fst (Prod.snd (Prod.snd (Prod.snd (Prod.snd X))))).heap ∧ b < (Prod.fst (Prod.snd (Prod.snd (Prod.snd (Prod.snd X))))).heap.size ∧ ¬ Fr (xad X) b
section LawRows
variable {X : Cx} {cc : ByteArray} {nL pc fr lo : Nat} {own : String} {L : List (Nat × Value)} {st : List Value} {S : St} {b Ln : Nat} {xs : Nat → Int32}
theorem r_sld {i : Int32} {j : Nat} (ok : Ok X cc nL own fr lo) (hx : LwX X b Ln xs) (hin : vp_in i Ln) (hj : ix i = j) (d : decode cc pc = .ok (.iaload, 1)) (k : Wp X nL (pc + 1) L (.int (xs j) :: st) S) : Wp X nL pc L (.int i :: .ref b :: st) S :=
  fun H locs ls hl hP hS => by subst hj; exact va_sld ok.1 ok.2.1 hx.1 hx.2.1 hx.2.2 hS hin d (k H locs ls hl hP hS)
theorem r_slen (ok : Ok X cc nL own fr lo) (hx : LwX X b Ln xs) (d : decode cc pc = .ok (.arraylength, 1)) (k : Wp X nL (pc + 1) L (.int (Int32.ofNat Ln) :: st) S) : Wp X nL pc L (.ref b :: st) S :=
  fun H locs ls hl hP hS => va_slen ok.1 ok.2.1 hx.1 hx.2.1 hx.2.2 hS d (k H locs ls hl hP hS)
end LawRows
theorem cl_L_13 {X : Cx} {cc : ByteArray} {nL pc fr lo : Nat} {L : List (Nat × Value)} {st : List Value} {S : St} (ok : Ok X cc nL RL fr lo) {x1 : Int32} (d : decode cc pc = .ok (.invokevirtual 13, 3)) (hroom : 2 ≤ fr ∧ 43 ≤ lo) (hst : (st.map fun v => v.category).sum ≤ 8) {post : Int32 → St → Prop} (h : wp_X7_feed x1 S post) (kk : ∀ (r : Int32) (S1 : St), post r S1 → Wp X nL (pc + 3) L (.int r :: st) S1) : Wp X nL pc L (.int x1 :: .ref (xad X 44) :: st) S :=
  r_callVi (n := 2) (f := 1) (lo1 := 22) (N := 1) (As := [.int x1]) ok tw_in_X7 tw_im_X7_feed tw_se_X7_feed tw_co_X7_feed tw_ml_L_13 (by decide +kernel) rfl ob_44 rfl hroom hst d rfl (c_X7_feed (xl X) (xG X) h) kk
theorem cl_L_17 {X : Cx} {cc : ByteArray} {nL pc fr lo : Nat} {L : List (Nat × Value)} {st : List Value} {S : St} (ok : Ok X cc nL RL fr lo) {x1 : Int32} (d : decode cc pc = .ok (.invokevirtual 17, 3)) (hroom : 2 ≤ fr ∧ 43 ≤ lo) (hst : (st.map fun v => v.category).sum ≤ 8) {post : Int32 → St → Prop} (h : wp_X8_feed x1 S post) (kk : ∀ (r : Int32) (S1 : St), post r S1 → Wp X nL (pc + 3) L (.int r :: st) S1) : Wp X nL pc L (.int x1 :: .ref (xad X 71) :: st) S :=
  r_callVi (n := 2) (f := 1) (lo1 := 22) (N := 1) (As := [.int x1]) ok tw_in_X8 tw_im_X8_feed tw_se_X8_feed tw_co_X8_feed tw_ml_L_17 (by decide +kernel) rfl ob_71 rfl hroom hst d rfl (c_X8_feed (xl X) (xG X) h) kk
theorem cl_L_18 {X : Cx} {cc : ByteArray} {nL pc fr lo : Nat} {L : List (Nat × Value)} {st : List Value} {S : St} (ok : Ok X cc nL RL fr lo) (d : decode cc pc = .ok (.invokevirtual 18, 3)) (hroom : 6 ≤ fr ∧ 141 ≤ lo) (hst : (st.map fun v => v.category).sum ≤ 8) {post : Int32 → St → Prop} (h : wp_X7_land S post) (kk : ∀ (r : Int32) (S1 : St), post r S1 → Wp X nL (pc + 3) L (.int r :: st) S1) : Wp X nL pc L (.ref (xad X 44) :: st) S :=
  r_callVi (n := 3) (f := 5) (lo1 := 119) (N := 0) (As := []) ok tw_in_X7 tw_im_X7_land tw_se_X7_land tw_co_X7_land tw_ml_L_18 (by decide +kernel) rfl ob_44 rfl hroom hst d rfl (c_X7_land (xl X) (xG X) h) kk
theorem cl_L_22 {X : Cx} {cc : ByteArray} {nL pc fr lo : Nat} {L : List (Nat × Value)} {st : List Value} {S : St} (ok : Ok X cc nL RL fr lo) (d : decode cc pc = .ok (.invokevirtual 22, 3)) (hroom : 6 ≤ fr ∧ 132 ≤ lo) (hst : (st.map fun v => v.category).sum ≤ 8) {post : Int32 → St → Prop} (h : wp_X8_land S post) (kk : ∀ (r : Int32) (S1 : St), post r S1 → Wp X nL (pc + 3) L (.int r :: st) S1) : Wp X nL pc L (.ref (xad X 71) :: st) S :=
  r_callVi (n := 2) (f := 5) (lo1 := 111) (N := 0) (As := []) ok tw_in_X8 tw_im_X8_land tw_se_X8_land tw_co_X8_land tw_ml_L_22 (by decide +kernel) rfl ob_71 rfl hroom hst d rfl (c_X8_land (xl X) (xG X) h) kk
theorem cl_L_23 {X : Cx} {cc : ByteArray} {nL pc fr lo : Nat} {L : List (Nat × Value)} {st : List Value} {S : St} (ok : Ok X cc nL RL fr lo) (d : decode cc pc = .ok (.invokevirtual 23, 3)) (hroom : 1 ≤ fr ∧ 20 ≤ lo) (hst : (st.map fun v => v.category).sum ≤ 8) {post : Int32 → St → Prop} (h : wp_X7_fault S post) (kk : ∀ (r : Int32) (S1 : St), post r S1 → Wp X nL (pc + 3) L (.int r :: st) S1) : Wp X nL pc L (.ref (xad X 44) :: st) S :=
  r_callVi (n := 1) (f := 0) (lo1 := 0) (N := 0) (As := []) ok tw_in_X7 tw_im_X7_fault tw_se_X7_fault tw_co_X7_fault tw_ml_L_23 (by decide +kernel) rfl ob_44 rfl hroom hst d rfl (c_X7_fault (xl X) (xG X) h) kk
theorem cl_L_26 {X : Cx} {cc : ByteArray} {nL pc fr lo : Nat} {L : List (Nat × Value)} {st : List Value} {S : St} (ok : Ok X cc nL RL fr lo) (d : decode cc pc = .ok (.invokevirtual 26, 3)) (hroom : 1 ≤ fr ∧ 20 ≤ lo) (hst : (st.map fun v => v.category).sum ≤ 8) {post : Int32 → St → Prop} (h : wp_X8_fault S post) (kk : ∀ (r : Int32) (S1 : St), post r S1 → Wp X nL (pc + 3) L (.int r :: st) S1) : Wp X nL pc L (.ref (xad X 71) :: st) S :=
  r_callVi (n := 1) (f := 0) (lo1 := 0) (N := 0) (As := []) ok tw_in_X8 tw_im_X8_fault tw_se_X8_fault tw_co_X8_fault tw_ml_L_26 (by decide +kernel) rfl ob_71 rfl hroom hst d rfl (c_X8_fault (xl X) (xG X) h) kk
theorem cl_L_27 {X : Cx} {cc : ByteArray} {nL pc fr lo : Nat} {L : List (Nat × Value)} {st : List Value} {S : St} (ok : Ok X cc nL RL fr lo) {x1 : Int32} (d : decode cc pc = .ok (.invokevirtual 27, 3)) (hroom : 1 ≤ fr ∧ 21 ≤ lo) (hst : (st.map fun v => v.category).sum ≤ 8) {post : Int32 → St → Prop} (h : wp_X7_told x1 S post) (kk : ∀ (r : Int32) (S1 : St), post r S1 → Wp X nL (pc + 3) L (.int r :: st) S1) : Wp X nL pc L (.int x1 :: .ref (xad X 44) :: st) S :=
  r_callVi (n := 2) (f := 0) (lo1 := 0) (N := 1) (As := [.int x1]) ok tw_in_X7 tw_im_X7_told tw_se_X7_told tw_co_X7_told tw_ml_L_27 (by decide +kernel) rfl ob_44 rfl hroom hst d rfl (c_X7_told (xl X) (xG X) h) kk
theorem cl_L_30 {X : Cx} {cc : ByteArray} {nL pc fr lo : Nat} {L : List (Nat × Value)} {st : List Value} {S : St} (ok : Ok X cc nL RL fr lo) {x1 : Int32} (d : decode cc pc = .ok (.invokevirtual 30, 3)) (hroom : 2 ≤ fr ∧ 43 ≤ lo) (hst : (st.map fun v => v.category).sum ≤ 8) {post : Int32 → St → Prop} (h : wp_X8_told x1 S post) (kk : ∀ (r : Int32) (S1 : St), post r S1 → Wp X nL (pc + 3) L (.int r :: st) S1) : Wp X nL pc L (.int x1 :: .ref (xad X 71) :: st) S :=
  r_callVi (n := 2) (f := 1) (lo1 := 22) (N := 1) (As := [.int x1]) ok tw_in_X8 tw_im_X8_told tw_se_X8_told tw_co_X8_told tw_ml_L_30 (by decide +kernel) rfl ob_71 rfl hroom hst d rfl (c_X8_told (xl X) (xG X) h) kk
theorem cl_L_31 {X : Cx} {cc : ByteArray} {nL pc fr lo : Nat} {L : List (Nat × Value)} {st : List Value} {S : St} (ok : Ok X cc nL RL fr lo) {x1 x2 : Int32} (d : decode cc pc = .ok (.invokevirtual 31, 3)) (hroom : 2 ≤ fr ∧ 43 ≤ lo) (hst : (st.map fun v => v.category).sum ≤ 8) {post : Int32 → St → Prop} (h : wp_X7_road x1 x2 S post) (kk : ∀ (r : Int32) (S1 : St), post r S1 → Wp X nL (pc + 3) L (.int r :: st) S1) : Wp X nL pc L (.int x2 :: .int x1 :: .ref (xad X 44) :: st) S :=
  r_callVi (n := 3) (f := 1) (lo1 := 21) (N := 2) (As := [.int x1, .int x2]) ok tw_in_X7 tw_im_X7_road tw_se_X7_road tw_co_X7_road tw_ml_L_31 (by decide +kernel) rfl ob_44 rfl hroom hst d rfl (c_X7_road (xl X) (xG X) h) kk
theorem cl_L_35 {X : Cx} {cc : ByteArray} {nL pc fr lo : Nat} {L : List (Nat × Value)} {st : List Value} {S : St} (ok : Ok X cc nL RL fr lo) {x1 x2 : Int32} (d : decode cc pc = .ok (.invokevirtual 35, 3)) (hroom : 3 ≤ fr ∧ 65 ≤ lo) (hst : (st.map fun v => v.category).sum ≤ 8) {post : Int32 → St → Prop} (h : wp_X8_road x1 x2 S post) (kk : ∀ (r : Int32) (S1 : St), post r S1 → Wp X nL (pc + 3) L (.int r :: st) S1) : Wp X nL pc L (.int x2 :: .int x1 :: .ref (xad X 71) :: st) S :=
  r_callVi (n := 3) (f := 2) (lo1 := 43) (N := 2) (As := [.int x1, .int x2]) ok tw_in_X8 tw_im_X8_road tw_se_X8_road tw_co_X8_road tw_ml_L_35 (by decide +kernel) rfl ob_71 rfl hroom hst d rfl (c_X8_road (xl X) (xG X) h) kk
theorem cl_L_36 {X : Cx} {cc : ByteArray} {nL pc fr lo : Nat} {L : List (Nat × Value)} {st : List Value} {S : St} (ok : Ok X cc nL RL fr lo) {x1 x2 : Int32} (d : decode cc pc = .ok (.invokevirtual 36, 3)) (hroom : 2 ≤ fr ∧ 47 ≤ lo) (hst : (st.map fun v => v.category).sum ≤ 8) {post : Int32 → St → Prop} (h : wp_X7_person x1 x2 S post) (kk : ∀ (r : Int32) (S1 : St), post r S1 → Wp X nL (pc + 3) L (.int r :: st) S1) : Wp X nL pc L (.int x2 :: .int x1 :: .ref (xad X 44) :: st) S :=
  r_callVi (n := 3) (f := 1) (lo1 := 25) (N := 2) (As := [.int x1, .int x2]) ok tw_in_X7 tw_im_X7_person tw_se_X7_person tw_co_X7_person tw_ml_L_36 (by decide +kernel) rfl ob_44 rfl hroom hst d rfl (c_X7_person (xl X) (xG X) h) kk
theorem cl_L_39 {X : Cx} {cc : ByteArray} {nL pc fr lo : Nat} {L : List (Nat × Value)} {st : List Value} {S : St} (ok : Ok X cc nL RL fr lo) {x1 x2 : Int32} (d : decode cc pc = .ok (.invokevirtual 39, 3)) (hroom : 3 ≤ fr ∧ 69 ≤ lo) (hst : (st.map fun v => v.category).sum ≤ 8) {post : Int32 → St → Prop} (h : wp_X8_person x1 x2 S post) (kk : ∀ (r : Int32) (S1 : St), post r S1 → Wp X nL (pc + 3) L (.int r :: st) S1) : Wp X nL pc L (.int x2 :: .int x1 :: .ref (xad X 71) :: st) S :=
  r_callVi (n := 3) (f := 2) (lo1 := 47) (N := 2) (As := [.int x1, .int x2]) ok tw_in_X8 tw_im_X8_person tw_se_X8_person tw_co_X8_person tw_ml_L_39 (by decide +kernel) rfl ob_71 rfl hroom hst d rfl (c_X8_person (xl X) (xG X) h) kk
theorem cl_L_40 {X : Cx} {cc : ByteArray} {nL pc fr lo : Nat} {L : List (Nat × Value)} {st : List Value} {S : St} (ok : Ok X cc nL RL fr lo) {x1 x2 x3 x4 x5 : Int32} (d : decode cc pc = .ok (.invokevirtual 40, 3)) (hroom : 3 ≤ fr ∧ 75 ≤ lo) (hst : (st.map fun v => v.category).sum ≤ 8) {post : Int32 → St → Prop} (h : wp_X7_takes x1 x2 x3 x4 x5 S post) (kk : ∀ (r : Int32) (S1 : St), post r S1 → Wp X nL (pc + 3) L (.int r :: st) S1) : Wp X nL pc L (.int x5 :: .int x4 :: .int x3 :: .int x2 :: .int x1 :: .ref (xad X 44) :: st) S :=
  r_callVi (n := 6) (f := 2) (lo1 := 50) (N := 5) (As := [.int x1, .int x2, .int x3, .int x4, .int x5]) ok tw_in_X7 tw_im_X7_takes tw_se_X7_takes tw_co_X7_takes tw_ml_L_40 (by decide +kernel) rfl ob_44 rfl hroom hst d rfl (c_X7_takes (xl X) (xG X) h) kk
theorem cl_L_44 {X : Cx} {cc : ByteArray} {nL pc fr lo : Nat} {L : List (Nat × Value)} {st : List Value} {S : St} (ok : Ok X cc nL RL fr lo) {x1 x2 x3 x4 x5 : Int32} (d : decode cc pc = .ok (.invokevirtual 44, 3)) (hroom : 4 ≤ fr ∧ 98 ≤ lo) (hst : (st.map fun v => v.category).sum ≤ 8) {post : Int32 → St → Prop} (h : wp_X8_takes x1 x2 x3 x4 x5 S post) (kk : ∀ (r : Int32) (S1 : St), post r S1 → Wp X nL (pc + 3) L (.int r :: st) S1) : Wp X nL pc L (.int x5 :: .int x4 :: .int x3 :: .int x2 :: .int x1 :: .ref (xad X 71) :: st) S :=
  r_callVi (n := 6) (f := 3) (lo1 := 73) (N := 5) (As := [.int x1, .int x2, .int x3, .int x4, .int x5]) ok tw_in_X8 tw_im_X8_takes tw_se_X8_takes tw_co_X8_takes tw_ml_L_44 (by decide +kernel) rfl ob_71 rfl hroom hst d rfl (c_X8_takes (xl X) (xG X) h) kk
theorem cl_L_45 {X : Cx} {cc : ByteArray} {nL pc fr lo : Nat} {L : List (Nat × Value)} {st : List Value} {S : St} (ok : Ok X cc nL RL fr lo) {x1 x2 x3 : Int32} (d : decode cc pc = .ok (.invokevirtual 45, 3)) (hroom : 4 ≤ fr ∧ 96 ≤ lo) (hst : (st.map fun v => v.category).sum ≤ 8) {post : Int32 → St → Prop} (h : wp_X7_go x1 x2 x3 S post) (kk : ∀ (r : Int32) (S1 : St), post r S1 → Wp X nL (pc + 3) L (.int r :: st) S1) : Wp X nL pc L (.int x3 :: .int x2 :: .int x1 :: .ref (xad X 44) :: st) S :=
  r_callVi (n := 4) (f := 3) (lo1 := 73) (N := 3) (As := [.int x1, .int x2, .int x3]) ok tw_in_X7 tw_im_X7_go tw_se_X7_go tw_co_X7_go tw_ml_L_45 (by decide +kernel) rfl ob_44 rfl hroom hst d rfl (c_X7_go (xl X) (xG X) h) kk
theorem cl_L_49 {X : Cx} {cc : ByteArray} {nL pc fr lo : Nat} {L : List (Nat × Value)} {st : List Value} {S : St} (ok : Ok X cc nL RL fr lo) {x1 x2 x3 : Int32} (d : decode cc pc = .ok (.invokevirtual 49, 3)) (hroom : 5 ≤ fr ∧ 121 ≤ lo) (hst : (st.map fun v => v.category).sum ≤ 8) {post : Int32 → St → Prop} (h : wp_X8_go x1 x2 x3 S post) (kk : ∀ (r : Int32) (S1 : St), post r S1 → Wp X nL (pc + 3) L (.int r :: st) S1) : Wp X nL pc L (.int x3 :: .int x2 :: .int x1 :: .ref (xad X 71) :: st) S :=
  r_callVi (n := 4) (f := 4) (lo1 := 98) (N := 3) (As := [.int x1, .int x2, .int x3]) ok tw_in_X8 tw_im_X8_go tw_se_X8_go tw_co_X8_go tw_ml_L_49 (by decide +kernel) rfl ob_71 rfl hroom hst d rfl (c_X8_go (xl X) (xG X) h) kk
theorem cl_L_50 {X : Cx} {cc : ByteArray} {nL pc fr lo : Nat} {L : List (Nat × Value)} {st : List Value} {S : St} (ok : Ok X cc nL RL fr lo) {x1 x2 : Int32} (d : decode cc pc = .ok (.invokevirtual 50, 3)) (hroom : 4 ≤ fr ∧ 88 ≤ lo) (hst : (st.map fun v => v.category).sum ≤ 8) {post : Int32 → St → Prop} (h : wp_X7_await x1 x2 S post) (kk : ∀ (r : Int32) (S1 : St), post r S1 → Wp X nL (pc + 3) L (.int r :: st) S1) : Wp X nL pc L (.int x2 :: .int x1 :: .ref (xad X 44) :: st) S :=
  r_callVi (n := 3) (f := 3) (lo1 := 66) (N := 2) (As := [.int x1, .int x2]) ok tw_in_X7 tw_im_X7_await tw_se_X7_await tw_co_X7_await tw_ml_L_50 (by decide +kernel) rfl ob_44 rfl hroom hst d rfl (c_X7_await (xl X) (xG X) h) kk
theorem cl_L_53 {X : Cx} {cc : ByteArray} {nL pc fr lo : Nat} {L : List (Nat × Value)} {st : List Value} {S : St} (ok : Ok X cc nL RL fr lo) {x1 x2 : Int32} (d : decode cc pc = .ok (.invokevirtual 53, 3)) (hroom : 3 ≤ fr ∧ 66 ≤ lo) (hst : (st.map fun v => v.category).sum ≤ 8) {post : Int32 → St → Prop} (h : wp_X8_await x1 x2 S post) (kk : ∀ (r : Int32) (S1 : St), post r S1 → Wp X nL (pc + 3) L (.int r :: st) S1) : Wp X nL pc L (.int x2 :: .int x1 :: .ref (xad X 71) :: st) S :=
  r_callVi (n := 4) (f := 2) (lo1 := 43) (N := 2) (As := [.int x1, .int x2]) ok tw_in_X8 tw_im_X8_await tw_se_X8_await tw_co_X8_await tw_ml_L_53 (by decide +kernel) rfl ob_71 rfl hroom hst d rfl (c_X8_await (xl X) (xG X) h) kk
theorem cl_L_54 {X : Cx} {cc : ByteArray} {nL pc fr lo : Nat} {L : List (Nat × Value)} {st : List Value} {S : St} (ok : Ok X cc nL RL fr lo) {x1 x2 : Int32} (d : decode cc pc = .ok (.invokevirtual 54, 3)) (hroom : 2 ≤ fr ∧ 45 ≤ lo) (hst : (st.map fun v => v.category).sum ≤ 8) {post : Int32 → St → Prop} (h : wp_X7_load x1 x2 S post) (kk : ∀ (r : Int32) (S1 : St), post r S1 → Wp X nL (pc + 3) L (.int r :: st) S1) : Wp X nL pc L (.int x2 :: .int x1 :: .ref (xad X 44) :: st) S :=
  r_callVi (n := 4) (f := 1) (lo1 := 22) (N := 2) (As := [.int x1, .int x2]) ok tw_in_X7 tw_im_X7_load tw_se_X7_load tw_co_X7_load tw_ml_L_54 (by decide +kernel) rfl ob_44 rfl hroom hst d rfl (c_X7_load (xl X) (xG X) h) kk
theorem cl_L_57 {X : Cx} {cc : ByteArray} {nL pc fr lo : Nat} {L : List (Nat × Value)} {st : List Value} {S : St} (ok : Ok X cc nL RL fr lo) {x1 x2 : Int32} (d : decode cc pc = .ok (.invokevirtual 57, 3)) (hroom : 3 ≤ fr ∧ 66 ≤ lo) (hst : (st.map fun v => v.category).sum ≤ 8) {post : Int32 → St → Prop} (h : wp_X8_load x1 x2 S post) (kk : ∀ (r : Int32) (S1 : St), post r S1 → Wp X nL (pc + 3) L (.int r :: st) S1) : Wp X nL pc L (.int x2 :: .int x1 :: .ref (xad X 71) :: st) S :=
  r_callVi (n := 4) (f := 2) (lo1 := 43) (N := 2) (As := [.int x1, .int x2]) ok tw_in_X8 tw_im_X8_load tw_se_X8_load tw_co_X8_load tw_ml_L_57 (by decide +kernel) rfl ob_71 rfl hroom hst d rfl (c_X8_load (xl X) (xG X) h) kk
theorem cl_L_67 {X : Cx} {cc : ByteArray} {nL pc fr lo : Nat} {L : List (Nat × Value)} {st : List Value} {S : St} (ok : Ok X cc nL RL fr lo) {x1 x2 : Int32} (d : decode cc pc = .ok (.invokevirtual 67, 3)) (hroom : 2 ≤ fr ∧ 45 ≤ lo) (hst : (st.map fun v => v.category).sum ≤ 8) {post : Int32 → St → Prop} (h : wp_X7_miles x1 x2 S post) (kk : ∀ (r : Int32) (S1 : St), post r S1 → Wp X nL (pc + 3) L (.int r :: st) S1) : Wp X nL pc L (.int x2 :: .int x1 :: .ref (xad X 44) :: st) S :=
  r_callVi (n := 4) (f := 1) (lo1 := 22) (N := 2) (As := [.int x1, .int x2]) ok tw_in_X7 tw_im_X7_miles tw_se_X7_miles tw_co_X7_miles tw_ml_L_67 (by decide +kernel) rfl ob_44 rfl hroom hst d rfl (c_X7_miles (xl X) (xG X) h) kk
theorem cl_L_70 {X : Cx} {cc : ByteArray} {nL pc fr lo : Nat} {L : List (Nat × Value)} {st : List Value} {S : St} (ok : Ok X cc nL RL fr lo) {x1 x2 : Int32} (d : decode cc pc = .ok (.invokevirtual 70, 3)) (hroom : 3 ≤ fr ∧ 66 ≤ lo) (hst : (st.map fun v => v.category).sum ≤ 8) {post : Int32 → St → Prop} (h : wp_X8_miles x1 x2 S post) (kk : ∀ (r : Int32) (S1 : St), post r S1 → Wp X nL (pc + 3) L (.int r :: st) S1) : Wp X nL pc L (.int x2 :: .int x1 :: .ref (xad X 71) :: st) S :=
  r_callVi (n := 4) (f := 2) (lo1 := 43) (N := 2) (As := [.int x1, .int x2]) ok tw_in_X8 tw_im_X8_miles tw_se_X8_miles tw_co_X8_miles tw_ml_L_70 (by decide +kernel) rfl ob_71 rfl hroom hst d rfl (c_X8_miles (xl X) (xG X) h) kk
theorem cl_L_71 {X : Cx} {cc : ByteArray} {nL pc fr lo : Nat} {L : List (Nat × Value)} {st : List Value} {S : St} (ok : Ok X cc nL RL fr lo) {x1 : Int32} (d : decode cc pc = .ok (.invokevirtual 71, 3)) (hroom : 5 ≤ fr ∧ 119 ≤ lo) (hst : (st.map fun v => v.category).sum ≤ 8) {post : Int32 → St → Prop} (h : wp_X7_drift x1 S post) (kk : ∀ (r : Int32) (S1 : St), post r S1 → Wp X nL (pc + 3) L (.int r :: st) S1) : Wp X nL pc L (.int x1 :: .ref (xad X 44) :: st) S :=
  r_callVi (n := 3) (f := 4) (lo1 := 97) (N := 1) (As := [.int x1]) ok tw_in_X7 tw_im_X7_drift tw_se_X7_drift tw_co_X7_drift tw_ml_L_71 (by decide +kernel) rfl ob_44 rfl hroom hst d rfl (c_X7_drift (xl X) (xG X) h) kk
theorem cl_L_74 {X : Cx} {cc : ByteArray} {nL pc fr lo : Nat} {L : List (Nat × Value)} {st : List Value} {S : St} (ok : Ok X cc nL RL fr lo) {x1 : Int32} (d : decode cc pc = .ok (.invokevirtual 74, 3)) (hroom : 5 ≤ fr ∧ 124 ≤ lo) (hst : (st.map fun v => v.category).sum ≤ 8) {post : Int32 → St → Prop} (h : wp_X8_drift x1 S post) (kk : ∀ (r : Int32) (S1 : St), post r S1 → Wp X nL (pc + 3) L (.int r :: st) S1) : Wp X nL pc L (.int x1 :: .ref (xad X 71) :: st) S :=
  r_callVi (n := 7) (f := 4) (lo1 := 98) (N := 1) (As := [.int x1]) ok tw_in_X8 tw_im_X8_drift tw_se_X8_drift tw_co_X8_drift tw_ml_L_74 (by decide +kernel) rfl ob_71 rfl hroom hst d rfl (c_X8_drift (xl X) (xG X) h) kk
theorem cl_L_75 {X : Cx} {cc : ByteArray} {nL pc fr lo : Nat} {L : List (Nat × Value)} {st : List Value} {S : St} (ok : Ok X cc nL RL fr lo) {x1 x2 : Int32} (d : decode cc pc = .ok (.invokevirtual 75, 3)) (hroom : 5 ≤ fr ∧ 134 ≤ lo) (hst : (st.map fun v => v.category).sum ≤ 8) {post : Int32 → St → Prop} (h : wp_X7_soonest x1 x2 S post) (kk : ∀ (r : Int32) (S1 : St), post r S1 → Wp X nL (pc + 3) L (.int r :: st) S1) : Wp X nL pc L (.int x2 :: .int x1 :: .ref (xad X 44) :: st) S :=
  r_callVi (n := 3) (f := 4) (lo1 := 112) (N := 2) (As := [.int x1, .int x2]) ok tw_in_X7 tw_im_X7_soonest tw_se_X7_soonest tw_co_X7_soonest tw_ml_L_75 (by decide +kernel) rfl ob_44 rfl hroom hst d rfl (c_X7_soonest (xl X) (xG X) h) kk
theorem cl_L_78 {X : Cx} {cc : ByteArray} {nL pc fr lo : Nat} {L : List (Nat × Value)} {st : List Value} {S : St} (ok : Ok X cc nL RL fr lo) {x1 x2 : Int32} (d : decode cc pc = .ok (.invokevirtual 78, 3)) (hroom : 6 ≤ fr ∧ 148 ≤ lo) (hst : (st.map fun v => v.category).sum ≤ 8) {post : Int32 → St → Prop} (h : wp_X8_soonest x1 x2 S post) (kk : ∀ (r : Int32) (S1 : St), post r S1 → Wp X nL (pc + 3) L (.int r :: st) S1) : Wp X nL pc L (.int x2 :: .int x1 :: .ref (xad X 71) :: st) S :=
  r_callVi (n := 4) (f := 5) (lo1 := 125) (N := 2) (As := [.int x1, .int x2]) ok tw_in_X8 tw_im_X8_soonest tw_se_X8_soonest tw_co_X8_soonest tw_ml_L_78 (by decide +kernel) rfl ob_71 rfl hroom hst d rfl (c_X8_soonest (xl X) (xG X) h) kk
theorem cl_L_79 {X : Cx} {cc : ByteArray} {nL pc fr lo : Nat} {L : List (Nat × Value)} {st : List Value} {S : St} (ok : Ok X cc nL RL fr lo) {x1 x2 : Int32} (d : decode cc pc = .ok (.invokevirtual 79, 3)) (hroom : 7 ≤ fr ∧ 180 ≤ lo) (hst : (st.map fun v => v.category).sum ≤ 8) {post : Int32 → St → Prop} (h : wp_X7_step x1 x2 S post) (kk : ∀ (r : Int32) (S1 : St), post r S1 → Wp X nL (pc + 3) L (.int r :: st) S1) : Wp X nL pc L (.int x2 :: .int x1 :: .ref (xad X 44) :: st) S :=
  r_callVi (n := 3) (f := 6) (lo1 := 158) (N := 2) (As := [.int x1, .int x2]) ok tw_in_X7 tw_im_X7_step tw_se_X7_step tw_co_X7_step tw_ml_L_79 (by decide +kernel) rfl ob_44 rfl hroom hst d rfl (c_X7_step (xl X) (xG X) h) kk
theorem cl_L_82 {X : Cx} {cc : ByteArray} {nL pc fr lo : Nat} {L : List (Nat × Value)} {st : List Value} {S : St} (ok : Ok X cc nL RL fr lo) {x1 x2 : Int32} (d : decode cc pc = .ok (.invokevirtual 82, 3)) (hroom : 8 ≤ fr ∧ 199 ≤ lo) (hst : (st.map fun v => v.category).sum ≤ 8) {post : Int32 → St → Prop} (h : wp_X8_step x1 x2 S post) (kk : ∀ (r : Int32) (S1 : St), post r S1 → Wp X nL (pc + 3) L (.int r :: st) S1) : Wp X nL pc L (.int x2 :: .int x1 :: .ref (xad X 71) :: st) S :=
  r_callVi (n := 6) (f := 7) (lo1 := 174) (N := 2) (As := [.int x1, .int x2]) ok tw_in_X8 tw_im_X8_step tw_se_X8_step tw_co_X8_step tw_ml_L_82 (by decide +kernel) rfl ob_71 rfl hroom hst d rfl (c_X8_step (xl X) (xG X) h) kk
theorem cl_L_83 {X : Cx} {cc : ByteArray} {nL pc fr lo : Nat} {L : List (Nat × Value)} {st : List Value} {S : St} (ok : Ok X cc nL RL fr lo) {x1 : Int32} (d : decode cc pc = .ok (.invokevirtual 83, 3)) (hroom : 6 ≤ fr ∧ 152 ≤ lo) (hst : (st.map fun v => v.category).sum ≤ 8) {post : Int32 → St → Prop} (h : wp_X7_latest x1 S post) (kk : ∀ (r : Int32) (S1 : St), post r S1 → Wp X nL (pc + 3) L (.int r :: st) S1) : Wp X nL pc L (.int x1 :: .ref (xad X 44) :: st) S :=
  r_callVi (n := 3) (f := 5) (lo1 := 130) (N := 1) (As := [.int x1]) ok tw_in_X7 tw_im_X7_latest tw_se_X7_latest tw_co_X7_latest tw_ml_L_83 (by decide +kernel) rfl ob_44 rfl hroom hst d rfl (c_X7_latest (xl X) (xG X) h) kk
theorem cl_L_86 {X : Cx} {cc : ByteArray} {nL pc fr lo : Nat} {L : List (Nat × Value)} {st : List Value} {S : St} (ok : Ok X cc nL RL fr lo) {x1 : Int32} (d : decode cc pc = .ok (.invokevirtual 86, 3)) (hroom : 5 ≤ fr ∧ 125 ≤ lo) (hst : (st.map fun v => v.category).sum ≤ 8) {post : Int32 → St → Prop} (h : wp_X8_latest x1 S post) (kk : ∀ (r : Int32) (S1 : St), post r S1 → Wp X nL (pc + 3) L (.int r :: st) S1) : Wp X nL pc L (.int x1 :: .ref (xad X 71) :: st) S :=
  r_callVi (n := 3) (f := 4) (lo1 := 103) (N := 1) (As := [.int x1]) ok tw_in_X8 tw_im_X8_latest tw_se_X8_latest tw_co_X8_latest tw_ml_L_86 (by decide +kernel) rfl ob_71 rfl hroom hst d rfl (c_X8_latest (xl X) (xG X) h) kk
theorem cl_L_87 {X : Cx} {cc : ByteArray} {nL pc fr lo : Nat} {L : List (Nat × Value)} {st : List Value} {S : St} (ok : Ok X cc nL RL fr lo) {x1 : Int32} (d : decode cc pc = .ok (.invokevirtual 87, 3)) (hroom : 7 ≤ fr ∧ 180 ≤ lo) (hst : (st.map fun v => v.category).sum ≤ 8) {post : Int32 → St → Prop} (h : wp_X7_inns x1 S post) (kk : ∀ (r : Int32) (S1 : St), post r S1 → Wp X nL (pc + 3) L (.int r :: st) S1) : Wp X nL pc L (.int x1 :: .ref (xad X 44) :: st) S :=
  r_callVi (n := 3) (f := 6) (lo1 := 158) (N := 1) (As := [.int x1]) ok tw_in_X7 tw_im_X7_inns tw_se_X7_inns tw_co_X7_inns tw_ml_L_87 (by decide +kernel) rfl ob_44 rfl hroom hst d rfl (c_X7_inns (xl X) (xG X) h) kk
theorem cl_L_90 {X : Cx} {cc : ByteArray} {nL pc fr lo : Nat} {L : List (Nat × Value)} {st : List Value} {S : St} (ok : Ok X cc nL RL fr lo) {x1 : Int32} (d : decode cc pc = .ok (.invokevirtual 90, 3)) (hroom : 7 ≤ fr ∧ 170 ≤ lo) (hst : (st.map fun v => v.category).sum ≤ 8) {post : Int32 → St → Prop} (h : wp_X8_inns x1 S post) (kk : ∀ (r : Int32) (S1 : St), post r S1 → Wp X nL (pc + 3) L (.int r :: st) S1) : Wp X nL pc L (.int x1 :: .ref (xad X 71) :: st) S :=
  r_callVi (n := 4) (f := 6) (lo1 := 147) (N := 1) (As := [.int x1]) ok tw_in_X8 tw_im_X8_inns tw_se_X8_inns tw_co_X8_inns tw_ml_L_90 (by decide +kernel) rfl ob_71 rfl hroom hst d rfl (c_X8_inns (xl X) (xG X) h) kk
theorem cl_L_91 {X : Cx} {cc : ByteArray} {nL pc fr lo : Nat} {L : List (Nat × Value)} {st : List Value} {S : St} (ok : Ok X cc nL RL fr lo) {x1 x2 x3 : Int32} (d : decode cc pc = .ok (.invokevirtual 91, 3)) (hroom : 7 ≤ fr ∧ 183 ≤ lo) (hst : (st.map fun v => v.category).sum ≤ 8) {post : Int32 → St → Prop} (h : wp_X7_relay x1 x2 x3 S post) (kk : ∀ (r : Int32) (S1 : St), post r S1 → Wp X nL (pc + 3) L (.int r :: st) S1) : Wp X nL pc L (.int x3 :: .int x2 :: .int x1 :: .ref (xad X 44) :: st) S :=
  r_callVi (n := 4) (f := 6) (lo1 := 160) (N := 3) (As := [.int x1, .int x2, .int x3]) ok tw_in_X7 tw_im_X7_relay tw_se_X7_relay tw_co_X7_relay tw_ml_L_91 (by decide +kernel) rfl ob_44 rfl hroom hst d rfl (c_X7_relay (xl X) (xG X) h) kk
theorem cl_L_94 {X : Cx} {cc : ByteArray} {nL pc fr lo : Nat} {L : List (Nat × Value)} {st : List Value} {S : St} (ok : Ok X cc nL RL fr lo) {x1 x2 x3 : Int32} (d : decode cc pc = .ok (.invokevirtual 94, 3)) (hroom : 6 ≤ fr ∧ 152 ≤ lo) (hst : (st.map fun v => v.category).sum ≤ 8) {post : Int32 → St → Prop} (h : wp_X8_relay x1 x2 x3 S post) (kk : ∀ (r : Int32) (S1 : St), post r S1 → Wp X nL (pc + 3) L (.int r :: st) S1) : Wp X nL pc L (.int x3 :: .int x2 :: .int x1 :: .ref (xad X 71) :: st) S :=
  r_callVi (n := 6) (f := 5) (lo1 := 127) (N := 3) (As := [.int x1, .int x2, .int x3]) ok tw_in_X8 tw_im_X8_relay tw_se_X8_relay tw_co_X8_relay tw_ml_L_94 (by decide +kernel) rfl ob_71 rfl hroom hst d rfl (c_X8_relay (xl X) (xG X) h) kk
theorem cl_L_95 {X : Cx} {cc : ByteArray} {nL pc fr lo : Nat} {L : List (Nat × Value)} {st : List Value} {S : St} (ok : Ok X cc nL RL fr lo) {x1 x2 x3 : Int32} (d : decode cc pc = .ok (.invokevirtual 95, 3)) (hroom : 5 ≤ fr ∧ 140 ≤ lo) (hst : (st.map fun v => v.category).sum ≤ 8) {post : Int32 → St → Prop} (h : wp_X7_meet x1 x2 x3 S post) (kk : ∀ (r : Int32) (S1 : St), post r S1 → Wp X nL (pc + 3) L (.int r :: st) S1) : Wp X nL pc L (.int x3 :: .int x2 :: .int x1 :: .ref (xad X 44) :: st) S :=
  r_callVi (n := 9) (f := 4) (lo1 := 112) (N := 3) (As := [.int x1, .int x2, .int x3]) ok tw_in_X7 tw_im_X7_meet tw_se_X7_meet tw_co_X7_meet tw_ml_L_95 (by decide +kernel) rfl ob_44 rfl hroom hst d rfl (c_X7_meet (xl X) (xG X) h) kk
theorem cl_L_98 {X : Cx} {cc : ByteArray} {nL pc fr lo : Nat} {L : List (Nat × Value)} {st : List Value} {S : St} (ok : Ok X cc nL RL fr lo) {x1 x2 x3 : Int32} (d : decode cc pc = .ok (.invokevirtual 98, 3)) (hroom : 6 ≤ fr ∧ 153 ≤ lo) (hst : (st.map fun v => v.category).sum ≤ 8) {post : Int32 → St → Prop} (h : wp_X8_meet x1 x2 x3 S post) (kk : ∀ (r : Int32) (S1 : St), post r S1 → Wp X nL (pc + 3) L (.int r :: st) S1) : Wp X nL pc L (.int x3 :: .int x2 :: .int x1 :: .ref (xad X 71) :: st) S :=
  r_callVi (n := 9) (f := 5) (lo1 := 125) (N := 3) (As := [.int x1, .int x2, .int x3]) ok tw_in_X8 tw_im_X8_meet tw_se_X8_meet tw_co_X8_meet tw_ml_L_98 (by decide +kernel) rfl ob_71 rfl hroom hst d rfl (c_X8_meet (xl X) (xG X) h) kk
theorem cl_L_99 {X : Cx} {cc : ByteArray} {nL pc fr lo : Nat} {L : List (Nat × Value)} {st : List Value} {S : St} (ok : Ok X cc nL RL fr lo) {x1 : Int32} (d : decode cc pc = .ok (.invokevirtual 99, 3)) (hroom : 7 ≤ fr ∧ 178 ≤ lo) (hst : (st.map fun v => v.category).sum ≤ 8) {post : Int32 → St → Prop} (h : wp_X7_cost x1 S post) (kk : ∀ (r : Int32) (S1 : St), post r S1 → Wp X nL (pc + 3) L (.int r :: st) S1) : Wp X nL pc L (.int x1 :: .ref (xad X 44) :: st) S :=
  r_callVi (n := 3) (f := 6) (lo1 := 156) (N := 1) (As := [.int x1]) ok tw_in_X7 tw_im_X7_cost tw_se_X7_cost tw_co_X7_cost tw_ml_L_99 (by decide +kernel) rfl ob_44 rfl hroom hst d rfl (c_X7_cost (xl X) (xG X) h) kk
theorem cl_L_102 {X : Cx} {cc : ByteArray} {nL pc fr lo : Nat} {L : List (Nat × Value)} {st : List Value} {S : St} (ok : Ok X cc nL RL fr lo) {x1 : Int32} (d : decode cc pc = .ok (.invokevirtual 102, 3)) (hroom : 7 ≤ fr ∧ 171 ≤ lo) (hst : (st.map fun v => v.category).sum ≤ 8) {post : Int32 → St → Prop} (h : wp_X8_cost x1 S post) (kk : ∀ (r : Int32) (S1 : St), post r S1 → Wp X nL (pc + 3) L (.int r :: st) S1) : Wp X nL pc L (.int x1 :: .ref (xad X 71) :: st) S :=
  r_callVi (n := 4) (f := 6) (lo1 := 148) (N := 1) (As := [.int x1]) ok tw_in_X8 tw_im_X8_cost tw_se_X8_cost tw_co_X8_cost tw_ml_L_102 (by decide +kernel) rfl ob_71 rfl hroom hst d rfl (c_X8_cost (xl X) (xG X) h) kk
theorem cl_L_103 {X : Cx} {cc : ByteArray} {nL pc fr lo : Nat} {L : List (Nat × Value)} {st : List Value} {S : St} (ok : Ok X cc nL RL fr lo) {x1 : Int32} (d : decode cc pc = .ok (.invokevirtual 103, 3)) (hroom : 7 ≤ fr ∧ 182 ≤ lo) (hst : (st.map fun v => v.category).sum ≤ 8) {post : Int32 → St → Prop} (h : wp_X7_shorter x1 S post) (kk : ∀ (r : Int32) (S1 : St), post r S1 → Wp X nL (pc + 3) L (.int r :: st) S1) : Wp X nL pc L (.int x1 :: .ref (xad X 44) :: st) S :=
  r_callVi (n := 7) (f := 6) (lo1 := 156) (N := 1) (As := [.int x1]) ok tw_in_X7 tw_im_X7_shorter tw_se_X7_shorter tw_co_X7_shorter tw_ml_L_103 (by decide +kernel) rfl ob_44 rfl hroom hst d rfl (c_X7_shorter (xl X) (xG X) h) kk
theorem cl_L_106 {X : Cx} {cc : ByteArray} {nL pc fr lo : Nat} {L : List (Nat × Value)} {st : List Value} {S : St} (ok : Ok X cc nL RL fr lo) {x1 : Int32} (d : decode cc pc = .ok (.invokevirtual 106, 3)) (hroom : 7 ≤ fr ∧ 174 ≤ lo) (hst : (st.map fun v => v.category).sum ≤ 8) {post : Int32 → St → Prop} (h : wp_X8_shorter x1 S post) (kk : ∀ (r : Int32) (S1 : St), post r S1 → Wp X nL (pc + 3) L (.int r :: st) S1) : Wp X nL pc L (.int x1 :: .ref (xad X 71) :: st) S :=
  r_callVi (n := 7) (f := 6) (lo1 := 148) (N := 1) (As := [.int x1]) ok tw_in_X8 tw_im_X8_shorter tw_se_X8_shorter tw_co_X8_shorter tw_ml_L_106 (by decide +kernel) rfl ob_71 rfl hroom hst d rfl (c_X8_shorter (xl X) (xG X) h) kk
theorem cl_L_107 {X : Cx} {cc : ByteArray} {nL pc fr lo : Nat} {L : List (Nat × Value)} {st : List Value} {S : St} (ok : Ok X cc nL RL fr lo) {x1 x2 x3 : Int32} (d : decode cc pc = .ok (.invokevirtual 107, 3)) (hroom : 6 ≤ fr ∧ 157 ≤ lo) (hst : (st.map fun v => v.category).sum ≤ 8) {post : Int32 → St → Prop} (h : wp_X7_lend x1 x2 x3 S post) (kk : ∀ (r : Int32) (S1 : St), post r S1 → Wp X nL (pc + 3) L (.int r :: st) S1) : Wp X nL pc L (.int x3 :: .int x2 :: .int x1 :: .ref (xad X 44) :: st) S :=
  r_callVi (n := 5) (f := 5) (lo1 := 133) (N := 3) (As := [.int x1, .int x2, .int x3]) ok tw_in_X7 tw_im_X7_lend tw_se_X7_lend tw_co_X7_lend tw_ml_L_107 (by decide +kernel) rfl ob_44 rfl hroom hst d rfl (c_X7_lend (xl X) (xG X) h) kk
theorem cl_L_110 {X : Cx} {cc : ByteArray} {nL pc fr lo : Nat} {L : List (Nat × Value)} {st : List Value} {S : St} (ok : Ok X cc nL RL fr lo) {x1 x2 x3 : Int32} (d : decode cc pc = .ok (.invokevirtual 110, 3)) (hroom : 6 ≤ fr ∧ 150 ≤ lo) (hst : (st.map fun v => v.category).sum ≤ 8) {post : Int32 → St → Prop} (h : wp_X8_lend x1 x2 x3 S post) (kk : ∀ (r : Int32) (S1 : St), post r S1 → Wp X nL (pc + 3) L (.int r :: st) S1) : Wp X nL pc L (.int x3 :: .int x2 :: .int x1 :: .ref (xad X 71) :: st) S :=
  r_callVi (n := 6) (f := 5) (lo1 := 125) (N := 3) (As := [.int x1, .int x2, .int x3]) ok tw_in_X8 tw_im_X8_lend tw_se_X8_lend tw_co_X8_lend tw_ml_L_110 (by decide +kernel) rfl ob_71 rfl hroom hst d rfl (c_X8_lend (xl X) (xG X) h) kk
theorem cl_L_111 {X : Cx} {cc : ByteArray} {nL pc fr lo : Nat} {L : List (Nat × Value)} {st : List Value} {S : St} (ok : Ok X cc nL RL fr lo) {x1 x2 : Int32} (d : decode cc pc = .ok (.invokevirtual 111, 3)) (hroom : 3 ≤ fr ∧ 70 ≤ lo) (hst : (st.map fun v => v.category).sum ≤ 8) {post : Int32 → St → Prop} (h : wp_X7_guard x1 x2 S post) (kk : ∀ (r : Int32) (S1 : St), post r S1 → Wp X nL (pc + 3) L (.int r :: st) S1) : Wp X nL pc L (.int x2 :: .int x1 :: .ref (xad X 44) :: st) S :=
  r_callVi (n := 3) (f := 2) (lo1 := 48) (N := 2) (As := [.int x1, .int x2]) ok tw_in_X7 tw_im_X7_guard tw_se_X7_guard tw_co_X7_guard tw_ml_L_111 (by decide +kernel) rfl ob_44 rfl hroom hst d rfl (c_X7_guard (xl X) (xG X) h) kk
theorem cl_L_114 {X : Cx} {cc : ByteArray} {nL pc fr lo : Nat} {L : List (Nat × Value)} {st : List Value} {S : St} (ok : Ok X cc nL RL fr lo) {x1 x2 : Int32} (d : decode cc pc = .ok (.invokevirtual 114, 3)) (hroom : 5 ≤ fr ∧ 121 ≤ lo) (hst : (st.map fun v => v.category).sum ≤ 8) {post : Int32 → St → Prop} (h : wp_X8_guard x1 x2 S post) (kk : ∀ (r : Int32) (S1 : St), post r S1 → Wp X nL (pc + 3) L (.int r :: st) S1) : Wp X nL pc L (.int x2 :: .int x1 :: .ref (xad X 71) :: st) S :=
  r_callVi (n := 6) (f := 4) (lo1 := 96) (N := 2) (As := [.int x1, .int x2]) ok tw_in_X8 tw_im_X8_guard tw_se_X8_guard tw_co_X8_guard tw_ml_L_114 (by decide +kernel) rfl ob_71 rfl hroom hst d rfl (c_X8_guard (xl X) (xG X) h) kk
theorem cl_L_115 {X : Cx} {cc : ByteArray} {nL pc fr lo : Nat} {L : List (Nat × Value)} {st : List Value} {S : St} (ok : Ok X cc nL RL fr lo) {x1 x2 : Int32} (d : decode cc pc = .ok (.invokevirtual 115, 3)) (hroom : 5 ≤ fr ∧ 134 ≤ lo) (hst : (st.map fun v => v.category).sum ≤ 8) {post : Int32 → St → Prop} (h : wp_X7_round x1 x2 S post) (kk : ∀ (r : Int32) (S1 : St), post r S1 → Wp X nL (pc + 3) L (.int r :: st) S1) : Wp X nL pc L (.int x2 :: .int x1 :: .ref (xad X 44) :: st) S :=
  r_callVi (n := 3) (f := 4) (lo1 := 112) (N := 2) (As := [.int x1, .int x2]) ok tw_in_X7 tw_im_X7_round tw_se_X7_round tw_co_X7_round tw_ml_L_115 (by decide +kernel) rfl ob_44 rfl hroom hst d rfl (c_X7_round (xl X) (xG X) h) kk
theorem cl_L_118 {X : Cx} {cc : ByteArray} {nL pc fr lo : Nat} {L : List (Nat × Value)} {st : List Value} {S : St} (ok : Ok X cc nL RL fr lo) {x1 x2 : Int32} (d : decode cc pc = .ok (.invokevirtual 118, 3)) (hroom : 5 ≤ fr ∧ 125 ≤ lo) (hst : (st.map fun v => v.category).sum ≤ 8) {post : Int32 → St → Prop} (h : wp_X8_round x1 x2 S post) (kk : ∀ (r : Int32) (S1 : St), post r S1 → Wp X nL (pc + 3) L (.int r :: st) S1) : Wp X nL pc L (.int x2 :: .int x1 :: .ref (xad X 71) :: st) S :=
  r_callVi (n := 4) (f := 4) (lo1 := 102) (N := 2) (As := [.int x1, .int x2]) ok tw_in_X8 tw_im_X8_round tw_se_X8_round tw_co_X8_round tw_ml_L_118 (by decide +kernel) rfl ob_71 rfl hroom hst d rfl (c_X8_round (xl X) (xG X) h) kk
theorem cl_L_119 {X : Cx} {cc : ByteArray} {nL pc fr lo : Nat} {L : List (Nat × Value)} {st : List Value} {S : St} (ok : Ok X cc nL RL fr lo) {x1 x2 x3 x4 x5 : Int32} (d : decode cc pc = .ok (.invokevirtual 119, 3)) (hroom : 2 ≤ fr ∧ 50 ≤ lo) (hst : (st.map fun v => v.category).sum ≤ 8) {post : Int32 → St → Prop} (h : wp_X7_took x1 x2 x3 x4 x5 S post) (kk : ∀ (r : Int32) (S1 : St), post r S1 → Wp X nL (pc + 3) L (.int r :: st) S1) : Wp X nL pc L (.int x5 :: .int x4 :: .int x3 :: .int x2 :: .int x1 :: .ref (xad X 44) :: st) S :=
  r_callVi (n := 6) (f := 1) (lo1 := 25) (N := 5) (As := [.int x1, .int x2, .int x3, .int x4, .int x5]) ok tw_in_X7 tw_im_X7_took tw_se_X7_took tw_co_X7_took tw_ml_L_119 (by decide +kernel) rfl ob_44 rfl hroom hst d rfl (c_X7_took (xl X) (xG X) h) kk
theorem cl_L_122 {X : Cx} {cc : ByteArray} {nL pc fr lo : Nat} {L : List (Nat × Value)} {st : List Value} {S : St} (ok : Ok X cc nL RL fr lo) {x1 x2 x3 x4 x5 : Int32} (d : decode cc pc = .ok (.invokevirtual 122, 3)) (hroom : 3 ≤ fr ∧ 69 ≤ lo) (hst : (st.map fun v => v.category).sum ≤ 8) {post : Int32 → St → Prop} (h : wp_X8_took x1 x2 x3 x4 x5 S post) (kk : ∀ (r : Int32) (S1 : St), post r S1 → Wp X nL (pc + 3) L (.int r :: st) S1) : Wp X nL pc L (.int x5 :: .int x4 :: .int x3 :: .int x2 :: .int x1 :: .ref (xad X 71) :: st) S :=
  r_callVi (n := 7) (f := 2) (lo1 := 43) (N := 5) (As := [.int x1, .int x2, .int x3, .int x4, .int x5]) ok tw_in_X8 tw_im_X8_took tw_se_X8_took tw_co_X8_took tw_ml_L_122 (by decide +kernel) rfl ob_71 rfl hroom hst d rfl (c_X8_took (xl X) (xG X) h) kk
theorem cl_L_123 {X : Cx} {cc : ByteArray} {nL pc fr lo : Nat} {L : List (Nat × Value)} {st : List Value} {S : St} (ok : Ok X cc nL RL fr lo) {x1 : Int32} (d : decode cc pc = .ok (.invokevirtual 123, 3)) (hroom : 4 ≤ fr ∧ 95 ≤ lo) (hst : (st.map fun v => v.category).sum ≤ 8) {post : Int32 → St → Prop} (h : wp_X7_spent x1 S post) (kk : ∀ (r : Int32) (S1 : St), post r S1 → Wp X nL (pc + 3) L (.int r :: st) S1) : Wp X nL pc L (.int x1 :: .ref (xad X 44) :: st) S :=
  r_callVi (n := 2) (f := 3) (lo1 := 74) (N := 1) (As := [.int x1]) ok tw_in_X7 tw_im_X7_spent tw_se_X7_spent tw_co_X7_spent tw_ml_L_123 (by decide +kernel) rfl ob_44 rfl hroom hst d rfl (c_X7_spent (xl X) (xG X) h) kk
theorem cl_L_126 {X : Cx} {cc : ByteArray} {nL pc fr lo : Nat} {L : List (Nat × Value)} {st : List Value} {S : St} (ok : Ok X cc nL RL fr lo) {x1 : Int32} (d : decode cc pc = .ok (.invokevirtual 126, 3)) (hroom : 5 ≤ fr ∧ 119 ≤ lo) (hst : (st.map fun v => v.category).sum ≤ 8) {post : Int32 → St → Prop} (h : wp_X8_spent x1 S post) (kk : ∀ (r : Int32) (S1 : St), post r S1 → Wp X nL (pc + 3) L (.int r :: st) S1) : Wp X nL pc L (.int x1 :: .ref (xad X 71) :: st) S :=
  r_callVi (n := 2) (f := 4) (lo1 := 98) (N := 1) (As := [.int x1]) ok tw_in_X8 tw_im_X8_spent tw_se_X8_spent tw_co_X8_spent tw_ml_L_126 (by decide +kernel) rfl ob_71 rfl hroom hst d rfl (c_X8_spent (xl X) (xG X) h) kk
theorem cl_L_127 {X : Cx} {cc : ByteArray} {nL pc fr lo : Nat} {L : List (Nat × Value)} {st : List Value} {S : St} (ok : Ok X cc nL RL fr lo) (d : decode cc pc = .ok (.invokevirtual 127, 3)) (hroom : 4 ≤ fr ∧ 95 ≤ lo) (hst : (st.map fun v => v.category).sum ≤ 8) {post : Int32 → St → Prop} (h : wp_X7_lie S post) (kk : ∀ (r : Int32) (S1 : St), post r S1 → Wp X nL (pc + 3) L (.int r :: st) S1) : Wp X nL pc L (.ref (xad X 44) :: st) S :=
  r_callVi (n := 2) (f := 3) (lo1 := 74) (N := 0) (As := []) ok tw_in_X7 tw_im_X7_lie tw_se_X7_lie tw_co_X7_lie tw_ml_L_127 (by decide +kernel) rfl ob_44 rfl hroom hst d rfl (c_X7_lie (xl X) (xG X) h) kk
theorem cl_L_130 {X : Cx} {cc : ByteArray} {nL pc fr lo : Nat} {L : List (Nat × Value)} {st : List Value} {S : St} (ok : Ok X cc nL RL fr lo) (d : decode cc pc = .ok (.invokevirtual 130, 3)) (hroom : 5 ≤ fr ∧ 119 ≤ lo) (hst : (st.map fun v => v.category).sum ≤ 8) {post : Int32 → St → Prop} (h : wp_X8_lie S post) (kk : ∀ (r : Int32) (S1 : St), post r S1 → Wp X nL (pc + 3) L (.int r :: st) S1) : Wp X nL pc L (.ref (xad X 71) :: st) S :=
  r_callVi (n := 2) (f := 4) (lo1 := 98) (N := 0) (As := []) ok tw_in_X8 tw_im_X8_lie tw_se_X8_lie tw_co_X8_lie tw_ml_L_130 (by decide +kernel) rfl ob_71 rfl hroom hst d rfl (c_X8_lie (xl X) (xG X) h) kk
theorem cl_L_131 {X : Cx} {cc : ByteArray} {nL pc fr lo : Nat} {L : List (Nat × Value)} {st : List Value} {S : St} (ok : Ok X cc nL RL fr lo) {x1 : Int32} (d : decode cc pc = .ok (.invokevirtual 131, 3)) (hroom : 2 ≤ fr ∧ 42 ≤ lo) (hst : (st.map fun v => v.category).sum ≤ 8) {post : Int32 → St → Prop} (h : wp_X7_write x1 S post) (kk : ∀ (r : Int32) (S1 : St), post r S1 → Wp X nL (pc + 3) L (.int r :: st) S1) : Wp X nL pc L (.int x1 :: .ref (xad X 44) :: st) S :=
  r_callVi (n := 2) (f := 1) (lo1 := 21) (N := 1) (As := [.int x1]) ok tw_in_X7 tw_im_X7_write tw_se_X7_write tw_co_X7_write tw_ml_L_131 (by decide +kernel) rfl ob_44 rfl hroom hst d rfl (c_X7_write (xl X) (xG X) h) kk
theorem cl_L_134 {X : Cx} {cc : ByteArray} {nL pc fr lo : Nat} {L : List (Nat × Value)} {st : List Value} {S : St} (ok : Ok X cc nL RL fr lo) {x1 : Int32} (d : decode cc pc = .ok (.invokevirtual 134, 3)) (hroom : 3 ≤ fr ∧ 64 ≤ lo) (hst : (st.map fun v => v.category).sum ≤ 8) {post : Int32 → St → Prop} (h : wp_X8_write x1 S post) (kk : ∀ (r : Int32) (S1 : St), post r S1 → Wp X nL (pc + 3) L (.int r :: st) S1) : Wp X nL pc L (.int x1 :: .ref (xad X 71) :: st) S :=
  r_callVi (n := 2) (f := 2) (lo1 := 43) (N := 1) (As := [.int x1]) ok tw_in_X8 tw_im_X8_write tw_se_X8_write tw_co_X8_write tw_ml_L_134 (by decide +kernel) rfl ob_71 rfl hroom hst d rfl (c_X8_write (xl X) (xG X) h) kk
theorem cl_L_135 {X : Cx} {cc : ByteArray} {nL pc fr lo : Nat} {L : List (Nat × Value)} {st : List Value} {S : St} (ok : Ok X cc nL RL fr lo) (d : decode cc pc = .ok (.invokevirtual 135, 3)) (hroom : 1 ≤ fr ∧ 21 ≤ lo) (hst : (st.map fun v => v.category).sum ≤ 8) {post : Int32 → St → Prop} (h : wp_X7_tear S post) (kk : ∀ (r : Int32) (S1 : St), post r S1 → Wp X nL (pc + 3) L (.int r :: st) S1) : Wp X nL pc L (.ref (xad X 44) :: st) S :=
  r_callVi (n := 2) (f := 0) (lo1 := 0) (N := 0) (As := []) ok tw_in_X7 tw_im_X7_tear tw_se_X7_tear tw_co_X7_tear tw_ml_L_135 (by decide +kernel) rfl ob_44 rfl hroom hst d rfl (c_X7_tear (xl X) (xG X) h) kk
theorem cl_L_138 {X : Cx} {cc : ByteArray} {nL pc fr lo : Nat} {L : List (Nat × Value)} {st : List Value} {S : St} (ok : Ok X cc nL RL fr lo) (d : decode cc pc = .ok (.invokevirtual 138, 3)) (hroom : 1 ≤ fr ∧ 21 ≤ lo) (hst : (st.map fun v => v.category).sum ≤ 8) {post : Int32 → St → Prop} (h : wp_X8_tear S post) (kk : ∀ (r : Int32) (S1 : St), post r S1 → Wp X nL (pc + 3) L (.int r :: st) S1) : Wp X nL pc L (.ref (xad X 71) :: st) S :=
  r_callVi (n := 2) (f := 0) (lo1 := 0) (N := 0) (As := []) ok tw_in_X8 tw_im_X8_tear tw_se_X8_tear tw_co_X8_tear tw_ml_L_138 (by decide +kernel) rfl ob_71 rfl hroom hst d rfl (c_X8_tear (xl X) (xG X) h) kk
theorem cl_L_139 {X : Cx} {cc : ByteArray} {nL pc fr lo : Nat} {L : List (Nat × Value)} {st : List Value} {S : St} (ok : Ok X cc nL RL fr lo) {x1 x2 : Int32} (d : decode cc pc = .ok (.invokevirtual 139, 3)) (hroom : 5 ≤ fr ∧ 120 ≤ lo) (hst : (st.map fun v => v.category).sum ≤ 8) {post : Int32 → St → Prop} (h : wp_X7_judge x1 x2 S post) (kk : ∀ (r : Int32) (S1 : St), post r S1 → Wp X nL (pc + 3) L (.int r :: st) S1) : Wp X nL pc L (.int x2 :: .int x1 :: .ref (xad X 44) :: st) S :=
  r_callVi (n := 4) (f := 4) (lo1 := 97) (N := 2) (As := [.int x1, .int x2]) ok tw_in_X7 tw_im_X7_judge tw_se_X7_judge tw_co_X7_judge tw_ml_L_139 (by decide +kernel) rfl ob_44 rfl hroom hst d rfl (c_X7_judge (xl X) (xG X) h) kk
theorem cl_L_142 {X : Cx} {cc : ByteArray} {nL pc fr lo : Nat} {L : List (Nat × Value)} {st : List Value} {S : St} (ok : Ok X cc nL RL fr lo) {x1 x2 : Int32} (d : decode cc pc = .ok (.invokevirtual 142, 3)) (hroom : 5 ≤ fr ∧ 122 ≤ lo) (hst : (st.map fun v => v.category).sum ≤ 8) {post : Int32 → St → Prop} (h : wp_X8_judge x1 x2 S post) (kk : ∀ (r : Int32) (S1 : St), post r S1 → Wp X nL (pc + 3) L (.int r :: st) S1) : Wp X nL pc L (.int x2 :: .int x1 :: .ref (xad X 71) :: st) S :=
  r_callVi (n := 5) (f := 4) (lo1 := 98) (N := 2) (As := [.int x1, .int x2]) ok tw_in_X8 tw_im_X8_judge tw_se_X8_judge tw_co_X8_judge tw_ml_L_142 (by decide +kernel) rfl ob_71 rfl hroom hst d rfl (c_X8_judge (xl X) (xG X) h) kk
theorem cl_L_143 {X : Cx} {cc : ByteArray} {nL pc fr lo : Nat} {L : List (Nat × Value)} {st : List Value} {S : St} (ok : Ok X cc nL RL fr lo) {x1 : Int32} (d : decode cc pc = .ok (.invokevirtual 143, 3)) (hroom : 1 ≤ fr ∧ 22 ≤ lo) (hst : (st.map fun v => v.category).sum ≤ 8) {post : Int32 → St → Prop} (h : wp_X7_seed x1 S post) (kk : ∀ (r : Int32) (S1 : St), post r S1 → Wp X nL (pc + 3) L (.int r :: st) S1) : Wp X nL pc L (.int x1 :: .ref (xad X 44) :: st) S :=
  r_callVi (n := 3) (f := 0) (lo1 := 0) (N := 1) (As := [.int x1]) ok tw_in_X7 tw_im_X7_seed tw_se_X7_seed tw_co_X7_seed tw_ml_L_143 (by decide +kernel) rfl ob_44 rfl hroom hst d rfl (c_X7_seed (xl X) (xG X) h) kk
theorem cl_L_146 {X : Cx} {cc : ByteArray} {nL pc fr lo : Nat} {L : List (Nat × Value)} {st : List Value} {S : St} (ok : Ok X cc nL RL fr lo) {x1 : Int32} (d : decode cc pc = .ok (.invokevirtual 146, 3)) (hroom : 1 ≤ fr ∧ 22 ≤ lo) (hst : (st.map fun v => v.category).sum ≤ 8) {post : Int32 → St → Prop} (h : wp_X8_seed x1 S post) (kk : ∀ (r : Int32) (S1 : St), post r S1 → Wp X nL (pc + 3) L (.int r :: st) S1) : Wp X nL pc L (.int x1 :: .ref (xad X 71) :: st) S :=
  r_callVi (n := 3) (f := 0) (lo1 := 0) (N := 1) (As := [.int x1]) ok tw_in_X8 tw_im_X8_seed tw_se_X8_seed tw_co_X8_seed tw_ml_L_146 (by decide +kernel) rfl ob_71 rfl hroom hst d rfl (c_X8_seed (xl X) (xG X) h) kk
theorem cl_L_147 {X : Cx} {cc : ByteArray} {nL pc fr lo : Nat} {L : List (Nat × Value)} {st : List Value} {S : St} (ok : Ok X cc nL RL fr lo) {x1 : Int32} (d : decode cc pc = .ok (.invokevirtual 147, 3)) (hroom : 3 ≤ fr ∧ 68 ≤ lo) (hst : (st.map fun v => v.category).sum ≤ 8) {post : Int32 → St → Prop} (h : wp_X7_keep x1 S post) (kk : ∀ (r : Int32) (S1 : St), post r S1 → Wp X nL (pc + 3) L (.int r :: st) S1) : Wp X nL pc L (.int x1 :: .ref (xad X 44) :: st) S :=
  r_callVi (n := 2) (f := 2) (lo1 := 47) (N := 1) (As := [.int x1]) ok tw_in_X7 tw_im_X7_keep tw_se_X7_keep tw_co_X7_keep tw_ml_L_147 (by decide +kernel) rfl ob_44 rfl hroom hst d rfl (c_X7_keep (xl X) (xG X) h) kk
theorem cl_L_150 {X : Cx} {cc : ByteArray} {nL pc fr lo : Nat} {L : List (Nat × Value)} {st : List Value} {S : St} (ok : Ok X cc nL RL fr lo) {x1 : Int32} (d : decode cc pc = .ok (.invokevirtual 150, 3)) (hroom : 2 ≤ fr ∧ 44 ≤ lo) (hst : (st.map fun v => v.category).sum ≤ 8) {post : Int32 → St → Prop} (h : wp_X8_keep x1 S post) (kk : ∀ (r : Int32) (S1 : St), post r S1 → Wp X nL (pc + 3) L (.int r :: st) S1) : Wp X nL pc L (.int x1 :: .ref (xad X 71) :: st) S :=
  r_callVi (n := 3) (f := 1) (lo1 := 22) (N := 1) (As := [.int x1]) ok tw_in_X8 tw_im_X8_keep tw_se_X8_keep tw_co_X8_keep tw_ml_L_150 (by decide +kernel) rfl ob_71 rfl hroom hst d rfl (c_X8_keep (xl X) (xG X) h) kk
theorem cl_L_151 {X : Cx} {cc : ByteArray} {nL pc fr lo : Nat} {L : List (Nat × Value)} {st : List Value} {S : St} (ok : Ok X cc nL RL fr lo) {x1 : Int32} (d : decode cc pc = .ok (.invokevirtual 151, 3)) (hroom : 3 ≤ fr ∧ 68 ≤ lo) (hst : (st.map fun v => v.category).sum ≤ 8) {post : Int32 → St → Prop} (h : wp_X7_goBack x1 S post) (kk : ∀ (r : Int32) (S1 : St), post r S1 → Wp X nL (pc + 3) L (.int r :: st) S1) : Wp X nL pc L (.int x1 :: .ref (xad X 44) :: st) S :=
  r_callVi (n := 2) (f := 2) (lo1 := 47) (N := 1) (As := [.int x1]) ok tw_in_X7 tw_im_X7_goBack tw_se_X7_goBack tw_co_X7_goBack tw_ml_L_151 (by decide +kernel) rfl ob_44 rfl hroom hst d rfl (c_X7_goBack (xl X) (xG X) h) kk
theorem cl_L_154 {X : Cx} {cc : ByteArray} {nL pc fr lo : Nat} {L : List (Nat × Value)} {st : List Value} {S : St} (ok : Ok X cc nL RL fr lo) {x1 : Int32} (d : decode cc pc = .ok (.invokevirtual 154, 3)) (hroom : 2 ≤ fr ∧ 44 ≤ lo) (hst : (st.map fun v => v.category).sum ≤ 8) {post : Int32 → St → Prop} (h : wp_X8_goBack x1 S post) (kk : ∀ (r : Int32) (S1 : St), post r S1 → Wp X nL (pc + 3) L (.int r :: st) S1) : Wp X nL pc L (.int x1 :: .ref (xad X 71) :: st) S :=
  r_callVi (n := 3) (f := 1) (lo1 := 22) (N := 1) (As := [.int x1]) ok tw_in_X8 tw_im_X8_goBack tw_se_X8_goBack tw_co_X8_goBack tw_ml_L_154 (by decide +kernel) rfl ob_71 rfl hroom hst d rfl (c_X8_goBack (xl X) (xG X) h) kk
theorem cl_L_58 {X : Cx} {cc : ByteArray} {nL pc fr lo : Nat} {L : List (Nat × Value)} {st : List Value} {S : St} (ok : Ok X cc nL RL fr lo) {x1 x2 : Int32} (d : decode cc pc = .ok (.invokevirtual 58, 3)) (hroom : 2 ≤ fr ∧ 45 ≤ lo) (hst : (st.map fun v => v.category).sum ≤ 8) {post : Int32 → St → Prop} (h : wp_X7_inn x1 x2 S post) (kk : ∀ (r : Int32) (S1 : St), post r S1 → Wp X nL (pc + 3) L (.int r :: st) S1) : Wp X nL pc L (.int x2 :: .int x1 :: .ref (xad X 44) :: st) S :=
  r_callVi (n := 4) (f := 1) (lo1 := 22) (N := 2) (As := [.int x1, .int x2]) ok tw_in_X7 tw_im_X7_inn tw_se_X7_inn tw_co_X7_inn tw_ml_L_58 (by decide +kernel) rfl ob_44 rfl hroom hst d rfl (c_X7_inn (xl X) (xG X) h) kk
theorem cl_L_62 {X : Cx} {cc : ByteArray} {nL pc fr lo : Nat} {L : List (Nat × Value)} {st : List Value} {S : St} (ok : Ok X cc nL RL fr lo) {x1 x2 : Int32} (d : decode cc pc = .ok (.invokevirtual 62, 3)) (hroom : 3 ≤ fr ∧ 65 ≤ lo) (hst : (st.map fun v => v.category).sum ≤ 8) {post : Int32 → St → Prop} (h : wp_X8_inn x1 x2 S post) (kk : ∀ (r : Int32) (S1 : St), post r S1 → Wp X nL (pc + 3) L (.int r :: st) S1) : Wp X nL pc L (.int x2 :: .int x1 :: .ref (xad X 71) :: st) S :=
  r_callVi (n := 3) (f := 2) (lo1 := 43) (N := 2) (As := [.int x1, .int x2]) ok tw_in_X8 tw_im_X8_inn tw_se_X8_inn tw_co_X8_inn tw_ml_L_62 (by decide +kernel) rfl ob_71 rfl hroom hst d rfl (c_X8_inn (xl X) (xG X) h) kk
theorem cl_L_63 {X : Cx} {cc : ByteArray} {nL pc fr lo : Nat} {L : List (Nat × Value)} {st : List Value} {S : St} (ok : Ok X cc nL RL fr lo) {x1 x2 : Int32} (d : decode cc pc = .ok (.invokevirtual 63, 3)) (hroom : 2 ≤ fr ∧ 45 ≤ lo) (hst : (st.map fun v => v.category).sum ≤ 8) {post : Int32 → St → Prop} (h : wp_X7_clock x1 x2 S post) (kk : ∀ (r : Int32) (S1 : St), post r S1 → Wp X nL (pc + 3) L (.int r :: st) S1) : Wp X nL pc L (.int x2 :: .int x1 :: .ref (xad X 44) :: st) S :=
  r_callVi (n := 4) (f := 1) (lo1 := 22) (N := 2) (As := [.int x1, .int x2]) ok tw_in_X7 tw_im_X7_clock tw_se_X7_clock tw_co_X7_clock tw_ml_L_63 (by decide +kernel) rfl ob_44 rfl hroom hst d rfl (c_X7_clock (xl X) (xG X) h) kk
theorem cl_L_66 {X : Cx} {cc : ByteArray} {nL pc fr lo : Nat} {L : List (Nat × Value)} {st : List Value} {S : St} (ok : Ok X cc nL RL fr lo) {x1 x2 : Int32} (d : decode cc pc = .ok (.invokevirtual 66, 3)) (hroom : 3 ≤ fr ∧ 65 ≤ lo) (hst : (st.map fun v => v.category).sum ≤ 8) {post : Int32 → St → Prop} (h : wp_X8_clock x1 x2 S post) (kk : ∀ (r : Int32) (S1 : St), post r S1 → Wp X nL (pc + 3) L (.int r :: st) S1) : Wp X nL pc L (.int x2 :: .int x1 :: .ref (xad X 71) :: st) S :=
  r_callVi (n := 3) (f := 2) (lo1 := 43) (N := 2) (As := [.int x1, .int x2]) ok tw_in_X8 tw_im_X8_clock tw_se_X8_clock tw_co_X8_clock tw_ml_L_66 (by decide +kernel) rfl ob_71 rfl hroom hst d rfl (c_X8_clock (xl X) (xG X) h) kk
def B_L_law_562 (k18 : Int32 → St → Prop) (post : Int32 → St → Prop) (Ln : Nat) (xs : Nat → Int32) (x3 : Int32) (s0 : Int32) (s1 : Int32) (S : St) : Prop :=
  wp_X7_clock s1 s0 S (fun r2 S1 => vp_in (x3 + 1) Ln ∧ (vp_in (x3 + 2) Ln ∧ ((((xs (ix (x3 + 2))) = 0 → wp_X8_clock (xs (ix (x3 + 1))) 0 S1 (fun r5 S4 => ((r2 = r5 → k18 (x3 + 6) S4) ∧ (¬ r2 = r5 → post 0 S4)))) ∧ (¬ (xs (ix (x3 + 2))) = 0 → wp_X8_clock (xs (ix (x3 + 1))) 1 S1 (fun r8 S7 => ((r2 = r8 → k18 (x3 + 6) S7) ∧ (¬ r2 = r8 → post 0 S7))))))))
def B_L_law_513 (k18 : Int32 → St → Prop) (post : Int32 → St → Prop) (Ln : Nat) (xs : Nat → Int32) (x3 : Int32) (s0 : Int32) (s1 : Int32) (S : St) : Prop :=
  wp_X7_inn s1 s0 S (fun r2 S1 => vp_in (x3 + 1) Ln ∧ (vp_in (x3 + 2) Ln ∧ ((((xs (ix (x3 + 2))) = 0 → wp_X8_inn (xs (ix (x3 + 1))) 0 S1 (fun r5 S4 => ((r2 = r5 → k18 (x3 + 6) S4) ∧ (¬ r2 = r5 → post 0 S4)))) ∧ (¬ (xs (ix (x3 + 2))) = 0 → wp_X8_inn (xs (ix (x3 + 1))) 1 S1 (fun r8 S7 => ((r2 = r8 → k18 (x3 + 6) S7) ∧ (¬ r2 = r8 → post 0 S7))))))))
def BD_L_law_18 (k18 : Int32 → St → Prop) (post : Int32 → St → Prop) (Ln : Nat) (xs : Nat → Int32) (x3 : Int32) (S : St) : Prop :=
  ((((Int32.ofNat Ln) - 6) < x3 → post 1 S) ∧ (¬ ((Int32.ofNat Ln) - 6) < x3 → vp_in x3 Ln ∧ (∀ v2 : Int32, v2 = ((xs (ix x3)) &&& 63) → (((v2.toInt < 0 ∨ 33 < v2.toInt) → k18 (x3 + 6) S) ∧ ((v2 = 0 → vp_in (x3 + 1) Ln ∧ (wp_X7_feed (xs (ix (x3 + 1))) S (fun r5 S4 => vp_in (x3 + 1) Ln ∧ (wp_X8_feed (xs (ix (x3 + 1))) S4 (fun r7 S6 => ((r5 = r7 → k18 (x3 + 6) S6) ∧ (¬ r5 = r7 → post 0 S6))))))) ∧ (v2 = 1 → wp_X7_land S (fun r10 S9 => wp_X8_land S9 (fun r12 S11 => ((r10 = r12 → k18 (x3 + 6) S11) ∧ (¬ r10 = r12 → post 0 S11))))) ∧ (v2 = 2 → wp_X7_fault S (fun r15 S14 => wp_X8_fault S14 (fun r17 S16 => ((r15 = r17 → k18 (x3 + 6) S16) ∧ (¬ r15 = r17 → post 0 S16))))) ∧ (v2 = 3 → vp_in (x3 + 1) Ln ∧ (wp_X7_told (xs (ix (x3 + 1))) S (fun r20 S19 => vp_in (x3 + 1) Ln ∧ (wp_X8_told (xs (ix (x3 + 1))) S19 (fun r22 S21 => ((r20 = r22 → k18 (x3 + 6) S21) ∧ (¬ r20 = r22 → post 0 S21))))))) ∧ (v2 = 4 → vp_in (x3 + 1) Ln ∧ (vp_in (x3 + 2) Ln ∧ (wp_X7_road (xs (ix (x3 + 1))) (xs (ix (x3 + 2))) S (fun r25 S24 => vp_in (x3 + 1) Ln ∧ (vp_in (x3 + 2) Ln ∧ (wp_X8_road (xs (ix (x3 + 1))) (xs (ix (x3 + 2))) S24 (fun r27 S26 => ((r25 = r27 → k18 (x3 + 6) S26) ∧ (¬ r25 = r27 → post 0 S26))))))))) ∧ (v2 = 5 → vp_in (x3 + 1) Ln ∧ (vp_in (x3 + 2) Ln ∧ (wp_X7_person (xs (ix (x3 + 1))) (xs (ix (x3 + 2))) S (fun r30 S29 => vp_in (x3 + 1) Ln ∧ (vp_in (x3 + 2) Ln ∧ (wp_X8_person (xs (ix (x3 + 1))) (xs (ix (x3 + 2))) S29 (fun r32 S31 => ((r30 = r32 → k18 (x3 + 6) S31) ∧ (¬ r30 = r32 → post 0 S31))))))))) ∧ (v2 = 6 → vp_in (x3 + 1) Ln ∧ (vp_in (x3 + 2) Ln ∧ (vp_in (x3 + 3) Ln ∧ (vp_in (x3 + 4) Ln ∧ (vp_in (x3 + 5) Ln ∧ (wp_X7_takes (xs (ix (x3 + 1))) (xs (ix (x3 + 2))) (xs (ix (x3 + 3))) (xs (ix (x3 + 4))) (xs (ix (x3 + 5))) S (fun r35 S34 => vp_in (x3 + 1) Ln ∧ (vp_in (x3 + 2) Ln ∧ (vp_in (x3 + 3) Ln ∧ (vp_in (x3 + 4) Ln ∧ (vp_in (x3 + 5) Ln ∧ (wp_X8_takes (xs (ix (x3 + 1))) (xs (ix (x3 + 2))) (xs (ix (x3 + 3))) (xs (ix (x3 + 4))) (xs (ix (x3 + 5))) S34 (fun r37 S36 => ((r35 = r37 → k18 (x3 + 6) S36) ∧ (¬ r35 = r37 → post 0 S36))))))))))))))) ∧ (v2 = 7 → vp_in (x3 + 1) Ln ∧ (vp_in (x3 + 2) Ln ∧ (vp_in (x3 + 3) Ln ∧ (wp_X7_go (xs (ix (x3 + 1))) (xs (ix (x3 + 2))) (xs (ix (x3 + 3))) S (fun r40 S39 => vp_in (x3 + 1) Ln ∧ (vp_in (x3 + 2) Ln ∧ (vp_in (x3 + 3) Ln ∧ (wp_X8_go (xs (ix (x3 + 1))) (xs (ix (x3 + 2))) (xs (ix (x3 + 3))) S39 (fun r42 S41 => ((r40 = r42 → k18 (x3 + 6) S41) ∧ (¬ r40 = r42 → post 0 S41))))))))))) ∧ (v2 = 8 → vp_in (x3 + 1) Ln ∧ (vp_in (x3 + 2) Ln ∧ (wp_X7_await (xs (ix (x3 + 1))) (xs (ix (x3 + 2))) S (fun r45 S44 => vp_in (x3 + 1) Ln ∧ (vp_in (x3 + 2) Ln ∧ (wp_X8_await (xs (ix (x3 + 1))) (xs (ix (x3 + 2))) S44 (fun r47 S46 => ((r45 = r47 → k18 (x3 + 6) S46) ∧ (¬ r45 = r47 → post 0 S46))))))))) ∧ (v2 = 9 → vp_in (x3 + 1) Ln ∧ (vp_in (x3 + 2) Ln ∧ (wp_X7_load (xs (ix (x3 + 1))) (xs (ix (x3 + 2))) S (fun r50 S49 => vp_in (x3 + 1) Ln ∧ (vp_in (x3 + 2) Ln ∧ (wp_X8_load (xs (ix (x3 + 1))) (xs (ix (x3 + 2))) S49 (fun r52 S51 => ((r50 = r52 → k18 (x3 + 6) S51) ∧ (¬ r50 = r52 → post 0 S51))))))))) ∧ (v2 = 10 → vp_in (x3 + 1) Ln ∧ (vp_in (x3 + 2) Ln ∧ ((((xs (ix (x3 + 2))) = 0 → B_L_law_513 k18 post Ln xs x3 0 (xs (ix (x3 + 1))) S) ∧ (¬ (xs (ix (x3 + 2))) = 0 → B_L_law_513 k18 post Ln xs x3 1 (xs (ix (x3 + 1))) S))))) ∧ (v2 = 11 → vp_in (x3 + 1) Ln ∧ (vp_in (x3 + 2) Ln ∧ ((((xs (ix (x3 + 2))) = 0 → B_L_law_562 k18 post Ln xs x3 0 (xs (ix (x3 + 1))) S) ∧ (¬ (xs (ix (x3 + 2))) = 0 → B_L_law_562 k18 post Ln xs x3 1 (xs (ix (x3 + 1))) S))))) ∧ (v2 = 12 → vp_in (x3 + 1) Ln ∧ (vp_in (x3 + 2) Ln ∧ (wp_X7_miles (xs (ix (x3 + 1))) (xs (ix (x3 + 2))) S (fun r57 S56 => vp_in (x3 + 1) Ln ∧ (vp_in (x3 + 2) Ln ∧ (wp_X8_miles (xs (ix (x3 + 1))) (xs (ix (x3 + 2))) S56 (fun r59 S58 => ((r57 = r59 → k18 (x3 + 6) S58) ∧ (¬ r57 = r59 → post 0 S58))))))))) ∧ (v2 = 13 → vp_in (x3 + 1) Ln ∧ (wp_X7_drift (xs (ix (x3 + 1))) S (fun r62 S61 => vp_in (x3 + 1) Ln ∧ (wp_X8_drift (xs (ix (x3 + 1))) S61 (fun r64 S63 => ((r62 = r64 → k18 (x3 + 6) S63) ∧ (¬ r62 = r64 → post 0 S63))))))) ∧ (v2 = 14 → vp_in (x3 + 1) Ln ∧ (vp_in (x3 + 2) Ln ∧ (wp_X7_soonest (xs (ix (x3 + 1))) (xs (ix (x3 + 2))) S (fun r67 S66 => vp_in (x3 + 1) Ln ∧ (vp_in (x3 + 2) Ln ∧ (wp_X8_soonest (xs (ix (x3 + 1))) (xs (ix (x3 + 2))) S66 (fun r69 S68 => ((r67 = r69 → k18 (x3 + 6) S68) ∧ (¬ r67 = r69 → post 0 S68))))))))) ∧ (v2 = 15 → vp_in (x3 + 1) Ln ∧ (vp_in (x3 + 2) Ln ∧ (wp_X7_step (xs (ix (x3 + 1))) (xs (ix (x3 + 2))) S (fun r72 S71 => vp_in (x3 + 1) Ln ∧ (vp_in (x3 + 2) Ln ∧ (wp_X8_step (xs (ix (x3 + 1))) (xs (ix (x3 + 2))) S71 (fun r74 S73 => ((r72 = r74 → k18 (x3 + 6) S73) ∧ (¬ r72 = r74 → post 0 S73))))))))) ∧ (v2 = 16 → vp_in (x3 + 1) Ln ∧ (wp_X7_latest (xs (ix (x3 + 1))) S (fun r77 S76 => vp_in (x3 + 1) Ln ∧ (wp_X8_latest (xs (ix (x3 + 1))) S76 (fun r79 S78 => ((r77 = r79 → k18 (x3 + 6) S78) ∧ (¬ r77 = r79 → post 0 S78))))))) ∧ (v2 = 17 → vp_in (x3 + 1) Ln ∧ (wp_X7_inns (xs (ix (x3 + 1))) S (fun r82 S81 => vp_in (x3 + 1) Ln ∧ (wp_X8_inns (xs (ix (x3 + 1))) S81 (fun r84 S83 => ((r82 = r84 → k18 (x3 + 6) S83) ∧ (¬ r82 = r84 → post 0 S83))))))) ∧ (v2 = 18 → vp_in (x3 + 1) Ln ∧ (vp_in (x3 + 2) Ln ∧ (vp_in (x3 + 3) Ln ∧ (wp_X7_relay (xs (ix (x3 + 1))) (xs (ix (x3 + 2))) (xs (ix (x3 + 3))) S (fun r87 S86 => vp_in (x3 + 1) Ln ∧ (vp_in (x3 + 2) Ln ∧ (vp_in (x3 + 3) Ln ∧ (wp_X8_relay (xs (ix (x3 + 1))) (xs (ix (x3 + 2))) (xs (ix (x3 + 3))) S86 (fun r89 S88 => ((r87 = r89 → k18 (x3 + 6) S88) ∧ (¬ r87 = r89 → post 0 S88))))))))))) ∧ (v2 = 19 → vp_in (x3 + 1) Ln ∧ (vp_in (x3 + 2) Ln ∧ (vp_in (x3 + 3) Ln ∧ (wp_X7_meet (xs (ix (x3 + 1))) (xs (ix (x3 + 2))) (xs (ix (x3 + 3))) S (fun r92 S91 => vp_in (x3 + 1) Ln ∧ (vp_in (x3 + 2) Ln ∧ (vp_in (x3 + 3) Ln ∧ (wp_X8_meet (xs (ix (x3 + 1))) (xs (ix (x3 + 2))) (xs (ix (x3 + 3))) S91 (fun r94 S93 => ((r92 = r94 → k18 (x3 + 6) S93) ∧ (¬ r92 = r94 → post 0 S93))))))))))) ∧ (v2 = 20 → vp_in (x3 + 1) Ln ∧ (wp_X7_cost (xs (ix (x3 + 1))) S (fun r97 S96 => vp_in (x3 + 1) Ln ∧ (wp_X8_cost (xs (ix (x3 + 1))) S96 (fun r99 S98 => ((r97 = r99 → k18 (x3 + 6) S98) ∧ (¬ r97 = r99 → post 0 S98))))))) ∧ (v2 = 21 → vp_in (x3 + 1) Ln ∧ (wp_X7_shorter (xs (ix (x3 + 1))) S (fun r102 S101 => vp_in (x3 + 1) Ln ∧ (wp_X8_shorter (xs (ix (x3 + 1))) S101 (fun r104 S103 => ((r102 = r104 → k18 (x3 + 6) S103) ∧ (¬ r102 = r104 → post 0 S103))))))) ∧ (v2 = 22 → vp_in (x3 + 1) Ln ∧ (vp_in (x3 + 2) Ln ∧ (vp_in (x3 + 3) Ln ∧ (wp_X7_lend (xs (ix (x3 + 1))) (xs (ix (x3 + 2))) (xs (ix (x3 + 3))) S (fun r107 S106 => vp_in (x3 + 1) Ln ∧ (vp_in (x3 + 2) Ln ∧ (vp_in (x3 + 3) Ln ∧ (wp_X8_lend (xs (ix (x3 + 1))) (xs (ix (x3 + 2))) (xs (ix (x3 + 3))) S106 (fun r109 S108 => ((r107 = r109 → k18 (x3 + 6) S108) ∧ (¬ r107 = r109 → post 0 S108))))))))))) ∧ (v2 = 23 → vp_in (x3 + 1) Ln ∧ (vp_in (x3 + 2) Ln ∧ (wp_X7_guard (xs (ix (x3 + 1))) (xs (ix (x3 + 2))) S (fun r112 S111 => vp_in (x3 + 1) Ln ∧ (vp_in (x3 + 2) Ln ∧ (wp_X8_guard (xs (ix (x3 + 1))) (xs (ix (x3 + 2))) S111 (fun r114 S113 => ((r112 = r114 → k18 (x3 + 6) S113) ∧ (¬ r112 = r114 → post 0 S113))))))))) ∧ (v2 = 24 → vp_in (x3 + 1) Ln ∧ (vp_in (x3 + 2) Ln ∧ (wp_X7_round (xs (ix (x3 + 1))) (xs (ix (x3 + 2))) S (fun r117 S116 => vp_in (x3 + 1) Ln ∧ (vp_in (x3 + 2) Ln ∧ (wp_X8_round (xs (ix (x3 + 1))) (xs (ix (x3 + 2))) S116 (fun r119 S118 => ((r117 = r119 → k18 (x3 + 6) S118) ∧ (¬ r117 = r119 → post 0 S118))))))))) ∧ (v2 = 25 → vp_in (x3 + 1) Ln ∧ (vp_in (x3 + 2) Ln ∧ (vp_in (x3 + 3) Ln ∧ (vp_in (x3 + 4) Ln ∧ (vp_in (x3 + 5) Ln ∧ (wp_X7_took (xs (ix (x3 + 1))) (xs (ix (x3 + 2))) (xs (ix (x3 + 3))) (xs (ix (x3 + 4))) (xs (ix (x3 + 5))) S (fun r122 S121 => vp_in (x3 + 1) Ln ∧ (vp_in (x3 + 2) Ln ∧ (vp_in (x3 + 3) Ln ∧ (vp_in (x3 + 4) Ln ∧ (vp_in (x3 + 5) Ln ∧ (wp_X8_took (xs (ix (x3 + 1))) (xs (ix (x3 + 2))) (xs (ix (x3 + 3))) (xs (ix (x3 + 4))) (xs (ix (x3 + 5))) S121 (fun r124 S123 => ((r122 = r124 → k18 (x3 + 6) S123) ∧ (¬ r122 = r124 → post 0 S123))))))))))))))) ∧ (v2 = 26 → vp_in (x3 + 1) Ln ∧ (wp_X7_spent (xs (ix (x3 + 1))) S (fun r127 S126 => vp_in (x3 + 1) Ln ∧ (wp_X8_spent (xs (ix (x3 + 1))) S126 (fun r129 S128 => ((r127 = r129 → k18 (x3 + 6) S128) ∧ (¬ r127 = r129 → post 0 S128))))))) ∧ (v2 = 27 → wp_X7_lie S (fun r132 S131 => wp_X8_lie S131 (fun r134 S133 => ((r132 = r134 → k18 (x3 + 6) S133) ∧ (¬ r132 = r134 → post 0 S133))))) ∧ (v2 = 28 → vp_in (x3 + 1) Ln ∧ (wp_X7_write (xs (ix (x3 + 1))) S (fun r137 S136 => vp_in (x3 + 1) Ln ∧ (wp_X8_write (xs (ix (x3 + 1))) S136 (fun r139 S138 => ((r137 = r139 → k18 (x3 + 6) S138) ∧ (¬ r137 = r139 → post 0 S138))))))) ∧ (v2 = 29 → wp_X7_tear S (fun r142 S141 => wp_X8_tear S141 (fun r144 S143 => ((r142 = r144 → k18 (x3 + 6) S143) ∧ (¬ r142 = r144 → post 0 S143))))) ∧ (v2 = 30 → vp_in (x3 + 1) Ln ∧ (vp_in (x3 + 2) Ln ∧ (wp_X7_judge (xs (ix (x3 + 1))) (xs (ix (x3 + 2))) S (fun r147 S146 => vp_in (x3 + 1) Ln ∧ (vp_in (x3 + 2) Ln ∧ (wp_X8_judge (xs (ix (x3 + 1))) (xs (ix (x3 + 2))) S146 (fun r149 S148 => ((r147 = r149 → k18 (x3 + 6) S148) ∧ (¬ r147 = r149 → post 0 S148))))))))) ∧ (v2 = 31 → vp_in (x3 + 1) Ln ∧ (wp_X7_seed (xs (ix (x3 + 1))) S (fun r152 S151 => vp_in (x3 + 1) Ln ∧ (wp_X8_seed (xs (ix (x3 + 1))) S151 (fun r154 S153 => ((r152 = r154 → k18 (x3 + 6) S153) ∧ (¬ r152 = r154 → post 0 S153))))))) ∧ (v2 = 32 → vp_in (x3 + 1) Ln ∧ (wp_X7_keep (xs (ix (x3 + 1))) S (fun r157 S156 => vp_in (x3 + 1) Ln ∧ (wp_X8_keep (xs (ix (x3 + 1))) S156 (fun r159 S158 => ((r157 = r159 → k18 (x3 + 6) S158) ∧ (¬ r157 = r159 → post 0 S158))))))) ∧ (v2 = 33 → vp_in (x3 + 1) Ln ∧ (wp_X7_goBack (xs (ix (x3 + 1))) S (fun r162 S161 => vp_in (x3 + 1) Ln ∧ (wp_X8_goBack (xs (ix (x3 + 1))) S161 (fun r164 S163 => ((r162 = r164 → k18 (x3 + 6) S163) ∧ (¬ r162 = r164 → post 0 S163))))))))))))
def L_L_law_18 (post : Int32 → St → Prop) (Ln : Nat) (xs : Nat → Int32) (n : Nat) : Int32 → St → Prop := Nat.rec (motive := fun _ => Int32 → St → Prop) (fun _ _ => False) (fun _ ih => BD_L_law_18 ih post Ln xs) n
def B_L_law_18 (post : Int32 → St → Prop) (Ln : Nat) (xs : Nat → Int32) (x3 : Int32) (S : St) : Prop := ∃ n, L_L_law_18 post Ln xs n x3 S
set_option maxHeartbeats 4000000 in
set_option maxRecDepth 20000 in
theorem w_B_L_law_562 {X : Cx} {b : Nat} (ok : Ok X cL_law 4 RL 8 199) {post : Int32 → St → Prop} (hret : RetZ X cL_law 4 post) {k18 : Int32 → St → Prop} (hk18 : ∀ x3 S, k18 x3 S → Wp X 4 18 [(0, .ref b), (1, .ref (xad X 44)), (2, .ref (xad X 71)), (3, .int x3)] [] S) {Ln : Nat}  {xs : Nat → Int32} (hx : LwX X b Ln xs) {x3 s0 s1 : Int32} {S : St} (h : B_L_law_562 k18 post Ln xs x3 s0 s1 S) : Wp X 4 562 [(0, .ref b), (1, .ref (xad X 44)), (2, .ref (xad X 71)), (3, .int x3)] [.int s0, .int s1, .ref (xad X 44)] S := by
  unfold B_L_law_562 at h
  refine cl_L_63 ok dL_law_562 (by decide) (Nat.le_of_ble_eq_true rfl) h (fun r2 S1 h => ?_)
  refine r_aload_n ok dL_law_565 2 rfl ?_
  refine r_aload_n ok dL_law_566 0 rfl ?_
  refine r_iload_n ok dL_law_567 3 rfl ?_
  refine r_iconst (v := 1) ok dL_law_568 rfl ?_
  refine r_iadd ok dL_law_569 ?_
  refine r_sld ok hx h.1 rfl dL_law_570 ?_
  replace h := h.2
  refine r_aload_n ok dL_law_571 0 rfl ?_
  refine r_iload_n ok dL_law_572 3 rfl ?_
  refine r_iconst (v := 2) ok dL_law_573 rfl ?_
  refine r_iadd ok dL_law_574 ?_
  refine r_sld ok hx h.1 rfl dL_law_575 ?_
  replace h := h.2
  refine r_if_eq (tgt := 583) ok dL_law_576 rfl (fun hc3 => ?_) (fun hc3 => ?_)
  · replace h := h.1 hc3
    refine r_iconst (v := 0) ok dL_law_583 rfl ?_
    refine cl_L_66 ok dL_law_584 (by decide) (Nat.le_of_ble_eq_true rfl) h (fun r5 S4 h => ?_)
    refine r_icmp_eq (tgt := 1238) ok dL_law_587 rfl (fun hc6 => ?_) (fun hc6 => ?_)
    · replace h := h.1 hc6
      refine r_iinc (v := x3 + 6) ok dL_law_1238 3 rfl rfl (by decide) [(0, .ref b), (1, .ref (xad X 44)), (2, .ref (xad X 71)), (3, .int (x3 + 6))] [1, 2, 3, 0] rfl ?_
      refine r_goto (tgt := 18) ok dL_law_1241 rfl ?_
      exact hk18 _ _ h
    · replace h := h.2 hc6
      refine r_iconst (v := 0) ok dL_law_590 rfl ?_
      exact hret _ _ _ _ dL_law_591 (Or.inl rfl) h
  · replace h := h.2 hc3
    refine r_iconst (v := 1) ok dL_law_579 rfl ?_
    refine r_goto (tgt := 584) ok dL_law_580 rfl ?_
    refine cl_L_66 ok dL_law_584 (by decide) (Nat.le_of_ble_eq_true rfl) h (fun r8 S7 h => ?_)
    refine r_icmp_eq (tgt := 1238) ok dL_law_587 rfl (fun hc9 => ?_) (fun hc9 => ?_)
    · replace h := h.1 hc9
      refine r_iinc (v := x3 + 6) ok dL_law_1238 3 rfl rfl (by decide) [(0, .ref b), (1, .ref (xad X 44)), (2, .ref (xad X 71)), (3, .int (x3 + 6))] [1, 2, 3, 0] rfl ?_
      refine r_goto (tgt := 18) ok dL_law_1241 rfl ?_
      exact hk18 _ _ h
    · replace h := h.2 hc9
      refine r_iconst (v := 0) ok dL_law_590 rfl ?_
      exact hret _ _ _ _ dL_law_591 (Or.inl rfl) h
set_option maxHeartbeats 4000000 in
set_option maxRecDepth 20000 in
theorem w_B_L_law_513 {X : Cx} {b : Nat} (ok : Ok X cL_law 4 RL 8 199) {post : Int32 → St → Prop} (hret : RetZ X cL_law 4 post) {k18 : Int32 → St → Prop} (hk18 : ∀ x3 S, k18 x3 S → Wp X 4 18 [(0, .ref b), (1, .ref (xad X 44)), (2, .ref (xad X 71)), (3, .int x3)] [] S) {Ln : Nat}  {xs : Nat → Int32} (hx : LwX X b Ln xs) {x3 s0 s1 : Int32} {S : St} (h : B_L_law_513 k18 post Ln xs x3 s0 s1 S) : Wp X 4 513 [(0, .ref b), (1, .ref (xad X 44)), (2, .ref (xad X 71)), (3, .int x3)] [.int s0, .int s1, .ref (xad X 44)] S := by
  unfold B_L_law_513 at h
  refine cl_L_58 ok dL_law_513 (by decide) (Nat.le_of_ble_eq_true rfl) h (fun r2 S1 h => ?_)
  refine r_aload_n ok dL_law_516 2 rfl ?_
  refine r_aload_n ok dL_law_517 0 rfl ?_
  refine r_iload_n ok dL_law_518 3 rfl ?_
  refine r_iconst (v := 1) ok dL_law_519 rfl ?_
  refine r_iadd ok dL_law_520 ?_
  refine r_sld ok hx h.1 rfl dL_law_521 ?_
  replace h := h.2
  refine r_aload_n ok dL_law_522 0 rfl ?_
  refine r_iload_n ok dL_law_523 3 rfl ?_
  refine r_iconst (v := 2) ok dL_law_524 rfl ?_
  refine r_iadd ok dL_law_525 ?_
  refine r_sld ok hx h.1 rfl dL_law_526 ?_
  replace h := h.2
  refine r_if_eq (tgt := 534) ok dL_law_527 rfl (fun hc3 => ?_) (fun hc3 => ?_)
  · replace h := h.1 hc3
    refine r_iconst (v := 0) ok dL_law_534 rfl ?_
    refine cl_L_62 ok dL_law_535 (by decide) (Nat.le_of_ble_eq_true rfl) h (fun r5 S4 h => ?_)
    refine r_icmp_eq (tgt := 1238) ok dL_law_538 rfl (fun hc6 => ?_) (fun hc6 => ?_)
    · replace h := h.1 hc6
      refine r_iinc (v := x3 + 6) ok dL_law_1238 3 rfl rfl (by decide) [(0, .ref b), (1, .ref (xad X 44)), (2, .ref (xad X 71)), (3, .int (x3 + 6))] [1, 2, 3, 0] rfl ?_
      refine r_goto (tgt := 18) ok dL_law_1241 rfl ?_
      exact hk18 _ _ h
    · replace h := h.2 hc6
      refine r_iconst (v := 0) ok dL_law_541 rfl ?_
      exact hret _ _ _ _ dL_law_542 (Or.inl rfl) h
  · replace h := h.2 hc3
    refine r_iconst (v := 1) ok dL_law_530 rfl ?_
    refine r_goto (tgt := 535) ok dL_law_531 rfl ?_
    refine cl_L_62 ok dL_law_535 (by decide) (Nat.le_of_ble_eq_true rfl) h (fun r8 S7 h => ?_)
    refine r_icmp_eq (tgt := 1238) ok dL_law_538 rfl (fun hc9 => ?_) (fun hc9 => ?_)
    · replace h := h.1 hc9
      refine r_iinc (v := x3 + 6) ok dL_law_1238 3 rfl rfl (by decide) [(0, .ref b), (1, .ref (xad X 44)), (2, .ref (xad X 71)), (3, .int (x3 + 6))] [1, 2, 3, 0] rfl ?_
      refine r_goto (tgt := 18) ok dL_law_1241 rfl ?_
      exact hk18 _ _ h
    · replace h := h.2 hc9
      refine r_iconst (v := 0) ok dL_law_541 rfl ?_
      exact hret _ _ _ _ dL_law_542 (Or.inl rfl) h
set_option maxHeartbeats 4000000 in
set_option maxRecDepth 20000 in
theorem w_B_L_law_18 {X : Cx} {b : Nat} (ok : Ok X cL_law 4 RL 8 199) {post : Int32 → St → Prop} (hret : RetZ X cL_law 4 post) {Ln : Nat}  {xs : Nat → Int32} (hx : LwX X b Ln xs) {x3 : Int32} {S : St} (h : B_L_law_18 post Ln xs x3 S) : Wp X 4 18 [(0, .ref b), (1, .ref (xad X 44)), (2, .ref (xad X 71)), (3, .int x3)] [] S := by
  obtain ⟨n, h⟩ := h
  induction n generalizing x3 S with
  | zero => exact False.elim h
  | succ n ih =>
    have hk18 : ∀ x3 S, L_L_law_18 post Ln xs n x3 S → Wp X 4 18 [(0, .ref b), (1, .ref (xad X 44)), (2, .ref (xad X 71)), (3, .int x3)] [] S := by intros; apply ih; assumption
    replace h : BD_L_law_18 (L_L_law_18 post Ln xs n) post Ln xs x3 S := h
    unfold BD_L_law_18 at h
    generalize L_L_law_18 post Ln xs n = k18 at h hk18
    refine r_iload_n ok dL_law_18 3 rfl ?_
    refine r_aload_n ok dL_law_19 0 rfl ?_
    refine r_slen ok hx dL_law_20 ?_
    refine r_bipush (v := 6) ok dL_law_21 rfl ?_
    refine r_isub ok dL_law_23 ?_
    refine r_icmp_gt (tgt := 1244) ok dL_law_24 rfl (fun hc1 => ?_) (fun hc1 => ?_)
    · replace h := h.1 hc1
      refine r_iconst (v := 1) ok dL_law_1244 rfl ?_
      exact hret _ _ _ _ dL_law_1245 (Or.inr rfl) h
    · replace h := h.2 hc1
      refine r_aload_n ok dL_law_27 0 rfl ?_
      refine r_iload_n ok dL_law_28 3 rfl ?_
      refine r_sld ok hx h.1 rfl dL_law_29 ?_
      replace h := h.2
      refine r_bipush (v := 63) ok dL_law_30 rfl ?_
      refine r_iand ok dL_law_32 ?_
      refine r_top (fun v2 ev2 => ?_)
      replace h := h v2 ev2
      by_cases hc3 : v2.toInt < 0 ∨ 33 < v2.toInt
      · refine r_tout (tgt := 1238) ok dL_law_33 hc3 rfl ?_
        replace h := h.1 hc3
        refine r_iinc (v := x3 + 6) ok dL_law_1238 3 rfl rfl (by decide) [(0, .ref b), (1, .ref (xad X 44)), (2, .ref (xad X 71)), (3, .int (x3 + 6))] [1, 2, 3, 0] rfl ?_
        refine r_goto (tgt := 18) ok dL_law_1241 rfl ?_
        exact hk18 _ _ h
      · replace h := h.2
        rcases sw_33 hc3 with hq0 | hq1 | hq2 | hq3 | hq4 | hq5 | hq6 | hq7 | hq8 | hq9 | hq10 | hq11 | hq12 | hq13 | hq14 | hq15 | hq16 | hq17 | hq18 | hq19 | hq20 | hq21 | hq22 | hq23 | hq24 | hq25 | hq26 | hq27 | hq28 | hq29 | hq30 | hq31 | hq32 | hq33
        · replace h := h.1 hq0
          refine r_tin (tgt := 184) ok dL_law_33 (by rw [hq0]; decide) (by rw [hq0]; decide) (by rw [hq0]; rfl) rfl ?_
          refine r_aload_n ok dL_law_184 1 rfl ?_
          refine r_aload_n ok dL_law_185 0 rfl ?_
          refine r_iload_n ok dL_law_186 3 rfl ?_
          refine r_iconst (v := 1) ok dL_law_187 rfl ?_
          refine r_iadd ok dL_law_188 ?_
          refine r_sld ok hx h.1 rfl dL_law_189 ?_
          replace h := h.2
          refine cl_L_13 ok dL_law_190 (by decide) (Nat.le_of_ble_eq_true rfl) h (fun r5 S4 h => ?_)
          refine r_aload_n ok dL_law_193 2 rfl ?_
          refine r_aload_n ok dL_law_194 0 rfl ?_
          refine r_iload_n ok dL_law_195 3 rfl ?_
          refine r_iconst (v := 1) ok dL_law_196 rfl ?_
          refine r_iadd ok dL_law_197 ?_
          refine r_sld ok hx h.1 rfl dL_law_198 ?_
          replace h := h.2
          refine cl_L_17 ok dL_law_199 (by decide) (Nat.le_of_ble_eq_true rfl) h (fun r7 S6 h => ?_)
          refine r_icmp_eq (tgt := 1238) ok dL_law_202 rfl (fun hc8 => ?_) (fun hc8 => ?_)
          · replace h := h.1 hc8
            refine r_iinc (v := x3 + 6) ok dL_law_1238 3 rfl rfl (by decide) [(0, .ref b), (1, .ref (xad X 44)), (2, .ref (xad X 71)), (3, .int (x3 + 6))] [1, 2, 3, 0] rfl ?_
            refine r_goto (tgt := 18) ok dL_law_1241 rfl ?_
            exact hk18 _ _ h
          · replace h := h.2 hc8
            refine r_iconst (v := 0) ok dL_law_205 rfl ?_
            exact hret _ _ _ _ dL_law_206 (Or.inl rfl) h
        · replace h := h.2.1 hq1
          refine r_tin (tgt := 207) ok dL_law_33 (by rw [hq1]; decide) (by rw [hq1]; decide) (by rw [hq1]; rfl) rfl ?_
          refine r_aload_n ok dL_law_207 1 rfl ?_
          refine cl_L_18 ok dL_law_208 (by decide) (Nat.le_of_ble_eq_true rfl) h (fun r10 S9 h => ?_)
          refine r_aload_n ok dL_law_211 2 rfl ?_
          refine cl_L_22 ok dL_law_212 (by decide) (Nat.le_of_ble_eq_true rfl) h (fun r12 S11 h => ?_)
          refine r_icmp_eq (tgt := 1238) ok dL_law_215 rfl (fun hc13 => ?_) (fun hc13 => ?_)
          · replace h := h.1 hc13
            refine r_iinc (v := x3 + 6) ok dL_law_1238 3 rfl rfl (by decide) [(0, .ref b), (1, .ref (xad X 44)), (2, .ref (xad X 71)), (3, .int (x3 + 6))] [1, 2, 3, 0] rfl ?_
            refine r_goto (tgt := 18) ok dL_law_1241 rfl ?_
            exact hk18 _ _ h
          · replace h := h.2 hc13
            refine r_iconst (v := 0) ok dL_law_218 rfl ?_
            exact hret _ _ _ _ dL_law_219 (Or.inl rfl) h
        · replace h := h.2.2.1 hq2
          refine r_tin (tgt := 220) ok dL_law_33 (by rw [hq2]; decide) (by rw [hq2]; decide) (by rw [hq2]; rfl) rfl ?_
          refine r_aload_n ok dL_law_220 1 rfl ?_
          refine cl_L_23 ok dL_law_221 (by decide) (Nat.le_of_ble_eq_true rfl) h (fun r15 S14 h => ?_)
          refine r_aload_n ok dL_law_224 2 rfl ?_
          refine cl_L_26 ok dL_law_225 (by decide) (Nat.le_of_ble_eq_true rfl) h (fun r17 S16 h => ?_)
          refine r_icmp_eq (tgt := 1238) ok dL_law_228 rfl (fun hc18 => ?_) (fun hc18 => ?_)
          · replace h := h.1 hc18
            refine r_iinc (v := x3 + 6) ok dL_law_1238 3 rfl rfl (by decide) [(0, .ref b), (1, .ref (xad X 44)), (2, .ref (xad X 71)), (3, .int (x3 + 6))] [1, 2, 3, 0] rfl ?_
            refine r_goto (tgt := 18) ok dL_law_1241 rfl ?_
            exact hk18 _ _ h
          · replace h := h.2 hc18
            refine r_iconst (v := 0) ok dL_law_231 rfl ?_
            exact hret _ _ _ _ dL_law_232 (Or.inl rfl) h
        · replace h := h.2.2.2.1 hq3
          refine r_tin (tgt := 233) ok dL_law_33 (by rw [hq3]; decide) (by rw [hq3]; decide) (by rw [hq3]; rfl) rfl ?_
          refine r_aload_n ok dL_law_233 1 rfl ?_
          refine r_aload_n ok dL_law_234 0 rfl ?_
          refine r_iload_n ok dL_law_235 3 rfl ?_
          refine r_iconst (v := 1) ok dL_law_236 rfl ?_
          refine r_iadd ok dL_law_237 ?_
          refine r_sld ok hx h.1 rfl dL_law_238 ?_
          replace h := h.2
          refine cl_L_27 ok dL_law_239 (by decide) (Nat.le_of_ble_eq_true rfl) h (fun r20 S19 h => ?_)
          refine r_aload_n ok dL_law_242 2 rfl ?_
          refine r_aload_n ok dL_law_243 0 rfl ?_
          refine r_iload_n ok dL_law_244 3 rfl ?_
          refine r_iconst (v := 1) ok dL_law_245 rfl ?_
          refine r_iadd ok dL_law_246 ?_
          refine r_sld ok hx h.1 rfl dL_law_247 ?_
          replace h := h.2
          refine cl_L_30 ok dL_law_248 (by decide) (Nat.le_of_ble_eq_true rfl) h (fun r22 S21 h => ?_)
          refine r_icmp_eq (tgt := 1238) ok dL_law_251 rfl (fun hc23 => ?_) (fun hc23 => ?_)
          · replace h := h.1 hc23
            refine r_iinc (v := x3 + 6) ok dL_law_1238 3 rfl rfl (by decide) [(0, .ref b), (1, .ref (xad X 44)), (2, .ref (xad X 71)), (3, .int (x3 + 6))] [1, 2, 3, 0] rfl ?_
            refine r_goto (tgt := 18) ok dL_law_1241 rfl ?_
            exact hk18 _ _ h
          · replace h := h.2 hc23
            refine r_iconst (v := 0) ok dL_law_254 rfl ?_
            exact hret _ _ _ _ dL_law_255 (Or.inl rfl) h
        · replace h := h.2.2.2.2.1 hq4
          refine r_tin (tgt := 256) ok dL_law_33 (by rw [hq4]; decide) (by rw [hq4]; decide) (by rw [hq4]; rfl) rfl ?_
          refine r_aload_n ok dL_law_256 1 rfl ?_
          refine r_aload_n ok dL_law_257 0 rfl ?_
          refine r_iload_n ok dL_law_258 3 rfl ?_
          refine r_iconst (v := 1) ok dL_law_259 rfl ?_
          refine r_iadd ok dL_law_260 ?_
          refine r_sld ok hx h.1 rfl dL_law_261 ?_
          replace h := h.2
          refine r_aload_n ok dL_law_262 0 rfl ?_
          refine r_iload_n ok dL_law_263 3 rfl ?_
          refine r_iconst (v := 2) ok dL_law_264 rfl ?_
          refine r_iadd ok dL_law_265 ?_
          refine r_sld ok hx h.1 rfl dL_law_266 ?_
          replace h := h.2
          refine cl_L_31 ok dL_law_267 (by decide) (Nat.le_of_ble_eq_true rfl) h (fun r25 S24 h => ?_)
          refine r_aload_n ok dL_law_270 2 rfl ?_
          refine r_aload_n ok dL_law_271 0 rfl ?_
          refine r_iload_n ok dL_law_272 3 rfl ?_
          refine r_iconst (v := 1) ok dL_law_273 rfl ?_
          refine r_iadd ok dL_law_274 ?_
          refine r_sld ok hx h.1 rfl dL_law_275 ?_
          replace h := h.2
          refine r_aload_n ok dL_law_276 0 rfl ?_
          refine r_iload_n ok dL_law_277 3 rfl ?_
          refine r_iconst (v := 2) ok dL_law_278 rfl ?_
          refine r_iadd ok dL_law_279 ?_
          refine r_sld ok hx h.1 rfl dL_law_280 ?_
          replace h := h.2
          refine cl_L_35 ok dL_law_281 (by decide) (Nat.le_of_ble_eq_true rfl) h (fun r27 S26 h => ?_)
          refine r_icmp_eq (tgt := 1238) ok dL_law_284 rfl (fun hc28 => ?_) (fun hc28 => ?_)
          · replace h := h.1 hc28
            refine r_iinc (v := x3 + 6) ok dL_law_1238 3 rfl rfl (by decide) [(0, .ref b), (1, .ref (xad X 44)), (2, .ref (xad X 71)), (3, .int (x3 + 6))] [1, 2, 3, 0] rfl ?_
            refine r_goto (tgt := 18) ok dL_law_1241 rfl ?_
            exact hk18 _ _ h
          · replace h := h.2 hc28
            refine r_iconst (v := 0) ok dL_law_287 rfl ?_
            exact hret _ _ _ _ dL_law_288 (Or.inl rfl) h
        · replace h := h.2.2.2.2.2.1 hq5
          refine r_tin (tgt := 289) ok dL_law_33 (by rw [hq5]; decide) (by rw [hq5]; decide) (by rw [hq5]; rfl) rfl ?_
          refine r_aload_n ok dL_law_289 1 rfl ?_
          refine r_aload_n ok dL_law_290 0 rfl ?_
          refine r_iload_n ok dL_law_291 3 rfl ?_
          refine r_iconst (v := 1) ok dL_law_292 rfl ?_
          refine r_iadd ok dL_law_293 ?_
          refine r_sld ok hx h.1 rfl dL_law_294 ?_
          replace h := h.2
          refine r_aload_n ok dL_law_295 0 rfl ?_
          refine r_iload_n ok dL_law_296 3 rfl ?_
          refine r_iconst (v := 2) ok dL_law_297 rfl ?_
          refine r_iadd ok dL_law_298 ?_
          refine r_sld ok hx h.1 rfl dL_law_299 ?_
          replace h := h.2
          refine cl_L_36 ok dL_law_300 (by decide) (Nat.le_of_ble_eq_true rfl) h (fun r30 S29 h => ?_)
          refine r_aload_n ok dL_law_303 2 rfl ?_
          refine r_aload_n ok dL_law_304 0 rfl ?_
          refine r_iload_n ok dL_law_305 3 rfl ?_
          refine r_iconst (v := 1) ok dL_law_306 rfl ?_
          refine r_iadd ok dL_law_307 ?_
          refine r_sld ok hx h.1 rfl dL_law_308 ?_
          replace h := h.2
          refine r_aload_n ok dL_law_309 0 rfl ?_
          refine r_iload_n ok dL_law_310 3 rfl ?_
          refine r_iconst (v := 2) ok dL_law_311 rfl ?_
          refine r_iadd ok dL_law_312 ?_
          refine r_sld ok hx h.1 rfl dL_law_313 ?_
          replace h := h.2
          refine cl_L_39 ok dL_law_314 (by decide) (Nat.le_of_ble_eq_true rfl) h (fun r32 S31 h => ?_)
          refine r_icmp_eq (tgt := 1238) ok dL_law_317 rfl (fun hc33 => ?_) (fun hc33 => ?_)
          · replace h := h.1 hc33
            refine r_iinc (v := x3 + 6) ok dL_law_1238 3 rfl rfl (by decide) [(0, .ref b), (1, .ref (xad X 44)), (2, .ref (xad X 71)), (3, .int (x3 + 6))] [1, 2, 3, 0] rfl ?_
            refine r_goto (tgt := 18) ok dL_law_1241 rfl ?_
            exact hk18 _ _ h
          · replace h := h.2 hc33
            refine r_iconst (v := 0) ok dL_law_320 rfl ?_
            exact hret _ _ _ _ dL_law_321 (Or.inl rfl) h
        · replace h := h.2.2.2.2.2.2.1 hq6
          refine r_tin (tgt := 322) ok dL_law_33 (by rw [hq6]; decide) (by rw [hq6]; decide) (by rw [hq6]; rfl) rfl ?_
          refine r_aload_n ok dL_law_322 1 rfl ?_
          refine r_aload_n ok dL_law_323 0 rfl ?_
          refine r_iload_n ok dL_law_324 3 rfl ?_
          refine r_iconst (v := 1) ok dL_law_325 rfl ?_
          refine r_iadd ok dL_law_326 ?_
          refine r_sld ok hx h.1 rfl dL_law_327 ?_
          replace h := h.2
          refine r_aload_n ok dL_law_328 0 rfl ?_
          refine r_iload_n ok dL_law_329 3 rfl ?_
          refine r_iconst (v := 2) ok dL_law_330 rfl ?_
          refine r_iadd ok dL_law_331 ?_
          refine r_sld ok hx h.1 rfl dL_law_332 ?_
          replace h := h.2
          refine r_aload_n ok dL_law_333 0 rfl ?_
          refine r_iload_n ok dL_law_334 3 rfl ?_
          refine r_iconst (v := 3) ok dL_law_335 rfl ?_
          refine r_iadd ok dL_law_336 ?_
          refine r_sld ok hx h.1 rfl dL_law_337 ?_
          replace h := h.2
          refine r_aload_n ok dL_law_338 0 rfl ?_
          refine r_iload_n ok dL_law_339 3 rfl ?_
          refine r_iconst (v := 4) ok dL_law_340 rfl ?_
          refine r_iadd ok dL_law_341 ?_
          refine r_sld ok hx h.1 rfl dL_law_342 ?_
          replace h := h.2
          refine r_aload_n ok dL_law_343 0 rfl ?_
          refine r_iload_n ok dL_law_344 3 rfl ?_
          refine r_iconst (v := 5) ok dL_law_345 rfl ?_
          refine r_iadd ok dL_law_346 ?_
          refine r_sld ok hx h.1 rfl dL_law_347 ?_
          replace h := h.2
          refine cl_L_40 ok dL_law_348 (by decide) (Nat.le_of_ble_eq_true rfl) h (fun r35 S34 h => ?_)
          refine r_aload_n ok dL_law_351 2 rfl ?_
          refine r_aload_n ok dL_law_352 0 rfl ?_
          refine r_iload_n ok dL_law_353 3 rfl ?_
          refine r_iconst (v := 1) ok dL_law_354 rfl ?_
          refine r_iadd ok dL_law_355 ?_
          refine r_sld ok hx h.1 rfl dL_law_356 ?_
          replace h := h.2
          refine r_aload_n ok dL_law_357 0 rfl ?_
          refine r_iload_n ok dL_law_358 3 rfl ?_
          refine r_iconst (v := 2) ok dL_law_359 rfl ?_
          refine r_iadd ok dL_law_360 ?_
          refine r_sld ok hx h.1 rfl dL_law_361 ?_
          replace h := h.2
          refine r_aload_n ok dL_law_362 0 rfl ?_
          refine r_iload_n ok dL_law_363 3 rfl ?_
          refine r_iconst (v := 3) ok dL_law_364 rfl ?_
          refine r_iadd ok dL_law_365 ?_
          refine r_sld ok hx h.1 rfl dL_law_366 ?_
          replace h := h.2
          refine r_aload_n ok dL_law_367 0 rfl ?_
          refine r_iload_n ok dL_law_368 3 rfl ?_
          refine r_iconst (v := 4) ok dL_law_369 rfl ?_
          refine r_iadd ok dL_law_370 ?_
          refine r_sld ok hx h.1 rfl dL_law_371 ?_
          replace h := h.2
          refine r_aload_n ok dL_law_372 0 rfl ?_
          refine r_iload_n ok dL_law_373 3 rfl ?_
          refine r_iconst (v := 5) ok dL_law_374 rfl ?_
          refine r_iadd ok dL_law_375 ?_
          refine r_sld ok hx h.1 rfl dL_law_376 ?_
          replace h := h.2
          refine cl_L_44 ok dL_law_377 (by decide) (Nat.le_of_ble_eq_true rfl) h (fun r37 S36 h => ?_)
          refine r_icmp_eq (tgt := 1238) ok dL_law_380 rfl (fun hc38 => ?_) (fun hc38 => ?_)
          · replace h := h.1 hc38
            refine r_iinc (v := x3 + 6) ok dL_law_1238 3 rfl rfl (by decide) [(0, .ref b), (1, .ref (xad X 44)), (2, .ref (xad X 71)), (3, .int (x3 + 6))] [1, 2, 3, 0] rfl ?_
            refine r_goto (tgt := 18) ok dL_law_1241 rfl ?_
            exact hk18 _ _ h
          · replace h := h.2 hc38
            refine r_iconst (v := 0) ok dL_law_383 rfl ?_
            exact hret _ _ _ _ dL_law_384 (Or.inl rfl) h
        · replace h := h.2.2.2.2.2.2.2.1 hq7
          refine r_tin (tgt := 385) ok dL_law_33 (by rw [hq7]; decide) (by rw [hq7]; decide) (by rw [hq7]; rfl) rfl ?_
          refine r_aload_n ok dL_law_385 1 rfl ?_
          refine r_aload_n ok dL_law_386 0 rfl ?_
          refine r_iload_n ok dL_law_387 3 rfl ?_
          refine r_iconst (v := 1) ok dL_law_388 rfl ?_
          refine r_iadd ok dL_law_389 ?_
          refine r_sld ok hx h.1 rfl dL_law_390 ?_
          replace h := h.2
          refine r_aload_n ok dL_law_391 0 rfl ?_
          refine r_iload_n ok dL_law_392 3 rfl ?_
          refine r_iconst (v := 2) ok dL_law_393 rfl ?_
          refine r_iadd ok dL_law_394 ?_
          refine r_sld ok hx h.1 rfl dL_law_395 ?_
          replace h := h.2
          refine r_aload_n ok dL_law_396 0 rfl ?_
          refine r_iload_n ok dL_law_397 3 rfl ?_
          refine r_iconst (v := 3) ok dL_law_398 rfl ?_
          refine r_iadd ok dL_law_399 ?_
          refine r_sld ok hx h.1 rfl dL_law_400 ?_
          replace h := h.2
          refine cl_L_45 ok dL_law_401 (by decide) (Nat.le_of_ble_eq_true rfl) h (fun r40 S39 h => ?_)
          refine r_aload_n ok dL_law_404 2 rfl ?_
          refine r_aload_n ok dL_law_405 0 rfl ?_
          refine r_iload_n ok dL_law_406 3 rfl ?_
          refine r_iconst (v := 1) ok dL_law_407 rfl ?_
          refine r_iadd ok dL_law_408 ?_
          refine r_sld ok hx h.1 rfl dL_law_409 ?_
          replace h := h.2
          refine r_aload_n ok dL_law_410 0 rfl ?_
          refine r_iload_n ok dL_law_411 3 rfl ?_
          refine r_iconst (v := 2) ok dL_law_412 rfl ?_
          refine r_iadd ok dL_law_413 ?_
          refine r_sld ok hx h.1 rfl dL_law_414 ?_
          replace h := h.2
          refine r_aload_n ok dL_law_415 0 rfl ?_
          refine r_iload_n ok dL_law_416 3 rfl ?_
          refine r_iconst (v := 3) ok dL_law_417 rfl ?_
          refine r_iadd ok dL_law_418 ?_
          refine r_sld ok hx h.1 rfl dL_law_419 ?_
          replace h := h.2
          refine cl_L_49 ok dL_law_420 (by decide) (Nat.le_of_ble_eq_true rfl) h (fun r42 S41 h => ?_)
          refine r_icmp_eq (tgt := 1238) ok dL_law_423 rfl (fun hc43 => ?_) (fun hc43 => ?_)
          · replace h := h.1 hc43
            refine r_iinc (v := x3 + 6) ok dL_law_1238 3 rfl rfl (by decide) [(0, .ref b), (1, .ref (xad X 44)), (2, .ref (xad X 71)), (3, .int (x3 + 6))] [1, 2, 3, 0] rfl ?_
            refine r_goto (tgt := 18) ok dL_law_1241 rfl ?_
            exact hk18 _ _ h
          · replace h := h.2 hc43
            refine r_iconst (v := 0) ok dL_law_426 rfl ?_
            exact hret _ _ _ _ dL_law_427 (Or.inl rfl) h
        · replace h := h.2.2.2.2.2.2.2.2.1 hq8
          refine r_tin (tgt := 428) ok dL_law_33 (by rw [hq8]; decide) (by rw [hq8]; decide) (by rw [hq8]; rfl) rfl ?_
          refine r_aload_n ok dL_law_428 1 rfl ?_
          refine r_aload_n ok dL_law_429 0 rfl ?_
          refine r_iload_n ok dL_law_430 3 rfl ?_
          refine r_iconst (v := 1) ok dL_law_431 rfl ?_
          refine r_iadd ok dL_law_432 ?_
          refine r_sld ok hx h.1 rfl dL_law_433 ?_
          replace h := h.2
          refine r_aload_n ok dL_law_434 0 rfl ?_
          refine r_iload_n ok dL_law_435 3 rfl ?_
          refine r_iconst (v := 2) ok dL_law_436 rfl ?_
          refine r_iadd ok dL_law_437 ?_
          refine r_sld ok hx h.1 rfl dL_law_438 ?_
          replace h := h.2
          refine cl_L_50 ok dL_law_439 (by decide) (Nat.le_of_ble_eq_true rfl) h (fun r45 S44 h => ?_)
          refine r_aload_n ok dL_law_442 2 rfl ?_
          refine r_aload_n ok dL_law_443 0 rfl ?_
          refine r_iload_n ok dL_law_444 3 rfl ?_
          refine r_iconst (v := 1) ok dL_law_445 rfl ?_
          refine r_iadd ok dL_law_446 ?_
          refine r_sld ok hx h.1 rfl dL_law_447 ?_
          replace h := h.2
          refine r_aload_n ok dL_law_448 0 rfl ?_
          refine r_iload_n ok dL_law_449 3 rfl ?_
          refine r_iconst (v := 2) ok dL_law_450 rfl ?_
          refine r_iadd ok dL_law_451 ?_
          refine r_sld ok hx h.1 rfl dL_law_452 ?_
          replace h := h.2
          refine cl_L_53 ok dL_law_453 (by decide) (Nat.le_of_ble_eq_true rfl) h (fun r47 S46 h => ?_)
          refine r_icmp_eq (tgt := 1238) ok dL_law_456 rfl (fun hc48 => ?_) (fun hc48 => ?_)
          · replace h := h.1 hc48
            refine r_iinc (v := x3 + 6) ok dL_law_1238 3 rfl rfl (by decide) [(0, .ref b), (1, .ref (xad X 44)), (2, .ref (xad X 71)), (3, .int (x3 + 6))] [1, 2, 3, 0] rfl ?_
            refine r_goto (tgt := 18) ok dL_law_1241 rfl ?_
            exact hk18 _ _ h
          · replace h := h.2 hc48
            refine r_iconst (v := 0) ok dL_law_459 rfl ?_
            exact hret _ _ _ _ dL_law_460 (Or.inl rfl) h
        · replace h := h.2.2.2.2.2.2.2.2.2.1 hq9
          refine r_tin (tgt := 461) ok dL_law_33 (by rw [hq9]; decide) (by rw [hq9]; decide) (by rw [hq9]; rfl) rfl ?_
          refine r_aload_n ok dL_law_461 1 rfl ?_
          refine r_aload_n ok dL_law_462 0 rfl ?_
          refine r_iload_n ok dL_law_463 3 rfl ?_
          refine r_iconst (v := 1) ok dL_law_464 rfl ?_
          refine r_iadd ok dL_law_465 ?_
          refine r_sld ok hx h.1 rfl dL_law_466 ?_
          replace h := h.2
          refine r_aload_n ok dL_law_467 0 rfl ?_
          refine r_iload_n ok dL_law_468 3 rfl ?_
          refine r_iconst (v := 2) ok dL_law_469 rfl ?_
          refine r_iadd ok dL_law_470 ?_
          refine r_sld ok hx h.1 rfl dL_law_471 ?_
          replace h := h.2
          refine cl_L_54 ok dL_law_472 (by decide) (Nat.le_of_ble_eq_true rfl) h (fun r50 S49 h => ?_)
          refine r_aload_n ok dL_law_475 2 rfl ?_
          refine r_aload_n ok dL_law_476 0 rfl ?_
          refine r_iload_n ok dL_law_477 3 rfl ?_
          refine r_iconst (v := 1) ok dL_law_478 rfl ?_
          refine r_iadd ok dL_law_479 ?_
          refine r_sld ok hx h.1 rfl dL_law_480 ?_
          replace h := h.2
          refine r_aload_n ok dL_law_481 0 rfl ?_
          refine r_iload_n ok dL_law_482 3 rfl ?_
          refine r_iconst (v := 2) ok dL_law_483 rfl ?_
          refine r_iadd ok dL_law_484 ?_
          refine r_sld ok hx h.1 rfl dL_law_485 ?_
          replace h := h.2
          refine cl_L_57 ok dL_law_486 (by decide) (Nat.le_of_ble_eq_true rfl) h (fun r52 S51 h => ?_)
          refine r_icmp_eq (tgt := 1238) ok dL_law_489 rfl (fun hc53 => ?_) (fun hc53 => ?_)
          · replace h := h.1 hc53
            refine r_iinc (v := x3 + 6) ok dL_law_1238 3 rfl rfl (by decide) [(0, .ref b), (1, .ref (xad X 44)), (2, .ref (xad X 71)), (3, .int (x3 + 6))] [1, 2, 3, 0] rfl ?_
            refine r_goto (tgt := 18) ok dL_law_1241 rfl ?_
            exact hk18 _ _ h
          · replace h := h.2 hc53
            refine r_iconst (v := 0) ok dL_law_492 rfl ?_
            exact hret _ _ _ _ dL_law_493 (Or.inl rfl) h
        · replace h := h.2.2.2.2.2.2.2.2.2.2.1 hq10
          refine r_tin (tgt := 494) ok dL_law_33 (by rw [hq10]; decide) (by rw [hq10]; decide) (by rw [hq10]; rfl) rfl ?_
          refine r_aload_n ok dL_law_494 1 rfl ?_
          refine r_aload_n ok dL_law_495 0 rfl ?_
          refine r_iload_n ok dL_law_496 3 rfl ?_
          refine r_iconst (v := 1) ok dL_law_497 rfl ?_
          refine r_iadd ok dL_law_498 ?_
          refine r_sld ok hx h.1 rfl dL_law_499 ?_
          replace h := h.2
          refine r_aload_n ok dL_law_500 0 rfl ?_
          refine r_iload_n ok dL_law_501 3 rfl ?_
          refine r_iconst (v := 2) ok dL_law_502 rfl ?_
          refine r_iadd ok dL_law_503 ?_
          refine r_sld ok hx h.1 rfl dL_law_504 ?_
          replace h := h.2
          refine r_if_eq (tgt := 512) ok dL_law_505 rfl (fun hc54 => ?_) (fun hc54 => ?_)
          · replace h := h.1 hc54
            refine r_iconst (v := 0) ok dL_law_512 rfl ?_
            exact w_B_L_law_513 ok hret hk18  hx h
          · replace h := h.2 hc54
            refine r_iconst (v := 1) ok dL_law_508 rfl ?_
            refine r_goto (tgt := 513) ok dL_law_509 rfl ?_
            exact w_B_L_law_513 ok hret hk18  hx h
        · replace h := h.2.2.2.2.2.2.2.2.2.2.2.1 hq11
          refine r_tin (tgt := 543) ok dL_law_33 (by rw [hq11]; decide) (by rw [hq11]; decide) (by rw [hq11]; rfl) rfl ?_
          refine r_aload_n ok dL_law_543 1 rfl ?_
          refine r_aload_n ok dL_law_544 0 rfl ?_
          refine r_iload_n ok dL_law_545 3 rfl ?_
          refine r_iconst (v := 1) ok dL_law_546 rfl ?_
          refine r_iadd ok dL_law_547 ?_
          refine r_sld ok hx h.1 rfl dL_law_548 ?_
          replace h := h.2
          refine r_aload_n ok dL_law_549 0 rfl ?_
          refine r_iload_n ok dL_law_550 3 rfl ?_
          refine r_iconst (v := 2) ok dL_law_551 rfl ?_
          refine r_iadd ok dL_law_552 ?_
          refine r_sld ok hx h.1 rfl dL_law_553 ?_
          replace h := h.2
          refine r_if_eq (tgt := 561) ok dL_law_554 rfl (fun hc55 => ?_) (fun hc55 => ?_)
          · replace h := h.1 hc55
            refine r_iconst (v := 0) ok dL_law_561 rfl ?_
            exact w_B_L_law_562 ok hret hk18  hx h
          · replace h := h.2 hc55
            refine r_iconst (v := 1) ok dL_law_557 rfl ?_
            refine r_goto (tgt := 562) ok dL_law_558 rfl ?_
            exact w_B_L_law_562 ok hret hk18  hx h
        · replace h := h.2.2.2.2.2.2.2.2.2.2.2.2.1 hq12
          refine r_tin (tgt := 592) ok dL_law_33 (by rw [hq12]; decide) (by rw [hq12]; decide) (by rw [hq12]; rfl) rfl ?_
          refine r_aload_n ok dL_law_592 1 rfl ?_
          refine r_aload_n ok dL_law_593 0 rfl ?_
          refine r_iload_n ok dL_law_594 3 rfl ?_
          refine r_iconst (v := 1) ok dL_law_595 rfl ?_
          refine r_iadd ok dL_law_596 ?_
          refine r_sld ok hx h.1 rfl dL_law_597 ?_
          replace h := h.2
          refine r_aload_n ok dL_law_598 0 rfl ?_
          refine r_iload_n ok dL_law_599 3 rfl ?_
          refine r_iconst (v := 2) ok dL_law_600 rfl ?_
          refine r_iadd ok dL_law_601 ?_
          refine r_sld ok hx h.1 rfl dL_law_602 ?_
          replace h := h.2
          refine cl_L_67 ok dL_law_603 (by decide) (Nat.le_of_ble_eq_true rfl) h (fun r57 S56 h => ?_)
          refine r_aload_n ok dL_law_606 2 rfl ?_
          refine r_aload_n ok dL_law_607 0 rfl ?_
          refine r_iload_n ok dL_law_608 3 rfl ?_
          refine r_iconst (v := 1) ok dL_law_609 rfl ?_
          refine r_iadd ok dL_law_610 ?_
          refine r_sld ok hx h.1 rfl dL_law_611 ?_
          replace h := h.2
          refine r_aload_n ok dL_law_612 0 rfl ?_
          refine r_iload_n ok dL_law_613 3 rfl ?_
          refine r_iconst (v := 2) ok dL_law_614 rfl ?_
          refine r_iadd ok dL_law_615 ?_
          refine r_sld ok hx h.1 rfl dL_law_616 ?_
          replace h := h.2
          refine cl_L_70 ok dL_law_617 (by decide) (Nat.le_of_ble_eq_true rfl) h (fun r59 S58 h => ?_)
          refine r_icmp_eq (tgt := 1238) ok dL_law_620 rfl (fun hc60 => ?_) (fun hc60 => ?_)
          · replace h := h.1 hc60
            refine r_iinc (v := x3 + 6) ok dL_law_1238 3 rfl rfl (by decide) [(0, .ref b), (1, .ref (xad X 44)), (2, .ref (xad X 71)), (3, .int (x3 + 6))] [1, 2, 3, 0] rfl ?_
            refine r_goto (tgt := 18) ok dL_law_1241 rfl ?_
            exact hk18 _ _ h
          · replace h := h.2 hc60
            refine r_iconst (v := 0) ok dL_law_623 rfl ?_
            exact hret _ _ _ _ dL_law_624 (Or.inl rfl) h
        · replace h := h.2.2.2.2.2.2.2.2.2.2.2.2.2.1 hq13
          refine r_tin (tgt := 625) ok dL_law_33 (by rw [hq13]; decide) (by rw [hq13]; decide) (by rw [hq13]; rfl) rfl ?_
          refine r_aload_n ok dL_law_625 1 rfl ?_
          refine r_aload_n ok dL_law_626 0 rfl ?_
          refine r_iload_n ok dL_law_627 3 rfl ?_
          refine r_iconst (v := 1) ok dL_law_628 rfl ?_
          refine r_iadd ok dL_law_629 ?_
          refine r_sld ok hx h.1 rfl dL_law_630 ?_
          replace h := h.2
          refine cl_L_71 ok dL_law_631 (by decide) (Nat.le_of_ble_eq_true rfl) h (fun r62 S61 h => ?_)
          refine r_aload_n ok dL_law_634 2 rfl ?_
          refine r_aload_n ok dL_law_635 0 rfl ?_
          refine r_iload_n ok dL_law_636 3 rfl ?_
          refine r_iconst (v := 1) ok dL_law_637 rfl ?_
          refine r_iadd ok dL_law_638 ?_
          refine r_sld ok hx h.1 rfl dL_law_639 ?_
          replace h := h.2
          refine cl_L_74 ok dL_law_640 (by decide) (Nat.le_of_ble_eq_true rfl) h (fun r64 S63 h => ?_)
          refine r_icmp_eq (tgt := 1238) ok dL_law_643 rfl (fun hc65 => ?_) (fun hc65 => ?_)
          · replace h := h.1 hc65
            refine r_iinc (v := x3 + 6) ok dL_law_1238 3 rfl rfl (by decide) [(0, .ref b), (1, .ref (xad X 44)), (2, .ref (xad X 71)), (3, .int (x3 + 6))] [1, 2, 3, 0] rfl ?_
            refine r_goto (tgt := 18) ok dL_law_1241 rfl ?_
            exact hk18 _ _ h
          · replace h := h.2 hc65
            refine r_iconst (v := 0) ok dL_law_646 rfl ?_
            exact hret _ _ _ _ dL_law_647 (Or.inl rfl) h
        · replace h := h.2.2.2.2.2.2.2.2.2.2.2.2.2.2.1 hq14
          refine r_tin (tgt := 648) ok dL_law_33 (by rw [hq14]; decide) (by rw [hq14]; decide) (by rw [hq14]; rfl) rfl ?_
          refine r_aload_n ok dL_law_648 1 rfl ?_
          refine r_aload_n ok dL_law_649 0 rfl ?_
          refine r_iload_n ok dL_law_650 3 rfl ?_
          refine r_iconst (v := 1) ok dL_law_651 rfl ?_
          refine r_iadd ok dL_law_652 ?_
          refine r_sld ok hx h.1 rfl dL_law_653 ?_
          replace h := h.2
          refine r_aload_n ok dL_law_654 0 rfl ?_
          refine r_iload_n ok dL_law_655 3 rfl ?_
          refine r_iconst (v := 2) ok dL_law_656 rfl ?_
          refine r_iadd ok dL_law_657 ?_
          refine r_sld ok hx h.1 rfl dL_law_658 ?_
          replace h := h.2
          refine cl_L_75 ok dL_law_659 (by decide) (Nat.le_of_ble_eq_true rfl) h (fun r67 S66 h => ?_)
          refine r_aload_n ok dL_law_662 2 rfl ?_
          refine r_aload_n ok dL_law_663 0 rfl ?_
          refine r_iload_n ok dL_law_664 3 rfl ?_
          refine r_iconst (v := 1) ok dL_law_665 rfl ?_
          refine r_iadd ok dL_law_666 ?_
          refine r_sld ok hx h.1 rfl dL_law_667 ?_
          replace h := h.2
          refine r_aload_n ok dL_law_668 0 rfl ?_
          refine r_iload_n ok dL_law_669 3 rfl ?_
          refine r_iconst (v := 2) ok dL_law_670 rfl ?_
          refine r_iadd ok dL_law_671 ?_
          refine r_sld ok hx h.1 rfl dL_law_672 ?_
          replace h := h.2
          refine cl_L_78 ok dL_law_673 (by decide) (Nat.le_of_ble_eq_true rfl) h (fun r69 S68 h => ?_)
          refine r_icmp_eq (tgt := 1238) ok dL_law_676 rfl (fun hc70 => ?_) (fun hc70 => ?_)
          · replace h := h.1 hc70
            refine r_iinc (v := x3 + 6) ok dL_law_1238 3 rfl rfl (by decide) [(0, .ref b), (1, .ref (xad X 44)), (2, .ref (xad X 71)), (3, .int (x3 + 6))] [1, 2, 3, 0] rfl ?_
            refine r_goto (tgt := 18) ok dL_law_1241 rfl ?_
            exact hk18 _ _ h
          · replace h := h.2 hc70
            refine r_iconst (v := 0) ok dL_law_679 rfl ?_
            exact hret _ _ _ _ dL_law_680 (Or.inl rfl) h
        · replace h := h.2.2.2.2.2.2.2.2.2.2.2.2.2.2.2.1 hq15
          refine r_tin (tgt := 681) ok dL_law_33 (by rw [hq15]; decide) (by rw [hq15]; decide) (by rw [hq15]; rfl) rfl ?_
          refine r_aload_n ok dL_law_681 1 rfl ?_
          refine r_aload_n ok dL_law_682 0 rfl ?_
          refine r_iload_n ok dL_law_683 3 rfl ?_
          refine r_iconst (v := 1) ok dL_law_684 rfl ?_
          refine r_iadd ok dL_law_685 ?_
          refine r_sld ok hx h.1 rfl dL_law_686 ?_
          replace h := h.2
          refine r_aload_n ok dL_law_687 0 rfl ?_
          refine r_iload_n ok dL_law_688 3 rfl ?_
          refine r_iconst (v := 2) ok dL_law_689 rfl ?_
          refine r_iadd ok dL_law_690 ?_
          refine r_sld ok hx h.1 rfl dL_law_691 ?_
          replace h := h.2
          refine cl_L_79 ok dL_law_692 (by decide) (Nat.le_of_ble_eq_true rfl) h (fun r72 S71 h => ?_)
          refine r_aload_n ok dL_law_695 2 rfl ?_
          refine r_aload_n ok dL_law_696 0 rfl ?_
          refine r_iload_n ok dL_law_697 3 rfl ?_
          refine r_iconst (v := 1) ok dL_law_698 rfl ?_
          refine r_iadd ok dL_law_699 ?_
          refine r_sld ok hx h.1 rfl dL_law_700 ?_
          replace h := h.2
          refine r_aload_n ok dL_law_701 0 rfl ?_
          refine r_iload_n ok dL_law_702 3 rfl ?_
          refine r_iconst (v := 2) ok dL_law_703 rfl ?_
          refine r_iadd ok dL_law_704 ?_
          refine r_sld ok hx h.1 rfl dL_law_705 ?_
          replace h := h.2
          refine cl_L_82 ok dL_law_706 (by decide) (Nat.le_of_ble_eq_true rfl) h (fun r74 S73 h => ?_)
          refine r_icmp_eq (tgt := 1238) ok dL_law_709 rfl (fun hc75 => ?_) (fun hc75 => ?_)
          · replace h := h.1 hc75
            refine r_iinc (v := x3 + 6) ok dL_law_1238 3 rfl rfl (by decide) [(0, .ref b), (1, .ref (xad X 44)), (2, .ref (xad X 71)), (3, .int (x3 + 6))] [1, 2, 3, 0] rfl ?_
            refine r_goto (tgt := 18) ok dL_law_1241 rfl ?_
            exact hk18 _ _ h
          · replace h := h.2 hc75
            refine r_iconst (v := 0) ok dL_law_712 rfl ?_
            exact hret _ _ _ _ dL_law_713 (Or.inl rfl) h
        · replace h := h.2.2.2.2.2.2.2.2.2.2.2.2.2.2.2.2.1 hq16
          refine r_tin (tgt := 714) ok dL_law_33 (by rw [hq16]; decide) (by rw [hq16]; decide) (by rw [hq16]; rfl) rfl ?_
          refine r_aload_n ok dL_law_714 1 rfl ?_
          refine r_aload_n ok dL_law_715 0 rfl ?_
          refine r_iload_n ok dL_law_716 3 rfl ?_
          refine r_iconst (v := 1) ok dL_law_717 rfl ?_
          refine r_iadd ok dL_law_718 ?_
          refine r_sld ok hx h.1 rfl dL_law_719 ?_
          replace h := h.2
          refine cl_L_83 ok dL_law_720 (by decide) (Nat.le_of_ble_eq_true rfl) h (fun r77 S76 h => ?_)
          refine r_aload_n ok dL_law_723 2 rfl ?_
          refine r_aload_n ok dL_law_724 0 rfl ?_
          refine r_iload_n ok dL_law_725 3 rfl ?_
          refine r_iconst (v := 1) ok dL_law_726 rfl ?_
          refine r_iadd ok dL_law_727 ?_
          refine r_sld ok hx h.1 rfl dL_law_728 ?_
          replace h := h.2
          refine cl_L_86 ok dL_law_729 (by decide) (Nat.le_of_ble_eq_true rfl) h (fun r79 S78 h => ?_)
          refine r_icmp_eq (tgt := 1238) ok dL_law_732 rfl (fun hc80 => ?_) (fun hc80 => ?_)
          · replace h := h.1 hc80
            refine r_iinc (v := x3 + 6) ok dL_law_1238 3 rfl rfl (by decide) [(0, .ref b), (1, .ref (xad X 44)), (2, .ref (xad X 71)), (3, .int (x3 + 6))] [1, 2, 3, 0] rfl ?_
            refine r_goto (tgt := 18) ok dL_law_1241 rfl ?_
            exact hk18 _ _ h
          · replace h := h.2 hc80
            refine r_iconst (v := 0) ok dL_law_735 rfl ?_
            exact hret _ _ _ _ dL_law_736 (Or.inl rfl) h
        · replace h := h.2.2.2.2.2.2.2.2.2.2.2.2.2.2.2.2.2.1 hq17
          refine r_tin (tgt := 737) ok dL_law_33 (by rw [hq17]; decide) (by rw [hq17]; decide) (by rw [hq17]; rfl) rfl ?_
          refine r_aload_n ok dL_law_737 1 rfl ?_
          refine r_aload_n ok dL_law_738 0 rfl ?_
          refine r_iload_n ok dL_law_739 3 rfl ?_
          refine r_iconst (v := 1) ok dL_law_740 rfl ?_
          refine r_iadd ok dL_law_741 ?_
          refine r_sld ok hx h.1 rfl dL_law_742 ?_
          replace h := h.2
          refine cl_L_87 ok dL_law_743 (by decide) (Nat.le_of_ble_eq_true rfl) h (fun r82 S81 h => ?_)
          refine r_aload_n ok dL_law_746 2 rfl ?_
          refine r_aload_n ok dL_law_747 0 rfl ?_
          refine r_iload_n ok dL_law_748 3 rfl ?_
          refine r_iconst (v := 1) ok dL_law_749 rfl ?_
          refine r_iadd ok dL_law_750 ?_
          refine r_sld ok hx h.1 rfl dL_law_751 ?_
          replace h := h.2
          refine cl_L_90 ok dL_law_752 (by decide) (Nat.le_of_ble_eq_true rfl) h (fun r84 S83 h => ?_)
          refine r_icmp_eq (tgt := 1238) ok dL_law_755 rfl (fun hc85 => ?_) (fun hc85 => ?_)
          · replace h := h.1 hc85
            refine r_iinc (v := x3 + 6) ok dL_law_1238 3 rfl rfl (by decide) [(0, .ref b), (1, .ref (xad X 44)), (2, .ref (xad X 71)), (3, .int (x3 + 6))] [1, 2, 3, 0] rfl ?_
            refine r_goto (tgt := 18) ok dL_law_1241 rfl ?_
            exact hk18 _ _ h
          · replace h := h.2 hc85
            refine r_iconst (v := 0) ok dL_law_758 rfl ?_
            exact hret _ _ _ _ dL_law_759 (Or.inl rfl) h
        · replace h := h.2.2.2.2.2.2.2.2.2.2.2.2.2.2.2.2.2.2.1 hq18
          refine r_tin (tgt := 760) ok dL_law_33 (by rw [hq18]; decide) (by rw [hq18]; decide) (by rw [hq18]; rfl) rfl ?_
          refine r_aload_n ok dL_law_760 1 rfl ?_
          refine r_aload_n ok dL_law_761 0 rfl ?_
          refine r_iload_n ok dL_law_762 3 rfl ?_
          refine r_iconst (v := 1) ok dL_law_763 rfl ?_
          refine r_iadd ok dL_law_764 ?_
          refine r_sld ok hx h.1 rfl dL_law_765 ?_
          replace h := h.2
          refine r_aload_n ok dL_law_766 0 rfl ?_
          refine r_iload_n ok dL_law_767 3 rfl ?_
          refine r_iconst (v := 2) ok dL_law_768 rfl ?_
          refine r_iadd ok dL_law_769 ?_
          refine r_sld ok hx h.1 rfl dL_law_770 ?_
          replace h := h.2
          refine r_aload_n ok dL_law_771 0 rfl ?_
          refine r_iload_n ok dL_law_772 3 rfl ?_
          refine r_iconst (v := 3) ok dL_law_773 rfl ?_
          refine r_iadd ok dL_law_774 ?_
          refine r_sld ok hx h.1 rfl dL_law_775 ?_
          replace h := h.2
          refine cl_L_91 ok dL_law_776 (by decide) (Nat.le_of_ble_eq_true rfl) h (fun r87 S86 h => ?_)
          refine r_aload_n ok dL_law_779 2 rfl ?_
          refine r_aload_n ok dL_law_780 0 rfl ?_
          refine r_iload_n ok dL_law_781 3 rfl ?_
          refine r_iconst (v := 1) ok dL_law_782 rfl ?_
          refine r_iadd ok dL_law_783 ?_
          refine r_sld ok hx h.1 rfl dL_law_784 ?_
          replace h := h.2
          refine r_aload_n ok dL_law_785 0 rfl ?_
          refine r_iload_n ok dL_law_786 3 rfl ?_
          refine r_iconst (v := 2) ok dL_law_787 rfl ?_
          refine r_iadd ok dL_law_788 ?_
          refine r_sld ok hx h.1 rfl dL_law_789 ?_
          replace h := h.2
          refine r_aload_n ok dL_law_790 0 rfl ?_
          refine r_iload_n ok dL_law_791 3 rfl ?_
          refine r_iconst (v := 3) ok dL_law_792 rfl ?_
          refine r_iadd ok dL_law_793 ?_
          refine r_sld ok hx h.1 rfl dL_law_794 ?_
          replace h := h.2
          refine cl_L_94 ok dL_law_795 (by decide) (Nat.le_of_ble_eq_true rfl) h (fun r89 S88 h => ?_)
          refine r_icmp_eq (tgt := 1238) ok dL_law_798 rfl (fun hc90 => ?_) (fun hc90 => ?_)
          · replace h := h.1 hc90
            refine r_iinc (v := x3 + 6) ok dL_law_1238 3 rfl rfl (by decide) [(0, .ref b), (1, .ref (xad X 44)), (2, .ref (xad X 71)), (3, .int (x3 + 6))] [1, 2, 3, 0] rfl ?_
            refine r_goto (tgt := 18) ok dL_law_1241 rfl ?_
            exact hk18 _ _ h
          · replace h := h.2 hc90
            refine r_iconst (v := 0) ok dL_law_801 rfl ?_
            exact hret _ _ _ _ dL_law_802 (Or.inl rfl) h
        · replace h := h.2.2.2.2.2.2.2.2.2.2.2.2.2.2.2.2.2.2.2.1 hq19
          refine r_tin (tgt := 803) ok dL_law_33 (by rw [hq19]; decide) (by rw [hq19]; decide) (by rw [hq19]; rfl) rfl ?_
          refine r_aload_n ok dL_law_803 1 rfl ?_
          refine r_aload_n ok dL_law_804 0 rfl ?_
          refine r_iload_n ok dL_law_805 3 rfl ?_
          refine r_iconst (v := 1) ok dL_law_806 rfl ?_
          refine r_iadd ok dL_law_807 ?_
          refine r_sld ok hx h.1 rfl dL_law_808 ?_
          replace h := h.2
          refine r_aload_n ok dL_law_809 0 rfl ?_
          refine r_iload_n ok dL_law_810 3 rfl ?_
          refine r_iconst (v := 2) ok dL_law_811 rfl ?_
          refine r_iadd ok dL_law_812 ?_
          refine r_sld ok hx h.1 rfl dL_law_813 ?_
          replace h := h.2
          refine r_aload_n ok dL_law_814 0 rfl ?_
          refine r_iload_n ok dL_law_815 3 rfl ?_
          refine r_iconst (v := 3) ok dL_law_816 rfl ?_
          refine r_iadd ok dL_law_817 ?_
          refine r_sld ok hx h.1 rfl dL_law_818 ?_
          replace h := h.2
          refine cl_L_95 ok dL_law_819 (by decide) (Nat.le_of_ble_eq_true rfl) h (fun r92 S91 h => ?_)
          refine r_aload_n ok dL_law_822 2 rfl ?_
          refine r_aload_n ok dL_law_823 0 rfl ?_
          refine r_iload_n ok dL_law_824 3 rfl ?_
          refine r_iconst (v := 1) ok dL_law_825 rfl ?_
          refine r_iadd ok dL_law_826 ?_
          refine r_sld ok hx h.1 rfl dL_law_827 ?_
          replace h := h.2
          refine r_aload_n ok dL_law_828 0 rfl ?_
          refine r_iload_n ok dL_law_829 3 rfl ?_
          refine r_iconst (v := 2) ok dL_law_830 rfl ?_
          refine r_iadd ok dL_law_831 ?_
          refine r_sld ok hx h.1 rfl dL_law_832 ?_
          replace h := h.2
          refine r_aload_n ok dL_law_833 0 rfl ?_
          refine r_iload_n ok dL_law_834 3 rfl ?_
          refine r_iconst (v := 3) ok dL_law_835 rfl ?_
          refine r_iadd ok dL_law_836 ?_
          refine r_sld ok hx h.1 rfl dL_law_837 ?_
          replace h := h.2
          refine cl_L_98 ok dL_law_838 (by decide) (Nat.le_of_ble_eq_true rfl) h (fun r94 S93 h => ?_)
          refine r_icmp_eq (tgt := 1238) ok dL_law_841 rfl (fun hc95 => ?_) (fun hc95 => ?_)
          · replace h := h.1 hc95
            refine r_iinc (v := x3 + 6) ok dL_law_1238 3 rfl rfl (by decide) [(0, .ref b), (1, .ref (xad X 44)), (2, .ref (xad X 71)), (3, .int (x3 + 6))] [1, 2, 3, 0] rfl ?_
            refine r_goto (tgt := 18) ok dL_law_1241 rfl ?_
            exact hk18 _ _ h
          · replace h := h.2 hc95
            refine r_iconst (v := 0) ok dL_law_844 rfl ?_
            exact hret _ _ _ _ dL_law_845 (Or.inl rfl) h
        · replace h := h.2.2.2.2.2.2.2.2.2.2.2.2.2.2.2.2.2.2.2.2.1 hq20
          refine r_tin (tgt := 846) ok dL_law_33 (by rw [hq20]; decide) (by rw [hq20]; decide) (by rw [hq20]; rfl) rfl ?_
          refine r_aload_n ok dL_law_846 1 rfl ?_
          refine r_aload_n ok dL_law_847 0 rfl ?_
          refine r_iload_n ok dL_law_848 3 rfl ?_
          refine r_iconst (v := 1) ok dL_law_849 rfl ?_
          refine r_iadd ok dL_law_850 ?_
          refine r_sld ok hx h.1 rfl dL_law_851 ?_
          replace h := h.2
          refine cl_L_99 ok dL_law_852 (by decide) (Nat.le_of_ble_eq_true rfl) h (fun r97 S96 h => ?_)
          refine r_aload_n ok dL_law_855 2 rfl ?_
          refine r_aload_n ok dL_law_856 0 rfl ?_
          refine r_iload_n ok dL_law_857 3 rfl ?_
          refine r_iconst (v := 1) ok dL_law_858 rfl ?_
          refine r_iadd ok dL_law_859 ?_
          refine r_sld ok hx h.1 rfl dL_law_860 ?_
          replace h := h.2
          refine cl_L_102 ok dL_law_861 (by decide) (Nat.le_of_ble_eq_true rfl) h (fun r99 S98 h => ?_)
          refine r_icmp_eq (tgt := 1238) ok dL_law_864 rfl (fun hc100 => ?_) (fun hc100 => ?_)
          · replace h := h.1 hc100
            refine r_iinc (v := x3 + 6) ok dL_law_1238 3 rfl rfl (by decide) [(0, .ref b), (1, .ref (xad X 44)), (2, .ref (xad X 71)), (3, .int (x3 + 6))] [1, 2, 3, 0] rfl ?_
            refine r_goto (tgt := 18) ok dL_law_1241 rfl ?_
            exact hk18 _ _ h
          · replace h := h.2 hc100
            refine r_iconst (v := 0) ok dL_law_867 rfl ?_
            exact hret _ _ _ _ dL_law_868 (Or.inl rfl) h
        · replace h := h.2.2.2.2.2.2.2.2.2.2.2.2.2.2.2.2.2.2.2.2.2.1 hq21
          refine r_tin (tgt := 869) ok dL_law_33 (by rw [hq21]; decide) (by rw [hq21]; decide) (by rw [hq21]; rfl) rfl ?_
          refine r_aload_n ok dL_law_869 1 rfl ?_
          refine r_aload_n ok dL_law_870 0 rfl ?_
          refine r_iload_n ok dL_law_871 3 rfl ?_
          refine r_iconst (v := 1) ok dL_law_872 rfl ?_
          refine r_iadd ok dL_law_873 ?_
          refine r_sld ok hx h.1 rfl dL_law_874 ?_
          replace h := h.2
          refine cl_L_103 ok dL_law_875 (by decide) (Nat.le_of_ble_eq_true rfl) h (fun r102 S101 h => ?_)
          refine r_aload_n ok dL_law_878 2 rfl ?_
          refine r_aload_n ok dL_law_879 0 rfl ?_
          refine r_iload_n ok dL_law_880 3 rfl ?_
          refine r_iconst (v := 1) ok dL_law_881 rfl ?_
          refine r_iadd ok dL_law_882 ?_
          refine r_sld ok hx h.1 rfl dL_law_883 ?_
          replace h := h.2
          refine cl_L_106 ok dL_law_884 (by decide) (Nat.le_of_ble_eq_true rfl) h (fun r104 S103 h => ?_)
          refine r_icmp_eq (tgt := 1238) ok dL_law_887 rfl (fun hc105 => ?_) (fun hc105 => ?_)
          · replace h := h.1 hc105
            refine r_iinc (v := x3 + 6) ok dL_law_1238 3 rfl rfl (by decide) [(0, .ref b), (1, .ref (xad X 44)), (2, .ref (xad X 71)), (3, .int (x3 + 6))] [1, 2, 3, 0] rfl ?_
            refine r_goto (tgt := 18) ok dL_law_1241 rfl ?_
            exact hk18 _ _ h
          · replace h := h.2 hc105
            refine r_iconst (v := 0) ok dL_law_890 rfl ?_
            exact hret _ _ _ _ dL_law_891 (Or.inl rfl) h
        · replace h := h.2.2.2.2.2.2.2.2.2.2.2.2.2.2.2.2.2.2.2.2.2.2.1 hq22
          refine r_tin (tgt := 892) ok dL_law_33 (by rw [hq22]; decide) (by rw [hq22]; decide) (by rw [hq22]; rfl) rfl ?_
          refine r_aload_n ok dL_law_892 1 rfl ?_
          refine r_aload_n ok dL_law_893 0 rfl ?_
          refine r_iload_n ok dL_law_894 3 rfl ?_
          refine r_iconst (v := 1) ok dL_law_895 rfl ?_
          refine r_iadd ok dL_law_896 ?_
          refine r_sld ok hx h.1 rfl dL_law_897 ?_
          replace h := h.2
          refine r_aload_n ok dL_law_898 0 rfl ?_
          refine r_iload_n ok dL_law_899 3 rfl ?_
          refine r_iconst (v := 2) ok dL_law_900 rfl ?_
          refine r_iadd ok dL_law_901 ?_
          refine r_sld ok hx h.1 rfl dL_law_902 ?_
          replace h := h.2
          refine r_aload_n ok dL_law_903 0 rfl ?_
          refine r_iload_n ok dL_law_904 3 rfl ?_
          refine r_iconst (v := 3) ok dL_law_905 rfl ?_
          refine r_iadd ok dL_law_906 ?_
          refine r_sld ok hx h.1 rfl dL_law_907 ?_
          replace h := h.2
          refine cl_L_107 ok dL_law_908 (by decide) (Nat.le_of_ble_eq_true rfl) h (fun r107 S106 h => ?_)
          refine r_aload_n ok dL_law_911 2 rfl ?_
          refine r_aload_n ok dL_law_912 0 rfl ?_
          refine r_iload_n ok dL_law_913 3 rfl ?_
          refine r_iconst (v := 1) ok dL_law_914 rfl ?_
          refine r_iadd ok dL_law_915 ?_
          refine r_sld ok hx h.1 rfl dL_law_916 ?_
          replace h := h.2
          refine r_aload_n ok dL_law_917 0 rfl ?_
          refine r_iload_n ok dL_law_918 3 rfl ?_
          refine r_iconst (v := 2) ok dL_law_919 rfl ?_
          refine r_iadd ok dL_law_920 ?_
          refine r_sld ok hx h.1 rfl dL_law_921 ?_
          replace h := h.2
          refine r_aload_n ok dL_law_922 0 rfl ?_
          refine r_iload_n ok dL_law_923 3 rfl ?_
          refine r_iconst (v := 3) ok dL_law_924 rfl ?_
          refine r_iadd ok dL_law_925 ?_
          refine r_sld ok hx h.1 rfl dL_law_926 ?_
          replace h := h.2
          refine cl_L_110 ok dL_law_927 (by decide) (Nat.le_of_ble_eq_true rfl) h (fun r109 S108 h => ?_)
          refine r_icmp_eq (tgt := 1238) ok dL_law_930 rfl (fun hc110 => ?_) (fun hc110 => ?_)
          · replace h := h.1 hc110
            refine r_iinc (v := x3 + 6) ok dL_law_1238 3 rfl rfl (by decide) [(0, .ref b), (1, .ref (xad X 44)), (2, .ref (xad X 71)), (3, .int (x3 + 6))] [1, 2, 3, 0] rfl ?_
            refine r_goto (tgt := 18) ok dL_law_1241 rfl ?_
            exact hk18 _ _ h
          · replace h := h.2 hc110
            refine r_iconst (v := 0) ok dL_law_933 rfl ?_
            exact hret _ _ _ _ dL_law_934 (Or.inl rfl) h
        · replace h := h.2.2.2.2.2.2.2.2.2.2.2.2.2.2.2.2.2.2.2.2.2.2.2.1 hq23
          refine r_tin (tgt := 935) ok dL_law_33 (by rw [hq23]; decide) (by rw [hq23]; decide) (by rw [hq23]; rfl) rfl ?_
          refine r_aload_n ok dL_law_935 1 rfl ?_
          refine r_aload_n ok dL_law_936 0 rfl ?_
          refine r_iload_n ok dL_law_937 3 rfl ?_
          refine r_iconst (v := 1) ok dL_law_938 rfl ?_
          refine r_iadd ok dL_law_939 ?_
          refine r_sld ok hx h.1 rfl dL_law_940 ?_
          replace h := h.2
          refine r_aload_n ok dL_law_941 0 rfl ?_
          refine r_iload_n ok dL_law_942 3 rfl ?_
          refine r_iconst (v := 2) ok dL_law_943 rfl ?_
          refine r_iadd ok dL_law_944 ?_
          refine r_sld ok hx h.1 rfl dL_law_945 ?_
          replace h := h.2
          refine cl_L_111 ok dL_law_946 (by decide) (Nat.le_of_ble_eq_true rfl) h (fun r112 S111 h => ?_)
          refine r_aload_n ok dL_law_949 2 rfl ?_
          refine r_aload_n ok dL_law_950 0 rfl ?_
          refine r_iload_n ok dL_law_951 3 rfl ?_
          refine r_iconst (v := 1) ok dL_law_952 rfl ?_
          refine r_iadd ok dL_law_953 ?_
          refine r_sld ok hx h.1 rfl dL_law_954 ?_
          replace h := h.2
          refine r_aload_n ok dL_law_955 0 rfl ?_
          refine r_iload_n ok dL_law_956 3 rfl ?_
          refine r_iconst (v := 2) ok dL_law_957 rfl ?_
          refine r_iadd ok dL_law_958 ?_
          refine r_sld ok hx h.1 rfl dL_law_959 ?_
          replace h := h.2
          refine cl_L_114 ok dL_law_960 (by decide) (Nat.le_of_ble_eq_true rfl) h (fun r114 S113 h => ?_)
          refine r_icmp_eq (tgt := 1238) ok dL_law_963 rfl (fun hc115 => ?_) (fun hc115 => ?_)
          · replace h := h.1 hc115
            refine r_iinc (v := x3 + 6) ok dL_law_1238 3 rfl rfl (by decide) [(0, .ref b), (1, .ref (xad X 44)), (2, .ref (xad X 71)), (3, .int (x3 + 6))] [1, 2, 3, 0] rfl ?_
            refine r_goto (tgt := 18) ok dL_law_1241 rfl ?_
            exact hk18 _ _ h
          · replace h := h.2 hc115
            refine r_iconst (v := 0) ok dL_law_966 rfl ?_
            exact hret _ _ _ _ dL_law_967 (Or.inl rfl) h
        · replace h := h.2.2.2.2.2.2.2.2.2.2.2.2.2.2.2.2.2.2.2.2.2.2.2.2.1 hq24
          refine r_tin (tgt := 968) ok dL_law_33 (by rw [hq24]; decide) (by rw [hq24]; decide) (by rw [hq24]; rfl) rfl ?_
          refine r_aload_n ok dL_law_968 1 rfl ?_
          refine r_aload_n ok dL_law_969 0 rfl ?_
          refine r_iload_n ok dL_law_970 3 rfl ?_
          refine r_iconst (v := 1) ok dL_law_971 rfl ?_
          refine r_iadd ok dL_law_972 ?_
          refine r_sld ok hx h.1 rfl dL_law_973 ?_
          replace h := h.2
          refine r_aload_n ok dL_law_974 0 rfl ?_
          refine r_iload_n ok dL_law_975 3 rfl ?_
          refine r_iconst (v := 2) ok dL_law_976 rfl ?_
          refine r_iadd ok dL_law_977 ?_
          refine r_sld ok hx h.1 rfl dL_law_978 ?_
          replace h := h.2
          refine cl_L_115 ok dL_law_979 (by decide) (Nat.le_of_ble_eq_true rfl) h (fun r117 S116 h => ?_)
          refine r_aload_n ok dL_law_982 2 rfl ?_
          refine r_aload_n ok dL_law_983 0 rfl ?_
          refine r_iload_n ok dL_law_984 3 rfl ?_
          refine r_iconst (v := 1) ok dL_law_985 rfl ?_
          refine r_iadd ok dL_law_986 ?_
          refine r_sld ok hx h.1 rfl dL_law_987 ?_
          replace h := h.2
          refine r_aload_n ok dL_law_988 0 rfl ?_
          refine r_iload_n ok dL_law_989 3 rfl ?_
          refine r_iconst (v := 2) ok dL_law_990 rfl ?_
          refine r_iadd ok dL_law_991 ?_
          refine r_sld ok hx h.1 rfl dL_law_992 ?_
          replace h := h.2
          refine cl_L_118 ok dL_law_993 (by decide) (Nat.le_of_ble_eq_true rfl) h (fun r119 S118 h => ?_)
          refine r_icmp_eq (tgt := 1238) ok dL_law_996 rfl (fun hc120 => ?_) (fun hc120 => ?_)
          · replace h := h.1 hc120
            refine r_iinc (v := x3 + 6) ok dL_law_1238 3 rfl rfl (by decide) [(0, .ref b), (1, .ref (xad X 44)), (2, .ref (xad X 71)), (3, .int (x3 + 6))] [1, 2, 3, 0] rfl ?_
            refine r_goto (tgt := 18) ok dL_law_1241 rfl ?_
            exact hk18 _ _ h
          · replace h := h.2 hc120
            refine r_iconst (v := 0) ok dL_law_999 rfl ?_
            exact hret _ _ _ _ dL_law_1000 (Or.inl rfl) h
        · replace h := h.2.2.2.2.2.2.2.2.2.2.2.2.2.2.2.2.2.2.2.2.2.2.2.2.2.1 hq25
          refine r_tin (tgt := 1001) ok dL_law_33 (by rw [hq25]; decide) (by rw [hq25]; decide) (by rw [hq25]; rfl) rfl ?_
          refine r_aload_n ok dL_law_1001 1 rfl ?_
          refine r_aload_n ok dL_law_1002 0 rfl ?_
          refine r_iload_n ok dL_law_1003 3 rfl ?_
          refine r_iconst (v := 1) ok dL_law_1004 rfl ?_
          refine r_iadd ok dL_law_1005 ?_
          refine r_sld ok hx h.1 rfl dL_law_1006 ?_
          replace h := h.2
          refine r_aload_n ok dL_law_1007 0 rfl ?_
          refine r_iload_n ok dL_law_1008 3 rfl ?_
          refine r_iconst (v := 2) ok dL_law_1009 rfl ?_
          refine r_iadd ok dL_law_1010 ?_
          refine r_sld ok hx h.1 rfl dL_law_1011 ?_
          replace h := h.2
          refine r_aload_n ok dL_law_1012 0 rfl ?_
          refine r_iload_n ok dL_law_1013 3 rfl ?_
          refine r_iconst (v := 3) ok dL_law_1014 rfl ?_
          refine r_iadd ok dL_law_1015 ?_
          refine r_sld ok hx h.1 rfl dL_law_1016 ?_
          replace h := h.2
          refine r_aload_n ok dL_law_1017 0 rfl ?_
          refine r_iload_n ok dL_law_1018 3 rfl ?_
          refine r_iconst (v := 4) ok dL_law_1019 rfl ?_
          refine r_iadd ok dL_law_1020 ?_
          refine r_sld ok hx h.1 rfl dL_law_1021 ?_
          replace h := h.2
          refine r_aload_n ok dL_law_1022 0 rfl ?_
          refine r_iload_n ok dL_law_1023 3 rfl ?_
          refine r_iconst (v := 5) ok dL_law_1024 rfl ?_
          refine r_iadd ok dL_law_1025 ?_
          refine r_sld ok hx h.1 rfl dL_law_1026 ?_
          replace h := h.2
          refine cl_L_119 ok dL_law_1027 (by decide) (Nat.le_of_ble_eq_true rfl) h (fun r122 S121 h => ?_)
          refine r_aload_n ok dL_law_1030 2 rfl ?_
          refine r_aload_n ok dL_law_1031 0 rfl ?_
          refine r_iload_n ok dL_law_1032 3 rfl ?_
          refine r_iconst (v := 1) ok dL_law_1033 rfl ?_
          refine r_iadd ok dL_law_1034 ?_
          refine r_sld ok hx h.1 rfl dL_law_1035 ?_
          replace h := h.2
          refine r_aload_n ok dL_law_1036 0 rfl ?_
          refine r_iload_n ok dL_law_1037 3 rfl ?_
          refine r_iconst (v := 2) ok dL_law_1038 rfl ?_
          refine r_iadd ok dL_law_1039 ?_
          refine r_sld ok hx h.1 rfl dL_law_1040 ?_
          replace h := h.2
          refine r_aload_n ok dL_law_1041 0 rfl ?_
          refine r_iload_n ok dL_law_1042 3 rfl ?_
          refine r_iconst (v := 3) ok dL_law_1043 rfl ?_
          refine r_iadd ok dL_law_1044 ?_
          refine r_sld ok hx h.1 rfl dL_law_1045 ?_
          replace h := h.2
          refine r_aload_n ok dL_law_1046 0 rfl ?_
          refine r_iload_n ok dL_law_1047 3 rfl ?_
          refine r_iconst (v := 4) ok dL_law_1048 rfl ?_
          refine r_iadd ok dL_law_1049 ?_
          refine r_sld ok hx h.1 rfl dL_law_1050 ?_
          replace h := h.2
          refine r_aload_n ok dL_law_1051 0 rfl ?_
          refine r_iload_n ok dL_law_1052 3 rfl ?_
          refine r_iconst (v := 5) ok dL_law_1053 rfl ?_
          refine r_iadd ok dL_law_1054 ?_
          refine r_sld ok hx h.1 rfl dL_law_1055 ?_
          replace h := h.2
          refine cl_L_122 ok dL_law_1056 (by decide) (Nat.le_of_ble_eq_true rfl) h (fun r124 S123 h => ?_)
          refine r_icmp_eq (tgt := 1238) ok dL_law_1059 rfl (fun hc125 => ?_) (fun hc125 => ?_)
          · replace h := h.1 hc125
            refine r_iinc (v := x3 + 6) ok dL_law_1238 3 rfl rfl (by decide) [(0, .ref b), (1, .ref (xad X 44)), (2, .ref (xad X 71)), (3, .int (x3 + 6))] [1, 2, 3, 0] rfl ?_
            refine r_goto (tgt := 18) ok dL_law_1241 rfl ?_
            exact hk18 _ _ h
          · replace h := h.2 hc125
            refine r_iconst (v := 0) ok dL_law_1062 rfl ?_
            exact hret _ _ _ _ dL_law_1063 (Or.inl rfl) h
        · replace h := h.2.2.2.2.2.2.2.2.2.2.2.2.2.2.2.2.2.2.2.2.2.2.2.2.2.2.1 hq26
          refine r_tin (tgt := 1064) ok dL_law_33 (by rw [hq26]; decide) (by rw [hq26]; decide) (by rw [hq26]; rfl) rfl ?_
          refine r_aload_n ok dL_law_1064 1 rfl ?_
          refine r_aload_n ok dL_law_1065 0 rfl ?_
          refine r_iload_n ok dL_law_1066 3 rfl ?_
          refine r_iconst (v := 1) ok dL_law_1067 rfl ?_
          refine r_iadd ok dL_law_1068 ?_
          refine r_sld ok hx h.1 rfl dL_law_1069 ?_
          replace h := h.2
          refine cl_L_123 ok dL_law_1070 (by decide) (Nat.le_of_ble_eq_true rfl) h (fun r127 S126 h => ?_)
          refine r_aload_n ok dL_law_1073 2 rfl ?_
          refine r_aload_n ok dL_law_1074 0 rfl ?_
          refine r_iload_n ok dL_law_1075 3 rfl ?_
          refine r_iconst (v := 1) ok dL_law_1076 rfl ?_
          refine r_iadd ok dL_law_1077 ?_
          refine r_sld ok hx h.1 rfl dL_law_1078 ?_
          replace h := h.2
          refine cl_L_126 ok dL_law_1079 (by decide) (Nat.le_of_ble_eq_true rfl) h (fun r129 S128 h => ?_)
          refine r_icmp_eq (tgt := 1238) ok dL_law_1082 rfl (fun hc130 => ?_) (fun hc130 => ?_)
          · replace h := h.1 hc130
            refine r_iinc (v := x3 + 6) ok dL_law_1238 3 rfl rfl (by decide) [(0, .ref b), (1, .ref (xad X 44)), (2, .ref (xad X 71)), (3, .int (x3 + 6))] [1, 2, 3, 0] rfl ?_
            refine r_goto (tgt := 18) ok dL_law_1241 rfl ?_
            exact hk18 _ _ h
          · replace h := h.2 hc130
            refine r_iconst (v := 0) ok dL_law_1085 rfl ?_
            exact hret _ _ _ _ dL_law_1086 (Or.inl rfl) h
        · replace h := h.2.2.2.2.2.2.2.2.2.2.2.2.2.2.2.2.2.2.2.2.2.2.2.2.2.2.2.1 hq27
          refine r_tin (tgt := 1087) ok dL_law_33 (by rw [hq27]; decide) (by rw [hq27]; decide) (by rw [hq27]; rfl) rfl ?_
          refine r_aload_n ok dL_law_1087 1 rfl ?_
          refine cl_L_127 ok dL_law_1088 (by decide) (Nat.le_of_ble_eq_true rfl) h (fun r132 S131 h => ?_)
          refine r_aload_n ok dL_law_1091 2 rfl ?_
          refine cl_L_130 ok dL_law_1092 (by decide) (Nat.le_of_ble_eq_true rfl) h (fun r134 S133 h => ?_)
          refine r_icmp_eq (tgt := 1238) ok dL_law_1095 rfl (fun hc135 => ?_) (fun hc135 => ?_)
          · replace h := h.1 hc135
            refine r_iinc (v := x3 + 6) ok dL_law_1238 3 rfl rfl (by decide) [(0, .ref b), (1, .ref (xad X 44)), (2, .ref (xad X 71)), (3, .int (x3 + 6))] [1, 2, 3, 0] rfl ?_
            refine r_goto (tgt := 18) ok dL_law_1241 rfl ?_
            exact hk18 _ _ h
          · replace h := h.2 hc135
            refine r_iconst (v := 0) ok dL_law_1098 rfl ?_
            exact hret _ _ _ _ dL_law_1099 (Or.inl rfl) h
        · replace h := h.2.2.2.2.2.2.2.2.2.2.2.2.2.2.2.2.2.2.2.2.2.2.2.2.2.2.2.2.1 hq28
          refine r_tin (tgt := 1100) ok dL_law_33 (by rw [hq28]; decide) (by rw [hq28]; decide) (by rw [hq28]; rfl) rfl ?_
          refine r_aload_n ok dL_law_1100 1 rfl ?_
          refine r_aload_n ok dL_law_1101 0 rfl ?_
          refine r_iload_n ok dL_law_1102 3 rfl ?_
          refine r_iconst (v := 1) ok dL_law_1103 rfl ?_
          refine r_iadd ok dL_law_1104 ?_
          refine r_sld ok hx h.1 rfl dL_law_1105 ?_
          replace h := h.2
          refine cl_L_131 ok dL_law_1106 (by decide) (Nat.le_of_ble_eq_true rfl) h (fun r137 S136 h => ?_)
          refine r_aload_n ok dL_law_1109 2 rfl ?_
          refine r_aload_n ok dL_law_1110 0 rfl ?_
          refine r_iload_n ok dL_law_1111 3 rfl ?_
          refine r_iconst (v := 1) ok dL_law_1112 rfl ?_
          refine r_iadd ok dL_law_1113 ?_
          refine r_sld ok hx h.1 rfl dL_law_1114 ?_
          replace h := h.2
          refine cl_L_134 ok dL_law_1115 (by decide) (Nat.le_of_ble_eq_true rfl) h (fun r139 S138 h => ?_)
          refine r_icmp_eq (tgt := 1238) ok dL_law_1118 rfl (fun hc140 => ?_) (fun hc140 => ?_)
          · replace h := h.1 hc140
            refine r_iinc (v := x3 + 6) ok dL_law_1238 3 rfl rfl (by decide) [(0, .ref b), (1, .ref (xad X 44)), (2, .ref (xad X 71)), (3, .int (x3 + 6))] [1, 2, 3, 0] rfl ?_
            refine r_goto (tgt := 18) ok dL_law_1241 rfl ?_
            exact hk18 _ _ h
          · replace h := h.2 hc140
            refine r_iconst (v := 0) ok dL_law_1121 rfl ?_
            exact hret _ _ _ _ dL_law_1122 (Or.inl rfl) h
        · replace h := h.2.2.2.2.2.2.2.2.2.2.2.2.2.2.2.2.2.2.2.2.2.2.2.2.2.2.2.2.2.1 hq29
          refine r_tin (tgt := 1123) ok dL_law_33 (by rw [hq29]; decide) (by rw [hq29]; decide) (by rw [hq29]; rfl) rfl ?_
          refine r_aload_n ok dL_law_1123 1 rfl ?_
          refine cl_L_135 ok dL_law_1124 (by decide) (Nat.le_of_ble_eq_true rfl) h (fun r142 S141 h => ?_)
          refine r_aload_n ok dL_law_1127 2 rfl ?_
          refine cl_L_138 ok dL_law_1128 (by decide) (Nat.le_of_ble_eq_true rfl) h (fun r144 S143 h => ?_)
          refine r_icmp_eq (tgt := 1238) ok dL_law_1131 rfl (fun hc145 => ?_) (fun hc145 => ?_)
          · replace h := h.1 hc145
            refine r_iinc (v := x3 + 6) ok dL_law_1238 3 rfl rfl (by decide) [(0, .ref b), (1, .ref (xad X 44)), (2, .ref (xad X 71)), (3, .int (x3 + 6))] [1, 2, 3, 0] rfl ?_
            refine r_goto (tgt := 18) ok dL_law_1241 rfl ?_
            exact hk18 _ _ h
          · replace h := h.2 hc145
            refine r_iconst (v := 0) ok dL_law_1134 rfl ?_
            exact hret _ _ _ _ dL_law_1135 (Or.inl rfl) h
        · replace h := h.2.2.2.2.2.2.2.2.2.2.2.2.2.2.2.2.2.2.2.2.2.2.2.2.2.2.2.2.2.2.1 hq30
          refine r_tin (tgt := 1136) ok dL_law_33 (by rw [hq30]; decide) (by rw [hq30]; decide) (by rw [hq30]; rfl) rfl ?_
          refine r_aload_n ok dL_law_1136 1 rfl ?_
          refine r_aload_n ok dL_law_1137 0 rfl ?_
          refine r_iload_n ok dL_law_1138 3 rfl ?_
          refine r_iconst (v := 1) ok dL_law_1139 rfl ?_
          refine r_iadd ok dL_law_1140 ?_
          refine r_sld ok hx h.1 rfl dL_law_1141 ?_
          replace h := h.2
          refine r_aload_n ok dL_law_1142 0 rfl ?_
          refine r_iload_n ok dL_law_1143 3 rfl ?_
          refine r_iconst (v := 2) ok dL_law_1144 rfl ?_
          refine r_iadd ok dL_law_1145 ?_
          refine r_sld ok hx h.1 rfl dL_law_1146 ?_
          replace h := h.2
          refine cl_L_139 ok dL_law_1147 (by decide) (Nat.le_of_ble_eq_true rfl) h (fun r147 S146 h => ?_)
          refine r_aload_n ok dL_law_1150 2 rfl ?_
          refine r_aload_n ok dL_law_1151 0 rfl ?_
          refine r_iload_n ok dL_law_1152 3 rfl ?_
          refine r_iconst (v := 1) ok dL_law_1153 rfl ?_
          refine r_iadd ok dL_law_1154 ?_
          refine r_sld ok hx h.1 rfl dL_law_1155 ?_
          replace h := h.2
          refine r_aload_n ok dL_law_1156 0 rfl ?_
          refine r_iload_n ok dL_law_1157 3 rfl ?_
          refine r_iconst (v := 2) ok dL_law_1158 rfl ?_
          refine r_iadd ok dL_law_1159 ?_
          refine r_sld ok hx h.1 rfl dL_law_1160 ?_
          replace h := h.2
          refine cl_L_142 ok dL_law_1161 (by decide) (Nat.le_of_ble_eq_true rfl) h (fun r149 S148 h => ?_)
          refine r_icmp_eq (tgt := 1238) ok dL_law_1164 rfl (fun hc150 => ?_) (fun hc150 => ?_)
          · replace h := h.1 hc150
            refine r_iinc (v := x3 + 6) ok dL_law_1238 3 rfl rfl (by decide) [(0, .ref b), (1, .ref (xad X 44)), (2, .ref (xad X 71)), (3, .int (x3 + 6))] [1, 2, 3, 0] rfl ?_
            refine r_goto (tgt := 18) ok dL_law_1241 rfl ?_
            exact hk18 _ _ h
          · replace h := h.2 hc150
            refine r_iconst (v := 0) ok dL_law_1167 rfl ?_
            exact hret _ _ _ _ dL_law_1168 (Or.inl rfl) h
        · replace h := h.2.2.2.2.2.2.2.2.2.2.2.2.2.2.2.2.2.2.2.2.2.2.2.2.2.2.2.2.2.2.2.1 hq31
          refine r_tin (tgt := 1169) ok dL_law_33 (by rw [hq31]; decide) (by rw [hq31]; decide) (by rw [hq31]; rfl) rfl ?_
          refine r_aload_n ok dL_law_1169 1 rfl ?_
          refine r_aload_n ok dL_law_1170 0 rfl ?_
          refine r_iload_n ok dL_law_1171 3 rfl ?_
          refine r_iconst (v := 1) ok dL_law_1172 rfl ?_
          refine r_iadd ok dL_law_1173 ?_
          refine r_sld ok hx h.1 rfl dL_law_1174 ?_
          replace h := h.2
          refine cl_L_143 ok dL_law_1175 (by decide) (Nat.le_of_ble_eq_true rfl) h (fun r152 S151 h => ?_)
          refine r_aload_n ok dL_law_1178 2 rfl ?_
          refine r_aload_n ok dL_law_1179 0 rfl ?_
          refine r_iload_n ok dL_law_1180 3 rfl ?_
          refine r_iconst (v := 1) ok dL_law_1181 rfl ?_
          refine r_iadd ok dL_law_1182 ?_
          refine r_sld ok hx h.1 rfl dL_law_1183 ?_
          replace h := h.2
          refine cl_L_146 ok dL_law_1184 (by decide) (Nat.le_of_ble_eq_true rfl) h (fun r154 S153 h => ?_)
          refine r_icmp_eq (tgt := 1238) ok dL_law_1187 rfl (fun hc155 => ?_) (fun hc155 => ?_)
          · replace h := h.1 hc155
            refine r_iinc (v := x3 + 6) ok dL_law_1238 3 rfl rfl (by decide) [(0, .ref b), (1, .ref (xad X 44)), (2, .ref (xad X 71)), (3, .int (x3 + 6))] [1, 2, 3, 0] rfl ?_
            refine r_goto (tgt := 18) ok dL_law_1241 rfl ?_
            exact hk18 _ _ h
          · replace h := h.2 hc155
            refine r_iconst (v := 0) ok dL_law_1190 rfl ?_
            exact hret _ _ _ _ dL_law_1191 (Or.inl rfl) h
        · replace h := h.2.2.2.2.2.2.2.2.2.2.2.2.2.2.2.2.2.2.2.2.2.2.2.2.2.2.2.2.2.2.2.2.1 hq32
          refine r_tin (tgt := 1192) ok dL_law_33 (by rw [hq32]; decide) (by rw [hq32]; decide) (by rw [hq32]; rfl) rfl ?_
          refine r_aload_n ok dL_law_1192 1 rfl ?_
          refine r_aload_n ok dL_law_1193 0 rfl ?_
          refine r_iload_n ok dL_law_1194 3 rfl ?_
          refine r_iconst (v := 1) ok dL_law_1195 rfl ?_
          refine r_iadd ok dL_law_1196 ?_
          refine r_sld ok hx h.1 rfl dL_law_1197 ?_
          replace h := h.2
          refine cl_L_147 ok dL_law_1198 (by decide) (Nat.le_of_ble_eq_true rfl) h (fun r157 S156 h => ?_)
          refine r_aload_n ok dL_law_1201 2 rfl ?_
          refine r_aload_n ok dL_law_1202 0 rfl ?_
          refine r_iload_n ok dL_law_1203 3 rfl ?_
          refine r_iconst (v := 1) ok dL_law_1204 rfl ?_
          refine r_iadd ok dL_law_1205 ?_
          refine r_sld ok hx h.1 rfl dL_law_1206 ?_
          replace h := h.2
          refine cl_L_150 ok dL_law_1207 (by decide) (Nat.le_of_ble_eq_true rfl) h (fun r159 S158 h => ?_)
          refine r_icmp_eq (tgt := 1238) ok dL_law_1210 rfl (fun hc160 => ?_) (fun hc160 => ?_)
          · replace h := h.1 hc160
            refine r_iinc (v := x3 + 6) ok dL_law_1238 3 rfl rfl (by decide) [(0, .ref b), (1, .ref (xad X 44)), (2, .ref (xad X 71)), (3, .int (x3 + 6))] [1, 2, 3, 0] rfl ?_
            refine r_goto (tgt := 18) ok dL_law_1241 rfl ?_
            exact hk18 _ _ h
          · replace h := h.2 hc160
            refine r_iconst (v := 0) ok dL_law_1213 rfl ?_
            exact hret _ _ _ _ dL_law_1214 (Or.inl rfl) h
        · replace h := h.2.2.2.2.2.2.2.2.2.2.2.2.2.2.2.2.2.2.2.2.2.2.2.2.2.2.2.2.2.2.2.2.2 hq33
          refine r_tin (tgt := 1215) ok dL_law_33 (by rw [hq33]; decide) (by rw [hq33]; decide) (by rw [hq33]; rfl) rfl ?_
          refine r_aload_n ok dL_law_1215 1 rfl ?_
          refine r_aload_n ok dL_law_1216 0 rfl ?_
          refine r_iload_n ok dL_law_1217 3 rfl ?_
          refine r_iconst (v := 1) ok dL_law_1218 rfl ?_
          refine r_iadd ok dL_law_1219 ?_
          refine r_sld ok hx h.1 rfl dL_law_1220 ?_
          replace h := h.2
          refine cl_L_151 ok dL_law_1221 (by decide) (Nat.le_of_ble_eq_true rfl) h (fun r162 S161 h => ?_)
          refine r_aload_n ok dL_law_1224 2 rfl ?_
          refine r_aload_n ok dL_law_1225 0 rfl ?_
          refine r_iload_n ok dL_law_1226 3 rfl ?_
          refine r_iconst (v := 1) ok dL_law_1227 rfl ?_
          refine r_iadd ok dL_law_1228 ?_
          refine r_sld ok hx h.1 rfl dL_law_1229 ?_
          replace h := h.2
          refine cl_L_154 ok dL_law_1230 (by decide) (Nat.le_of_ble_eq_true rfl) h (fun r164 S163 h => ?_)
          refine r_icmp_eq (tgt := 1238) ok dL_law_1233 rfl (fun hc165 => ?_) (fun hc165 => ?_)
          · replace h := h.1 hc165
            refine r_iinc (v := x3 + 6) ok dL_law_1238 3 rfl rfl (by decide) [(0, .ref b), (1, .ref (xad X 44)), (2, .ref (xad X 71)), (3, .int (x3 + 6))] [1, 2, 3, 0] rfl ?_
            refine r_goto (tgt := 18) ok dL_law_1241 rfl ?_
            exact hk18 _ _ h
          · replace h := h.2 hc165
            refine r_iconst (v := 0) ok dL_law_1236 rfl ?_
            exact hret _ _ _ _ dL_law_1237 (Or.inl rfl) h
