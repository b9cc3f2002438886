/-! making: explicit worlds -/
abbrev Qx : Type := Program × Launch × Env × Room × State × MethodId × Array Value × List Frame × Method × Code × va_G × (ClassId × ClassId) × (Nat → Prop) × (State → Prop)
abbrev yl (X : Qx) : Launch := X.2.1
abbrev yR (X : Qx) : Room := X.2.2.2.1
abbrev ys (X : Qx) : State := X.2.2.2.2.1
abbrev ym (X : Qx) : MethodId := X.2.2.2.2.2.1
abbrev yargs (X : Qx) : Array Value := X.2.2.2.2.2.2.1
abbrev ybelow (X : Qx) : List Frame := X.2.2.2.2.2.2.2.1
abbrev ymeth (X : Qx) : Method := X.2.2.2.2.2.2.2.2.1
abbrev yc (X : Qx) : Code := X.2.2.2.2.2.2.2.2.2.1
abbrev yD (X : Qx) : va_G := X.2.2.2.2.2.2.2.2.2.2.1
abbrev ycy (X : Qx) : ClassId × ClassId := X.2.2.2.2.2.2.2.2.2.2.2.1
abbrev yA (X : Qx) : Nat → Prop := X.2.2.2.2.2.2.2.2.2.2.2.2.1
abbrev yQ (X : Qx) : State → Prop := X.2.2.2.2.2.2.2.2.2.2.2.2.2
abbrev tysB (cy : ClassId × ClassId) : List (ClassId × FieldType) := [(cy.1, .int), (cy.2, .boolean)]
def nestC : List Cond := [.methodLinkNest RX7 11 yX6_init RX7, .methodLinkNest RX7 29 yX5_init RX7, .methodLinkNest RX7 54 yX1_init RX7, .methodLinkNest RX7 61 yX2_init RX7, .methodLinkNest RX7 68 yX0_init RX7]
def Kq (D : va_G) (cy : ClassId × ClassId) (U : State) : Prop := va_K D vwCl (tysB cy) U ∧ va_AO RX6 U ∧ ∀ w ∈ nestC, va_Nw w U
theorem Kq.warm {D : va_G} {cy : ClassId × ClassId} {s U : State} (hW : s.WarmedH U.vm) (h : Kq D cy s) : Kq D cy U := by
  refine ⟨va_K.moved hW.alike h.1, va_AO.moved hW.alike h.2.1, fun w hw => ?_⟩
  have h2 := h.2.2 w hw
  simp only [nestC, List.mem_cons, List.not_mem_nil, or_false] at hw
  rcases hw with rfl | rfl | rfl | rfl | rfl <;> exact va_Nw.warmM hW h2
theorem Kq.same {D : va_G} {cy : ClassId × ClassId} {s U : State} (e : s.vm = U.vm) (h : Kq D cy s) : Kq D cy U := by
  refine ⟨va_K.moved (by rw [e]; exact Vm.Alike.refl _) h.1, va_AO.moved (by rw [e]; exact Vm.Alike.refl _) h.2.1, fun w hw => ?_⟩
  have h2 := h.2.2 w hw
  simp only [nestC, List.mem_cons, List.not_mem_nil, or_false] at hw
  rcases hw with rfl | rfl | rfl | rfl | rfl <;> exact va_Nw.same rfl e h2
def Wq (X : Qx) (nL pc : Nat) (L : List (Nat × Value)) (st : List Value) (ws : va_W) (cells slots : Nat) : Prop :=
  ∀ (H : Heap) (locs : List Loc) (ls : Array Slot), lv_has ls nL L → va_P (yD X) vwCl ws H → va_D (yA X) ws → va_S (yA X) (ys X).heap H locs → W X.1 (yl X) X.2.2.1 (yR X) (ys X) (ym X) (yargs X) (ybelow X) (ymeth X) (yc X) H locs cells slots (yQ X) (F0 (ym X) pc ls st)
def Okq (X : Qx) (cc : ByteArray) (nL : Nat) (own : String) (fr lo mc ms : Nat) : Prop :=
  X.1.tables.exec = Jvm.exec ∧ (yc X).code = cc ∧ (yc X).maxLocals = nL ∧ (ys X).vm.findClass own = some (ym X).cls ∧ (∀ w ∈ gtbl, w.before (yargs X) (ys X) = true) ∧ Kq (yD X) (ycy X) (ys X) ∧ (∀ q : Nat, (ys X).heap.size ≤ q → yA X q) ∧ (fr ≤ (yR X).frames ∧ lo ≤ (yR X).locals) ∧ mc ≤ (yR X).cells ∧ ms ≤ (yR X).slots
section QRows
variable {X : Qx} {cc : ByteArray} {nL pc fr lo mc ms cells slots : Nat} {own : String} {L : List (Nat × Value)} {st : List Value} {ws : va_W}
theorem q_iconst {n : Int} {v : Int32} (ok : Okq X cc nL own fr lo mc ms) (d : decode cc pc = .ok (.iconst n, 1)) (hv : Int32.ofInt n = v) (k : Wq X nL (pc + 1) L (.int v :: st) ws cells slots) : Wq X nL pc L st ws cells slots :=
  fun H locs ls hl hP hD hS => lv_iconst ok.1 ok.2.1 d hv (k H locs ls hl hP hD hS)
theorem q_bipush {n : Int} {v : Int32} (ok : Okq X cc nL own fr lo mc ms) (d : decode cc pc = .ok (.bipush n, 2)) (hv : (Int8.ofInt n).toInt32 = v) (k : Wq X nL (pc + 2) L (.int v :: st) ws cells slots) : Wq X nL pc L st ws cells slots :=
  fun H locs ls hl hP hD hS => lv_bipush ok.1 ok.2.1 d hv (k H locs ls hl hP hD hS)
theorem q_sipush {n : Int} {v : Int32} (ok : Okq X cc nL own fr lo mc ms) (d : decode cc pc = .ok (.sipush n, 3)) (hv : (Int16.ofInt n).toInt32 = v) (k : Wq X nL (pc + 3) L (.int v :: st) ws cells slots) : Wq X nL pc L st ws cells slots :=
  fun H locs ls hl hP hD hS => lv_sipush ok.1 ok.2.1 d hv (k H locs ls hl hP hD hS)
theorem q_aload_n {kf : Fin 4} {x : Nat} (ok : Okq X cc nL own fr lo mc ms) (d : decode cc pc = .ok (.aload_n kf, 1)) (j : Nat) (hj : L[j]? = some ((kf : Nat), .ref x)) (k : Wq X nL (pc + 1) L (.ref x :: st) ws cells slots) : Wq X nL pc L st ws cells slots :=
  fun H locs ls hl hP hD hS => lv_aload_n ok.1 ok.2.1 d rfl (lv_at hl j hj) (k H locs ls hl hP hD hS)
theorem q_dup {v : Value} (ok : Okq X cc nL own fr lo mc ms) (d : decode cc pc = .ok (.dup, 1)) (hv : v.category = 1) (k : Wq X nL (pc + 1) L (v :: v :: st) ws cells slots) : Wq X nL pc L (v :: st) ws cells slots :=
  fun H locs ls hl hP hD hS => lv_dup ok.1 ok.2.1 d hv (k H locs ls hl hP hD hS)
theorem q_init {idx a : Nat} (ok : Okq X cc nL own fr lo mc ms) (hw : Cond.methodLink own idx Lib.objectInit ∈ gtbl) (hi : Cond.instanceMethod Lib.objectInit ∈ gtbl) (hc : Cond.code Lib.objectInit ⟨#[0xb1]⟩ 1 none ∈ gtbl) (hf : 1 ≤ fr) (hs : (st.map fun v => v.category).sum + 12 ≤ lo) (d : decode cc pc = .ok (.invokespecial idx, 3)) (k : Wq X nL (pc + 3) L st ws cells slots) : Wq X nL pc L (.ref a :: st) ws cells slots :=
  fun H locs ls hl hP hD hS => W.objInit ok.1 ok.2.1 ok.2.2.2.1 (ok.2.2.2.2.1 _ hw) (ok.2.2.2.2.1 _ hi) (ok.2.2.2.2.1 _ hc) rfl (hl.1.trans ok.2.2.1.symm) rfl d (Nat.le_trans hf ok.2.2.2.2.2.2.2.1.1) (Nat.le_trans (by simpa [F0, JFrame.monitorRoom] using hs) ok.2.2.2.2.2.2.2.1.2) (k H locs ls hl hP hD hS)
theorem perm_P {D : va_G} {x : Nat × va_E} {ws : va_W} {H : Heap} (h : va_P D vwCl (ws ++ [x]) H) : va_P D vwCl (x :: ws) H := by
  intro k q hq
  cases k with
  | zero =>
    cases hq
    exact h ws.length _ (by simp)
  | succ k =>
    have hk : k < ws.length := Nat.lt_of_succ_lt_succ (List.getElem?_eq_some_iff.mp hq).1
    exact h k q (by rw [List.getElem?_append_left hk]; exact hq)
theorem perm_D {A : Nat → Prop} {x : Nat × va_E} {ws : va_W} (h : va_D A (ws ++ [x])) : va_D A (x :: ws) := by
  refine h.by (fun k => if k = 0 then ws.length else k - 1) (fun k q hq => ?_) (fun i j hi hj e => ?_)
  · cases k with
    | zero => cases hq; simp
    | succ k =>
      have hk : k < ws.length := Nat.lt_of_succ_lt_succ (List.getElem?_eq_some_iff.mp hq).1
      simp only [Nat.succ_ne_zero, if_false, Nat.add_sub_cancel, Nat.add_eq_zero_iff, Nat.one_ne_zero, and_false]
      rw [List.getElem?_append_left hk]
      exact hq
  · simp only [List.length_cons] at hi hj
    by_cases h1 : i = 0 <;> by_cases h2 : j = 0 <;> simp [h1, h2] at e <;> omega
theorem q_newI {n : Int32} {N : Nat} (ok : Okq X cc nL own fr lo mc ms) (hw : Cond.arrayClass .int ∈ gtbl) (hn : ¬ n < 0) (hN : n.toNatClampNeg = N) (hb : N * 4 ≤ 536870912) (hc : cells + 1 ≤ mc) (hs : slots + N ≤ ms) (d : decode cc pc = .ok (.newarray .int, 2)) (k : ∀ q : Nat, Wq X nL (pc + 2) L (.ref q :: st) ((q, .inl ((ycy X).1, N, .inl (fun _ => 0))) :: ws) (cells + 1) (slots + N)) : Wq X nL pc L (.int n :: st) ws cells slots := by
  intro H locs ls hl hP hD hS
  refine va_newa (D := yD X) (atype := .int) (ty := .int) (a0 := (N, .inl (fun _ => 0))) ok.1 ok.2.1 (ok.2.2.2.2.1 _ hw) rfl ok.2.2.2.2.2.1.1 hP hD hS ok.2.2.2.2.2.2.1 (fun _ => rfl) hn hN hb (Nat.le_trans hc ok.2.2.2.2.2.2.2.2.1) (Nat.le_trans hs ok.2.2.2.2.2.2.2.2.2) d (fun q cA H1 hK1 hP1 hD1 hS1 => ?_)
  have e1 := (hK1.2 2 (cA, .int) rfl).2
  have e2 := (ok.2.2.2.2.2.1.1.2 0 ((ycy X).1, .int) rfl).2
  have e : cA = (ycy X).1 := Option.some.inj (e1.symm.trans e2)
  subst e
  exact k q H1 locs ls hl (perm_P hP1) (perm_D hD1) hS1
theorem q_newZ {n : Int32} {N : Nat} (ok : Okq X cc nL own fr lo mc ms) (hw : Cond.arrayClass .boolean ∈ gtbl) (hn : ¬ n < 0) (hN : n.toNatClampNeg = N) (hb : N * 1 ≤ 536870912) (hc : cells + 1 ≤ mc) (hs : slots + N ≤ ms) (d : decode cc pc = .ok (.newarray .boolean, 2)) (k : ∀ q : Nat, Wq X nL (pc + 2) L (.ref q :: st) ((q, .inl ((ycy X).2, N, .inl (fun _ => 0))) :: ws) (cells + 1) (slots + N)) : Wq X nL pc L (.int n :: st) ws cells slots := by
  intro H locs ls hl hP hD hS
  refine va_newa (D := yD X) (atype := .boolean) (ty := .boolean) (a0 := (N, .inl (fun _ => 0))) ok.1 ok.2.1 (ok.2.2.2.2.1 _ hw) rfl ok.2.2.2.2.2.1.1 hP hD hS ok.2.2.2.2.2.2.1 (fun _ => rfl) hn hN hb (Nat.le_trans hc ok.2.2.2.2.2.2.2.2.1) (Nat.le_trans hs ok.2.2.2.2.2.2.2.2.2) d (fun q cA H1 hK1 hP1 hD1 hS1 => ?_)
  have e1 := (hK1.2 2 (cA, .boolean) rfl).2
  have e2 := (ok.2.2.2.2.2.1.1.2 1 ((ycy X).2, .boolean) rfl).2
  have e : cA = (ycy X).2 := Option.some.inj (e1.symm.trans e2)
  subst e
  exact k q H1 locs ls hl (perm_P hP1) (perm_D hD1) hS1
theorem q_new {idx ci N : Nat} {C : String} {T : u_T} {fs : List Value} (ok : Okq X cc nL own fr lo mc ms) (hin : ∀ w ∈ u_ws C T N, w ∈ gtbl) (ty : Nat → FieldType) (hty : ∀ k, k < N → parseFieldDescriptor (T k).2.2.1 = some (ty k)) (h1 : Cond.classLink own idx C ∈ gtbl) (h2 : Cond.instantiable C N ∈ gtbl) (h3 : Cond.initialized C ∈ gtbl) (hcl : vwCl[ci]? = some (C, T, N)) (hfs : ∀ j, j < N → defaultValue (ty j) = vp_V fs j) (hc : cells + 1 ≤ mc) (hs : slots + N ≤ ms) (d : decode cc pc = .ok (.new idx, 3)) (k : ∀ q : Nat, Wq X nL (pc + 3) L (.ref q :: st) ((q, .inr (ci, fs)) :: ws) (cells + 1) (slots + N)) : Wq X nL pc L st ws cells slots := by
  intro H locs ls hl hP hD hS
  refine va_new (D := yD X) ok.1 ok.2.1 ok.2.2.2.2.1 hin ty hty ok.2.2.2.1 (ok.2.2.2.2.1 _ h1) (ok.2.2.2.2.1 _ h2) (ok.2.2.2.2.1 _ h3) ok.2.2.2.2.2.1.1 hP hD hS ok.2.2.2.2.2.2.1 hcl hfs (Nat.le_trans hc ok.2.2.2.2.2.2.2.2.1) (Nat.le_trans hs ok.2.2.2.2.2.2.2.2.2) d (fun q H1 hP1 hD1 hS1 => ?_)
  exact k q H1 locs ls hl (perm_P hP1) (perm_D hD1) hS1
theorem q_putF {idx ci N a q0 : Nat} {C : String} {T : u_T} {fs : List Value} {v : Value} {ty : FieldType} (ok : Okq X cc nL own fr lo mc ms) (hnm0 : (ymeth X).name = "<init>") (hin : ∀ w ∈ u_ws C T N, w ∈ gtbl) (ty0 : Nat → FieldType) (hty : ∀ k, k < N → parseFieldDescriptor (T k).2.2.1 = some (ty0 k)) (hnm : ∀ a, a < N → ∀ b, b < N → a ≠ b → (T a).2.1 ≠ (T b).2.1) (he : ws[q0]? = some (a, .inr (ci, fs))) (hcl : vwCl[ci]? = some (C, T, N)) (k : Nat) (hk : k < N) (hw : Cond.fieldLink own idx (T k).1 (T k).2.1 (T k).2.2.1 ∈ gtbl) (hf : (T k).2.2.2 = true) (hdecl : (T k).1 = own) (hti : ty0 k = ty) (hn : narrow ty v = v) (hfit : fits ty v = true) (hl0 : k < fs.length) (d : decode cc pc = .ok (.putfield idx, 3)) (ws' : va_W) (hws : ws.set q0 (a, .inr (ci, fs.set k v)) = ws') (kk : Wq X nL (pc + 3) L st ws' cells slots) : Wq X nL pc L (v :: .ref a :: st) ws cells slots := by
  intro H locs ls hl hP hD hS
  refine va_putF (D := yD X) (ci := ci) (ty := ty) (v := v) (C := C) (T := T) (N := N) ok.1 ok.2.1 ok.2.2.2.2.1 hin ty0 hty hnm ok.2.2.2.1 ok.2.2.2.2.2.1.1 hP hD hS q0 he hcl k hk (ok.2.2.2.2.1 _ hw) (fun _ h9 => h9) hf hnm0 hdecl (by rw [hty k hk, hti]) hn hfit hl0 d (fun H1 locs1 hP1 hD1 hS1 => ?_)
  rw [hws] at hP1 hD1
  exact kk H1 locs1 ls hl hP1 hD1 hS1
theorem q_putI {idx ci N a q0 : Nat} {C : String} {T : u_T} {fs : List Value} {v : Int32} (ok : Okq X cc nL own fr lo mc ms) (hin : ∀ w ∈ u_ws C T N, w ∈ gtbl) (ty0 : Nat → FieldType) (hty : ∀ k, k < N → parseFieldDescriptor (T k).2.2.1 = some (ty0 k)) (hnm : ∀ a, a < N → ∀ b, b < N → a ≠ b → (T a).2.1 ≠ (T b).2.1) (he : ws[q0]? = some (a, .inr (ci, fs))) (hcl : vwCl[ci]? = some (C, T, N)) (k : Nat) (hk : k < N) (hw : Cond.fieldLink own idx (T k).1 (T k).2.1 (T k).2.2.1 ∈ gtbl) (hf : (T k).2.2.2 = false) (hti : ty0 k = .int) (hl0 : k < fs.length) (d : decode cc pc = .ok (.putfield idx, 3)) (ws' : va_W) (hws : ws.set q0 (a, .inr (ci, fs.set k (.int v))) = ws') (kk : Wq X nL (pc + 3) L st ws' cells slots) : Wq X nL pc L (.int v :: .ref a :: st) ws cells slots := by
  intro H locs ls hl hP hD hS
  refine va_put (D := yD X) (ci := ci) (ty := .int) (v := .int v) (C := C) (T := T) (N := N) ok.1 ok.2.1 ok.2.2.2.2.1 hin ty0 hty hnm ok.2.2.2.1 ok.2.2.2.2.2.1.1 hP hD hS q0 he hcl k hk (ok.2.2.2.2.1 _ hw) (fun _ h9 => h9) hf (by rw [hty k hk, hti]) rfl rfl hl0 d (fun H1 locs1 hP1 hD1 hS1 => ?_)
  rw [hws] at hP1 hD1
  exact kk H1 locs1 ls hl hP1 hD1 hS1
theorem q_get {idx ci N a q0 : Nat} {C : String} {T : u_T} {fs : List Value} {v : Value} (ok : Okq X cc nL own fr lo mc ms) (hin : ∀ w ∈ u_ws C T N, w ∈ gtbl) (he : ws[q0]? = some (a, .inr (ci, fs))) (hcl : vwCl[ci]? = some (C, T, N)) (k : Nat) (hk : k < N) (hw : Cond.fieldLink own idx (T k).1 (T k).2.1 (T k).2.2.1 ∈ gtbl) (hv : fs[k]? = some v) (d : decode cc pc = .ok (.getfield idx, 3)) (kk : Wq X nL (pc + 3) L (v :: st) ws cells slots) : Wq X nL pc L (.ref a :: st) ws cells slots :=
  fun H locs ls hl hP hD hS => va_get (D := yD X) (ci := ci) (C := C) (T := T) (N := N) ok.1 ok.2.1 ok.2.2.2.2.1 hin ok.2.2.2.1 ok.2.2.2.2.2.1.1 hP q0 he hcl k hk (ok.2.2.2.2.1 _ hw) (fun _ h9 => h9) hv d (kk H locs ls hl hP hD hS)
theorem q_newW {idx N : Nat} {n : Int32} (ok : Okq X cc nL own fr lo mc ms) (hw : Cond.classLink own idx RX6 ∈ gtbl) (hn : ¬ n < 0) (hN : n.toNatClampNeg = N) (hb : N * 4 ≤ 536870912) (hc : cells + 1 ≤ mc) (hs : slots + N ≤ ms) (d : decode cc pc = .ok (.anewarray idx, 3)) (k : ∀ (q : Nat) (cW : ClassId), va_K (yD X) vwCl (tysB (ycy X) ++ [(cW, .object RX6)]) (ys X) → Wq X nL (pc + 3) L (.ref q :: st) ((q, .inl (cW, N, .inr (.inr (.inr (.inr (fun _ => none)))))) :: ws) (cells + 1) (slots + N)) : Wq X nL pc L (.int n :: st) ws cells slots := by
  intro H locs ls hl hP hD hS
  refine va_newq (D := yD X) ok.1 ok.2.1 ok.2.2.2.1 (ok.2.2.2.2.1 _ hw) ok.2.2.2.2.2.1.2.1 ok.2.2.2.2.2.1.1 hP hD hS ok.2.2.2.2.2.2.1 hn hN hb (Nat.le_trans hc ok.2.2.2.2.2.2.2.2.1) (Nat.le_trans hs ok.2.2.2.2.2.2.2.2.2) d (fun q cA H1 hK1 hP1 hD1 hS1 => ?_)
  exact k q cA hK1 H1 locs ls hl (perm_P hP1) (perm_D hD1) hS1
theorem q_astW {a v q0 qk N : Nat} {cW : ClassId} {vs : List Value} {f : Nat → Option Nat} {i : Int32} (ok : Okq X cc nL own fr lo mc ms) (hK : va_K (yD X) vwCl (tysB (ycy X) ++ [(cW, .object RX6)]) (ys X)) (ha : ws[q0]? = some (a, .inl (cW, N, .inr (.inr (.inr (.inr f)))))) (hv : ws[qk]? = some (v, .inr (6, vs))) (hin : vp_in i N) (d : decode cc pc = .ok (.aastore, 1)) (ws' : va_W) (hws : ws.set q0 (a, .inl (cW, N, .inr (.inr (.inr (.inr (va_up f i.toNatClampNeg (some v))))))) = ws') (kk : Wq X nL (pc + 1) L st ws' cells slots) : Wq X nL pc L (.ref v :: .int i :: .ref a :: st) ws cells slots := by
  intro H locs ls hl hP hD hS
  refine va_astq (D := yD X) (r := (RX6, TX6, 16)) ok.1 ok.2.1 hK hP hD hS q0 2 qk 6 ha rfl hv rfl hin d (fun H1 locs1 hP1 hD1 hS1 => ?_)
  rw [hws] at hP1 hD1
  exact kk H1 locs1 ls hl hP1 hD1 hS1
end QRows
/-! contracts of constructors -/
def PreQ (D : va_G) (cy : ClassId × ClassId) (h0 sz0 : Nat) (As : List Value) (e0 : va_E) : Array Value → State → Prop := va_Pc (.ref h0 :: As) (fun U => U.heap.size = sz0 ∧ va_P D vwCl [(h0, e0)] U.heap ∧ va_D (fun _ => True) [(h0, e0)] ∧ Kq D cy U)
def PoQ (D : va_G) (h0 sz0 : Nat) (e0 : va_E) (B : (Nat → Nat) × ClassId → va_W) (T : (Nat → Nat) × ClassId → List (ClassId × FieldType)) : Array Value → State → Outcome → State → Prop := va_Qv (fun _ => True) (fun u t => va_P D vwCl (B u) t.heap ∧ va_D (va_A [(h0, e0)] sz0) (B u) ∧ va_K D vwCl (T u) t) (va_A [(h0, e0)] sz0)
abbrev rmQ (f lo mc ms : Nat) : Room := { frames := f, cells := mc, slots := ms, locals := lo }
theorem PreQ.blind {D : va_G} {cy : ClassId × ClassId} {h0 sz0 : Nat} {As : List Value} {e0 : va_E} : FrameBlind (PreQ D cy h0 sz0 As e0) := fun a U g mk q => ⟨q.1, q.2.1, q.2.2.1, q.2.2.2.1, Kq.same (s := U) (U := U.calling g mk a) rfl q.2.2.2.2⟩
abbrev MtQ (l : Launch) (y : MethodName) (b : ByteArray) (n f lo mc ms : Nat) (D : va_G) (cy : ClassId × ClassId) (h0 sz0 : Nat) (As : List Value) (e0 : va_E) (B : (Nat → Nat) × ClassId → va_W) (T : (Nat → Nat) × ClassId → List (ClassId × FieldType)) : Prop := Met l y (wsOf y b n none) (rmQ f lo mc ms) (PreQ D cy h0 sz0 As e0) (PoQ D h0 sz0 e0 B T) mc ms (va_A [(h0, e0)] sz0)
def RetQ (X : Qx) (cc : ByteArray) (nL mc ms : Nat) (B : (Nat → Nat) × ClassId → va_W) (T : (Nat → Nat) × ClassId → List (ClassId × FieldType)) : Prop := ∀ (pc : Nat) (L : List (Nat × Value)) (ws : va_W) (u : (Nat → Nat) × ClassId) (is : List Nat), decode cc pc = .ok (.return_, 1) → is.map (fun i => ws[i]?) = (B u).map some → va_nd is = true → va_K (yD X) vwCl (T u) (ys X) → Wq X nL pc L [] ws mc ms
theorem sub_P {D : va_G} {ws ws' : va_W} {H : Heap} (h : va_P D vwCl ws H) (is : List Nat) (hs : is.map (fun i => ws[i]?) = ws'.map some) : va_P D vwCl ws' H := by
  intro k q hq
  obtain ⟨i, _, h2⟩ := va_in_of is hs hq
  exact h i q h2
theorem ctQ {l : Launch} {y : MethodName} {b : ByteArray} {n f lo mc ms : Nat} {D : va_G} {cy : ClassId × ClassId} {h0 sz0 : Nat} {As : List Value} {e0 : va_E} {B : (Nat → Nat) × ClassId → va_W} {T : (Nat → Nat) × ClassId → List (ClassId × FieldType)} {own : String} (hy : plainName y.cls = true) (hown : y.cls = own) (hyn : y.name = "<init>") (hn : (lg_sl (.ref h0 :: As)).length ≤ n)
    (body : ∀ X : Qx, yD X = D → ycy X = cy → Okq X b n own f lo mc ms → (ymeth X).name = "<init>" → RetQ X b n mc ms B T → Wq X n 0 (lv_args 0 (.ref h0 :: As)) [] [(h0, e0)] 0 0) : MtQ l y b n f lo mc ms D cy h0 sz0 As e0 B T := by
  refine Met.ofW (cc := b) (maxL := n) (ret := none) hy rfl ?_
  intro p e s m args below meth c s₁ B0 hml hv
  obtain ⟨rfl, hsz, hP, hD0, hK⟩ := hv
  have hts := atoms_spec (ws := wsOf y b n none) B0.pre
  have hfc : s.vm.findClass own = some m.cls := hown ▸ findClass_of_methodNamed B0.named
  have hin : meth.name = "<init>" := (name_of_methodNamed B0.named B0.method).1.trans hyn
  subst hsz
  have hl := lv_entry (.ref h0 :: As) (n := n) hn
  rw [lg_entry_eq]
  refine body (p, l, e, rmQ f lo mc ms, s, m, _, below, meth, c, D, cy, va_A [(h0, e0)] s.heap.size, _) rfl rfl ⟨B0.exec, B0.bytes, hml, hfc, fun w hw => hts w (List.mem_cons_of_mem _ hw), hK, fun q h => Or.inr h, ⟨Nat.le_refl _, Nat.le_refl _⟩, Nat.le_refl _, Nat.le_refl _⟩ hin ?_ s.heap [] _ hl hP hD0.self va_S.rf
  intro pc L ws u is d his hnd hKT H locs ls _ hP1 hD1 hS1
  exact W.vret B0.exec B0.bytes B0.returns (fun t ht hW => ⟨⟨u, rfl, trivial, by rw [ht]; exact sub_P hP1 is his, hD1.sub is hnd his, va_K.moved hW.alike hKT⟩, hS1.F ht⟩) hS1.2.2 d B0.notSynchronized
theorem nd_of : ∀ l : List Nat, l.Nodup → va_nd l = true
  | [], _ => rfl
  | a :: l, h => by
    have h2 := List.nodup_cons.mp h
    simp [va_nd, h2.1, nd_of l h2.2]
theorem nd_range (n : Nat) : va_nd ((List.range n).map (· + 1)) = true := by
  refine nd_of _ ?_
  exact List.pairwise_map.mpr (List.nodup_range.imp (fun h e => h (Nat.succ.inj e)))
section QCalls
variable {X : Qx} {cc : ByteArray} {nL pc fr lo mc0 ms0 cells slots : Nat} {own : String} {L : List (Nat × Value)} {st : List Value} {ws : va_W} {y : MethodName} {b : ByteArray} {n f lo1 mc ms idx N h0 : Nat} {As : List Value} {e0 : va_E} {B : (Nat → Nat) × ClassId → va_W} {T : (Nat → Nat) × ClassId → List (ClassId × FieldType)}
theorem q_after (hr : ∀ (H : Heap) (locs : List Loc) (ls : Array Slot) (stk : List Value), lv_has ls nL L → stk = As.reverse ++ .ref h0 :: st → va_P (yD X) vwCl ((h0, e0) :: ws) H → va_D (yA X) ((h0, e0) :: ws) → va_Run X.1 (yl X) X.2.2.1 (yR X) (ys X) (ym X) (yargs X) (ybelow X) (ymeth X) (yc X) H locs cells slots mc ms (F0 (ym X) pc ls stk) st (PoQ (yD X) h0 H.size e0 B T (Value.ref h0 :: As).toArray) (va_A [(h0, e0)] H.size)) (hA : ∀ q : Nat, (ys X).heap.size ≤ q → yA X q) {stk : List Value} (hstk : stk = As.reverse ++ .ref h0 :: st) (kk : ∀ u, va_K (yD X) vwCl (T u) (ys X) → Wq X nL (pc + 3) L st (ws ++ B u) (cells + mc) (slots + ms)) : Wq X nL pc L stk ((h0, e0) :: ws) cells slots := by
  intro H locs ls hl hP hD hS
  have hC : [0].map (fun i => ((h0, e0) :: ws)[i]?) = [(h0, e0)].map some := rfl
  have hF := va_free (wc := [(h0, e0)]) hD hS hA [0] hC
  refine va_callv (hr H locs ls stk hl hstk hP hD) hS (fun q _ h => hF q h) hF (fun u t H1 locs1 ht hvm _ hB hz1 hk1 hS1 => ?_)
  obtain ⟨hP1, hD1, hK1⟩ := hB
  rw [ht] at hP1
  have hR : ((List.range ws.length).map (· + 1)).map (fun i => ((h0, e0) :: ws)[i]?) = ws.map some := by
    apply List.ext_getElem?
    intro i
    by_cases h : i < ws.length
    · simp [h]
    · simp [h]
  have hnd : va_nd ((List.range ws.length).map (· + 1)) = true := nd_range ws.length
  obtain ⟨hPj, hDj⟩ := va_join (wr := ws) (w1 := B u) hP hD [0] ((List.range ws.length).map (· + 1)) hC hR hnd (fun i hi => by simp at hi ⊢; omega) hk1 hF hP1 hD1
  exact kk u (va_K.moved hvm.symm hK1) H1 locs1 ls hl hPj hDj hS1
theorem q_callI (ok : Okq X cc nL own fr lo mc0 ms0) (hi : Cond.initialized y.cls ∈ gtbl) (hm : Cond.instanceMethod y ∈ gtbl) (hcode : Cond.code y b n none ∈ gtbl) (hlink : Cond.methodLink own idx y ∈ gtbl) (hd : y.cls ≠ "java/lang/invoke/MethodHandle" ∧ y.cls ≠ "java/lang/invoke/VarHandle" ∧ (parseMethodDescriptor y.desc).map (fun d => d.parameters.length) = some N) (hN : As.length = N) (hyn : y.name = "<init>") (hroom : f + 1 ≤ fr ∧ 8 + (n + 11) + lo1 ≤ lo) (hst : (st.map fun v => v.category).sum ≤ 8) (hc : cells + mc ≤ mc0) (hs : slots + ms ≤ ms0) (d : decode cc pc = .ok (.invokespecial idx, 3)) {stk : List Value} (hstk : stk = As.reverse ++ .ref h0 :: st)
    (hM : ∀ sz0, MtQ (yl X) y b n f lo1 mc ms (yD X) (ycy X) h0 sz0 As e0 B T) (kk : ∀ u, va_K (yD X) vwCl (T u) (ys X) → Wq X nL (pc + 3) L st (ws ++ B u) (cells + mc) (slots + ms)) : Wq X nL pc L stk ((h0, e0) :: ws) cells slots := by
  subst hN
  refine q_after (As := As) (fun H locs ls stk hl hstk hP hD => ?_) ok.2.2.2.2.2.2.1 hstk kk
  have hB : CallB (yR X) (ys X) (yargs X) own idx y b n none (wsOf y b n none) (rmQ f lo1 mc ms) mc ms As.length := callB_of As.length ok.2.2.2.2.1 (good_ws hcode) rfl rfl rfl (ok.2.2.2.2.1 _ hi) (ok.2.2.2.2.1 _ hlink) hd ⟨Nat.le_trans hroom.1 ok.2.2.2.2.2.2.2.1.1, Nat.le_trans hroom.2 ok.2.2.2.2.2.2.2.1.2⟩
  exact va_runI (As := As) ⟨ok.1, ok.2.1, ok.2.2.1, ok.2.2.2.1, ok.2.2.2.2.1⟩ (hM H.size) ⟨hB, hyn, ok.2.2.2.2.1 _ hm⟩ ⟨PreQ.blind, fun U hU hW => ⟨rfl, by rw [hU], by rw [hU]; exact hP.sub [0] rfl, (hD.sub [0] (by decide) rfl).weaken (fun _ _ _ _ => trivial), ok.2.2.2.2.2.1.warm hW⟩⟩ rfl rfl hl.1 hstk (lv_room hst) d ⟨Nat.le_trans hc ok.2.2.2.2.2.2.2.2.1, Nat.le_trans hs ok.2.2.2.2.2.2.2.2.2⟩
theorem q_callIN {host : String} (ok : Okq X cc nL own fr lo mc0 ms0) (hi : Cond.initialized y.cls ∈ gtbl) (hm : Cond.instanceMethod y ∈ gtbl) (hcode : Cond.code y b n none ∈ gtbl) (hlink : Cond.methodLinkNest own idx y host ∈ nestC) (hd : y.cls ≠ "java/lang/invoke/MethodHandle" ∧ y.cls ≠ "java/lang/invoke/VarHandle" ∧ (parseMethodDescriptor y.desc).map (fun d => d.parameters.length) = some N) (hN : As.length = N) (hyn : y.name = "<init>") (hroom : f + 1 ≤ fr ∧ 8 + (n + 11) + lo1 ≤ lo) (hst : (st.map fun v => v.category).sum ≤ 8) (hc : cells + mc ≤ mc0) (hs : slots + ms ≤ ms0) (d : decode cc pc = .ok (.invokespecial idx, 3)) {stk : List Value} (hstk : stk = As.reverse ++ .ref h0 :: st)
    (hM : ∀ sz0, MtQ (yl X) y b n f lo1 mc ms (yD X) (ycy X) h0 sz0 As e0 B T) (kk : ∀ u, va_K (yD X) vwCl (T u) (ys X) → Wq X nL (pc + 3) L st (ws ++ B u) (cells + mc) (slots + ms)) : Wq X nL pc L stk ((h0, e0) :: ws) cells slots := by
  subst hN
  refine q_after (As := As) (fun H locs ls stk hl hstk hP hD => ?_) ok.2.2.2.2.2.2.1 hstk kk
  have hB := va_cnB (mc := mc) (ms := ms) (rm := rmQ f lo1 mc ms) (R := yR X) As.length ok.2.2.2.2.1 (good_ws hcode) rfl rfl rfl (ok.2.2.2.2.2.1.2.2 _ hlink) (ok.2.2.2.2.1 _ hi) hd ⟨Nat.le_trans hroom.1 ok.2.2.2.2.2.2.2.1.1, Nat.le_trans hroom.2 ok.2.2.2.2.2.2.2.1.2⟩
  exact va_runIN (As := As) ⟨ok.1, ok.2.1, ok.2.2.1, ok.2.2.2.1, ok.2.2.2.2.1⟩ (hM H.size) ⟨hB, hyn, ok.2.2.2.2.1 _ hm⟩ ⟨PreQ.blind, fun U hU hW => ⟨rfl, by rw [hU], by rw [hU]; exact hP.sub [0] rfl, (hD.sub [0] (by decide) rfl).weaken (fun _ _ _ _ => trivial), ok.2.2.2.2.2.1.warm hW⟩⟩ rfl rfl hl.1 hstk (lv_room hst) d ⟨Nat.le_trans hc ok.2.2.2.2.2.2.2.2.1, Nat.le_trans hs ok.2.2.2.2.2.2.2.2.2⟩
end QCalls
