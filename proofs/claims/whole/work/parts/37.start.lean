/-! THE CLAIM OUT OF ONE WALK OF THE LAW'S BODY. Your part is whole_start (and what it stands on); all else here is the same for every law, but numbers. -/
def R_law : String := "HasteRoadsLaw"
def lw_P (b : Addr) (xs : List Int32) (args : Array Value) (s : State) : Prop := args = #[.ref b] ∧ s.IntsAt b xs ∧ xs.length ≤ 384 ∧ (Jvm.Cond.and given_1 narrow_1).before args s = true
def lw_Q (_ : Array Value) (s : State) (o : Outcome) (t : State) : Prop := o = .returned (some (.int 1)) ∧ Framed s o t [] 92 8561
def lw_Z (below : List Frame) (a : Array Value) (s : State) : State → Prop := fun t => ∃ o, t.status = .running ∧ Ended t below o ∧ lw_Q a s o t
/-- the law's own end, with 1 on the stack, nothing written that was there before, its room as the claim has it -/
theorem lw_ret {p : Program} {l : Launch} {e : Env} {s : State} {m : MethodId} {below : List Frame} {meth : Method} {c : Code} {b : Nat} (hx : p.tables.exec = Jvm.exec) (hb : c.code = code) (hr : meth.sig.returnType = ret) (hlocks : meth.locks = false) {pc : Nat} {H : Heap} {ls : Array Slot} (hdg : decode code pc = .ok (.ireturn, 1)) : W p l e room_1 s m #[Value.ref b] below meth c H [] 92 8561 (lw_Z below #[Value.ref b] s) (F0 m pc ls [.int 1]) := by
  intro T hT X
  obtain ⟨fs, hret, hrun, hended, hW, hframe⟩ := X.leave (v := some (.int 1)) (hlocks := hlocks) (fun h => by rw [hr] at h; cases h)
  have hmeth' : T.vm.method? m = some meth := X.method'
  refine ⟨T.setFrames fs, ?_, .returned (some (.int 1)), hrun, hended, rfl, ⟨_, rfl⟩, hW, hframe⟩
  jvm_step X.here [X.here.top, hx, hb, hdg, hmeth', hr, ret, narrow_b1]
  (try refine ⟨rfl, ?_⟩); (try refine ⟨rfl, ?_⟩)
  first | (intro acts; rw [hret _ acts rfl rfl rfl]) | rw [hret _ _ rfl rfl rfl]
  exact Steps.refl _
/-- what holds at the law's entry: the machine, the code, the tables' words (any of lw_tbl by 'hts w (by decide +kernel)'), the script of L ints xs at the cell b, what the Statement gives of the start (any of its parts by flat_of_before) -/
def lw_At (p : Program) (s : State) (m : MethodId) (meth : Method) (c : Code) (b L : Nat) (xs : Nat → Int32) : Prop :=
  p.tables.exec = Jvm.exec ∧ c.code = code ∧ meth.sig.returnType = ret ∧ c.maxLocals = 4 ∧ s.vm.findClass R_law = some m.cls ∧ (∀ w ∈ lw_tbl, w.before #[Value.ref b] s = true) ∧ va_X b L xs s s.heap ∧ b < s.heap.size ∧ meth.locks = false ∧ (Jvm.Cond.and given_1 narrow_1).before #[Value.ref b] s = true

theorem law_nest {s : State} {b : Nat} (hts : ∀ w ∈ lw_tbl, w.before #[Value.ref b] s = true) : (va_AO RX6 s ∧ ∀ w ∈ nestC, va_Nw w s) ∧ va_Nw nestO s ∧ va_Nw nestB s := by
  refine ⟨⟨va_AO.of (hts (.arrayOver (.object RX6)) (List.mem_of_getElem? (i := 195) (by decide +kernel))), ?_⟩, va_Nw.of rfl (hts nestO (List.mem_of_getElem? (i := 406) (by decide +kernel))), va_Nw.of rfl (hts nestB (List.mem_of_getElem? (i := 407) (by decide +kernel)))⟩
  intro w hw
  simp only [nestC, List.mem_cons, List.not_mem_nil, or_false] at hw
  rcases hw with rfl | rfl | rfl | rfl | rfl
  · exact va_Nw.of (w := .methodLinkNest RX7 11 yX6_init RX7) rfl (hts _ (List.mem_of_getElem? (i := 94) (by decide +kernel)))
  · exact va_Nw.of (w := .methodLinkNest RX7 29 yX5_init RX7) rfl (hts _ (List.mem_of_getElem? (i := 198) (by decide +kernel)))
  · exact va_Nw.of (w := .methodLinkNest RX7 54 yX1_init RX7) rfl (hts _ (List.mem_of_getElem? (i := 270) (by decide +kernel)))
  · exact va_Nw.of (w := .methodLinkNest RX7 61 yX2_init RX7) rfl (hts _ (List.mem_of_getElem? (i := 286) (by decide +kernel)))
  · exact va_Nw.of (w := .methodLinkNest RX7 68 yX0_init RX7) rfl (hts _ (List.mem_of_getElem? (i := 312) (by decide +kernel)))
theorem law_classes {s : State} {b : Nat} (hg : ∀ w ∈ gtbl, w.before #[Value.ref b] s = true) : ∃ (D : va_G) (cI cZ : ClassId), va_K D vwCl (tysB (cI, cZ)) s := by
  obtain ⟨c0, i0, hKn0⟩ := u_known (C := RX0) (T := TX0) (N := 2) (n := 2) hg i_X0 (hg _ vx_ins0)
  obtain ⟨c1, i1, hKn1⟩ := u_known (C := RX1) (T := TX1) (N := 3) (n := 3) hg i_X1 (hg _ vx_ins1)
  obtain ⟨c2, i2, hKn2⟩ := u_known (C := RX2) (T := TX2) (N := 6) (n := 6) hg i_X2 (hg _ vx_ins2)
  obtain ⟨c3, i3, hKn3⟩ := u_known (C := RX3) (T := TX3) (N := 5) (n := 5) hg i_X3 (hg _ vx_ins3)
  obtain ⟨c4, i4, hKn4⟩ := u_known (C := RX4) (T := TX4) (N := 5) (n := 5) hg i_X4 (hg _ vx_ins4)
  obtain ⟨c5, i5, hKn5⟩ := u_known (C := RX5) (T := TX5) (N := 6) (n := 6) hg i_X5 (hg _ vx_ins5)
  obtain ⟨c6, i6, hKn6⟩ := u_known (C := RX6) (T := TX6) (N := 16) (n := 16) hg i_X6 (hg _ vx_ins6)
  obtain ⟨c7, i7, hKn7⟩ := u_known (C := RX7) (T := TX7) (N := 11) (n := 11) hg i_X7 (hg _ vx_ins7)
  obtain ⟨c8, i8, hKn8⟩ := u_known (C := RX8) (T := TX8) (N := 39) (n := 39) hg i_X8 (hg _ vx_ins8)
  obtain ⟨cI, kI, compI, f1, f2, f3⟩ := Cond.arrayClass_spec (hg _ ux_aI)
  obtain ⟨cZ, kZ, compZ, g1, g2, g3⟩ := Cond.arrayClass_spec (hg _ ux_aZ)
  refine ⟨(fun k => [c0, c1, c2, c3, c4, c5, c6, c7, c8].getD k 0, fun k => [i0, i1, i2, i3, i4, i5, i6, i7, i8].getD k (fun _ => 0)), cI, cZ, ?_, ?_⟩
  · intro k x hx
    have hk : k < 9 := (List.getElem?_eq_some_iff.mp hx).1
    rcases (show k = 0 ∨ k = 1 ∨ k = 2 ∨ k = 3 ∨ k = 4 ∨ k = 5 ∨ k = 6 ∨ k = 7 ∨ k = 8 by omega) with rfl | rfl | rfl | rfl | rfl | rfl | rfl | rfl | rfl <;> cases hx
    · exact hKn0
    · exact hKn1
    · exact hKn2
    · exact hKn3
    · exact hKn4
    · exact hKn5
    · exact hKn6
    · exact hKn7
    · exact hKn8
  · intro k x hx
    have hk : k < 2 := (List.getElem?_eq_some_iff.mp hx).1
    rcases (show k = 0 ∨ k = 1 by omega) with rfl | rfl <;> cases hx
    · exact ⟨fun _ _ => ⟨fun k h => (by cases h), kI, f2, compI, f3⟩, f1⟩
    · exact ⟨fun _ _ => ⟨fun k h => (by cases h), kZ, g2, compZ, g3⟩, g1⟩
set_option maxRecDepth 20000 in
set_option maxHeartbeats 4000000 in
theorem law_start {p : Program} {e : Env} {s : State} {m : MethodId} {below : List Frame} {meth : Method} {c : Code} (l : Launch) {b L : Nat} {xs : Nat → Int32} (C0 : lw_At p s m meth c b L xs) (hpure : B_L_law_18 (fun v _ => v = 1) L xs 0 S0) : W p l e room_1 s m #[Value.ref b] below meth c s.heap [] 0 0 (lw_Z below #[Value.ref b] s) (entryFrame m ([Value.ref b] : List Value).toArray 4) := by
  obtain ⟨hx, hb, hr, hml, hown, hts, hX, hbl, hlocks, hgv⟩ := id C0
  have hg : ∀ w ∈ gtbl, w.before #[Value.ref b] s = true := fun w hw => hts w (List.mem_filter.mp hw).1
  obtain ⟨D, cI, cZ, hK⟩ := law_classes hg
  obtain ⟨hN1, hN2, hN3⟩ := law_nest hts
  have hA : ∀ q : Nat, s.heap.size ≤ q → (fun q : Nat => s.heap.size ≤ q) q := fun _ h => h
  have hl := lv_entry ([.ref b]) (n := 4) (Nat.le_of_ble_eq_true rfl)
  rw [lg_entry_eq]
  generalize hXe : ((p, l, e, room_1, s, m, #[Value.ref b], below, meth, c, D, (cI, cZ), (fun q : Nat => s.heap.size ≤ q), lw_Z below #[Value.ref b] s) : Qx) = X
  have ok : Okq X cL_law 4 RL 10 404 92 8561 := by
    subst hXe
    exact ⟨hx, hb, hml, hown, hg, ⟨hK, hN1⟩, hA, ⟨(by decide : 10 ≤ room_1.frames), (by decide : 404 ≤ room_1.locals)⟩, (by decide : 92 ≤ room_1.cells), (by decide : 8561 ≤ room_1.slots)⟩
  have key : Wq X 4 0 [(0, .ref b)] [] [] 0 0 := by
    refine q_new (ci := 7) (C := RX7) (T := TX7) (fs := [.null, .null, .null, .null, .null, .null, .null, .null, .null, .null, .null]) ok i_X7 tyX7 tyX7_ok vx_cl7 vx_ins7 vx_in7 rfl dfl_X7 (by decide) (by decide) dL_law_0 (fun q => ?_)
    refine q_dup ok dL_law_3 rfl ?_
    refine q_callI (As := []) (n := 1) (f := 2) (lo1 := 46) (mc := 70) (ms := 3119) (N := 0) (B := bX7 (ycy X) q) (T := fun u => [(u.2, .object RX6)]) ok vx_in7 vx_im7 vx_co7 vx_ml7 (by decide +kernel) rfl rfl ⟨by decide, by decide⟩ (Nat.le_of_ble_eq_true rfl) (by decide) (by decide) dL_law_4 rfl (fun sz0 => cX7_ctor (yl X) (yD X) (ycy X) q sz0) (fun u hKW => ?_)
    refine q_astore_n ok dL_law_7 (by decide) [(0, .ref b), (1, .ref q)] [1, 0] rfl ?_
    refine q_new (ci := 8) (C := RX8) (T := TX8) (fs := [.int 0, .null, .int 0, .int 0, .int 0, .int 0, .int 0, .int 0, .int 0, .int 0, .int 0, .int 0, .int 0, .null, .null, .int 0, .int 0, .int 0, .int 0, .int 0, .null, .null, .null, .null, .null, .int 0, .null, .int 0, .null, .null, .null, .null, .null, .null, .null, .null, .null, .null, .null]) ok i_X8 tyX8 tyX8_ok vx_cl8 vx_ins8 vx_in8 rfl dfl_X8 (by decide) (by decide) dL_law_8 (fun q2 => ?_)
    refine q_dup ok dL_law_11 rfl ?_
    refine q_callI (As := []) (n := 1) (f := 1) (lo1 := 24) (mc := 20) (ms := 5392) (N := 0) (B := bX8 (ycy X) q2) (T := fun _ => []) ok vx_in8 vx_im8 vx_co8 vx_ml8 (by decide +kernel) rfl rfl ⟨by decide, by decide⟩ (Nat.le_of_ble_eq_true rfl) (by decide) (by decide) dL_law_12 rfl (fun sz0 => cX8_ctor (yl X) (yD X) (ycy X) q2 sz0) (fun u2 _ => ?_)
    refine q_astore_n ok dL_law_15 (by decide) [(0, .ref b), (1, .ref q), (2, .ref q2)] [1, 2, 0] rfl ?_
    refine q_iconst (v := 0) ok dL_law_16 rfl ?_
    refine q_istore_n ok dL_law_17 (by decide) [(0, .ref b), (1, .ref q), (2, .ref q2), (3, .int 0)] [1, 2, 3, 0] rfl ?_
    subst hXe
    intro H locs ls hl1 hP hD hS
    have hP : va_P D vwCl (wlS cI cZ q q2 u u2) H := hP
    have hD : va_D (fun q : Nat => s.heap.size ≤ q) (wlS cI cZ q q2 u u2) := hD
    have hge : ∀ c, c < 92 → s.heap.size ≤ adL q q2 u u2 c := fun c hc => by
      obtain ⟨e0, h0⟩ := wlS_ad (cI := cI) (cZ := cZ) (q := q) (q2 := q2) (u := u) (u2 := u2) c hc
      exact hD.2 c _ h0
    have hinj : Inj (adL q q2 u u2) := fun i j hi hj e0 => by
      obtain ⟨e1, h1⟩ := wlS_ad (cI := cI) (cZ := cZ) (q := q) (q2 := q2) (u := u) (u2 := u2) i hi
      obtain ⟨e2, h2⟩ := wlS_ad (cI := cI) (cZ := cZ) (q := q) (q2 := q2) (u := u) (u2 := u2) j hj
      exact hD.1 i j _ _ h1 h2 e0
    have hKt : Kt (D, (cI, cZ, u.2), adL q q2 u u2) s := ⟨hK.app hKW, hN2, hN3⟩
    refine va_forget (fun x hx => hS.2.2 x hx) ?_
    have okL : Ok (p, l, e, room_1, s, m, #[Value.ref b], below, meth, c, (D, (cI, cZ, u.2), adL q q2 u u2), (92, 8561), lw_Z below #[Value.ref b] s) cL_law 4 RL 8 199 := ⟨hx, hb, hml, hown, hg, hKt, hinj, ⟨(by decide : 8 ≤ room_1.frames), (by decide : 199 ≤ room_1.locals)⟩, (by decide : 92 ≤ room_1.cells), (by decide : 8561 ≤ room_1.slots)⟩
    have hret : RetZ (p, l, e, room_1, s, m, #[Value.ref b], below, meth, c, (D, (cI, cZ, u.2), adL q q2 u u2), (92, 8561), lw_Z below #[Value.ref b] s) cL_law 4 (fun v _ => v = 1) := by
      intro pc L v S d _ hv H locs ls _ _ hS
      have hv : v = 1 := hv
      subst hv
      refine va_forget (fun x hx => ?_) (lw_ret hx hb hr hlocks d)
      obtain ⟨c0, hc0, e0⟩ := hS.2.2 x hx
      rw [e0]
      exact hge c0 hc0
    have hLw : LwX (p, l, e, room_1, s, m, #[Value.ref b], below, meth, c, (D, (cI, cZ, u.2), adL q q2 u u2), (92, 8561), lw_Z below #[Value.ref b] s) b L xs := by
      refine ⟨hX, hbl, ?_⟩
      rintro ⟨c0, hc0, e0⟩
      have h3 := hge c0 hc0
      have e1 : b = adL q q2 u u2 c0 := e0
      omega
    exact w_B_L_law_18 okL hret hLw hpure H [] ls hl1 (wlS_P hP) ⟨hS.1, fun x h1 _ => hS.2.1 x h1 (Nat.not_le.mpr h1), fun _ h => nomatch h⟩
  subst hXe
  exact key s.heap [] _ hl (fun k x h => by simp at h) ⟨fun i j p q h => by simp at h, fun k x h => by simp at h⟩ va_S.rf
