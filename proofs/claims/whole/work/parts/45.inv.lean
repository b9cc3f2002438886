/-! what holds between the calls -/
def mg (S : St) (g : Nat → Int) : Vw := fun f k => match f with
  | 0 => (match k with
    | 0 => zz S 71 10
    | 1 => zz S 71 11
    | 2 => zz S 71 12
    | 3 => g 16
    | 4 => g 17
    | _ => g 27)
  | 1 => zz S 73 (3 * k)
  | 2 => zz S 73 (3 * k + 1)
  | 3 => g (18 + k)
  | 4 => zz S 74 (5 * k + 1)
  | 5 => zz S 74 (5 * k + 2)
  | 6 => zz S 74 (5 * k + 4)
  | 7 => g (4 * k)
  | 8 => g (4 * k + 1)
  | 9 => g (4 * k + 2)
  | _ => g (4 * k + 3)
theorem mz_mg (S : St) (a : Nat) : mz S a = mg S (zz S a) := by
  funext f k
  unfold mz mg
  rfl
def Ag (v w : Vw) : Prop := (∀ k : Nat, k < 6 → w 0 k = v 0 k) ∧ (∀ r : Nat, (r : Int) < v 0 1 → w 1 r = v 1 r ∧ w 2 r = v 2 r ∧ w 3 r = v 3 r) ∧ ∀ p : Nat, (p : Int) < v 0 2 → w 4 p = v 4 p ∧ w 5 p = v 5 p ∧ w 6 p = v 6 p ∧ w 7 p = v 7 p ∧ w 8 p = v 8 p ∧ w 9 p = v 9 p ∧ w 10 p = v 10 p
def Mb (v : Vw) : Prop := ∀ p : Nat, (p : Int) < v 0 2 → 0 ≤ v 10 p ∧ v 10 p ≤ 90999
def InvL (S : St) : Prop := Lb (cv S 0) ∧ Mb (cv S 0) ∧ Ag (cv S 0) (mz S 75)
def InvT (S : St) : Prop := zz S 71 2 = zz S 48 1 ∧ 0 ≤ zz S 48 1 ∧ zz S 48 1 ≤ 250 ∧ zz S 71 9 = zz S 48 2 ∧ ∀ k : Nat, (k : Int) < zz S 48 1 → zz S 72 k = zz S 49 k ∧ 0 ≤ zz S 49 k ∧ zz S 49 k ≤ 255
def InvK (S : St) : Prop := zz S 71 25 = zz S 63 0 ∧ 0 ≤ zz S 63 0 ∧ zz S 63 0 ≤ 20 ∧ ∀ i : Nat, (i : Int) < zz S 63 0 → (zz S 79 (5 * i) = zz S 64 i ∧ zz S 79 (5 * i + 1) = zz S 65 i ∧ zz S 79 (5 * i + 2) = zz S 66 i ∧ zz S 79 (5 * i + 3) = zz S 67 i ∧ zz S 79 (5 * i + 4) = zz S 68 i) ∧ 0 ≤ zz S 64 i ∧ zz S 64 i < zz S 0 2 ∧ 0 ≤ zz S 65 i ∧ zz S 65 i < zz S 0 1 ∧ 0 ≤ zz S 66 i ∧ zz S 66 i < zz S 0 0 ∧ 0 ≤ zz S 67 i ∧ zz S 67 i ≤ 999 ∧ 1 ≤ zz S 68 i ∧ zz S 68 i ≤ 999
def StepOk (S : St) (z : Int) : Prop := z = -2 ∨ (0 ≤ z ∧ z / 10 < zz S 0 1 ∧ z % 10 ≤ 5)
def InvB (S : St) : Prop := zz S 71 27 = zz S 69 0 ∧ 0 ≤ zz S 69 0 ∧ zz S 69 0 ≤ 30 ∧ ∀ i : Nat, (i : Int) < zz S 69 0 → zz S 80 i = zz S 70 i ∧ StepOk S (zz S 70 i)
def InvI (S : St) : Prop := ∀ i : Nat, i < 2 → zz S 78 i = zz S 46 i ∧ (zz S 46 i = 0 ∨ zz S 46 i = 1) ∧ (zz S 46 i = 1 → Lb (cv S (22 + 11 * i)) ∧ Mb (cv S (22 + 11 * i)) ∧ Ag (cv S (22 + 11 * i)) (mg S (fun j => zz S 77 (28 * i + j))))
def Inv (S : St) : Prop := InvL S ∧ InvT S ∧ InvK S ∧ InvB S ∧ InvI S
/-- the cells that count between the calls -/
def ps (c k : Nat) : Prop := c ≤ 10 ∨ (22 ≤ c ∧ c ≤ 43) ∨ c = 46 ∨ (c = 48 ∧ (k = 1 ∨ k = 2)) ∨ c = 49 ∨ (63 ≤ c ∧ c ≤ 70) ∨ (c = 71 ∧ (k = 2 ∨ k = 9 ∨ k = 10 ∨ k = 11 ∨ k = 12 ∨ k = 25 ∨ k = 27)) ∨ c = 72 ∨ (c = 73 ∧ k < 27) ∨ (c = 74 ∧ k < 20) ∨ c = 75 ∨ (77 ≤ c ∧ c ≤ 80)
def Sm (S T : St) : Prop := ∀ c k, ps c k → T c k = S c k
theorem Sm.rf (S : St) : Sm S S := fun _ _ _ => rfl
theorem Sm.trans {S T U : St} (h1 : Sm S T) (h2 : Sm T U) : Sm S U := fun c k h => (h2 c k h).trans (h1 c k h)
theorem Sm_zz {S T : St} (h : Sm S T) {c k : Nat} (hp : ps c k) : zz T c k = zz S c k := by unfold zz; rw [h c k hp]
theorem Hb_congr {v w : Vw} (h : ∀ k, k < 6 → w 0 k = v 0 k) (hv : Hb v) : Hb w := by
  unfold Hb at *
  rw [h 0 (by omega), h 1 (by omega), h 2 (by omega), h 3 (by omega), h 4 (by omega), h 5 (by omega)]
  exact hv
theorem Rb_congr {v w : Vw} {r : Nat} (h0 : w 0 0 = v 0 0) (h : w 1 r = v 1 r ∧ w 2 r = v 2 r ∧ w 3 r = v 3 r) (hv : Rb v r) : Rb w r := by
  unfold Rb at *
  rw [h0, h.1, h.2.1, h.2.2]
  exact hv
theorem Pb_congr {v w : Vw} {p : Nat} (h0 : w 0 0 = v 0 0) (h : w 4 p = v 4 p ∧ w 5 p = v 5 p ∧ w 6 p = v 6 p ∧ w 7 p = v 7 p ∧ w 8 p = v 8 p ∧ w 9 p = v 9 p) (hv : Pb v p) : Pb w p := by
  unfold Pb at *
  rw [h0, h.1, h.2.1, h.2.2.1, h.2.2.2.1, h.2.2.2.2.1, h.2.2.2.2.2]
  exact hv
theorem Ag_Lb {v w : Vw} (h : Ag v w) (hv : Lb v) : Lb w := by
  obtain ⟨h0, h1, h2⟩ := h
  obtain ⟨g0, g1, g2⟩ := hv
  refine ⟨Hb_congr h0 g0, fun r hr => ?_, fun p hp => ?_⟩
  · rw [h0 1 (by omega)] at hr
    exact Rb_congr (h0 0 (by omega)) (h1 r hr) (g1 r hr)
  · rw [h0 2 (by omega)] at hp
    obtain ⟨q1, q2, q3, q4, q5, q6, q7⟩ := h2 p hp
    exact Pb_congr (h0 0 (by omega)) ⟨q1, q2, q3, q4, q5, q6⟩ (g2 p hp)
theorem Ag_Mb {v w : Vw} (h : Ag v w) (hv : Mb v) : Mb w := by
  obtain ⟨h0, h1, h2⟩ := h
  intro p hp
  rw [h0 2 (by omega)] at hp
  rw [(h2 p hp).2.2.2.2.2.2]
  exact hv p hp
theorem Ag.symm {v w : Vw} (h : Ag v w) : Ag w v := by
  obtain ⟨h0, h1, h2⟩ := h
  refine ⟨fun k hk => (h0 k hk).symm, fun r hr => ?_, fun p hp => ?_⟩
  · rw [h0 1 (by omega)] at hr
    obtain ⟨q1, q2, q3⟩ := h1 r hr
    exact ⟨q1.symm, q2.symm, q3.symm⟩
  · rw [h0 2 (by omega)] at hp
    obtain ⟨q1, q2, q3, q4, q5, q6, q7⟩ := h2 p hp
    exact ⟨q1.symm, q2.symm, q3.symm, q4.symm, q5.symm, q6.symm, q7.symm⟩
theorem Ag.trans {u v w : Vw} (h : Ag u v) (h' : Ag v w) : Ag u w := by
  obtain ⟨h0, h1, h2⟩ := h
  obtain ⟨g0, g1, g2⟩ := h'
  refine ⟨fun k hk => (g0 k hk).trans (h0 k hk), fun r hr => ?_, fun p hp => ?_⟩
  · obtain ⟨q1, q2, q3⟩ := h1 r hr
    obtain ⟨p1, p2, p3⟩ := g1 r (by rw [h0 1 (by omega)]; exact hr)
    exact ⟨p1.trans q1, p2.trans q2, p3.trans q3⟩
  · obtain ⟨q1, q2, q3, q4, q5, q6, q7⟩ := h2 p hp
    obtain ⟨p1, p2, p3, p4, p5, p6, p7⟩ := g2 p (by rw [h0 2 (by omega)]; exact hp)
    exact ⟨p1.trans q1, p2.trans q2, p3.trans q3, p4.trans q4, p5.trans q5, p6.trans q6, p7.trans q7⟩
theorem Ag.of {v w : Vw} (h : ∀ f k : Nat, f ≤ 10 → (f = 0 → k < 6) → (f = 1 ∨ f = 2 ∨ f = 3 → (k : Int) < v 0 1) → (4 ≤ f → (k : Int) < v 0 2) → w f k = v f k) : Ag v w := by
  refine ⟨fun k hk => h 0 k (by omega) (by omega) (by omega) (by omega), fun r hr => ⟨?_, ?_, ?_⟩, fun p hp => ⟨?_, ?_, ?_, ?_, ?_, ?_, ?_⟩⟩
  · exact h 1 r (by omega) (by omega) (by omega) (by omega)
  · exact h 2 r (by omega) (by omega) (by omega) (by omega)
  · exact h 3 r (by omega) (by omega) (by omega) (by omega)
  · exact h 4 p (by omega) (by omega) (by omega) (by omega)
  · exact h 5 p (by omega) (by omega) (by omega) (by omega)
  · exact h 6 p (by omega) (by omega) (by omega) (by omega)
  · exact h 7 p (by omega) (by omega) (by omega) (by omega)
  · exact h 8 p (by omega) (by omega) (by omega) (by omega)
  · exact h 9 p (by omega) (by omega) (by omega) (by omega)
  · exact h 10 p (by omega) (by omega) (by omega) (by omega)
theorem mg_eq {S T : St} {g g' : Nat → Int} {f k : Nat} (h10 : zz T 71 10 = zz S 71 10) (h11 : zz T 71 11 = zz S 71 11) (h12 : zz T 71 12 = zz S 71 12) (h73 : ∀ j, j < 27 → zz T 73 j = zz S 73 j) (h74 : ∀ j, j < 20 → zz T 74 j = zz S 74 j) (hg : ∀ j, j < 28 → g' j = g j) (hf : f ≤ 10) (h0 : f = 0 → k < 6) (h1 : f = 1 ∨ f = 2 ∨ f = 3 → k < 9) (h2 : 4 ≤ f → k < 4) : mg T g' f k = mg S g f k := by
  rcases (show f = 0 ∨ f = 1 ∨ f = 2 ∨ f = 3 ∨ f = 4 ∨ f = 5 ∨ f = 6 ∨ f = 7 ∨ f = 8 ∨ f = 9 ∨ f = 10 by omega) with rfl | rfl | rfl | rfl | rfl | rfl | rfl | rfl | rfl | rfl | rfl
  · have hk := h0 rfl
    rcases (show k = 0 ∨ k = 1 ∨ k = 2 ∨ k = 3 ∨ k = 4 ∨ k = 5 by omega) with rfl | rfl | rfl | rfl | rfl | rfl
    · exact h10
    · exact h11
    · exact h12
    · exact hg 16 (by omega)
    · exact hg 17 (by omega)
    · exact hg 27 (by omega)
  · exact h73 _ (by omega)
  · exact h73 _ (by omega)
  · exact hg _ (by omega)
  · exact h74 _ (by omega)
  · exact h74 _ (by omega)
  · exact h74 _ (by omega)
  · exact hg _ (by omega)
  · exact hg _ (by omega)
  · exact hg _ (by omega)
  · exact hg _ (by omega)
theorem cv_Ag {S T : St} {o o2 : Nat} (hL : Lb (cv S o)) (h : ∀ f k : Nat, f ≤ 10 → (f = 0 → k < 6) → (f ≤ 3 → k < 9) → (4 ≤ f → k < 4) → T (o2 + f) k = S (o + f) k) : Ag (cv S o) (cv T o2) := by
  obtain ⟨⟨_, _, _, h3, _, h5, _⟩, _, _⟩ := hL
  refine Ag.of (fun f k hf h0 h1 h2 => ?_)
  show (T (o2 + f) k).toInt = (S (o + f) k).toInt
  rw [h f k hf h0 (fun q => ?_) (fun q => ?_)]
  · rcases (show f = 0 ∨ (f = 1 ∨ f = 2 ∨ f = 3) by omega) with q | q
    · have := h0 q; omega
    · have := h1 q; omega
  · have := h2 q; omega
theorem mg_Ag {S T : St} {g g' : Nat → Int} (hL : Lb (mg S g)) (h10 : zz T 71 10 = zz S 71 10) (h11 : zz T 71 11 = zz S 71 11) (h12 : zz T 71 12 = zz S 71 12) (h73 : ∀ j, j < 27 → zz T 73 j = zz S 73 j) (h74 : ∀ j, j < 20 → zz T 74 j = zz S 74 j) (hg : ∀ j, j < 28 → g' j = g j) : Ag (mg S g) (mg T g') := by
  obtain ⟨⟨_, _, _, h3, _, h5, _⟩, _, _⟩ := hL
  refine Ag.of (fun f k hf h0 h1 h2 => mg_eq h10 h11 h12 h73 h74 hg hf h0 (fun q => ?_) (fun q => ?_))
  · have := h1 q; omega
  · have := h2 q; omega
theorem Inv.sm {S T : St} (h : Inv S) (hs : Sm S T) : Inv T := by
  obtain ⟨⟨hL1, hL2, hL3⟩, ⟨hT1, hT2, hT3, hT4, hT5⟩, ⟨hK1, hK2, hK3, hK4⟩, ⟨hB1, hB2, hB3, hB4⟩, hI⟩ := h
  have e : ∀ c k, ps c k → zz T c k = zz S c k := fun c k hp => Sm_zz hs hp
  have aC : ∀ o, (o = 0 ∨ o = 22 ∨ o = 33) → Lb (cv S o) → Ag (cv S o) (cv T o) := fun o ho hl => cv_Ag hl (fun f k hf _ _ _ => hs _ _ (by unfold ps; omega))
  have e10 := e 71 10 (by unfold ps; omega)
  have e11 := e 71 11 (by unfold ps; omega)
  have e12 := e 71 12 (by unfold ps; omega)
  have e73 : ∀ j, j < 27 → zz T 73 j = zz S 73 j := fun j hj => e 73 j (by unfold ps; omega)
  have e74 : ∀ j, j < 20 → zz T 74 j = zz S 74 j := fun j hj => e 74 j (by unfold ps; omega)
  have a0 := aC 0 (Or.inl rfl) hL1
  have n0 : ∀ k, zz T 0 k = zz S 0 k := fun k => e 0 k (by unfold ps; omega)
  refine ⟨⟨Ag_Lb a0 hL1, Ag_Mb a0 hL2, ?_⟩, ⟨?_, ?_, ?_, ?_, ?_⟩, ⟨?_, ?_, ?_, ?_⟩, ⟨?_, ?_, ?_, ?_⟩, ?_⟩
  · rw [mz_mg] at hL3
    refine a0.symm.trans (hL3.trans ?_)
    rw [mz_mg]
    exact mg_Ag (Ag_Lb hL3 hL1) e10 e11 e12 e73 e74 (fun j _ => e 75 j (by unfold ps; omega))
  · rw [e 71 2 (by unfold ps; omega), e 48 1 (by unfold ps; omega)]; exact hT1
  · rw [e 48 1 (by unfold ps; omega)]; exact hT2
  · rw [e 48 1 (by unfold ps; omega)]; exact hT3
  · rw [e 71 9 (by unfold ps; omega), e 48 2 (by unfold ps; omega)]; exact hT4
  · intro k hk
    rw [e 48 1 (by unfold ps; omega)] at hk
    rw [e 72 k (by unfold ps; omega), e 49 k (by unfold ps; omega)]
    exact hT5 k hk
  · rw [e 71 25 (by unfold ps; omega), e 63 0 (by unfold ps; omega)]; exact hK1
  · rw [e 63 0 (by unfold ps; omega)]; exact hK2
  · rw [e 63 0 (by unfold ps; omega)]; exact hK3
  · intro i hi
    rw [e 63 0 (by unfold ps; omega)] at hi
    rw [e 79 _ (by unfold ps; omega), e 79 (5 * i + 1) (by unfold ps; omega), e 79 (5 * i + 2) (by unfold ps; omega), e 79 (5 * i + 3) (by unfold ps; omega), e 79 (5 * i + 4) (by unfold ps; omega), e 64 i (by unfold ps; omega), e 65 i (by unfold ps; omega), e 66 i (by unfold ps; omega), e 67 i (by unfold ps; omega), e 68 i (by unfold ps; omega), n0, n0, n0]
    exact hK4 i hi
  · rw [e 71 27 (by unfold ps; omega), e 69 0 (by unfold ps; omega)]; exact hB1
  · rw [e 69 0 (by unfold ps; omega)]; exact hB2
  · rw [e 69 0 (by unfold ps; omega)]; exact hB3
  · intro i hi
    rw [e 69 0 (by unfold ps; omega)] at hi
    unfold StepOk
    rw [e 80 i (by unfold ps; omega), e 70 i (by unfold ps; omega), n0]
    exact hB4 i hi
  · intro i hi
    obtain ⟨h1, h2, h3⟩ := hI i hi
    rw [e 78 i (by unfold ps; omega), e 46 i (by unfold ps; omega)]
    refine ⟨h1, h2, fun q => ?_⟩
    obtain ⟨g1, g2, g3⟩ := h3 q
    have a1 := aC (22 + 11 * i) (by omega) g1
    refine ⟨Ag_Lb a1 g1, Ag_Mb a1 g2, a1.symm.trans (g3.trans (mg_Ag (Ag_Lb g3 g1) e10 e11 e12 e73 e74 (fun j hj => e 77 _ (by unfold ps; omega))))⟩
