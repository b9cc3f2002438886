/-! changes of the land that is so -/
theorem Inv_of {S T : St} (h : Inv S) (hL : InvL T) (hn : zz T 0 0 = zz S 0 0 ∧ zz T 0 1 = zz S 0 1 ∧ zz T 0 2 = zz S 0 2) (hs : ∀ c k, ps c k → ¬ c ≤ 10 → c ≠ 75 → T c k = S c k) : Inv T := by
  obtain ⟨_, ⟨hT1, hT2, hT3, hT4, hT5⟩, ⟨hK1, hK2, hK3, hK4⟩, ⟨hB1, hB2, hB3, hB4⟩, hI⟩ := h
  have e : ∀ c k, ps c k → ¬ c ≤ 10 → c ≠ 75 → zz T c k = zz S c k := fun c k hp h1 h2 => by unfold zz; rw [hs c k hp h1 h2]
  have aC : ∀ o, (o = 22 ∨ o = 33) → Lb (cv S o) → Ag (cv S o) (cv T o) := fun o ho hl => cv_Ag hl (fun f k hf _ _ _ => hs _ _ (by unfold ps; omega) (by omega) (by omega))
  have e10 := e 71 10 (by unfold ps; omega) (by omega) (by omega)
  have e11 := e 71 11 (by unfold ps; omega) (by omega) (by omega)
  have e12 := e 71 12 (by unfold ps; omega) (by omega) (by omega)
  have e73 : ∀ j, j < 27 → zz T 73 j = zz S 73 j := fun j hj => e 73 j (by unfold ps; omega) (by omega) (by omega)
  have e74 : ∀ j, j < 20 → zz T 74 j = zz S 74 j := fun j hj => e 74 j (by unfold ps; omega) (by omega) (by omega)
  refine ⟨hL, ⟨?_, ?_, ?_, ?_, ?_⟩, ⟨?_, ?_, ?_, ?_⟩, ⟨?_, ?_, ?_, ?_⟩, ?_⟩
  · rw [e 71 2 (by unfold ps; omega) (by omega) (by omega), e 48 1 (by unfold ps; omega) (by omega) (by omega)]; exact hT1
  · rw [e 48 1 (by unfold ps; omega) (by omega) (by omega)]; exact hT2
  · rw [e 48 1 (by unfold ps; omega) (by omega) (by omega)]; exact hT3
  · rw [e 71 9 (by unfold ps; omega) (by omega) (by omega), e 48 2 (by unfold ps; omega) (by omega) (by omega)]; exact hT4
  · intro k hk
    rw [e 48 1 (by unfold ps; omega) (by omega) (by omega)] at hk
    rw [e 72 k (by unfold ps; omega) (by omega) (by omega), e 49 k (by unfold ps; omega) (by omega) (by omega)]
    exact hT5 k hk
  · rw [e 71 25 (by unfold ps; omega) (by omega) (by omega), e 63 0 (by unfold ps; omega) (by omega) (by omega)]; exact hK1
  · rw [e 63 0 (by unfold ps; omega) (by omega) (by omega)]; exact hK2
  · rw [e 63 0 (by unfold ps; omega) (by omega) (by omega)]; exact hK3
  · intro i hi
    rw [e 63 0 (by unfold ps; omega) (by omega) (by omega)] at hi
    rw [e 79 _ (by unfold ps; omega) (by omega) (by omega), e 79 (5 * i + 1) (by unfold ps; omega) (by omega) (by omega), e 79 (5 * i + 2) (by unfold ps; omega) (by omega) (by omega), e 79 (5 * i + 3) (by unfold ps; omega) (by omega) (by omega), e 79 (5 * i + 4) (by unfold ps; omega) (by omega) (by omega), e 64 i (by unfold ps; omega) (by omega) (by omega), e 65 i (by unfold ps; omega) (by omega) (by omega), e 66 i (by unfold ps; omega) (by omega) (by omega), e 67 i (by unfold ps; omega) (by omega) (by omega), e 68 i (by unfold ps; omega) (by omega) (by omega), hn.1, hn.2.1, hn.2.2]
    exact hK4 i hi
  · rw [e 71 27 (by unfold ps; omega) (by omega) (by omega), e 69 0 (by unfold ps; omega) (by omega) (by omega)]; exact hB1
  · rw [e 69 0 (by unfold ps; omega) (by omega) (by omega)]; exact hB2
  · rw [e 69 0 (by unfold ps; omega) (by omega) (by omega)]; exact hB3
  · intro i hi
    rw [e 69 0 (by unfold ps; omega) (by omega) (by omega)] at hi
    unfold StepOk
    rw [e 80 i (by unfold ps; omega) (by omega) (by omega), e 70 i (by unfold ps; omega) (by omega) (by omega), hn.2.1]
    exact hB4 i hi
  · intro i hi
    obtain ⟨h1, h2, h3⟩ := hI i hi
    rw [e 78 i (by unfold ps; omega) (by omega) (by omega), e 46 i (by unfold ps; omega) (by omega) (by omega)]
    refine ⟨h1, h2, fun q => ?_⟩
    obtain ⟨g1, g2, g3⟩ := h3 q
    have a1 := aC (22 + 11 * i) (by omega) g1
    refine ⟨Ag_Lb a1 g1, Ag_Mb a1 g2, a1.symm.trans (g3.trans (mg_Ag (Ag_Lb g3 g1) e10 e11 e12 e73 e74 (fun j hj => e 77 _ (by unfold ps; omega) (by omega) (by omega))))⟩
theorem InvL_p {S T : St} {p : Nat} (h : Inv S) (hp : (p : Int) < zz S 0 2) (hs : ∀ c k, c ≤ 10 ∨ c = 75 ∨ (c = 71 ∧ (k = 10 ∨ k = 11 ∨ k = 12)) ∨ (c = 73 ∧ k < 27) ∨ (c = 74 ∧ k < 20) → ¬ (k = p ∧ 7 ≤ c ∧ c ≤ 10) → ¬ (c = 75 ∧ 4 * p ≤ k ∧ k ≤ 4 * p + 3) → T c k = S c k) (e0 : T 75 (4 * p) = T 7 p) (e1 : T 75 (4 * p + 1) = T 8 p) (e2 : T 75 (4 * p + 2) = T 9 p) (e3 : T 75 (4 * p + 3) = T 10 p) (b0 : 0 ≤ zz T 7 p ∧ zz T 7 p < zz S 0 0) (b1 : 0 ≤ zz T 8 p ∧ zz T 8 p ≤ 5) (b2 : 0 ≤ zz T 9 p ∧ zz T 9 p ≤ 9) (b3 : 0 ≤ zz T 10 p ∧ zz T 10 p ≤ 90999) : InvL T := by
  obtain ⟨⟨hL, hM, hA⟩, _⟩ := id h
  have e : ∀ c k, c ≤ 10 ∨ c = 75 ∨ (c = 71 ∧ (k = 10 ∨ k = 11 ∨ k = 12)) ∨ (c = 73 ∧ k < 27) ∨ (c = 74 ∧ k < 20) → ¬ (k = p ∧ 7 ≤ c ∧ c ≤ 10) → ¬ (c = 75 ∧ 4 * p ≤ k ∧ k ≤ 4 * p + 3) → zz T c k = zz S c k := fun c k q1 q2 q3 => by unfold zz; rw [hs c k q1 q2 q3]
  have eh : ∀ k, cv T 0 0 k = cv S 0 0 k := fun k => e _ _ (by omega) (by omega) (by omega)
  have hP4 : zz S 0 2 ≤ 4 := hL.1.2.2.2.2.2.1
  have hR9 : zz S 0 1 ≤ 9 := hL.1.2.2.2.1
  have er : ∀ r f, 1 ≤ f → f ≤ 3 → cv T 0 f r = cv S 0 f r := fun r f h1 h2 => e _ _ (by omega) (by omega) (by omega)
  have eq : ∀ q f, q ≠ p → 4 ≤ f → f ≤ 10 → cv T 0 f q = cv S 0 f q := fun q f hq h1 h2 => e _ _ (by omega) (by omega) (by omega)
  have ep : ∀ f, 4 ≤ f → f ≤ 6 → cv T 0 f p = cv S 0 f p := fun f h1 h2 => e _ _ (by omega) (by omega) (by omega)
  refine ⟨⟨Hb_congr (fun k _ => eh k) hL.1, fun r hr => ?_, fun q hq => ?_⟩, fun q hq => ?_, ?_, fun r hr => ?_, fun q hq => ?_⟩
  · rw [eh 1] at hr
    exact Rb_congr (eh 0) ⟨er r 1 (by omega) (by omega), er r 2 (by omega) (by omega), er r 3 (by omega) (by omega)⟩ (hL.2.1 r hr)
  · rw [eh 2] at hq
    by_cases hqp : q = p
    · subst hqp
      obtain ⟨q1, q2, q3, q4, q5, q6, _⟩ := hL.2.2 q hq
      unfold Pb
      rw [eh 0, ep 4 (by omega) (by omega), ep 5 (by omega) (by omega), ep 6 (by omega) (by omega)]
      have g7 : cv T 0 7 q = zz T 7 q := by unfold cv; rw [Nat.zero_add]
      have g8 : cv T 0 8 q = zz T 8 q := by unfold cv; rw [Nat.zero_add]
      have g9 : cv T 0 9 q = zz T 9 q := by unfold cv; rw [Nat.zero_add]
      rw [g7, g8, g9]
      exact ⟨q1, q2, q3, q4, q5, q6, b0.1, b0.2, b1.1, b1.2, b2.1, b2.2⟩
    · exact Pb_congr (eh 0) ⟨eq q 4 hqp (by omega) (by omega), eq q 5 hqp (by omega) (by omega), eq q 6 hqp (by omega) (by omega), eq q 7 hqp (by omega) (by omega), eq q 8 hqp (by omega) (by omega), eq q 9 hqp (by omega) (by omega)⟩ (hL.2.2 q hq)
  · rw [eh 2] at hq
    by_cases hqp : q = p
    · subst hqp
      have g10 : cv T 0 10 q = zz T 10 q := by unfold cv; rw [Nat.zero_add]
      rw [g10]; exact b3
    · rw [eq q 10 hqp (by omega) (by omega)]; exact hM q hq
  · intro k hk
    rw [eh k, ← hA.1 k hk]
    rcases (show k = 0 ∨ k = 1 ∨ k = 2 ∨ k = 3 ∨ k = 4 ∨ k = 5 by omega) with rfl | rfl | rfl | rfl | rfl | rfl
    · exact e 71 10 (by omega) (by omega) (by omega)
    · exact e 71 11 (by omega) (by omega) (by omega)
    · exact e 71 12 (by omega) (by omega) (by omega)
    · exact e 75 16 (by omega) (by omega) (by omega)
    · exact e 75 17 (by omega) (by omega) (by omega)
    · exact e 75 27 (by omega) (by omega) (by omega)
  · rw [eh 1] at hr
    have hr' : (r : Int) < zz S 0 1 := hr
    obtain ⟨q1, q2, q3⟩ := hA.2.1 r hr
    rw [er r 1 (by omega) (by omega), er r 2 (by omega) (by omega), er r 3 (by omega) (by omega), ← q1, ← q2, ← q3]
    exact ⟨e 73 (3 * r) (by omega) (by omega) (by omega), e 73 (3 * r + 1) (by omega) (by omega) (by omega), e 75 (18 + r) (by omega) (by omega) (by omega)⟩
  · rw [eh 2] at hq
    have hq' : (q : Int) < zz S 0 2 := hq
    obtain ⟨q1, q2, q3, q4, q5, q6, q7⟩ := hA.2.2 q hq
    have m4 : mz T 75 4 q = mz S 75 4 q := e 74 (5 * q + 1) (by omega) (by omega) (by omega)
    have m5 : mz T 75 5 q = mz S 75 5 q := e 74 (5 * q + 2) (by omega) (by omega) (by omega)
    have m6 : mz T 75 6 q = mz S 75 6 q := e 74 (5 * q + 4) (by omega) (by omega) (by omega)
    by_cases hqp : q = p
    · subst hqp
      rw [m4, m5, m6, ep 4 (by omega) (by omega), ep 5 (by omega) (by omega), ep 6 (by omega) (by omega)]
      have g7 : cv T 0 7 q = zz T 7 q := by unfold cv; rw [Nat.zero_add]
      have g8 : cv T 0 8 q = zz T 8 q := by unfold cv; rw [Nat.zero_add]
      have g9 : cv T 0 9 q = zz T 9 q := by unfold cv; rw [Nat.zero_add]
      have g10 : cv T 0 10 q = zz T 10 q := by unfold cv; rw [Nat.zero_add]
      rw [g7, g8, g9, g10]
      refine ⟨q1, q2, q3, ?_, ?_, ?_, ?_⟩
      · show zz T 75 (4 * q) = _
        unfold zz; rw [e0]
      · show zz T 75 (4 * q + 1) = _
        unfold zz; rw [e1]
      · show zz T 75 (4 * q + 2) = _
        unfold zz; rw [e2]
      · show zz T 75 (4 * q + 3) = _
        unfold zz; rw [e3]
    · rw [m4, m5, m6, eq q 4 hqp (by omega) (by omega), eq q 5 hqp (by omega) (by omega), eq q 6 hqp (by omega) (by omega), eq q 7 hqp (by omega) (by omega), eq q 8 hqp (by omega) (by omega), eq q 9 hqp (by omega) (by omega), eq q 10 hqp (by omega) (by omega), ← q4, ← q5, ← q6, ← q7]
      exact ⟨q1, q2, q3, e 75 (4 * q) (by omega) (by omega) (by omega), e 75 (4 * q + 1) (by omega) (by omega) (by omega), e 75 (4 * q + 2) (by omega) (by omega) (by omega), e 75 (4 * q + 3) (by omega) (by omega) (by omega)⟩
theorem Inv_p {S T : St} {p : Nat} (h : Inv S) (hp : (p : Int) < zz S 0 2) (hs : ∀ c k, ps c k → ¬ (k = p ∧ 7 ≤ c ∧ c ≤ 10) → ¬ (c = 75 ∧ 4 * p ≤ k ∧ k ≤ 4 * p + 3) → T c k = S c k) (e0 : T 75 (4 * p) = T 7 p) (e1 : T 75 (4 * p + 1) = T 8 p) (e2 : T 75 (4 * p + 2) = T 9 p) (e3 : T 75 (4 * p + 3) = T 10 p) (b0 : 0 ≤ zz T 7 p ∧ zz T 7 p < zz S 0 0) (b1 : 0 ≤ zz T 8 p ∧ zz T 8 p ≤ 5) (b2 : 0 ≤ zz T 9 p ∧ zz T 9 p ≤ 9) (b3 : 0 ≤ zz T 10 p ∧ zz T 10 p ≤ 90999) : Inv T := by
  refine Inv_of h (InvL_p h hp (fun c k q1 q2 q3 => hs c k (by unfold ps; omega) q2 q3) e0 e1 e2 e3 b0 b1 b2 b3) ?_ (fun c k q1 q2 q3 => hs c k q1 (by omega) (by omega))
  unfold zz
  rw [hs 0 0 (by unfold ps; omega) (by omega) (by omega), hs 0 1 (by unfold ps; omega) (by omega) (by omega), hs 0 2 (by unfold ps; omega) (by omega) (by omega)]
  exact ⟨rfl, rfl, rfl⟩
theorem Inv_r {S T : St} {r : Nat} (h : Inv S) (hr : (r : Int) < zz S 0 1) (hs : ∀ c k, ps c k → ¬ (c = 3 ∧ k = r) → ¬ (c = 75 ∧ k = 18 + r) → T c k = S c k) (e0 : T 75 (18 + r) = T 3 r) (b0 : 1 ≤ zz T 3 r ∧ zz T 3 r ≤ 20) : Inv T := by
  obtain ⟨⟨hL, hM, hA⟩, _⟩ := id h
  have hP4 : zz S 0 2 ≤ 4 := hL.1.2.2.2.2.2.1
  have hR9 : zz S 0 1 ≤ 9 := hL.1.2.2.2.1
  have e : ∀ c k, ps c k → ¬ (c = 3 ∧ k = r) → ¬ (c = 75 ∧ k = 18 + r) → zz T c k = zz S c k := fun c k q1 q2 q3 => by unfold zz; rw [hs c k q1 q2 q3]
  have eh : ∀ k, cv T 0 0 k = cv S 0 0 k := fun k => e _ _ (by unfold ps; omega) (by omega) (by omega)
  have er : ∀ r' f, 1 ≤ f → f ≤ 2 → cv T 0 f r' = cv S 0 f r' := fun r' f h1 h2 => e _ _ (by unfold ps; omega) (by omega) (by omega)
  have er3 : ∀ r', r' ≠ r → cv T 0 3 r' = cv S 0 3 r' := fun r' h1 => e _ _ (by unfold ps; omega) (by omega) (by omega)
  have ep : ∀ p f, 4 ≤ f → f ≤ 10 → cv T 0 f p = cv S 0 f p := fun p f h1 h2 => e _ _ (by unfold ps; omega) (by omega) (by omega)
  have g3 : cv T 0 3 r = zz T 3 r := by unfold cv; rw [Nat.zero_add]
  refine Inv_of h ⟨⟨Hb_congr (fun k _ => eh k) hL.1, fun r' hr' => ?_, fun q hq => ?_⟩, fun q hq => ?_, ?_, fun r' hr' => ?_, fun q hq => ?_⟩ ⟨eh 0, eh 1, eh 2⟩ (fun c k q1 q2 q3 => hs c k q1 (by omega) (by omega))
  · rw [eh 1] at hr'
    by_cases hrr : r' = r
    · subst hrr
      obtain ⟨q1, q2, q3, q4, q5, _, _⟩ := hL.2.1 r' hr'
      unfold Rb
      rw [eh 0, er r' 1 (by omega) (by omega), er r' 2 (by omega) (by omega), g3]
      exact ⟨q1, q2, q3, q4, q5, b0.1, b0.2⟩
    · exact Rb_congr (eh 0) ⟨er r' 1 (by omega) (by omega), er r' 2 (by omega) (by omega), er3 r' hrr⟩ (hL.2.1 r' hr')
  · rw [eh 2] at hq
    exact Pb_congr (eh 0) ⟨ep q 4 (by omega) (by omega), ep q 5 (by omega) (by omega), ep q 6 (by omega) (by omega), ep q 7 (by omega) (by omega), ep q 8 (by omega) (by omega), ep q 9 (by omega) (by omega)⟩ (hL.2.2 q hq)
  · rw [eh 2] at hq
    rw [ep q 10 (by omega) (by omega)]; exact hM q hq
  · intro k hk
    rw [eh k, ← hA.1 k hk]
    rcases (show k = 0 ∨ k = 1 ∨ k = 2 ∨ k = 3 ∨ k = 4 ∨ k = 5 by omega) with rfl | rfl | rfl | rfl | rfl | rfl
    · exact e 71 10 (by unfold ps; omega) (by omega) (by omega)
    · exact e 71 11 (by unfold ps; omega) (by omega) (by omega)
    · exact e 71 12 (by unfold ps; omega) (by omega) (by omega)
    · exact e 75 16 (by unfold ps; omega) (by omega) (by omega)
    · exact e 75 17 (by unfold ps; omega) (by omega) (by omega)
    · exact e 75 27 (by unfold ps; omega) (by omega) (by omega)
  · rw [eh 1] at hr'
    have hr2 : (r' : Int) < zz S 0 1 := hr'
    obtain ⟨q1, q2, q3⟩ := hA.2.1 r' hr'
    rw [er r' 1 (by omega) (by omega), er r' 2 (by omega) (by omega), ← q1, ← q2]
    refine ⟨e 73 (3 * r') (by unfold ps; omega) (by omega) (by omega), e 73 (3 * r' + 1) (by unfold ps; omega) (by omega) (by omega), ?_⟩
    by_cases hrr : r' = r
    · subst hrr
      rw [g3]
      show zz T 75 (18 + r') = _
      unfold zz; rw [e0]
    · rw [er3 r' hrr, ← q3]
      exact e 75 (18 + r') (by unfold ps; omega) (by omega) (by omega)
  · rw [eh 2] at hq
    have hq' : (q : Int) < zz S 0 2 := hq
    obtain ⟨q1, q2, q3, q4, q5, q6, q7⟩ := hA.2.2 q hq
    rw [ep q 4 (by omega) (by omega), ep q 5 (by omega) (by omega), ep q 6 (by omega) (by omega), ep q 7 (by omega) (by omega), ep q 8 (by omega) (by omega), ep q 9 (by omega) (by omega), ep q 10 (by omega) (by omega), ← q1, ← q2, ← q3, ← q4, ← q5, ← q6, ← q7]
    exact ⟨e 74 (5 * q + 1) (by unfold ps; omega) (by omega) (by omega), e 74 (5 * q + 2) (by unfold ps; omega) (by omega) (by omega), e 74 (5 * q + 4) (by unfold ps; omega) (by omega) (by omega), e 75 (4 * q) (by unfold ps; omega) (by omega) (by omega), e 75 (4 * q + 1) (by unfold ps; omega) (by omega) (by omega), e 75 (4 * q + 2) (by unfold ps; omega) (by omega) (by omega), e 75 (4 * q + 3) (by unfold ps; omega) (by omega) (by omega)⟩
theorem Inv_h {S T : St} {k0 j0 : Nat} (h : Inv S) (hk : (k0 = 3 ∧ j0 = 16) ∨ (k0 = 4 ∧ j0 = 17) ∨ (k0 = 5 ∧ j0 = 27)) (hs : ∀ c k, ps c k → ¬ (c = 0 ∧ k = k0) → ¬ (c = 75 ∧ k = j0) → T c k = S c k) (e0 : T 75 j0 = T 0 k0) (b0 : 0 ≤ zz T 0 k0 ∧ (k0 < 5 → zz T 0 k0 < 64)) : Inv T := by
  obtain ⟨⟨hL, hM, hA⟩, _⟩ := id h
  have hP4 : zz S 0 2 ≤ 4 := hL.1.2.2.2.2.2.1
  have hR9 : zz S 0 1 ≤ 9 := hL.1.2.2.2.1
  have e : ∀ c k, ps c k → ¬ (c = 0 ∧ k = k0) → ¬ (c = 75 ∧ k = j0) → zz T c k = zz S c k := fun c k q1 q2 q3 => by unfold zz; rw [hs c k q1 q2 q3]
  have eh : ∀ k, k ≠ k0 → cv T 0 0 k = cv S 0 0 k := fun k hk => e _ _ (by unfold ps; omega) (by omega) (by omega)
  have er : ∀ r' f, 1 ≤ f → f ≤ 10 → cv T 0 f r' = cv S 0 f r' := fun r' f h1 h2 => e _ _ (by unfold ps; omega) (by omega) (by omega)
  have g0 : cv T 0 0 k0 = zz T 0 k0 := rfl
  have hHT : Hb (cv T 0) := by
    obtain ⟨q1, q2, q3, q4, q5, q6, q7, q8, q9, q10, q11, q12⟩ := hL.1
    have t5 : zz T 0 k0 < 2147483648 := zz_hi T 0 k0
    unfold Hb
    rw [eh 0 (by omega), eh 1 (by omega), eh 2 (by omega)]
    rcases hk with ⟨rfl, rfl⟩ | ⟨rfl, rfl⟩ | ⟨rfl, rfl⟩
    · rw [eh 4 (by omega), eh 5 (by omega), g0]
      exact ⟨q1, q2, q3, q4, q5, q6, b0.1, b0.2 (by omega), q9, q10, q11, q12⟩
    · rw [eh 3 (by omega), eh 5 (by omega), g0]
      exact ⟨q1, q2, q3, q4, q5, q6, q7, q8, b0.1, b0.2 (by omega), q11, q12⟩
    · rw [eh 3 (by omega), eh 4 (by omega), g0]
      exact ⟨q1, q2, q3, q4, q5, q6, q7, q8, q9, q10, b0.1, t5⟩
  refine Inv_of h ⟨⟨hHT, fun r' hr' => ?_, fun q hq => ?_⟩, fun q hq => ?_, ?_, fun r' hr' => ?_, fun q hq => ?_⟩ ⟨eh 0 (by omega), eh 1 (by omega), eh 2 (by omega)⟩ (fun c k q1 q2 q3 => hs c k q1 (by omega) (by omega))
  · rw [eh 1 (by omega)] at hr'
    exact Rb_congr (eh 0 (by omega)) ⟨er r' 1 (by omega) (by omega), er r' 2 (by omega) (by omega), er r' 3 (by omega) (by omega)⟩ (hL.2.1 r' hr')
  · rw [eh 2 (by omega)] at hq
    exact Pb_congr (eh 0 (by omega)) ⟨er q 4 (by omega) (by omega), er q 5 (by omega) (by omega), er q 6 (by omega) (by omega), er q 7 (by omega) (by omega), er q 8 (by omega) (by omega), er q 9 (by omega) (by omega)⟩ (hL.2.2 q hq)
  · rw [eh 2 (by omega)] at hq
    rw [er q 10 (by omega) (by omega)]; exact hM q hq
  · intro k hk'
    by_cases hkk : k = k0
    · subst hkk
      have z0 : zz T 75 j0 = zz T 0 k := by unfold zz; rw [e0]
      rw [g0, ← z0]
      rcases hk with ⟨rfl, rfl⟩ | ⟨rfl, rfl⟩ | ⟨rfl, rfl⟩ <;> rfl
    · rw [eh k hkk, ← hA.1 k hk']
      rcases (show k = 0 ∨ k = 1 ∨ k = 2 ∨ k = 3 ∨ k = 4 ∨ k = 5 by omega) with rfl | rfl | rfl | rfl | rfl | rfl
      · exact e 71 10 (by unfold ps; omega) (by omega) (by omega)
      · exact e 71 11 (by unfold ps; omega) (by omega) (by omega)
      · exact e 71 12 (by unfold ps; omega) (by omega) (by omega)
      · exact e 75 16 (by unfold ps; omega) (by omega) (by omega)
      · exact e 75 17 (by unfold ps; omega) (by omega) (by omega)
      · exact e 75 27 (by unfold ps; omega) (by omega) (by omega)
  · rw [eh 1 (by omega)] at hr'
    have hr2 : (r' : Int) < zz S 0 1 := hr'
    obtain ⟨q1, q2, q3⟩ := hA.2.1 r' hr'
    rw [er r' 1 (by omega) (by omega), er r' 2 (by omega) (by omega), er r' 3 (by omega) (by omega), ← q1, ← q2, ← q3]
    exact ⟨e 73 (3 * r') (by unfold ps; omega) (by omega) (by omega), e 73 (3 * r' + 1) (by unfold ps; omega) (by omega) (by omega), e 75 (18 + r') (by unfold ps; omega) (by omega) (by omega)⟩
  · rw [eh 2 (by omega)] at hq
    have hq' : (q : Int) < zz S 0 2 := hq
    obtain ⟨q1, q2, q3, q4, q5, q6, q7⟩ := hA.2.2 q hq
    rw [er q 4 (by omega) (by omega), er q 5 (by omega) (by omega), er q 6 (by omega) (by omega), er q 7 (by omega) (by omega), er q 8 (by omega) (by omega), er q 9 (by omega) (by omega), er q 10 (by omega) (by omega), ← q1, ← q2, ← q3, ← q4, ← q5, ← q6, ← q7]
    exact ⟨e 74 (5 * q + 1) (by unfold ps; omega) (by omega) (by omega), e 74 (5 * q + 2) (by unfold ps; omega) (by omega) (by omega), e 74 (5 * q + 4) (by unfold ps; omega) (by omega) (by omega), e 75 (4 * q) (by unfold ps; omega) (by omega) (by omega), e 75 (4 * q + 1) (by unfold ps; omega) (by omega) (by omega), e 75 (4 * q + 2) (by unfold ps; omega) (by omega) (by omega), e 75 (4 * q + 3) (by unfold ps; omega) (by omega) (by omega)⟩
