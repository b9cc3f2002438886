/-! meet: the call -/
theorem now_view {S U : St} (hI : Inv S) (h76 : ∀ k, k < 28 → U 76 k = S 75 k) (hU : ∀ c k, c = 71 ∧ k ≠ 0 ∨ c = 73 ∨ c = 74 → U c k = S c k) : Ag (cv S 0) (mz U 76) := by
  have hL75 : Lb (mz S 75) := Ag_Lb hI.1.2.2 hI.1.1
  refine hI.1.2.2.trans ?_
  have z : ∀ c k, c = 71 ∧ k ≠ 0 ∨ c = 73 ∨ c = 74 → zz U c k = zz S c k := fun c k h => by unfold zz; rw [hU c k h]
  rw [mz_mg] at hL75 ⊢
  rw [mz_mg]
  exact mg_Ag hL75 (z _ _ (by omega)) (z _ _ (by omega)) (z _ _ (by omega)) (fun j _ => z _ _ (by omega)) (fun j _ => z _ _ (by omega)) (fun j hj => by unfold zz; rw [h76 j hj])
theorem s_X8_soonNow {S U : St} {q : Nat} {b : Int} {post : Int32 → St → Prop} (hI : Inv S) (hq : (q : Int) < zz S 0 2) (hU : Ag (cv S 0) (mz U 76)) (hb : 0 ≤ b ∧ b < 6) (h : ∀ T x, (∀ c k, c ≠ 81 → c ≠ 82 → T c k = U c k) → 0 ≤ x → x ≤ 100000000 → Soon (cv S 0) q (zz S 7 q) (zz S 8 q) (zz S 10 q) b x → post (iI x) T) : wp_X8_soonestOf (iI q) (iI b) U post := by
  obtain ⟨q4, qb, qm, qt, _⟩ := hI.pers hq
  have hq2 : (q : Int) < cv S 0 0 2 := hq
  obtain ⟨_, _, _, w7, w8, _, w10⟩ := hU.2.2 q hq2
  have w7 : zz U 76 (4 * q) = zz S 7 q := w7.trans (by unfold cv; rw [Nat.zero_add])
  have w8 : zz U 76 (4 * q + 1) = zz S 8 q := w8.trans (by unfold cv; rw [Nat.zero_add])
  have w10 : zz U 76 (4 * q + 3) = zz S 10 q := w10.trans (by unfold cv; rw [Nat.zero_add])
  refine s_X8_soonestOf hI.1.1 hq2 hU.sv ((Ag_Lb hU hI.1.1).2.2 q (by rw [hU.1 2 (by omega)]; exact hq2)) (by rw [w10]; omega) hb ?_
  rw [w7, w8, w10]
  exact h
theorem s_X4_exploreNow {S T : St} {p : Nat} {g : Int} {post : St → Prop} (hI : Inv S) (hp : (p : Int) < zz S 0 2) (hA : Ag (cv S 0) (cv T 11)) (hg : -1 ≤ g ∧ g < 6) (h : ∀ T2 Z m, (∀ c k, c ≠ 51 → c ≠ 53 → c ≠ 54 → T2 c k = T c k) → Fn 1 (cv S 0) p ly0 0 (zz S 7 p) (zz S 8 p) (zz S 10 p) 0 g (zz S 10 p) m T2 Z → zz T2 51 (6 * (zz S 7 p).toNat + (zz S 8 p).toNat) ≤ zz S 10 p → post T2) : wp_X4_explore (iI p) 0 (iI g) T post := by
  obtain ⟨p4, pb, pm, pt, _⟩ := hI.pers hp
  obtain ⟨_, _, _, _, _, _, g1, g2, g3, g4, _⟩ := id pb
  have hp2 : (p : Int) < cv S 0 0 2 := hp
  obtain ⟨_, _, _, w7, w8, _, w10⟩ := hA.2.2 p hp2
  have w7 : zz T 18 p = zz S 7 p := w7.trans (by unfold cv; rw [Nat.zero_add])
  have w8 : zz T 19 p = zz S 8 p := w8.trans (by unfold cv; rw [Nat.zero_add])
  have w10 : zz T 21 p = zz S 10 p := w10.trans (by unfold cv; rw [Nat.zero_add])
  simp only [cv, Nat.zero_add] at g1 g2 g3 g4
  exact s_X4_explore hI.1.1 hp2 hA.sv ((Ag_Lb hA hI.1.1).2.2 p (by rw [hA.1 2 (by omega)]; exact hp2)) w7 w8 w10 ⟨g1, g2⟩ ⟨g3, g4⟩ (by omega) hg h
theorem mt_b {A B : Nat → Int} {n : Nat} (hA : Cn n A) (hB : Cn n B) : ∀ d i bp bm, i + d = n → -1 ≤ bp → bp < 6 → 0 ≤ bm → bm ≤ 100000000 → (-1 ≤ (mtF A B d i bp bm).1 ∧ (mtF A B d i bp bm).1 < 6) ∧ 0 ≤ (mtF A B d i bp bm).2 ∧ (mtF A B d i bp bm).2 ≤ 100000000 := by
  intro d
  induction d with
  | zero => intro i bp bm _ h1 h2 h3 h4; exact ⟨⟨h1, h2⟩, h3, h4⟩
  | succ d ih =>
    intro i bp bm hi h1 h2 h3 h4
    have a := hA.2 i (by omega)
    have b := hB.2 i (by omega)
    have := hA.1
    obtain ⟨m, hm⟩ : ∃ m : Int, m = (if A i ≤ B i then B i else A i) := ⟨_, rfl⟩
    have hmb : 0 ≤ m ∧ m ≤ 100000000 := by rw [hm]; split <;> omega
    unfold mtF
    rw [← hm]
    by_cases hle : bm ≤ m
    · rw [if_pos hle]
      exact ih (i + 1) bp bm (by omega) h1 h2 h3 h4
    · rw [if_neg hle]
      exact ih (i + 1) i m (by omega) (by omega) (by omega) hmb.1 hmb.2
