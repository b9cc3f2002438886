/-! the world: 92 cells; a state gives each int of each cell -/
abbrev St : Type := Nat → Nat → Int32
def up (S : St) (c k : Nat) (v : Int32) : St := fun c' k' => if c' = c ∧ k' = k then v else S c' k'
def cpS (S : St) (a d n : Nat) : St := fun c' k' => if c' = d ∧ k' < n then S a k' else S c' k'
abbrev ix (i : Int32) : Nat := i.toNatClampNeg
def kindL : List Nat := [9, 0, 0, 0, 0, 0, 0, 0, 0, 0, 0, 9, 0, 0, 0, 0, 0, 0, 0, 0, 0, 0, 9, 0, 0, 0, 0, 0, 0, 0, 0, 0, 0, 9, 0, 0, 0, 0, 0, 0, 0, 0, 0, 0, 10, 2, 1, 0, 8, 0, 7, 0, 0, 1, 0, 6, 0, 0, 1, 4, 0, 0, 0, 5, 0, 0, 0, 0, 0, 3, 0, 11, 0, 0, 0, 0, 0, 0, 1, 0, 0, 0, 1, 0, 1, 0, 0, 0, 1, 0, 0, 0]
def sizL : List Nat := [16, 9, 9, 9, 4, 4, 4, 4, 4, 4, 4, 16, 9, 9, 9, 4, 4, 4, 4, 4, 4, 4, 16, 9, 9, 9, 4, 4, 4, 4, 4, 4, 4, 16, 9, 9, 9, 4, 4, 4, 4, 4, 4, 4, 11, 2, 2, 6, 6, 250, 5, 2304, 36, 36, 6, 5, 6, 6, 6, 3, 6, 6, 6, 6, 20, 20, 20, 20, 20, 2, 30, 39, 250, 54, 40, 28, 28, 56, 2, 100, 30, 36, 36, 2304, 2304, 28, 6, 6, 6, 6, 36, 36]
def rfL : List (List Nat) := [[0, 0, 0, 0, 0, 0, 2, 3, 4, 5, 6, 7, 8, 9, 10, 11], [], [], [], [], [], [], [], [], [], [], [0, 0, 0, 0, 0, 0, 13, 14, 15, 16, 17, 18, 19, 20, 21, 22], [], [], [], [], [], [], [], [], [], [], [0, 0, 0, 0, 0, 0, 24, 25, 26, 27, 28, 29, 30, 31, 32, 33], [], [], [], [], [], [], [], [], [], [], [0, 0, 0, 0, 0, 0, 35, 36, 37, 38, 39, 40, 41, 42, 43, 44], [], [], [], [], [], [], [], [], [], [], [1, 12, 46, 47, 49, 51, 56, 60, 64, 70, 48], [], [], [], [50, 0, 0, 0, 0, 0], [], [12, 52, 53, 54, 55], [], [], [], [], [12, 51, 57, 58, 59], [], [], [], [61, 62, 63], [], [], [], [0, 65, 66, 67, 68, 69], [], [], [], [], [], [0, 71], [], [0, 73, 0, 0, 0, 0, 0, 0, 0, 0, 0, 0, 0, 74, 75, 0, 0, 0, 0, 0, 76, 77, 78, 79, 80, 0, 81, 0, 82, 83, 84, 85, 86, 87, 88, 89, 90, 91, 92], [], [], [], [], [], [], [], [], [], [], [], [], [], [], [], [], [], [], [], []]
def kd (c : Nat) : Nat := kindL.getD c 0
def sz (c : Nat) : Nat := sizL.getD c 0
def rfo (c k : Nat) : Nat := (rfL.getD c []).getD k 0
def fvl (ad : Nat → Nat) (S : St) (c k : Nat) : Value := match rfo c k with
  | 0 => .int (S c k)
  | d + 1 => .ref (ad d)
abbrev Cy : Type := ClassId × ClassId × ClassId
def ent (cy : Cy) (ad : Nat → Nat) (S : St) (c : Nat) : va_E := match kd c with
  | 0 => .inl (cy.1, sz c, .inl (S c))
  | 1 => .inl (cy.2.1, sz c, .inl (S c))
  | 2 => .inl (cy.2.2, sz c, .inr (.inr (.inr (.inr (fun i => some (ad (22 + 11 * i)))))))
  | n + 3 => .inr (n, (List.range (sz c)).map (fvl ad S c))
def wl (cy : Cy) (ad : Nat → Nat) (S : St) : va_W := (List.range 92).map (fun c => (ad c, ent cy ad S c))
theorem wl_at (cy : Cy) (ad : Nat → Nat) (S : St) {c : Nat} (h : c < 92) : (wl cy ad S)[c]? = some (ad c, ent cy ad S c) := by
  simp [wl, h]
theorem wl_set {cy : Cy} {ad : Nat → Nat} {S S' : St} {c : Nat} {e : va_E} (h : c < 92) (hc : ent cy ad S' c = e) (ho : ∀ c', c' ≠ c → ent cy ad S' c' = ent cy ad S c') : (wl cy ad S).set c (ad c, e) = wl cy ad S' := by
  subst hc
  apply List.ext_getElem?
  intro i
  by_cases hi : i = c
  · subst hi
    rw [List.getElem?_set_self (by simpa [wl] using h), wl_at cy ad S' h]
  · rw [List.getElem?_set_ne (fun q => hi q.symm)]
    by_cases h2 : i < 92
    · rw [wl_at cy ad S h2, wl_at cy ad S' h2, ho i hi]
    · simp [wl, h2]
theorem ent_up_ne {cy : Cy} {ad : Nat → Nat} {S : St} {c k : Nat} {v : Int32} : ∀ c', c' ≠ c → ent cy ad (up S c k v) c' = ent cy ad S c' := by
  intro c' h
  have e : up S c k v c' = S c' := by funext k'; simp [up, h]
  have e2 : fvl ad (up S c k v) c' = fvl ad S c' := by funext k'; simp [fvl, e]
  simp only [ent, e, e2]
theorem ent_cp_ne {cy : Cy} {ad : Nat → Nat} {S : St} {a d n : Nat} : ∀ c', c' ≠ d → ent cy ad (cpS S a d n) c' = ent cy ad S c' := by
  intro c' h
  have e : cpS S a d n c' = S c' := by funext k'; simp [cpS, h]
  have e2 : fvl ad (cpS S a d n) c' = fvl ad S c' := by funext k'; simp [fvl, e]
  simp only [ent, e, e2]
theorem ent_obj {cy : Cy} {ad : Nat → Nat} {S : St} {c ci N : Nat} (hk : kd c = ci + 3) (hz : sz c = N) : ent cy ad S c = .inr (ci, (List.range N).map (fvl ad S c)) := by
  simp only [ent, hk, hz]
theorem ent_int {cy : Cy} {ad : Nat → Nat} {S : St} {c N : Nat} (hk : kd c = 0) (hz : sz c = N) : ent cy ad S c = .inl (cy.1, N, .inl (S c)) := by
  simp only [ent, hk, hz]
theorem ent_boo {cy : Cy} {ad : Nat → Nat} {S : St} {c N : Nat} (hk : kd c = 1) (hz : sz c = N) : ent cy ad S c = .inl (cy.2.1, N, .inl (S c)) := by
  simp only [ent, hk, hz]
theorem ent_ref {cy : Cy} {ad : Nat → Nat} {S : St} {c N : Nat} (hk : kd c = 2) (hz : sz c = N) : ent cy ad S c = .inl (cy.2.2, N, .inr (.inr (.inr (.inr (fun i => some (ad (22 + 11 * i))))))) := by
  simp only [ent, hk, hz]
theorem map_range_set {α : Type} {N k : Nat} {f g : Nat → α} {v : α} (hk : g k = v) (ho : ∀ j, j ≠ k → g j = f j) : ((List.range N).map f).set k v = (List.range N).map g := by
  subst hk
  apply List.ext_getElem?
  intro i
  by_cases hi : i = k
  · subst hi
    by_cases h : i < N
    · rw [List.getElem?_set_self (by simpa using h)]; simp [h]
    · simp [h]
  · rw [List.getElem?_set_ne (fun q => hi q.symm)]
    by_cases h : i < N
    · simp [h, ho i hi]
    · simp [h]
theorem up_row {S : St} {c k : Nat} {v : Int32} : up S c k v c = upd (S c) k v := by
  funext j
  simp [up, upd]
theorem fvl_int {ad : Nat → Nat} {S : St} {c k : Nat} (h : rfo c k = 0) : fvl ad S c k = .int (S c k) := by simp [fvl, h]
theorem fvl_ref {ad : Nat → Nat} {S : St} {c k d : Nat} (h : rfo c k = d + 1) : fvl ad S c k = .ref (ad d) := by simp [fvl, h]
/-! cells by kind -/
def AI (c n : Nat) : Prop := c < 92 ∧ kd c = 0 ∧ sz c = n
def AZ (c n : Nat) : Prop := c < 92 ∧ kd c = 1 ∧ sz c = n
def Ob (c ci N : Nat) : Prop := c < 92 ∧ kd c = ci + 3 ∧ sz c = N
def isW (o : Nat) : Prop := o = 0 ∨ o = 11 ∨ o = 22 ∨ o = 33
theorem isW.ob {o : Nat} (h : isW o) : Ob o 6 16 := by rcases h with rfl | rfl | rfl | rfl <;> exact ⟨by decide, by decide, by decide⟩
theorem isW.a9 {o : Nat} (h : isW o) (j : Nat) (hj : j < 3) : AI (o + (j + 1)) 9 := by
  rcases h with rfl | rfl | rfl | rfl <;> (match j, hj with
    | 0, _ => exact ⟨by decide, by decide, by decide⟩
    | 1, _ => exact ⟨by decide, by decide, by decide⟩
    | 2, _ => exact ⟨by decide, by decide, by decide⟩)
theorem isW.a4 {o : Nat} (h : isW o) (j : Nat) (hj : j < 7) : AI (o + (j + 4)) 4 := by
  rcases h with rfl | rfl | rfl | rfl <;> (match j, hj with
    | 0, _ => exact ⟨by decide, by decide, by decide⟩
    | 1, _ => exact ⟨by decide, by decide, by decide⟩
    | 2, _ => exact ⟨by decide, by decide, by decide⟩
    | 3, _ => exact ⟨by decide, by decide, by decide⟩
    | 4, _ => exact ⟨by decide, by decide, by decide⟩
    | 5, _ => exact ⟨by decide, by decide, by decide⟩
    | 6, _ => exact ⟨by decide, by decide, by decide⟩)
theorem isW.ri {o : Nat} (h : isW o) (k : Nat) (hk : k < 6) : rfo o k = 0 := by
  rcases h with rfl | rfl | rfl | rfl <;> (match k, hk with
    | 0, _ => decide
    | 1, _ => decide
    | 2, _ => decide
    | 3, _ => decide
    | 4, _ => decide
    | 5, _ => decide)
theorem isW.rr {o : Nat} (h : isW o) (j : Nat) (hj : j < 10) : rfo o (j + 6) = o + (j + 1) + 1 := by
  rcases h with rfl | rfl | rfl | rfl <;> (match j, hj with
    | 0, _ => decide
    | 1, _ => decide
    | 2, _ => decide
    | 3, _ => decide
    | 4, _ => decide
    | 5, _ => decide
    | 6, _ => decide
    | 7, _ => decide
    | 8, _ => decide
    | 9, _ => decide)
theorem isW.r0 (i : Nat) (h : i < 2) : isW (22 + 11 * i) := by
  match i, h with
  | 0, _ => exact Or.inr (Or.inr (Or.inl rfl))
  | 1, _ => exact Or.inr (Or.inr (Or.inr rfl))
theorem in_lit {i : Int32} {n : Nat} (h : decide (i < 0 ∨ n ≤ ix i) = false) : vp_in i n := of_decide_eq_false h
theorem vp_in_lt {i : Int32} {n : Nat} (h : vp_in i n) : ix i < n := Nat.lt_of_not_le fun q => h (Or.inr q)
theorem isW_0 : isW 0 := Or.inl rfl
theorem isW_11 : isW 11 := Or.inr (Or.inl rfl)
theorem isW_22 : isW 22 := Or.inr (Or.inr (Or.inl rfl))
theorem isW_33 : isW 33 := Or.inr (Or.inr (Or.inr rfl))
theorem ob_0 : Ob 0 6 16 := ⟨by decide, by decide, by decide⟩
theorem ai_1 : AI 1 9 := ⟨by decide, by decide, by decide⟩
theorem ai_2 : AI 2 9 := ⟨by decide, by decide, by decide⟩
theorem ai_3 : AI 3 9 := ⟨by decide, by decide, by decide⟩
theorem ai_4 : AI 4 4 := ⟨by decide, by decide, by decide⟩
theorem ai_5 : AI 5 4 := ⟨by decide, by decide, by decide⟩
theorem ai_6 : AI 6 4 := ⟨by decide, by decide, by decide⟩
theorem ai_7 : AI 7 4 := ⟨by decide, by decide, by decide⟩
theorem ai_8 : AI 8 4 := ⟨by decide, by decide, by decide⟩
theorem ai_9 : AI 9 4 := ⟨by decide, by decide, by decide⟩
theorem ai_10 : AI 10 4 := ⟨by decide, by decide, by decide⟩
theorem ob_11 : Ob 11 6 16 := ⟨by decide, by decide, by decide⟩
theorem ai_12 : AI 12 9 := ⟨by decide, by decide, by decide⟩
theorem ai_13 : AI 13 9 := ⟨by decide, by decide, by decide⟩
theorem ai_14 : AI 14 9 := ⟨by decide, by decide, by decide⟩
theorem ai_15 : AI 15 4 := ⟨by decide, by decide, by decide⟩
theorem ai_16 : AI 16 4 := ⟨by decide, by decide, by decide⟩
theorem ai_17 : AI 17 4 := ⟨by decide, by decide, by decide⟩
theorem ai_18 : AI 18 4 := ⟨by decide, by decide, by decide⟩
theorem ai_19 : AI 19 4 := ⟨by decide, by decide, by decide⟩
theorem ai_20 : AI 20 4 := ⟨by decide, by decide, by decide⟩
theorem ai_21 : AI 21 4 := ⟨by decide, by decide, by decide⟩
theorem ob_22 : Ob 22 6 16 := ⟨by decide, by decide, by decide⟩
theorem ai_23 : AI 23 9 := ⟨by decide, by decide, by decide⟩
theorem ai_24 : AI 24 9 := ⟨by decide, by decide, by decide⟩
theorem ai_25 : AI 25 9 := ⟨by decide, by decide, by decide⟩
theorem ai_26 : AI 26 4 := ⟨by decide, by decide, by decide⟩
theorem ai_27 : AI 27 4 := ⟨by decide, by decide, by decide⟩
theorem ai_28 : AI 28 4 := ⟨by decide, by decide, by decide⟩
theorem ai_29 : AI 29 4 := ⟨by decide, by decide, by decide⟩
theorem ai_30 : AI 30 4 := ⟨by decide, by decide, by decide⟩
theorem ai_31 : AI 31 4 := ⟨by decide, by decide, by decide⟩
theorem ai_32 : AI 32 4 := ⟨by decide, by decide, by decide⟩
theorem ob_33 : Ob 33 6 16 := ⟨by decide, by decide, by decide⟩
theorem ai_34 : AI 34 9 := ⟨by decide, by decide, by decide⟩
theorem ai_35 : AI 35 9 := ⟨by decide, by decide, by decide⟩
theorem ai_36 : AI 36 9 := ⟨by decide, by decide, by decide⟩
theorem ai_37 : AI 37 4 := ⟨by decide, by decide, by decide⟩
theorem ai_38 : AI 38 4 := ⟨by decide, by decide, by decide⟩
theorem ai_39 : AI 39 4 := ⟨by decide, by decide, by decide⟩
theorem ai_40 : AI 40 4 := ⟨by decide, by decide, by decide⟩
theorem ai_41 : AI 41 4 := ⟨by decide, by decide, by decide⟩
theorem ai_42 : AI 42 4 := ⟨by decide, by decide, by decide⟩
theorem ai_43 : AI 43 4 := ⟨by decide, by decide, by decide⟩
theorem ob_44 : Ob 44 7 11 := ⟨by decide, by decide, by decide⟩
theorem aw_45 : 45 < 92 ∧ kd 45 = 2 ∧ sz 45 = 2 := ⟨by decide, by decide, by decide⟩
theorem az_46 : AZ 46 2 := ⟨by decide, by decide, by decide⟩
theorem ai_47 : AI 47 6 := ⟨by decide, by decide, by decide⟩
theorem ob_48 : Ob 48 5 6 := ⟨by decide, by decide, by decide⟩
theorem ai_49 : AI 49 250 := ⟨by decide, by decide, by decide⟩
theorem ob_50 : Ob 50 4 5 := ⟨by decide, by decide, by decide⟩
theorem ai_51 : AI 51 2304 := ⟨by decide, by decide, by decide⟩
theorem ai_52 : AI 52 36 := ⟨by decide, by decide, by decide⟩
theorem az_53 : AZ 53 36 := ⟨by decide, by decide, by decide⟩
theorem ai_54 : AI 54 6 := ⟨by decide, by decide, by decide⟩
theorem ob_55 : Ob 55 3 5 := ⟨by decide, by decide, by decide⟩
theorem ai_56 : AI 56 6 := ⟨by decide, by decide, by decide⟩
theorem ai_57 : AI 57 6 := ⟨by decide, by decide, by decide⟩
theorem az_58 : AZ 58 6 := ⟨by decide, by decide, by decide⟩
theorem ob_59 : Ob 59 1 3 := ⟨by decide, by decide, by decide⟩
theorem ai_60 : AI 60 6 := ⟨by decide, by decide, by decide⟩
theorem ai_61 : AI 61 6 := ⟨by decide, by decide, by decide⟩
theorem ai_62 : AI 62 6 := ⟨by decide, by decide, by decide⟩
theorem ob_63 : Ob 63 2 6 := ⟨by decide, by decide, by decide⟩
theorem ai_64 : AI 64 20 := ⟨by decide, by decide, by decide⟩
theorem ai_65 : AI 65 20 := ⟨by decide, by decide, by decide⟩
theorem ai_66 : AI 66 20 := ⟨by decide, by decide, by decide⟩
theorem ai_67 : AI 67 20 := ⟨by decide, by decide, by decide⟩
theorem ai_68 : AI 68 20 := ⟨by decide, by decide, by decide⟩
theorem ob_69 : Ob 69 0 2 := ⟨by decide, by decide, by decide⟩
theorem ai_70 : AI 70 30 := ⟨by decide, by decide, by decide⟩
theorem ob_71 : Ob 71 8 39 := ⟨by decide, by decide, by decide⟩
theorem ai_72 : AI 72 250 := ⟨by decide, by decide, by decide⟩
theorem ai_73 : AI 73 54 := ⟨by decide, by decide, by decide⟩
theorem ai_74 : AI 74 40 := ⟨by decide, by decide, by decide⟩
theorem ai_75 : AI 75 28 := ⟨by decide, by decide, by decide⟩
theorem ai_76 : AI 76 28 := ⟨by decide, by decide, by decide⟩
theorem ai_77 : AI 77 56 := ⟨by decide, by decide, by decide⟩
theorem az_78 : AZ 78 2 := ⟨by decide, by decide, by decide⟩
theorem ai_79 : AI 79 100 := ⟨by decide, by decide, by decide⟩
theorem ai_80 : AI 80 30 := ⟨by decide, by decide, by decide⟩
theorem ai_81 : AI 81 36 := ⟨by decide, by decide, by decide⟩
theorem az_82 : AZ 82 36 := ⟨by decide, by decide, by decide⟩
theorem ai_83 : AI 83 2304 := ⟨by decide, by decide, by decide⟩
theorem az_84 : AZ 84 2304 := ⟨by decide, by decide, by decide⟩
theorem ai_85 : AI 85 28 := ⟨by decide, by decide, by decide⟩
theorem ai_86 : AI 86 6 := ⟨by decide, by decide, by decide⟩
theorem ai_87 : AI 87 6 := ⟨by decide, by decide, by decide⟩
theorem az_88 : AZ 88 6 := ⟨by decide, by decide, by decide⟩
theorem ai_89 : AI 89 6 := ⟨by decide, by decide, by decide⟩
theorem ai_90 : AI 90 36 := ⟨by decide, by decide, by decide⟩
theorem ai_91 : AI 91 36 := ⟨by decide, by decide, by decide⟩
theorem sw_2 {x : Int32} (h : ¬ (x.toInt < 0 ∨ 2 < x.toInt)) : x = 0 ∨ x = 1 ∨ x = 2 := by
  have h1 : x.toInt = 0 ∨ x.toInt = 1 ∨ x.toInt = 2 := by omega
  rcases h1 with h1 | h1 | h1
  · exact Or.inl (Int32.toInt_inj.mp (h1.trans (by decide)))
  · exact Or.inr (Or.inl (Int32.toInt_inj.mp (h1.trans (by decide))))
  · exact Or.inr (Or.inr (Int32.toInt_inj.mp (h1.trans (by decide))))
theorem sw_7 {x : Int32} (h : ¬ (x.toInt < 0 ∨ 7 < x.toInt)) : x = 0 ∨ x = 1 ∨ x = 2 ∨ x = 3 ∨ x = 4 ∨ x = 5 ∨ x = 6 ∨ x = 7 := by
  have h1 : x.toInt = 0 ∨ x.toInt = 1 ∨ x.toInt = 2 ∨ x.toInt = 3 ∨ x.toInt = 4 ∨ x.toInt = 5 ∨ x.toInt = 6 ∨ x.toInt = 7 := by omega
  rcases h1 with h1 | h1 | h1 | h1 | h1 | h1 | h1 | h1
  · exact Or.inl (Int32.toInt_inj.mp (h1.trans (by decide)))
  · exact Or.inr (Or.inl (Int32.toInt_inj.mp (h1.trans (by decide))))
  · exact Or.inr (Or.inr (Or.inl (Int32.toInt_inj.mp (h1.trans (by decide)))))
  · exact Or.inr (Or.inr (Or.inr (Or.inl (Int32.toInt_inj.mp (h1.trans (by decide))))))
  · exact Or.inr (Or.inr (Or.inr (Or.inr (Or.inl (Int32.toInt_inj.mp (h1.trans (by decide)))))))
  · exact Or.inr (Or.inr (Or.inr (Or.inr (Or.inr (Or.inl (Int32.toInt_inj.mp (h1.trans (by decide))))))))
  · exact Or.inr (Or.inr (Or.inr (Or.inr (Or.inr (Or.inr (Or.inl (Int32.toInt_inj.mp (h1.trans (by decide)))))))))
  · exact Or.inr (Or.inr (Or.inr (Or.inr (Or.inr (Or.inr (Or.inr (Int32.toInt_inj.mp (h1.trans (by decide)))))))))
theorem sw_33 {x : Int32} (h : ¬ (x.toInt < 0 ∨ 33 < x.toInt)) : x = 0 ∨ x = 1 ∨ x = 2 ∨ x = 3 ∨ x = 4 ∨ x = 5 ∨ x = 6 ∨ x = 7 ∨ x = 8 ∨ x = 9 ∨ x = 10 ∨ x = 11 ∨ x = 12 ∨ x = 13 ∨ x = 14 ∨ x = 15 ∨ x = 16 ∨ x = 17 ∨ x = 18 ∨ x = 19 ∨ x = 20 ∨ x = 21 ∨ x = 22 ∨ x = 23 ∨ x = 24 ∨ x = 25 ∨ x = 26 ∨ x = 27 ∨ x = 28 ∨ x = 29 ∨ x = 30 ∨ x = 31 ∨ x = 32 ∨ x = 33 := by
  have h1 : x.toInt = 0 ∨ x.toInt = 1 ∨ x.toInt = 2 ∨ x.toInt = 3 ∨ x.toInt = 4 ∨ x.toInt = 5 ∨ x.toInt = 6 ∨ x.toInt = 7 ∨ x.toInt = 8 ∨ x.toInt = 9 ∨ x.toInt = 10 ∨ x.toInt = 11 ∨ x.toInt = 12 ∨ x.toInt = 13 ∨ x.toInt = 14 ∨ x.toInt = 15 ∨ x.toInt = 16 ∨ x.toInt = 17 ∨ x.toInt = 18 ∨ x.toInt = 19 ∨ x.toInt = 20 ∨ x.toInt = 21 ∨ x.toInt = 22 ∨ x.toInt = 23 ∨ x.toInt = 24 ∨ x.toInt = 25 ∨ x.toInt = 26 ∨ x.toInt = 27 ∨ x.toInt = 28 ∨ x.toInt = 29 ∨ x.toInt = 30 ∨ x.toInt = 31 ∨ x.toInt = 32 ∨ x.toInt = 33 := by omega
  rcases h1 with h1 | h1 | h1 | h1 | h1 | h1 | h1 | h1 | h1 | h1 | h1 | h1 | h1 | h1 | h1 | h1 | h1 | h1 | h1 | h1 | h1 | h1 | h1 | h1 | h1 | h1 | h1 | h1 | h1 | h1 | h1 | h1 | h1 | h1
  · exact Or.inl (Int32.toInt_inj.mp (h1.trans (by decide)))
  · exact Or.inr (Or.inl (Int32.toInt_inj.mp (h1.trans (by decide))))
  · exact Or.inr (Or.inr (Or.inl (Int32.toInt_inj.mp (h1.trans (by decide)))))
  · exact Or.inr (Or.inr (Or.inr (Or.inl (Int32.toInt_inj.mp (h1.trans (by decide))))))
  · exact Or.inr (Or.inr (Or.inr (Or.inr (Or.inl (Int32.toInt_inj.mp (h1.trans (by decide)))))))
  · exact Or.inr (Or.inr (Or.inr (Or.inr (Or.inr (Or.inl (Int32.toInt_inj.mp (h1.trans (by decide))))))))
  · exact Or.inr (Or.inr (Or.inr (Or.inr (Or.inr (Or.inr (Or.inl (Int32.toInt_inj.mp (h1.trans (by decide)))))))))
  · exact Or.inr (Or.inr (Or.inr (Or.inr (Or.inr (Or.inr (Or.inr (Or.inl (Int32.toInt_inj.mp (h1.trans (by decide))))))))))
  · exact Or.inr (Or.inr (Or.inr (Or.inr (Or.inr (Or.inr (Or.inr (Or.inr (Or.inl (Int32.toInt_inj.mp (h1.trans (by decide)))))))))))
  · exact Or.inr (Or.inr (Or.inr (Or.inr (Or.inr (Or.inr (Or.inr (Or.inr (Or.inr (Or.inl (Int32.toInt_inj.mp (h1.trans (by decide))))))))))))
  · exact Or.inr (Or.inr (Or.inr (Or.inr (Or.inr (Or.inr (Or.inr (Or.inr (Or.inr (Or.inr (Or.inl (Int32.toInt_inj.mp (h1.trans (by decide)))))))))))))
  · exact Or.inr (Or.inr (Or.inr (Or.inr (Or.inr (Or.inr (Or.inr (Or.inr (Or.inr (Or.inr (Or.inr (Or.inl (Int32.toInt_inj.mp (h1.trans (by decide))))))))))))))
  · exact Or.inr (Or.inr (Or.inr (Or.inr (Or.inr (Or.inr (Or.inr (Or.inr (Or.inr (Or.inr (Or.inr (Or.inr (Or.inl (Int32.toInt_inj.mp (h1.trans (by decide)))))))))))))))
  · exact Or.inr (Or.inr (Or.inr (Or.inr (Or.inr (Or.inr (Or.inr (Or.inr (Or.inr (Or.inr (Or.inr (Or.inr (Or.inr (Or.inl (Int32.toInt_inj.mp (h1.trans (by decide))))))))))))))))
  · exact Or.inr (Or.inr (Or.inr (Or.inr (Or.inr (Or.inr (Or.inr (Or.inr (Or.inr (Or.inr (Or.inr (Or.inr (Or.inr (Or.inr (Or.inl (Int32.toInt_inj.mp (h1.trans (by decide)))))))))))))))))
  · exact Or.inr (Or.inr (Or.inr (Or.inr (Or.inr (Or.inr (Or.inr (Or.inr (Or.inr (Or.inr (Or.inr (Or.inr (Or.inr (Or.inr (Or.inr (Or.inl (Int32.toInt_inj.mp (h1.trans (by decide))))))))))))))))))
  · exact Or.inr (Or.inr (Or.inr (Or.inr (Or.inr (Or.inr (Or.inr (Or.inr (Or.inr (Or.inr (Or.inr (Or.inr (Or.inr (Or.inr (Or.inr (Or.inr (Or.inl (Int32.toInt_inj.mp (h1.trans (by decide)))))))))))))))))))
  · exact Or.inr (Or.inr (Or.inr (Or.inr (Or.inr (Or.inr (Or.inr (Or.inr (Or.inr (Or.inr (Or.inr (Or.inr (Or.inr (Or.inr (Or.inr (Or.inr (Or.inr (Or.inl (Int32.toInt_inj.mp (h1.trans (by decide))))))))))))))))))))
  · exact Or.inr (Or.inr (Or.inr (Or.inr (Or.inr (Or.inr (Or.inr (Or.inr (Or.inr (Or.inr (Or.inr (Or.inr (Or.inr (Or.inr (Or.inr (Or.inr (Or.inr (Or.inr (Or.inl (Int32.toInt_inj.mp (h1.trans (by decide)))))))))))))))))))))
  · exact Or.inr (Or.inr (Or.inr (Or.inr (Or.inr (Or.inr (Or.inr (Or.inr (Or.inr (Or.inr (Or.inr (Or.inr (Or.inr (Or.inr (Or.inr (Or.inr (Or.inr (Or.inr (Or.inr (Or.inl (Int32.toInt_inj.mp (h1.trans (by decide))))))))))))))))))))))
  · exact Or.inr (Or.inr (Or.inr (Or.inr (Or.inr (Or.inr (Or.inr (Or.inr (Or.inr (Or.inr (Or.inr (Or.inr (Or.inr (Or.inr (Or.inr (Or.inr (Or.inr (Or.inr (Or.inr (Or.inr (Or.inl (Int32.toInt_inj.mp (h1.trans (by decide)))))))))))))))))))))))
  · exact Or.inr (Or.inr (Or.inr (Or.inr (Or.inr (Or.inr (Or.inr (Or.inr (Or.inr (Or.inr (Or.inr (Or.inr (Or.inr (Or.inr (Or.inr (Or.inr (Or.inr (Or.inr (Or.inr (Or.inr (Or.inr (Or.inl (Int32.toInt_inj.mp (h1.trans (by decide))))))))))))))))))))))))
  · exact Or.inr (Or.inr (Or.inr (Or.inr (Or.inr (Or.inr (Or.inr (Or.inr (Or.inr (Or.inr (Or.inr (Or.inr (Or.inr (Or.inr (Or.inr (Or.inr (Or.inr (Or.inr (Or.inr (Or.inr (Or.inr (Or.inr (Or.inl (Int32.toInt_inj.mp (h1.trans (by decide)))))))))))))))))))))))))
  · exact Or.inr (Or.inr (Or.inr (Or.inr (Or.inr (Or.inr (Or.inr (Or.inr (Or.inr (Or.inr (Or.inr (Or.inr (Or.inr (Or.inr (Or.inr (Or.inr (Or.inr (Or.inr (Or.inr (Or.inr (Or.inr (Or.inr (Or.inr (Or.inl (Int32.toInt_inj.mp (h1.trans (by decide))))))))))))))))))))))))))
  · exact Or.inr (Or.inr (Or.inr (Or.inr (Or.inr (Or.inr (Or.inr (Or.inr (Or.inr (Or.inr (Or.inr (Or.inr (Or.inr (Or.inr (Or.inr (Or.inr (Or.inr (Or.inr (Or.inr (Or.inr (Or.inr (Or.inr (Or.inr (Or.inr (Or.inl (Int32.toInt_inj.mp (h1.trans (by decide)))))))))))))))))))))))))))
  · exact Or.inr (Or.inr (Or.inr (Or.inr (Or.inr (Or.inr (Or.inr (Or.inr (Or.inr (Or.inr (Or.inr (Or.inr (Or.inr (Or.inr (Or.inr (Or.inr (Or.inr (Or.inr (Or.inr (Or.inr (Or.inr (Or.inr (Or.inr (Or.inr (Or.inr (Or.inl (Int32.toInt_inj.mp (h1.trans (by decide))))))))))))))))))))))))))))
  · exact Or.inr (Or.inr (Or.inr (Or.inr (Or.inr (Or.inr (Or.inr (Or.inr (Or.inr (Or.inr (Or.inr (Or.inr (Or.inr (Or.inr (Or.inr (Or.inr (Or.inr (Or.inr (Or.inr (Or.inr (Or.inr (Or.inr (Or.inr (Or.inr (Or.inr (Or.inr (Or.inl (Int32.toInt_inj.mp (h1.trans (by decide)))))))))))))))))))))))))))))
  · exact Or.inr (Or.inr (Or.inr (Or.inr (Or.inr (Or.inr (Or.inr (Or.inr (Or.inr (Or.inr (Or.inr (Or.inr (Or.inr (Or.inr (Or.inr (Or.inr (Or.inr (Or.inr (Or.inr (Or.inr (Or.inr (Or.inr (Or.inr (Or.inr (Or.inr (Or.inr (Or.inr (Or.inl (Int32.toInt_inj.mp (h1.trans (by decide))))))))))))))))))))))))))))))
  · exact Or.inr (Or.inr (Or.inr (Or.inr (Or.inr (Or.inr (Or.inr (Or.inr (Or.inr (Or.inr (Or.inr (Or.inr (Or.inr (Or.inr (Or.inr (Or.inr (Or.inr (Or.inr (Or.inr (Or.inr (Or.inr (Or.inr (Or.inr (Or.inr (Or.inr (Or.inr (Or.inr (Or.inr (Or.inl (Int32.toInt_inj.mp (h1.trans (by decide)))))))))))))))))))))))))))))))
  · exact Or.inr (Or.inr (Or.inr (Or.inr (Or.inr (Or.inr (Or.inr (Or.inr (Or.inr (Or.inr (Or.inr (Or.inr (Or.inr (Or.inr (Or.inr (Or.inr (Or.inr (Or.inr (Or.inr (Or.inr (Or.inr (Or.inr (Or.inr (Or.inr (Or.inr (Or.inr (Or.inr (Or.inr (Or.inr (Or.inl (Int32.toInt_inj.mp (h1.trans (by decide))))))))))))))))))))))))))))))))
  · exact Or.inr (Or.inr (Or.inr (Or.inr (Or.inr (Or.inr (Or.inr (Or.inr (Or.inr (Or.inr (Or.inr (Or.inr (Or.inr (Or.inr (Or.inr (Or.inr (Or.inr (Or.inr (Or.inr (Or.inr (Or.inr (Or.inr (Or.inr (Or.inr (Or.inr (Or.inr (Or.inr (Or.inr (Or.inr (Or.inr (Or.inl (Int32.toInt_inj.mp (h1.trans (by decide)))))))))))))))))))))))))))))))))
  · exact Or.inr (Or.inr (Or.inr (Or.inr (Or.inr (Or.inr (Or.inr (Or.inr (Or.inr (Or.inr (Or.inr (Or.inr (Or.inr (Or.inr (Or.inr (Or.inr (Or.inr (Or.inr (Or.inr (Or.inr (Or.inr (Or.inr (Or.inr (Or.inr (Or.inr (Or.inr (Or.inr (Or.inr (Or.inr (Or.inr (Or.inr (Or.inl (Int32.toInt_inj.mp (h1.trans (by decide))))))))))))))))))))))))))))))))))
  · exact Or.inr (Or.inr (Or.inr (Or.inr (Or.inr (Or.inr (Or.inr (Or.inr (Or.inr (Or.inr (Or.inr (Or.inr (Or.inr (Or.inr (Or.inr (Or.inr (Or.inr (Or.inr (Or.inr (Or.inr (Or.inr (Or.inr (Or.inr (Or.inr (Or.inr (Or.inr (Or.inr (Or.inr (Or.inr (Or.inr (Or.inr (Or.inr (Or.inl (Int32.toInt_inj.mp (h1.trans (by decide)))))))))))))))))))))))))))))))))))
  · exact Or.inr (Or.inr (Or.inr (Or.inr (Or.inr (Or.inr (Or.inr (Or.inr (Or.inr (Or.inr (Or.inr (Or.inr (Or.inr (Or.inr (Or.inr (Or.inr (Or.inr (Or.inr (Or.inr (Or.inr (Or.inr (Or.inr (Or.inr (Or.inr (Or.inr (Or.inr (Or.inr (Or.inr (Or.inr (Or.inr (Or.inr (Or.inr (Or.inr (Int32.toInt_inj.mp (h1.trans (by decide)))))))))))))))))))))))))))))))))))
/-! what a walk stands in -/
abbrev Gx : Type := va_G × Cy × (Nat → Nat)
abbrev Cx : Type := Program × Launch × Env × Room × State × MethodId × Array Value × List Frame × Method × Code × Gx × (Nat × Nat) × (State → Prop)
abbrev xl (X : Cx) : Launch := X.2.1
abbrev xR (X : Cx) : Room := X.2.2.2.1
abbrev xs (X : Cx) : State := X.2.2.2.2.1
abbrev xm (X : Cx) : MethodId := X.2.2.2.2.2.1
abbrev xargs (X : Cx) : Array Value := X.2.2.2.2.2.2.1
abbrev xbelow (X : Cx) : List Frame := X.2.2.2.2.2.2.2.1
abbrev xmeth (X : Cx) : Method := X.2.2.2.2.2.2.2.2.1
abbrev xc (X : Cx) : Code := X.2.2.2.2.2.2.2.2.2.1
abbrev xG (X : Cx) : Gx := X.2.2.2.2.2.2.2.2.2.2.1
abbrev xcs (X : Cx) : Nat × Nat := X.2.2.2.2.2.2.2.2.2.2.2.1
abbrev xQ (X : Cx) : State → Prop := X.2.2.2.2.2.2.2.2.2.2.2.2
abbrev xad (X : Cx) : Nat → Nat := (xG X).2.2
def Fr (ad : Nat → Nat) : Nat → Prop := fun q => ∃ c, c < 92 ∧ q = ad c
def Inj (ad : Nat → Nat) : Prop := ∀ i j : Nat, i < 92 → j < 92 → ad i = ad j → i = j
abbrev WP (G : Gx) (S : St) (H : Heap) : Prop := va_P G.1 vwCl (wl G.2.1 G.2.2 S) H
def nestO : Cond := .methodLinkNest RX5 118 yX7_outside RX7
def nestB : Cond := .methodLinkNest RX5 68 yX7_withBit RX7
abbrev tysOf (cy : Cy) : List (ClassId × FieldType) := [(cy.1, .int), (cy.2.1, .boolean), (cy.2.2, .object RX6)]
def Kt (G : Gx) (U : State) : Prop := va_K G.1 vwCl (tysOf G.2.1) U ∧ va_Nw nestO U ∧ va_Nw nestB U
theorem Kt.warm {G : Gx} {s U : State} (hW : s.WarmedH U.vm) (h : Kt G s) : Kt G U := ⟨va_K.moved hW.alike h.1, va_Nw.warmM hW h.2.1, va_Nw.warmM hW h.2.2⟩
theorem Kt.same {G : Gx} {s U : State} (e : s.vm = U.vm) (h : Kt G s) : Kt G U := ⟨va_K.moved (by rw [e]; exact Vm.Alike.refl _) h.1, va_Nw.same rfl e h.2.1, va_Nw.same rfl e h.2.2⟩
def Wp (X : Cx) (nL pc : Nat) (L : List (Nat × Value)) (st : List Value) (S : St) : Prop :=
  ∀ (H : Heap) (locs : List Loc) (ls : Array Slot), lv_has ls nL L → WP (xG X) S H → va_S (Fr (xad X)) (xs X).heap H locs → W X.1 (xl X) X.2.2.1 (xR X) (xs X) (xm X) (xargs X) (xbelow X) (xmeth X) (xc X) H locs (xcs X).1 (xcs X).2 (xQ X) (F0 (xm X) pc ls st)
def Ok (X : Cx) (cc : ByteArray) (nL : Nat) (own : String) (fr lo : Nat) : Prop :=
  X.1.tables.exec = Jvm.exec ∧ (xc X).code = cc ∧ (xc X).maxLocals = nL ∧ (xs X).vm.findClass own = some (xm X).cls ∧ (∀ w ∈ gtbl, w.before (xargs X) (xs X) = true) ∧ Kt (xG X) (xs X) ∧ Inj (xad X) ∧ (fr ≤ (xR X).frames ∧ lo ≤ (xR X).locals) ∧ (xcs X).1 ≤ (xR X).cells ∧ (xcs X).2 ≤ (xR X).slots
theorem wl_D {cy : Cy} {ad : Nat → Nat} (S : St) (h : Inj ad) : va_D (Fr ad) (wl cy ad S) := by
  have key : ∀ (i : Nat) (p : Nat × va_E), (wl cy ad S)[i]? = some p → i < 92 ∧ p.1 = ad i := by
    intro i p hp
    by_cases h2 : i < 92
    · rw [wl_at cy ad S h2] at hp
      exact ⟨h2, by rw [← Option.some.inj hp]⟩
    · simp [wl, h2] at hp
  refine ⟨fun i j p q hp hq e => ?_, fun k q hk => ⟨k, (key k q hk).1, (key k q hk).2⟩⟩
  obtain ⟨a1, a2⟩ := key i p hp
  obtain ⟨b1, b2⟩ := key j q hq
  exact h i j a1 b1 (by rw [← a2, ← b2]; exact e)
section Rows
variable {X : Cx} {cc : ByteArray} {nL pc fr lo : Nat} {own : String} {L : List (Nat × Value)} {st : List Value} {S : St}
theorem r_iconst {n : Int} {v : Int32} (ok : Ok X cc nL own fr lo) (d : decode cc pc = .ok (.iconst n, 1)) (hv : Int32.ofInt n = v) (k : Wp X nL (pc + 1) L (.int v :: st) S) : Wp X nL pc L st S :=
  fun H locs ls hl hP hS => lv_iconst ok.1 ok.2.1 d hv (k H locs ls hl hP hS)
theorem r_bipush {n : Int} {v : Int32} (ok : Ok X cc nL own fr lo) (d : decode cc pc = .ok (.bipush n, 2)) (hv : (Int8.ofInt n).toInt32 = v) (k : Wp X nL (pc + 2) L (.int v :: st) S) : Wp X nL pc L st S :=
  fun H locs ls hl hP hS => lv_bipush ok.1 ok.2.1 d hv (k H locs ls hl hP hS)
theorem r_sipush {n : Int} {v : Int32} (ok : Ok X cc nL own fr lo) (d : decode cc pc = .ok (.sipush n, 3)) (hv : (Int16.ofInt n).toInt32 = v) (k : Wp X nL (pc + 3) L (.int v :: st) S) : Wp X nL pc L st S :=
  fun H locs ls hl hP hS => lv_sipush ok.1 ok.2.1 d hv (k H locs ls hl hP hS)
theorem r_ldc {idx : Nat} {v : Int32} (ok : Ok X cc nL own fr lo) (d : decode cc pc = .ok (.ldc idx, 2)) (hw : Cond.constant own idx v ∈ gtbl) (k : Wp X nL (pc + 2) L (.int v :: st) S) : Wp X nL pc L st S :=
  fun H locs ls hl hP hS => lv_ldc ok.1 ok.2.1 ok.2.2.2.1 (ok.2.2.2.2.1 _ hw) d (k H locs ls hl hP hS)
theorem r_ldcw {idx : Nat} {v : Int32} (ok : Ok X cc nL own fr lo) (d : decode cc pc = .ok (.ldc_w idx, 3)) (hw : Cond.constant own idx v ∈ gtbl) (k : Wp X nL (pc + 3) L (.int v :: st) S) : Wp X nL pc L st S :=
  fun H locs ls hl hP hS => lv_ldcw ok.1 ok.2.1 ok.2.2.2.1 (ok.2.2.2.2.1 _ hw) d (k H locs ls hl hP hS)
theorem r_ldc2 {idx : Nat} {v : Int64} (ok : Ok X cc nL own fr lo) (d : decode cc pc = .ok (.ldc2_w idx, 3)) (hw : Cond.constantLong own idx v ∈ gtbl) (k : Wp X nL (pc + 3) L (.long v :: st) S) : Wp X nL pc L st S :=
  fun H locs ls hl hP hS => lv_ldc2 ok.1 ok.2.1 ok.2.2.2.1 (ok.2.2.2.2.1 _ hw) d (k H locs ls hl hP hS)
theorem r_iload_n {kf : Fin 4} {x : Int32} (ok : Ok X cc nL own fr lo) (d : decode cc pc = .ok (.iload_n kf, 1)) (j : Nat) (hj : L[j]? = some ((kf : Nat), .int x)) (k : Wp X nL (pc + 1) L (.int x :: st) S) : Wp X nL pc L st S :=
  fun H locs ls hl hP hS => lv_iload_n ok.1 ok.2.1 d rfl (lv_at hl j hj) (k H locs ls hl hP hS)
theorem r_iload {i : Nat} {x : Int32} (ok : Ok X cc nL own fr lo) (d : decode cc pc = .ok (.iload i, 2)) (j : Nat) (hj : L[j]? = some (i, .int x)) (k : Wp X nL (pc + 2) L (.int x :: st) S) : Wp X nL pc L st S :=
  fun H locs ls hl hP hS => lv_iload ok.1 ok.2.1 d (lv_at hl j hj) (k H locs ls hl hP hS)
theorem r_aload_n {kf : Fin 4} {x : Nat} (ok : Ok X cc nL own fr lo) (d : decode cc pc = .ok (.aload_n kf, 1)) (j : Nat) (hj : L[j]? = some ((kf : Nat), .ref x)) (k : Wp X nL (pc + 1) L (.ref x :: st) S) : Wp X nL pc L st S :=
  fun H locs ls hl hP hS => lv_aload_n ok.1 ok.2.1 d rfl (lv_at hl j hj) (k H locs ls hl hP hS)
theorem r_istore_n {kf : Fin 4} {x : Int32} (ok : Ok X cc nL own fr lo) (d : decode cc pc = .ok (.istore_n kf, 1)) (hn : (kf : Nat) < nL) (L' : List (Nat × Value)) (ks : List Nat) (hl' : lv_pick (((kf : Nat), Value.int x) :: L.filter (fun q => !(q.1 == (kf : Nat)) && !(q.1 + 1 == (kf : Nat) && q.2.category == 2))) ks = L') (k : Wp X nL (pc + 1) L' st S) : Wp X nL pc L (.int x :: st) S :=
  fun H locs _ hl hP hS => lv_istore_n ok.1 ok.2.1 d rfl hl hn rfl (fun ls' h' => k H locs ls' (lv_sub h' ks hl') hP hS)
theorem r_istore {i : Nat} {x : Int32} (ok : Ok X cc nL own fr lo) (d : decode cc pc = .ok (.istore i, 2)) (hn : i < nL) (L' : List (Nat × Value)) (ks : List Nat) (hl' : lv_pick ((i, Value.int x) :: L.filter (fun q => !(q.1 == i) && !(q.1 + 1 == i && q.2.category == 2))) ks = L') (k : Wp X nL (pc + 2) L' st S) : Wp X nL pc L (.int x :: st) S :=
  fun H locs _ hl hP hS => lv_istore ok.1 ok.2.1 d hl hn rfl (fun ls' h' => k H locs ls' (lv_sub h' ks hl') hP hS)
theorem r_iinc {i : Nat} {n : Int} {x v : Int32} (ok : Ok X cc nL own fr lo) (d : decode cc pc = .ok (.iinc i n, 3)) (j : Nat) (hj : L[j]? = some (i, .int x)) (hv : x + Int32.ofInt n = v) (hn : i < nL) (L' : List (Nat × Value)) (ks : List Nat) (hl' : lv_pick ((i, Value.int v) :: L.filter (fun q => !(q.1 == i) && !(q.1 + 1 == i && q.2.category == 2))) ks = L') (k : Wp X nL (pc + 3) L' st S) : Wp X nL pc L st S :=
  fun H locs _ hl hP hS => lv_iinc ok.1 ok.2.1 d hl hj hv hn rfl (fun ls' h' => k H locs ls' (lv_sub h' ks hl') hP hS)
theorem r_sub (L' : List (Nat × Value)) (ks : List Nat) (hl' : lv_pick L ks = L') (k : Wp X nL pc L' st S) : Wp X nL pc L st S :=
  fun H locs ls hl hP hS => k H locs ls (lv_sub hl ks hl') hP hS
theorem r_iadd {x y : Int32} (ok : Ok X cc nL own fr lo) (d : decode cc pc = .ok (.iadd, 1)) (k : Wp X nL (pc + 1) L (.int (x + y) :: st) S) : Wp X nL pc L (.int y :: .int x :: st) S :=
  fun H locs ls hl hP hS => lv_iadd ok.1 ok.2.1 d (k H locs ls hl hP hS)
theorem r_isub {x y : Int32} (ok : Ok X cc nL own fr lo) (d : decode cc pc = .ok (.isub, 1)) (k : Wp X nL (pc + 1) L (.int (x - y) :: st) S) : Wp X nL pc L (.int y :: .int x :: st) S :=
  fun H locs ls hl hP hS => lv_isub ok.1 ok.2.1 d (k H locs ls hl hP hS)
theorem r_imul {x y : Int32} (ok : Ok X cc nL own fr lo) (d : decode cc pc = .ok (.imul, 1)) (k : Wp X nL (pc + 1) L (.int (x * y) :: st) S) : Wp X nL pc L (.int y :: .int x :: st) S :=
  fun H locs ls hl hP hS => lv_imul ok.1 ok.2.1 d (k H locs ls hl hP hS)
theorem r_iand {x y : Int32} (ok : Ok X cc nL own fr lo) (d : decode cc pc = .ok (.iand, 1)) (k : Wp X nL (pc + 1) L (.int (x &&& y) :: st) S) : Wp X nL pc L (.int y :: .int x :: st) S :=
  fun H locs ls hl hP hS => lv_iand ok.1 ok.2.1 d (k H locs ls hl hP hS)
theorem r_ior {x y : Int32} (ok : Ok X cc nL own fr lo) (d : decode cc pc = .ok (.ior, 1)) (k : Wp X nL (pc + 1) L (.int (x ||| y) :: st) S) : Wp X nL pc L (.int y :: .int x :: st) S :=
  fun H locs ls hl hP hS => lv_ior ok.1 ok.2.1 d (k H locs ls hl hP hS)
theorem r_ixor {x y : Int32} (ok : Ok X cc nL own fr lo) (d : decode cc pc = .ok (.ixor, 1)) (k : Wp X nL (pc + 1) L (.int (x ^^^ y) :: st) S) : Wp X nL pc L (.int y :: .int x :: st) S :=
  fun H locs ls hl hP hS => lv_ixor ok.1 ok.2.1 d (k H locs ls hl hP hS)
theorem r_ishl {x y : Int32} (ok : Ok X cc nL own fr lo) (d : decode cc pc = .ok (.ishl, 1)) (k : Wp X nL (pc + 1) L (.int (x <<< (y &&& 31)) :: st) S) : Wp X nL pc L (.int y :: .int x :: st) S :=
  fun H locs ls hl hP hS => lv_ishl ok.1 ok.2.1 d (k H locs ls hl hP hS)
theorem r_ishr {x y : Int32} (ok : Ok X cc nL own fr lo) (d : decode cc pc = .ok (.ishr, 1)) (k : Wp X nL (pc + 1) L (.int (x >>> (y &&& 31)) :: st) S) : Wp X nL pc L (.int y :: .int x :: st) S :=
  fun H locs ls hl hP hS => lv_ishr ok.1 ok.2.1 d (k H locs ls hl hP hS)
def iushr (x y : Int32) : Int32 := (x.toUInt32 >>> (y.toUInt32 &&& Int32.toUInt32 31)).toInt32
theorem r_iushr {x y : Int32} (ok : Ok X cc nL own fr lo) (d : decode cc pc = .ok (.iushr, 1)) (k : Wp X nL (pc + 1) L (.int (iushr x y) :: st) S) : Wp X nL pc L (.int y :: .int x :: st) S :=
  fun H locs ls hl hP hS => lv_iushr ok.1 ok.2.1 d rfl (k H locs ls hl hP hS)
theorem r_idiv {x y : Int32} (ok : Ok X cc nL own fr lo) (d : decode cc pc = .ok (.idiv, 1)) (h0 : ¬ y = 0) (k : Wp X nL (pc + 1) L (.int (x / y) :: st) S) : Wp X nL pc L (.int y :: .int x :: st) S :=
  fun H locs ls hl hP hS => lv_idiv ok.1 ok.2.1 d h0 (k H locs ls hl hP hS)
theorem r_irem {x y : Int32} (ok : Ok X cc nL own fr lo) (d : decode cc pc = .ok (.irem, 1)) (h0 : ¬ y = 0) (k : Wp X nL (pc + 1) L (.int (x - x / y * y) :: st) S) : Wp X nL pc L (.int y :: .int x :: st) S :=
  fun H locs ls hl hP hS => lv_irem ok.1 ok.2.1 d h0 (k H locs ls hl hP hS)
theorem r_i2l {x : Int32} (ok : Ok X cc nL own fr lo) (d : decode cc pc = .ok (.i2l, 1)) (k : Wp X nL (pc + 1) L (.long x.toInt64 :: st) S) : Wp X nL pc L (.int x :: st) S :=
  fun H locs ls hl hP hS => lv_i2l ok.1 ok.2.1 d rfl (k H locs ls hl hP hS)
theorem r_l2i {x : Int64} (ok : Ok X cc nL own fr lo) (d : decode cc pc = .ok (.l2i, 1)) (k : Wp X nL (pc + 1) L (.int x.toInt32 :: st) S) : Wp X nL pc L (.long x :: st) S :=
  fun H locs ls hl hP hS => lv_l2i ok.1 ok.2.1 d rfl (k H locs ls hl hP hS)
theorem r_lmul {x y : Int64} (ok : Ok X cc nL own fr lo) (d : decode cc pc = .ok (.lmul, 1)) (k : Wp X nL (pc + 1) L (.long (x * y) :: st) S) : Wp X nL pc L (.long y :: .long x :: st) S :=
  fun H locs ls hl hP hS => lv_lmul ok.1 ok.2.1 d (k H locs ls hl hP hS)
theorem r_ladd {x y : Int64} (ok : Ok X cc nL own fr lo) (d : decode cc pc = .ok (.ladd, 1)) (k : Wp X nL (pc + 1) L (.long (x + y) :: st) S) : Wp X nL pc L (.long y :: .long x :: st) S :=
  fun H locs ls hl hP hS => lv_ladd ok.1 ok.2.1 d (k H locs ls hl hP hS)
theorem r_land {x y : Int64} (ok : Ok X cc nL own fr lo) (d : decode cc pc = .ok (.land, 1)) (k : Wp X nL (pc + 1) L (.long (x &&& y) :: st) S) : Wp X nL pc L (.long y :: .long x :: st) S :=
  fun H locs ls hl hP hS => lv_land ok.1 ok.2.1 d (k H locs ls hl hP hS)
theorem r_dup {v : Value} (ok : Ok X cc nL own fr lo) (d : decode cc pc = .ok (.dup, 1)) (hv : v.category = 1) (k : Wp X nL (pc + 1) L (v :: v :: st) S) : Wp X nL pc L (v :: st) S :=
  fun H locs ls hl hP hS => lv_dup ok.1 ok.2.1 d hv (k H locs ls hl hP hS)
theorem r_dup2 {u v : Value} (ok : Ok X cc nL own fr lo) (d : decode cc pc = .ok (.dup2, 1)) (hu : u.category = 1) (hv : v.category = 1) (k : Wp X nL (pc + 1) L (u :: v :: u :: v :: st) S) : Wp X nL pc L (u :: v :: st) S :=
  fun H locs ls hl hP hS => lv_dup2_11 ok.1 ok.2.1 d hu hv (k H locs ls hl hP hS)
theorem r_goto {off : Int} {tgt : Nat} (ok : Ok X cc nL own fr lo) (d : decode cc pc = .ok (.goto off, 3)) (ht : (pc : Int) + off = (tgt : Int)) (k : Wp X nL tgt L st S) : Wp X nL pc L st S :=
  fun H locs ls hl hP hS => lv_goto ok.1 ok.2.1 d ht (k H locs ls hl hP hS)
theorem r_icmp_eq {x y : Int32} {off : Int} {tgt : Nat} (ok : Ok X cc nL own fr lo) (d : decode cc pc = .ok (.if_icmp .eq off, 3)) (ht : (pc : Int) + off = (tgt : Int)) (kt : x = y → Wp X nL tgt L st S) (kf : ¬ x = y → Wp X nL (pc + 3) L st S) : Wp X nL pc L (.int y :: .int x :: st) S :=
  fun H locs ls hl hP hS => lv_icmp_eq ok.1 ok.2.1 d ht (fun h => kt h H locs ls hl hP hS) (fun h => kf h H locs ls hl hP hS)
theorem r_icmp_ne {x y : Int32} {off : Int} {tgt : Nat} (ok : Ok X cc nL own fr lo) (d : decode cc pc = .ok (.if_icmp .ne off, 3)) (ht : (pc : Int) + off = (tgt : Int)) (kt : ¬ x = y → Wp X nL tgt L st S) (kf : x = y → Wp X nL (pc + 3) L st S) : Wp X nL pc L (.int y :: .int x :: st) S :=
  fun H locs ls hl hP hS => lv_icmp_ne ok.1 ok.2.1 d ht (fun h => kt h H locs ls hl hP hS) (fun h => kf h H locs ls hl hP hS)
theorem r_icmp_lt {x y : Int32} {off : Int} {tgt : Nat} (ok : Ok X cc nL own fr lo) (d : decode cc pc = .ok (.if_icmp .lt off, 3)) (ht : (pc : Int) + off = (tgt : Int)) (kt : x < y → Wp X nL tgt L st S) (kf : ¬ x < y → Wp X nL (pc + 3) L st S) : Wp X nL pc L (.int y :: .int x :: st) S :=
  fun H locs ls hl hP hS => lv_icmp_lt ok.1 ok.2.1 d ht (fun h => kt h H locs ls hl hP hS) (fun h => kf h H locs ls hl hP hS)
theorem r_icmp_ge {x y : Int32} {off : Int} {tgt : Nat} (ok : Ok X cc nL own fr lo) (d : decode cc pc = .ok (.if_icmp .ge off, 3)) (ht : (pc : Int) + off = (tgt : Int)) (kt : y ≤ x → Wp X nL tgt L st S) (kf : ¬ y ≤ x → Wp X nL (pc + 3) L st S) : Wp X nL pc L (.int y :: .int x :: st) S :=
  fun H locs ls hl hP hS => lv_icmp_ge ok.1 ok.2.1 d ht (fun h => kt h H locs ls hl hP hS) (fun h => kf h H locs ls hl hP hS)
theorem r_icmp_gt {x y : Int32} {off : Int} {tgt : Nat} (ok : Ok X cc nL own fr lo) (d : decode cc pc = .ok (.if_icmp .gt off, 3)) (ht : (pc : Int) + off = (tgt : Int)) (kt : y < x → Wp X nL tgt L st S) (kf : ¬ y < x → Wp X nL (pc + 3) L st S) : Wp X nL pc L (.int y :: .int x :: st) S :=
  fun H locs ls hl hP hS => lv_icmp_gt ok.1 ok.2.1 d ht (fun h => kt h H locs ls hl hP hS) (fun h => kf h H locs ls hl hP hS)
theorem r_icmp_le {x y : Int32} {off : Int} {tgt : Nat} (ok : Ok X cc nL own fr lo) (d : decode cc pc = .ok (.if_icmp .le off, 3)) (ht : (pc : Int) + off = (tgt : Int)) (kt : x ≤ y → Wp X nL tgt L st S) (kf : ¬ x ≤ y → Wp X nL (pc + 3) L st S) : Wp X nL pc L (.int y :: .int x :: st) S :=
  fun H locs ls hl hP hS => lv_icmp_le ok.1 ok.2.1 d ht (fun h => kt h H locs ls hl hP hS) (fun h => kf h H locs ls hl hP hS)
theorem r_if_eq {x : Int32} {off : Int} {tgt : Nat} (ok : Ok X cc nL own fr lo) (d : decode cc pc = .ok (.ifCond .eq off, 3)) (ht : (pc : Int) + off = (tgt : Int)) (kt : x = 0 → Wp X nL tgt L st S) (kf : ¬ x = 0 → Wp X nL (pc + 3) L st S) : Wp X nL pc L (.int x :: st) S :=
  fun H locs ls hl hP hS => lv_if_eq ok.1 ok.2.1 d ht (fun h => kt h H locs ls hl hP hS) (fun h => kf h H locs ls hl hP hS)
theorem r_if_ne {x : Int32} {off : Int} {tgt : Nat} (ok : Ok X cc nL own fr lo) (d : decode cc pc = .ok (.ifCond .ne off, 3)) (ht : (pc : Int) + off = (tgt : Int)) (kt : ¬ x = 0 → Wp X nL tgt L st S) (kf : x = 0 → Wp X nL (pc + 3) L st S) : Wp X nL pc L (.int x :: st) S :=
  fun H locs ls hl hP hS => lv_if_ne ok.1 ok.2.1 d ht (fun h => kt h H locs ls hl hP hS) (fun h => kf h H locs ls hl hP hS)
theorem r_if_lt {x : Int32} {off : Int} {tgt : Nat} (ok : Ok X cc nL own fr lo) (d : decode cc pc = .ok (.ifCond .lt off, 3)) (ht : (pc : Int) + off = (tgt : Int)) (kt : x < 0 → Wp X nL tgt L st S) (kf : ¬ x < 0 → Wp X nL (pc + 3) L st S) : Wp X nL pc L (.int x :: st) S :=
  fun H locs ls hl hP hS => lv_if_lt ok.1 ok.2.1 d ht (fun h => kt h H locs ls hl hP hS) (fun h => kf h H locs ls hl hP hS)
theorem r_if_ge {x : Int32} {off : Int} {tgt : Nat} (ok : Ok X cc nL own fr lo) (d : decode cc pc = .ok (.ifCond .ge off, 3)) (ht : (pc : Int) + off = (tgt : Int)) (kt : 0 ≤ x → Wp X nL tgt L st S) (kf : ¬ 0 ≤ x → Wp X nL (pc + 3) L st S) : Wp X nL pc L (.int x :: st) S :=
  fun H locs ls hl hP hS => lv_if_ge ok.1 ok.2.1 d ht (fun h => kt h H locs ls hl hP hS) (fun h => kf h H locs ls hl hP hS)
theorem r_if_gt {x : Int32} {off : Int} {tgt : Nat} (ok : Ok X cc nL own fr lo) (d : decode cc pc = .ok (.ifCond .gt off, 3)) (ht : (pc : Int) + off = (tgt : Int)) (kt : 0 < x → Wp X nL tgt L st S) (kf : ¬ 0 < x → Wp X nL (pc + 3) L st S) : Wp X nL pc L (.int x :: st) S :=
  fun H locs ls hl hP hS => lv_if_gt ok.1 ok.2.1 d ht (fun h => kt h H locs ls hl hP hS) (fun h => kf h H locs ls hl hP hS)
theorem r_if_le {x : Int32} {off : Int} {tgt : Nat} (ok : Ok X cc nL own fr lo) (d : decode cc pc = .ok (.ifCond .le off, 3)) (ht : (pc : Int) + off = (tgt : Int)) (kt : x ≤ 0 → Wp X nL tgt L st S) (kf : ¬ x ≤ 0 → Wp X nL (pc + 3) L st S) : Wp X nL pc L (.int x :: st) S :=
  fun H locs ls hl hP hS => lv_if_le ok.1 ok.2.1 d ht (fun h => kt h H locs ls hl hP hS) (fun h => kf h H locs ls hl hP hS)
theorem r_get {c ci N idx : Nat} {C : String} {T : u_T} (ok : Ok X cc nL own fr lo) (hc : Ob c ci N) (hcl : vwCl[ci]? = some (C, T, N)) (hin : ∀ w ∈ u_ws C T N, w ∈ gtbl) (k : Nat) (hk : k < N) (hw : Cond.fieldLink own idx (T k).1 (T k).2.1 (T k).2.2.1 ∈ gtbl) (d : decode cc pc = .ok (.getfield idx, 3)) (kk : Wp X nL (pc + 3) L (fvl (xad X) S c k :: st) S) : Wp X nL pc L (.ref (xad X c) :: st) S :=
  fun H locs ls hl hP hS => va_get (D := (xG X).1) (ci := ci) (C := C) (T := T) (N := N) ok.1 ok.2.1 ok.2.2.2.2.1 hin ok.2.2.2.1 ok.2.2.2.2.2.1.1 hP c ((wl_at _ _ _ hc.1).trans (congrArg some (Prod.ext rfl (ent_obj hc.2.1 hc.2.2)))) hcl k hk (ok.2.2.2.2.1 _ hw) (fun _ h9 => h9) (by simp [hk]) d (kk H locs ls hl hP hS)
theorem r_put {c ci N idx : Nat} {C : String} {T : u_T} {v : Int32} (ok : Ok X cc nL own fr lo) (hc : Ob c ci N) (hcl : vwCl[ci]? = some (C, T, N)) (hin : ∀ w ∈ u_ws C T N, w ∈ gtbl) (ty0 : Nat → FieldType) (hty : ∀ k, k < N → parseFieldDescriptor (T k).2.2.1 = some (ty0 k)) (hnm : ∀ a, a < N → ∀ b, b < N → a ≠ b → (T a).2.1 ≠ (T b).2.1) (k : Nat) (hk : k < N) (hw : Cond.fieldLink own idx (T k).1 (T k).2.1 (T k).2.2.1 ∈ gtbl) (hf : (T k).2.2.2 = false) (hi : ty0 k = .int) (hr : rfo c k = 0) (d : decode cc pc = .ok (.putfield idx, 3)) (kk : Wp X nL (pc + 3) L st (up S c k v)) : Wp X nL pc L (.int v :: .ref (xad X c) :: st) S := by
  intro H locs ls hl hP hS
  refine va_put (D := (xG X).1) (ci := ci) (ty := .int) (v := .int v) (C := C) (T := T) (N := N) ok.1 ok.2.1 ok.2.2.2.2.1 hin ty0 hty hnm ok.2.2.2.1 ok.2.2.2.2.2.1.1 hP (wl_D S ok.2.2.2.2.2.2.1) hS c ((wl_at _ _ _ hc.1).trans (congrArg some (Prod.ext rfl (ent_obj hc.2.1 hc.2.2)))) hcl k hk (ok.2.2.2.2.1 _ hw) (fun _ h9 => h9) hf (by rw [hty k hk, hi]) rfl rfl (by simpa using hk) d (fun H1 locs1 hP1 _ hS1 => ?_)
  have e : ((wl (xG X).2.1 (xad X) S).set c (xad X c, .inr (ci, ((List.range N).map (fvl (xad X) S c)).set k (.int v)))) = wl (xG X).2.1 (xad X) (up S c k v) := by
    refine wl_set hc.1 ?_ ent_up_ne
    rw [ent_obj hc.2.1 hc.2.2]
    refine congrArg (fun z => Sum.inr (ci, z)) (map_range_set (by rw [fvl_int hr]; simp [up]) (fun j hj => ?_)).symm
    simp [fvl, up, hj]
  exact kk H1 locs1 ls hl (by rw [e] at hP1; exact hP1) hS1
theorem r_iald {c n j : Nat} {i : Int32} (ok : Ok X cc nL own fr lo) (hc : AI c n) (hin : vp_in i n) (hj : ix i = j) (d : decode cc pc = .ok (.iaload, 1)) (kk : Wp X nL (pc + 1) L (.int (S c j) :: st) S) : Wp X nL pc L (.int i :: .ref (xad X c) :: st) S :=
  fun H locs ls hl hP hS => by subst hj; exact va_iald (D := (xG X).1) ok.1 ok.2.1 ok.2.2.2.2.2.1.1 hP c 0 ((wl_at _ _ _ hc.1).trans (congrArg some (Prod.ext rfl (ent_int hc.2.1 hc.2.2)))) rfl hin d (kk H locs ls hl hP hS)
theorem r_zald {c n j : Nat} {i : Int32} (ok : Ok X cc nL own fr lo) (hc : AZ c n) (hin : vp_in i n) (hj : ix i = j) (d : decode cc pc = .ok (.baload, 1)) (kk : Wp X nL (pc + 1) L (.int (S c j) :: st) S) : Wp X nL pc L (.int i :: .ref (xad X c) :: st) S :=
  fun H locs ls hl hP hS => by subst hj; exact va_zald (D := (xG X).1) ok.1 ok.2.1 ok.2.2.2.2.2.1.1 hP c 1 ((wl_at _ _ _ hc.1).trans (congrArg some (Prod.ext rfl (ent_boo hc.2.1 hc.2.2)))) rfl hin d (kk H locs ls hl hP hS)
theorem r_aald {c n : Nat} {i : Int32} (ok : Ok X cc nL own fr lo) (hc : c < 92 ∧ kd c = 2 ∧ sz c = n) (hin : vp_in i n) (d : decode cc pc = .ok (.aaload, 1)) (kk : Wp X nL (pc + 1) L (.ref (xad X (22 + 11 * ix i)) :: st) S) : Wp X nL pc L (.int i :: .ref (xad X c) :: st) S :=
  fun H locs ls hl hP hS => va_aldq (D := (xG X).1) ok.1 ok.2.1 ok.2.2.2.2.2.1.1 hP c 2 ((wl_at _ _ _ hc.1).trans (congrArg some (Prod.ext rfl (ent_ref hc.2.1 hc.2.2)))) rfl hin d (kk H locs ls hl hP hS)
theorem r_iast {c n j : Nat} {i v : Int32} (ok : Ok X cc nL own fr lo) (hc : AI c n) (hin : vp_in i n) (hj : ix i = j) (d : decode cc pc = .ok (.iastore, 1)) (kk : ∀ S1 : St, S1 = up S c j v → Wp X nL (pc + 1) L st S1) : Wp X nL pc L (.int v :: .int i :: .ref (xad X c) :: st) S := by
  intro H locs ls hl hP hS
  subst hj
  refine va_iast (D := (xG X).1) ok.1 ok.2.1 ok.2.2.2.2.2.1.1 hP (wl_D S ok.2.2.2.2.2.2.1) hS c 0 ((wl_at _ _ _ hc.1).trans (congrArg some (Prod.ext rfl (ent_int hc.2.1 hc.2.2)))) rfl hin d (fun H1 locs1 hP1 _ hS1 => ?_)
  have e : (wl (xG X).2.1 (xad X) S).set c (xad X c, .inl ((xG X).2.1.1, n, .inl (upd (S c) (ix i) v))) = wl (xG X).2.1 (xad X) (up S c (ix i) v) := by
    refine wl_set hc.1 ?_ ent_up_ne
    rw [ent_int hc.2.1 hc.2.2, up_row]
  exact kk _ rfl H1 locs1 ls hl (by rw [e] at hP1; exact hP1) hS1
theorem nar_bool {v : Int32} (h : v = 0 ∨ v = 1) : vp_nar .boolean v = v := by rcases h with rfl | rfl <;> decide
theorem r_zast {c n j : Nat} {i v : Int32} (ok : Ok X cc nL own fr lo) (hc : AZ c n) (hin : vp_in i n) (hj : ix i = j) (hv : v = 0 ∨ v = 1) (d : decode cc pc = .ok (.bastore, 1)) (kk : ∀ S1 : St, S1 = up S c j v → Wp X nL (pc + 1) L st S1) : Wp X nL pc L (.int v :: .int i :: .ref (xad X c) :: st) S := by
  intro H locs ls hl hP hS
  subst hj
  refine va_zast (D := (xG X).1) ok.1 ok.2.1 ok.2.2.2.2.2.1.1 hP (wl_D S ok.2.2.2.2.2.2.1) hS c 1 ((wl_at _ _ _ hc.1).trans (congrArg some (Prod.ext rfl (ent_boo hc.2.1 hc.2.2)))) rfl hin d (fun H1 locs1 hP1 _ hS1 => ?_)
  rw [nar_bool hv] at hP1
  have e : (wl (xG X).2.1 (xad X) S).set c (xad X c, .inl ((xG X).2.1.2.1, n, .inl (upd (S c) (ix i) v))) = wl (xG X).2.1 (xad X) (up S c (ix i) v) := by
    refine wl_set hc.1 ?_ ent_up_ne
    rw [ent_boo hc.2.1 hc.2.2, up_row]
  exact kk _ rfl H1 locs1 ls hl (by rw [e] at hP1; exact hP1) hS1
theorem r_max {idx : Nat} {x y : Int32} (ok : Ok X cc nL own fr lo) (d : decode cc pc = .ok (.invokestatic idx, 3)) (hw : Cond.methodLink own idx Lib.Math.max.name ∈ gtbl) (h1 : Cond.static Lib.Math.max.name ∈ gtbl) (h2 : Cond.initialized "java/lang/Math" ∈ gtbl) (h3 : Cond.code Lib.Math.max.name Lib.Math.max.code 2 (some .int) ∈ gtbl) (hf : 1 ≤ fr) (hs : (st.map fun v => v.category).sum + 13 ≤ lo) (k : Wp X nL (pc + 3) L (.int (if x < y then y else x) :: st) S) : Wp X nL pc L (.int y :: .int x :: st) S :=
  fun H locs ls hl hP hS => va_mmax ok.1 ok.2.1 (ok.2.2.1.trans hl.1.symm) ok.2.2.2.1 (ok.2.2.2.2.1 _ hw) (ok.2.2.2.2.1 _ h1) (ok.2.2.2.2.1 _ h2) (ok.2.2.2.2.1 _ h3) (Nat.le_trans hf ok.2.2.2.2.2.2.2.1.1) (Nat.le_trans hs ok.2.2.2.2.2.2.2.1.2) ok.2.2.2.2.2.2.2.2.1 ok.2.2.2.2.2.2.2.2.2 d (k H locs ls hl hP hS)
theorem r_min {idx : Nat} {x y : Int32} (ok : Ok X cc nL own fr lo) (d : decode cc pc = .ok (.invokestatic idx, 3)) (hw : Cond.methodLink own idx Lib.Math.min.name ∈ gtbl) (h1 : Cond.static Lib.Math.min.name ∈ gtbl) (h2 : Cond.initialized "java/lang/Math" ∈ gtbl) (h3 : Cond.code Lib.Math.min.name Lib.Math.min.code 2 (some .int) ∈ gtbl) (hf : 1 ≤ fr) (hs : (st.map fun v => v.category).sum + 13 ≤ lo) (k : Wp X nL (pc + 3) L (.int (if y < x then y else x) :: st) S) : Wp X nL pc L (.int y :: .int x :: st) S :=
  fun H locs ls hl hP hS => va_mmin ok.1 ok.2.1 (ok.2.2.1.trans hl.1.symm) ok.2.2.2.1 (ok.2.2.2.2.1 _ hw) (ok.2.2.2.2.1 _ h1) (ok.2.2.2.2.1 _ h2) (ok.2.2.2.2.1 _ h3) (Nat.le_trans hf ok.2.2.2.2.2.2.2.1.1) (Nat.le_trans hs ok.2.2.2.2.2.2.2.1.2) ok.2.2.2.2.2.2.2.2.1 ok.2.2.2.2.2.2.2.2.2 d (k H locs ls hl hP hS)
theorem r_copy {idx c a N : Nat} {n : Int32} (ok : Ok X cc nL own fr lo) (ha : AI a N) (hc : AI c N) (d : decode cc pc = .ok (.invokestatic idx, 3)) (hw : Cond.methodLink own idx arraycopyName ∈ gtbl) (h1 : Cond.native arraycopyName ∈ gtbl) (h2 : Cond.static arraycopyName ∈ gtbl) (h3 : Cond.initialized "java/lang/System" ∈ gtbl) (hn0 : ¬ n < 0) (hn : n.toNatClampNeg = N) (hf : 1 ≤ fr) (hs : (st.map fun v => v.category).sum + (nativeFrameWords "java/lang/System" "arraycopy" 5 + 11) ≤ lo) (k : ∀ S1 : St, S1 = cpS S a c N → Wp X nL (pc + 3) L st S1) : Wp X nL pc L (.int n :: .int 0 :: .ref (xad X c) :: .int 0 :: .ref (xad X a) :: st) S := by
  intro H locs ls hl hP hS
  refine va_copyi (D := (xG X).1) ok.1 ok.2.1 (ok.2.2.1.trans hl.1.symm) ok.2.2.2.1 (ok.2.2.2.2.1 _ hw) (ok.2.2.2.2.1 _ h1) (ok.2.2.2.2.1 _ h2) (ok.2.2.2.2.1 _ h3) ok.2.2.2.2.2.1.1 hP (wl_D S ok.2.2.2.2.2.2.1) hS a c 0 0 ((wl_at _ _ _ ha.1).trans (congrArg some (Prod.ext rfl (ent_int ha.2.1 ha.2.2)))) ((wl_at _ _ _ hc.1).trans (congrArg some (Prod.ext rfl (ent_int hc.2.1 hc.2.2)))) rfl rfl rfl (by decide) (by decide) hn0 (by rw [hn, sb_cl0]; omega) (by rw [hn, sb_cl0]; omega) (fun _ _ => rfl) (Nat.le_trans hf ok.2.2.2.2.2.2.2.1.1) (Nat.le_trans hs ok.2.2.2.2.2.2.2.1.2) d (fun H1 locs1 hP1 _ hS1 => ?_)
  rw [hn, sb_cl0] at hP1
  have e : (wl (xG X).2.1 (xad X) S).set c (xad X c, .inl ((xG X).2.1.1, N, .inl (va_cpy (S a) (S c) 0 0 N))) = wl (xG X).2.1 (xad X) (cpS S a c N) := by
    refine wl_set hc.1 ?_ ent_cp_ne
    rw [ent_int hc.2.1 hc.2.2]
    refine congrArg (fun z => Sum.inl ((xG X).2.1.1, N, Sum.inl z)) (funext fun j => ?_)
    simp [cpS, va_cpy]
  exact k _ rfl H1 locs1 ls hl (by rw [e] at hP1; exact hP1) hS1
theorem r_top {x : Int32} (k : ∀ y : Int32, y = x → Wp X nL pc L (.int y :: st) S) : Wp X nL pc L (.int x :: st) S := k x rfl
theorem r_tout {dflt lo1 hi1 : Int} {offs : Array Int} {len : Nat} {x : Int32} {tgt : Nat} (ok : Ok X cc nL own fr lo) (d : decode cc pc = .ok (.tableswitch dflt lo1 hi1 offs, len)) (h : x.toInt < lo1 ∨ hi1 < x.toInt) (ht : (pc : Int) + dflt = (tgt : Int)) (k : Wp X nL tgt L st S) : Wp X nL pc L (.int x :: st) S :=
  fun H locs ls hl hP hS => lv_tableOut ok.1 ok.2.1 d h ht (k H locs ls hl hP hS)
theorem r_tin {dflt lo1 hi1 : Int} {offs : Array Int} {len : Nat} {x : Int32} {off : Int} {tgt : Nat} (ok : Ok X cc nL own fr lo) (d : decode cc pc = .ok (.tableswitch dflt lo1 hi1 offs, len)) (h1 : ¬ x.toInt < lo1) (h2 : ¬ hi1 < x.toInt) (ho : offs[(x.toInt - lo1).toNat]? = some off) (ht : (pc : Int) + off = (tgt : Int)) (k : Wp X nL tgt L st S) : Wp X nL pc L (.int x :: st) S :=
  fun H locs ls hl hP hS => lv_tableIn ok.1 ok.2.1 d h1 h2 ho ht (k H locs ls hl hP hS)
theorem r_lsw {dflt : Int} {ps : Array (Int × Int)} {len : Nat} {x : Int32} {off : Int} {tgt : Nat} (ok : Ok X cc nL own fr lo) (d : decode cc pc = .ok (.lookupswitch dflt ps, len)) (hp : (ps.toList.zip (ps.toList.drop 1)).all (fun (a, next) => a.1 < next.1) = true) (ho : Op.lookupswitch.offset ps.toList dflt x.toInt = off) (ht : (pc : Int) + off = (tgt : Int)) (k : Wp X nL tgt L st S) : Wp X nL pc L (.int x :: st) S :=
  fun H locs ls hl hP hS => lv_lookup ok.1 ok.2.1 d hp ho ht (k H locs ls hl hP hS)
end Rows
/-! contracts -/
def PreC (G : Gx) (av : List Value) (S : St) : Array Value → State → Prop := va_Pc av (fun U => WP G S U.heap ∧ Inj G.2.2 ∧ Kt G U)
def PoI (G : Gx) (post : Int32 → St → Prop) : Array Value → State → Outcome → State → Prop := va_Qi post (fun S' t => WP G S' t.heap) (Fr G.2.2)
def PoV (G : Gx) (post : St → Prop) : Array Value → State → Outcome → State → Prop := va_Qv post (fun S' t => WP G S' t.heap) (Fr G.2.2)
abbrev rmOf (f lo : Nat) : Room := { frames := f, cells := 0, slots := 0, locals := lo }
abbrev MtI (l : Launch) (y : MethodName) (b : ByteArray) (n : Nat) (r : Option FieldType) (f lo : Nat) (G : Gx) (av : List Value) (S : St) (post : Int32 → St → Prop) : Prop := Met l y (wsOf y b n r) (rmOf f lo) (PreC G av S) (PoI G post) 0 0 (Fr G.2.2)
abbrev MtV (l : Launch) (y : MethodName) (b : ByteArray) (n : Nat) (f lo : Nat) (G : Gx) (av : List Value) (S : St) (post : St → Prop) : Prop := Met l y (wsOf y b n none) (rmOf f lo) (PreC G av S) (PoV G post) 0 0 (Fr G.2.2)
def RetI (X : Cx) (cc : ByteArray) (nL : Nat) (post : Int32 → St → Prop) : Prop := ∀ (pc : Nat) (L : List (Nat × Value)) (v : Int32) (S : St), decode cc pc = .ok (.ireturn, 1) → post v S → Wp X nL pc L [.int v] S
def RetZ (X : Cx) (cc : ByteArray) (nL : Nat) (post : Int32 → St → Prop) : Prop := ∀ (pc : Nat) (L : List (Nat × Value)) (v : Int32) (S : St), decode cc pc = .ok (.ireturn, 1) → (v = 0 ∨ v = 1) → post v S → Wp X nL pc L [.int v] S
def RetV (X : Cx) (cc : ByteArray) (nL : Nat) (post : St → Prop) : Prop := ∀ (pc : Nat) (L : List (Nat × Value)) (S : St), decode cc pc = .ok (.return_, 1) → post S → Wp X nL pc L [] S
theorem PreC.blind {G : Gx} {av : List Value} {S : St} : FrameBlind (PreC G av S) := fun _ _ _ _ q => ⟨q.1, q.2.1, q.2.2.1, q.2.2.2.same rfl⟩
section Entry
variable {l : Launch} {y : MethodName} {b : ByteArray} {n f lo : Nat} {G : Gx} {av : List Value} {S : St}
theorem ctx_entry {own : String} {ret : Option FieldType} {Qc : Array Value → State → Outcome → State → Prop} {K : Cx → Prop} (hy : plainName y.cls = true) (hown : y.cls = own) (hn : (lg_sl av).length ≤ n)
    (hK : ∀ p e s m args below meth c, meth.locks = false → meth.sig.returnType = ret → Ok (p, l, e, rmOf f lo, s, m, args, below, meth, c, G, (0, 0), MQ below Qc args s 0 0 (Fr G.2.2)) b n own f lo → K (p, l, e, rmOf f lo, s, m, args, below, meth, c, G, (0, 0), MQ below Qc args s 0 0 (Fr G.2.2)))
    (body : ∀ X : Cx, xl X = l → xG X = G → Ok X b n own f lo → K X → Wp X n 0 (lv_args 0 av) [] S) : Met l y (wsOf y b n ret) (rmOf f lo) (PreC G av S) Qc 0 0 (Fr G.2.2) := by
  refine Met.ofW (cc := b) (maxL := n) (ret := ret) hy rfl ?_
  intro p e s m args below meth c s₁ B hml hv
  obtain ⟨rfl, hP, hI, hKt⟩ := hv
  have hts := atoms_spec (ws := wsOf y b n ret) B.pre
  have hfc : s.vm.findClass own = some m.cls := hown ▸ findClass_of_methodNamed B.named
  have hok : Ok (p, l, e, rmOf f lo, s, m, av.toArray, below, meth, c, G, (0, 0), MQ below Qc av.toArray s 0 0 (Fr G.2.2)) b n own f lo := ⟨B.exec, B.bytes, hml, hfc, fun w hw => hts w (List.mem_cons_of_mem _ hw), hKt, hI, ⟨Nat.le_refl _, Nat.le_refl _⟩, Nat.zero_le _, Nat.zero_le _⟩
  have hl := lv_entry av (n := n) hn
  rw [lg_entry_eq]
  exact body _ rfl rfl hok (hK p e s m _ below meth c B.notSynchronized B.returns hok) s.heap [] _ hl hP va_S.rf
theorem ctI {own : String} {post : Int32 → St → Prop} (hy : plainName y.cls = true) (hown : y.cls = own) (hn : (lg_sl av).length ≤ n) (body : ∀ X : Cx, xl X = l → xG X = G → Ok X b n own f lo → RetI X b n post → Wp X n 0 (lv_args 0 av) [] S) : MtI l y b n (some .int) f lo G av S post := by
  refine ctx_entry (K := fun X => RetI X b n post) hy hown hn ?_ body
  intro p e s m args below meth c hlk hr ok pc L v S' d hp H locs ls _ hP hS
  exact W.iret ok.1 ok.2.1 hr (fun t ht _ => ⟨⟨v, S', rfl, hp, by show WP G S' t.heap; rw [ht]; exact hP⟩, hS.F ht⟩) hS.2.2 d hlk
theorem ctZ {own : String} {post : Int32 → St → Prop} (hy : plainName y.cls = true) (hown : y.cls = own) (hn : (lg_sl av).length ≤ n) (body : ∀ X : Cx, xl X = l → xG X = G → Ok X b n own f lo → RetZ X b n post → Wp X n 0 (lv_args 0 av) [] S) : MtI l y b n (some .boolean) f lo G av S post := by
  refine ctx_entry (K := fun X => RetZ X b n post) hy hown hn ?_ body
  intro p e s m args below meth c hlk hr ok pc L v S' d hv hp H locs ls _ hP hS
  exact W.zret ok.1 ok.2.1 hr (by rcases hv with rfl | rfl <;> decide) (fun t ht _ => ⟨⟨v, S', rfl, hp, by show WP G S' t.heap; rw [ht]; exact hP⟩, hS.F ht⟩) hS.2.2 d hlk
theorem ctV {own : String} {post : St → Prop} (hy : plainName y.cls = true) (hown : y.cls = own) (hn : (lg_sl av).length ≤ n) (body : ∀ X : Cx, xl X = l → xG X = G → Ok X b n own f lo → RetV X b n post → Wp X n 0 (lv_args 0 av) [] S) : MtV l y b n f lo G av S post := by
  refine ctx_entry (K := fun X => RetV X b n post) hy hown hn ?_ body
  intro p e s m args below meth c hlk hr ok pc L S' d hp H locs ls _ hP hS
  exact W.vret ok.1 ok.2.1 hr (fun t ht _ => ⟨⟨S', rfl, hp, by show WP G S' t.heap; rw [ht]; exact hP⟩, hS.F ht⟩) hS.2.2 d hlk
end Entry
section Calls
variable {X : Cx} {cc : ByteArray} {nL pc fr lo : Nat} {own : String} {L : List (Nat × Value)} {st : List Value} {S : St} {y : MethodName} {b : ByteArray} {n f lo1 idx N : Nat} {ret : Option FieldType} {As : List Value} {post : Int32 → St → Prop} {postV : St → Prop}
theorem wp_run {Qc : Array Value → State → Outcome → State → Prop} (ok : Ok X cc nL own fr lo) (hi : Cond.initialized y.cls ∈ gtbl) (hm : Cond.instanceMethod y ∈ gtbl) (hs : Cond.selects y.cls y y ∈ gtbl) (hcode : Cond.code y b n ret ∈ gtbl) (hlink : Cond.methodLink own idx y ∈ gtbl) (hd : y.cls ≠ "java/lang/invoke/MethodHandle" ∧ y.cls ≠ "java/lang/invoke/VarHandle" ∧ (parseMethodDescriptor y.desc).map (fun d => d.parameters.length) = some N) (hN : As.length = N) {c0 ci NN : Nat} {T : u_T} (ho : Ob c0 ci NN) (hcl : vwCl[ci]? = some (y.cls, T, NN)) (hroom : f + 1 ≤ fr ∧ 8 + (n + 11) + lo1 ≤ lo) (hst : (st.map fun v => v.category).sum ≤ 8) (d : decode cc pc = .ok (.invokevirtual idx, 3))
    (hM : Met (xl X) y (wsOf y b n ret) (rmOf f lo1) (PreC (xG X) (.ref (xad X c0) :: As) S) Qc 0 0 (Fr (xad X))) {H : Heap} {locs : List Loc} {ls : Array Slot} (hl : lv_has ls nL L) (hP : WP (xG X) S H) {stk : List Value} (hstk : stk = As.reverse ++ .ref (xad X c0) :: st) :
    va_Run X.1 (xl X) X.2.2.1 (xR X) (xs X) (xm X) (xargs X) (xbelow X) (xmeth X) (xc X) H locs (xcs X).1 (xcs X).2 0 0 (F0 (xm X) pc ls stk) st (Qc (Value.ref (xad X c0) :: As).toArray) (Fr (xad X)) := by
  subst hN
  have hB : CallB (xR X) (xs X) (xargs X) own idx y b n ret (wsOf y b n ret) (rmOf f lo1) 0 0 As.length := callB_of As.length ok.2.2.2.2.1 (good_ws hcode) rfl rfl rfl (ok.2.2.2.2.1 _ hi) (ok.2.2.2.2.1 _ hlink) hd ⟨Nat.le_trans hroom.1 ok.2.2.2.2.2.2.2.1.1, Nat.le_trans hroom.2 ok.2.2.2.2.2.2.2.1.2⟩
  exact va_runV (As := As) ⟨ok.1, ok.2.1, ok.2.2.1, ok.2.2.2.1, ok.2.2.2.2.1⟩ hM ⟨hB, ok.2.2.2.2.1 _ hm, ok.2.2.2.2.1 _ hs⟩ ⟨PreC.blind, va_recv ok.2.2.2.2.2.1.1 hP hcl ((wl_at _ _ _ ho.1).trans (congrArg some (Prod.ext rfl (ent_obj ho.2.1 ho.2.2)))), fun U hU hW => ⟨rfl, by rw [hU]; exact hP, ok.2.2.2.2.2.2.1, ok.2.2.2.2.2.1.warm hW⟩⟩ rfl rfl hl.1 hstk (lv_room hst) d ⟨ok.2.2.2.2.2.2.2.2.1, ok.2.2.2.2.2.2.2.2.2⟩
theorem r_callVi (ok : Ok X cc nL own fr lo) (hi : Cond.initialized y.cls ∈ gtbl) (hm : Cond.instanceMethod y ∈ gtbl) (hs : Cond.selects y.cls y y ∈ gtbl) (hcode : Cond.code y b n ret ∈ gtbl) (hlink : Cond.methodLink own idx y ∈ gtbl) (hd : y.cls ≠ "java/lang/invoke/MethodHandle" ∧ y.cls ≠ "java/lang/invoke/VarHandle" ∧ (parseMethodDescriptor y.desc).map (fun d => d.parameters.length) = some N) (hN : As.length = N) {c0 ci NN : Nat} {T : u_T} (ho : Ob c0 ci NN) (hcl : vwCl[ci]? = some (y.cls, T, NN)) (hroom : f + 1 ≤ fr ∧ 8 + (n + 11) + lo1 ≤ lo) (hst : (st.map fun v => v.category).sum ≤ 8) (d : decode cc pc = .ok (.invokevirtual idx, 3)) {stk : List Value} (hstk : stk = As.reverse ++ .ref (xad X c0) :: st)
    (hM : MtI (xl X) y b n ret f lo1 (xG X) (.ref (xad X c0) :: As) S post) (kk : ∀ (r : Int32) (S' : St), post r S' → Wp X nL (pc + 3) L (.int r :: st) S') : Wp X nL pc L stk S := by
  intro H locs ls hl hP hS
  refine va_calli (wp_run ok hi hm hs hcode hlink hd hN ho hcl hroom hst d hM hl hP hstk) hS (fun _ _ h => h) (fun _ h => h) (fun r S' t H1 locs1 ht _ hp hB _ _ hS1 => ?_)
  exact kk r S' hp H1 locs1 ls hl (by rw [← ht]; exact hB) hS1
theorem r_callVv (ok : Ok X cc nL own fr lo) (hi : Cond.initialized y.cls ∈ gtbl) (hm : Cond.instanceMethod y ∈ gtbl) (hs : Cond.selects y.cls y y ∈ gtbl) (hcode : Cond.code y b n none ∈ gtbl) (hlink : Cond.methodLink own idx y ∈ gtbl) (hd : y.cls ≠ "java/lang/invoke/MethodHandle" ∧ y.cls ≠ "java/lang/invoke/VarHandle" ∧ (parseMethodDescriptor y.desc).map (fun d => d.parameters.length) = some N) (hN : As.length = N) {c0 ci NN : Nat} {T : u_T} (ho : Ob c0 ci NN) (hcl : vwCl[ci]? = some (y.cls, T, NN)) (hroom : f + 1 ≤ fr ∧ 8 + (n + 11) + lo1 ≤ lo) (hst : (st.map fun v => v.category).sum ≤ 8) (d : decode cc pc = .ok (.invokevirtual idx, 3)) {stk : List Value} (hstk : stk = As.reverse ++ .ref (xad X c0) :: st)
    (hM : MtV (xl X) y b n f lo1 (xG X) (.ref (xad X c0) :: As) S postV) (kk : ∀ (S' : St), postV S' → Wp X nL (pc + 3) L st S') : Wp X nL pc L stk S := by
  intro H locs ls hl hP hS
  refine va_callv (wp_run ok hi hm hs hcode hlink hd hN ho hcl hroom hst d hM hl hP hstk) hS (fun _ _ h => h) (fun _ h => h) (fun S' t H1 locs1 ht _ hp hB _ _ hS1 => ?_)
  exact kk S' hp H1 locs1 ls hl (by rw [← ht]; exact hB) hS1
theorem wp_runS {Qc : Array Value → State → Outcome → State → Prop} (ok : Ok X cc nL own fr lo) (hi : Cond.initialized y.cls ∈ gtbl) (hsc : Cond.static y ∈ gtbl) (hcode : Cond.code y b n ret ∈ gtbl) (hlink : Cond.methodLink own idx y ∈ gtbl) (hd : y.cls ≠ "java/lang/invoke/MethodHandle" ∧ y.cls ≠ "java/lang/invoke/VarHandle" ∧ (parseMethodDescriptor y.desc).map (fun d => d.parameters.length) = some N) (hN : As.length = N) (hroom : f + 1 ≤ fr ∧ 8 + (n + 11) + lo1 ≤ lo) (hst : (st.map fun v => v.category).sum ≤ 8) (d : decode cc pc = .ok (.invokestatic idx, 3))
    (hM : Met (xl X) y (wsOf y b n ret) (rmOf f lo1) (PreC (xG X) As S) Qc 0 0 (Fr (xad X))) {H : Heap} {locs : List Loc} {ls : Array Slot} (hl : lv_has ls nL L) (hP : WP (xG X) S H) {stk : List Value} (hstk : stk = As.reverse ++ st) :
    va_Run X.1 (xl X) X.2.2.1 (xR X) (xs X) (xm X) (xargs X) (xbelow X) (xmeth X) (xc X) H locs (xcs X).1 (xcs X).2 0 0 (F0 (xm X) pc ls stk) st (Qc As.toArray) (Fr (xad X)) := by
  subst hN
  have hB : CallB (xR X) (xs X) (xargs X) own idx y b n ret (wsOf y b n ret) (rmOf f lo1) 0 0 As.length := callB_of As.length ok.2.2.2.2.1 (good_ws hcode) rfl rfl rfl (ok.2.2.2.2.1 _ hi) (ok.2.2.2.2.1 _ hlink) hd ⟨Nat.le_trans hroom.1 ok.2.2.2.2.2.2.2.1.1, Nat.le_trans hroom.2 ok.2.2.2.2.2.2.2.1.2⟩
  exact va_runS (As := As) ⟨ok.1, ok.2.1, ok.2.2.1, ok.2.2.2.1, ok.2.2.2.2.1⟩ hM ⟨hB, ok.2.2.2.2.1 _ hsc⟩ ⟨PreC.blind, fun U hU hW => ⟨rfl, by rw [hU]; exact hP, ok.2.2.2.2.2.2.1, ok.2.2.2.2.2.1.warm hW⟩⟩ rfl rfl hl.1 hstk (lv_room hst) d ⟨ok.2.2.2.2.2.2.2.2.1, ok.2.2.2.2.2.2.2.2.2⟩
theorem r_callSi (ok : Ok X cc nL own fr lo) (hi : Cond.initialized y.cls ∈ gtbl) (hsc : Cond.static y ∈ gtbl) (hcode : Cond.code y b n ret ∈ gtbl) (hlink : Cond.methodLink own idx y ∈ gtbl) (hd : y.cls ≠ "java/lang/invoke/MethodHandle" ∧ y.cls ≠ "java/lang/invoke/VarHandle" ∧ (parseMethodDescriptor y.desc).map (fun d => d.parameters.length) = some N) (hN : As.length = N) (hroom : f + 1 ≤ fr ∧ 8 + (n + 11) + lo1 ≤ lo) (hst : (st.map fun v => v.category).sum ≤ 8) (d : decode cc pc = .ok (.invokestatic idx, 3)) {stk : List Value} (hstk : stk = As.reverse ++ st)
    (hM : MtI (xl X) y b n ret f lo1 (xG X) As S post) (kk : ∀ (r : Int32) (S' : St), post r S' → Wp X nL (pc + 3) L (.int r :: st) S') : Wp X nL pc L stk S := by
  intro H locs ls hl hP hS
  refine va_calli (wp_runS ok hi hsc hcode hlink hd hN hroom hst d hM hl hP hstk) hS (fun _ _ h => h) (fun _ h => h) (fun r S' t H1 locs1 ht _ hp hB _ _ hS1 => ?_)
  exact kk r S' hp H1 locs1 ls hl (by rw [← ht]; exact hB) hS1
theorem r_callSv (ok : Ok X cc nL own fr lo) (hi : Cond.initialized y.cls ∈ gtbl) (hsc : Cond.static y ∈ gtbl) (hcode : Cond.code y b n none ∈ gtbl) (hlink : Cond.methodLink own idx y ∈ gtbl) (hd : y.cls ≠ "java/lang/invoke/MethodHandle" ∧ y.cls ≠ "java/lang/invoke/VarHandle" ∧ (parseMethodDescriptor y.desc).map (fun d => d.parameters.length) = some N) (hN : As.length = N) (hroom : f + 1 ≤ fr ∧ 8 + (n + 11) + lo1 ≤ lo) (hst : (st.map fun v => v.category).sum ≤ 8) (d : decode cc pc = .ok (.invokestatic idx, 3)) {stk : List Value} (hstk : stk = As.reverse ++ st)
    (hM : MtV (xl X) y b n f lo1 (xG X) As S postV) (kk : ∀ (S' : St), postV S' → Wp X nL (pc + 3) L st S') : Wp X nL pc L stk S := by
  intro H locs ls hl hP hS
  refine va_callv (wp_runS ok hi hsc hcode hlink hd hN hroom hst d hM hl hP hstk) hS (fun _ _ h => h) (fun _ h => h) (fun S' t H1 locs1 ht _ hp hB _ _ hS1 => ?_)
  exact kk S' hp H1 locs1 ls hl (by rw [← ht]; exact hB) hS1
theorem r_callNi {host : String} (ok : Ok X cc nL own fr lo) (hi : Cond.initialized y.cls ∈ gtbl) (hsc : Cond.static y ∈ gtbl) (hcode : Cond.code y b n ret ∈ gtbl) (hlink : va_Nw (.methodLinkNest own idx y host) (xs X)) (hd : y.cls ≠ "java/lang/invoke/MethodHandle" ∧ y.cls ≠ "java/lang/invoke/VarHandle" ∧ (parseMethodDescriptor y.desc).map (fun d => d.parameters.length) = some N) (hN : As.length = N) (hroom : f + 1 ≤ fr ∧ 8 + (n + 11) + lo1 ≤ lo) (hst : (st.map fun v => v.category).sum ≤ 8) (d : decode cc pc = .ok (.invokestatic idx, 3)) {stk : List Value} (hstk : stk = As.reverse ++ st)
    (hM : MtI (xl X) y b n ret f lo1 (xG X) As S post) (kk : ∀ (r : Int32) (S' : St), post r S' → Wp X nL (pc + 3) L (.int r :: st) S') : Wp X nL pc L stk S := by
  intro H locs ls hl hP hS
  subst hN
  have hB := va_cnB (mc := 0) (ms := 0) (rm := rmOf f lo1) (R := xR X) As.length ok.2.2.2.2.1 (good_ws hcode) rfl rfl rfl hlink (ok.2.2.2.2.1 _ hi) hd ⟨Nat.le_trans hroom.1 ok.2.2.2.2.2.2.2.1.1, Nat.le_trans hroom.2 ok.2.2.2.2.2.2.2.1.2⟩
  refine va_calli (va_runSN (As := As) ⟨ok.1, ok.2.1, ok.2.2.1, ok.2.2.2.1, ok.2.2.2.2.1⟩ hM ⟨hB, ok.2.2.2.2.1 _ hsc, trivial⟩ ⟨PreC.blind, fun U hU hW => ⟨rfl, by rw [hU]; exact hP, ok.2.2.2.2.2.2.1, ok.2.2.2.2.2.1.warm hW⟩⟩ rfl rfl hl.1 hstk (lv_room hst) d ⟨ok.2.2.2.2.2.2.2.2.1, ok.2.2.2.2.2.2.2.2.2⟩) hS (fun _ _ h => h) (fun _ h => h) (fun r S' t H1 locs1 ht _ hp hB _ _ hS1 => ?_)
  exact kk r S' hp H1 locs1 ls hl (by rw [← ht]; exact hB) hS1
end Calls
