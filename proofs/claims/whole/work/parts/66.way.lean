/-! ways: steps, what is reached by them, and when a search is done -/
theorem tmh_mono {v : Vw} {r : Nat} {h h' : Int} (hR : Rb v r) (hh : h ≤ h') : tmh v r h ≤ tmh v r h' := by
  obtain ⟨_, _, _, _, _, m1, m2⟩ := hR
  have := Int.mul_le_mul_of_nonneg_left (show 2 + h ≤ 2 + h' by omega) (show 0 ≤ v 3 r by omega)
  unfold tmh
  omega
theorem hur_mono {v : Vw} {p : Nat} {a t t' : Int} (ht : t ≤ t') : hur v p a t ≤ hur v p a t' := by
  unfold hur
  (repeat' split) <;> omega
theorem tme_mono {v : Vw} {p r : Nat} {a t t' s : Int} (hR : Rb v r) (ht : t ≤ t') : tme v p r a t s ≤ tme v p r a t' s := by
  have := hur_mono (v := v) (p := p) (a := a) ht
  unfold tme
  apply tmh_mono hR
  (repeat' split) <;> omega
theorem tme_calm {v : Vw} {p r : Nat} {a t s s' : Int} (hR : Rb v r) (hs : s ≤ s') : tme v p r a t s' ≤ tme v p r a t s := by
  unfold tme
  apply tmh_mono hR
  (repeat' split) <;> omega
/-- one step: a minute waited at an inn, or a road; `ly` is the layer that a road leads to -/
def Eg (v : Vw) (p : Nat) (ly : Nat → Int → Nat) (l : Nat) (a c t : Int) (l' : Nat) (a' c' t' : Int) : Prop := (bt (v 0 3) a = 1 ∧ c < 5 ∧ l' = l ∧ a' = a ∧ c' = c + 1 ∧ t' = t + 1) ∨ ∃ (r : Nat) (s : Int), (r : Int) < v 0 1 ∧ oth v r a = a' ∧ a' ≠ -1 ∧ 0 ≤ s ∧ s ≤ c ∧ l' = ly l a' ∧ c' = c - s ∧ t' = t + tme v p r a t s
def Rc (v : Vw) (p : Nat) (ly : Nat → Int → Nat) (l0 : Nat) (a0 c0 t0 : Int) : Nat → Nat → Int → Int → Int → Prop
  | 0, l, a, c, t => l = l0 ∧ a = a0 ∧ c = c0 ∧ t = t0
  | n + 1, l, a, c, t => ∃ l1 a1 c1 t1, Rc v p ly l0 a0 c0 t0 n l1 a1 c1 t1 ∧ Eg v p ly l1 a1 c1 t1 l a c t
theorem Eg_pos {v : Vw} {p : Nat} {ly : Nat → Int → Nat} {l l' : Nat} {a c t a' c' t' : Int} (hL : Lb v) (hp : (p : Int) < v 0 2) (h : Eg v p ly l a c t l' a' c' t') : t + 1 ≤ t' ∧ t' ≤ t + 240 := by
  rcases h with ⟨_, _, _, _, _, e⟩ | ⟨r, s, h1, _, _, h2, _, _, _, e⟩
  · omega
  · have := tme_b (v := v) (p := p) (r := r) a t (s := s) (hL.2.2 p hp) (hL.2.1 r h1) h2
    omega
theorem Eg_in {v : Vw} {p : Nat} {ly : Nat → Int → Nat} {l l' : Nat} {a c t a' c' t' : Int} (hL : Lb v) (ha : 0 ≤ a ∧ a < v 0 0) (hc : 0 ≤ c ∧ c ≤ 5) (h : Eg v p ly l a c t l' a' c' t') : (0 ≤ a' ∧ a' < v 0 0) ∧ (0 ≤ c' ∧ c' ≤ 5) := by
  rcases h with ⟨_, _, _, e1, e2, _⟩ | ⟨r, s, h1, e1, h3, h2, h4, _, e2, _⟩
  · rw [e1]; omega
  · have := oth_b a (hL.2.1 r h1) hL.1
    omega
theorem Eg_dom {v : Vw} {p : Nat} {ly : Nat → Int → Nat} {l l' : Nat} {a c t a' c' t' C T : Int} (hL : Lb v) (h : Eg v p ly l a c t l' a' c' t') (hc : c ≤ C) (hC : C ≤ 5) (hT : T ≤ t) : (l' = l ∧ a' = a ∧ c' ≤ C ∧ T ≤ t') ∨ ∃ C' T', Eg v p ly l a C T l' a' C' T' ∧ c' ≤ C' ∧ C' ≤ 5 ∧ T' ≤ t' := by
  rcases h with ⟨h1, h2, e0, e1, e2, e3⟩ | ⟨r, s, h1, e1, h3, h2, h4, e0, e2, e3⟩
  · by_cases hcC : c < C
    · exact Or.inl ⟨e0, e1, by omega, by omega⟩
    · exact Or.inr ⟨C + 1, T + 1, Or.inl ⟨h1, by omega, e0, e1, rfl, rfl⟩, by omega, by omega, by omega⟩
  · have := tme_mono (v := v) (p := p) (r := r) (a := a) (s := s) (hL.2.1 r h1) hT
    exact Or.inr ⟨C - s, T + tme v p r a T s, Or.inr ⟨r, s, h1, e1, h3, h2, by omega, e0, rfl, rfl⟩, by omega, by omega, by omega⟩
theorem Eg_Sv {v w : Vw} {p : Nat} {ly : Nat → Int → Nat} {l l' : Nat} {a c t a' c' t' : Int} (hS : Sv v w) (hp : (p : Int) < v 0 2) : Eg w p ly l a c t l' a' c' t' ↔ Eg v p ly l a c t l' a' c' t' := by
  unfold Eg
  rw [hS.1 3 (by omega), hS.1 1 (by omega)]
  constructor
  · rintro (h | ⟨r, s, h1, h2, h3, h4, h5, h6, h7, h8⟩)
    · exact Or.inl h
    · exact Or.inr ⟨r, s, h1, (oth_Sv hS h1 a).symm.trans h2, h3, h4, h5, h6, h7, by rw [← tme_Sv hS hp h1]; exact h8⟩
  · rintro (h | ⟨r, s, h1, h2, h3, h4, h5, h6, h7, h8⟩)
    · exact Or.inl h
    · exact Or.inr ⟨r, s, h1, (oth_Sv hS h1 a).trans h2, h3, h4, h5, h6, h7, by rw [tme_Sv hS hp h1]; exact h8⟩
theorem Rc_Sv {v w : Vw} {p : Nat} {ly : Nat → Int → Nat} {l0 : Nat} {a0 c0 t0 : Int} (hS : Sv v w) (hp : (p : Int) < v 0 2) : ∀ n l a c t, Rc w p ly l0 a0 c0 t0 n l a c t ↔ Rc v p ly l0 a0 c0 t0 n l a c t := by
  intro n
  induction n with
  | zero => intro l a c t; exact Iff.rfl
  | succ n ih =>
    intro l a c t
    constructor
    · rintro ⟨l1, a1, c1, t1, h1, h2⟩
      exact ⟨l1, a1, c1, t1, (ih _ _ _ _).mp h1, (Eg_Sv hS hp).mp h2⟩
    · rintro ⟨l1, a1, c1, t1, h1, h2⟩
      exact ⟨l1, a1, c1, t1, (ih _ _ _ _).mpr h1, (Eg_Sv hS hp).mpr h2⟩
theorem Rc_in {v : Vw} {p : Nat} {ly : Nat → Int → Nat} {l0 : Nat} {a0 c0 t0 : Int} (hL : Lb v) (hp : (p : Int) < v 0 2) (ha : 0 ≤ a0 ∧ a0 < v 0 0) (hc : 0 ≤ c0 ∧ c0 ≤ 5) : ∀ n l a c t, Rc v p ly l0 a0 c0 t0 n l a c t → (0 ≤ a ∧ a < v 0 0) ∧ (0 ≤ c ∧ c ≤ 5) ∧ t0 ≤ t := by
  intro n
  induction n with
  | zero => rintro l a c t ⟨_, e2, e3, e4⟩; rw [e2, e3, e4]; exact ⟨ha, hc, by omega⟩
  | succ n ih =>
    rintro l a c t ⟨l1, a1, c1, t1, h1, h2⟩
    obtain ⟨g1, g2, g3⟩ := ih _ _ _ _ h1
    obtain ⟨k1, k2⟩ := Eg_in hL g1 g2 h2
    have := Eg_pos hL hp h2
    exact ⟨k1, k2, by omega⟩
/-- a search that has looked at all that it reached -/
theorem plain_end {v : Vw} {p : Nat} {ly : Nat → Int → Nat} {l0 : Nat} {a0 c0 t0 N : Int} {D : Nat → Int → Int → Int} (hL : Lb v) (h0 : D l0 a0 c0 ≤ t0) (h0' : D l0 a0 c0 < N) (hE : ∀ l a c l' a' c' t', D l a c < N → Eg v p ly l a c (D l a c) l' a' c' t' → D l' a' c' ≤ t' ∧ D l' a' c' < N) : ∀ n l a c t, Rc v p ly l0 a0 c0 t0 n l a c t → D l a c < N ∧ D l a c ≤ t := by
  intro n
  induction n with
  | zero => rintro l a c t ⟨rfl, rfl, rfl, rfl⟩; exact ⟨h0', h0⟩
  | succ n ih =>
    rintro l a c t ⟨l1, a1, c1, t1, h1, h2⟩
    obtain ⟨g1, g2⟩ := ih _ _ _ _ h1
    rcases h2 with ⟨k1, k2, e0, e1, e2, e3⟩ | ⟨r, s, k1, e1, k3, k2, k4, e0, e2, e3⟩
    · obtain ⟨q1, q2⟩ := hE l1 a1 c1 l a c (D l1 a1 c1 + 1) g1 (Or.inl ⟨k1, k2, e0, e1, e2, rfl⟩)
      exact ⟨q2, by omega⟩
    · have := tme_mono (v := v) (p := p) (r := r) (a := a1) (s := s) (hL.2.1 r k1) g2
      obtain ⟨q1, q2⟩ := hE l1 a1 c1 l a c (D l1 a1 c1 + tme v p r a1 (D l1 a1 c1) s) g1 (Or.inr ⟨r, s, k1, e1, k3, k2, k4, e0, e2, rfl⟩)
      exact ⟨q2, by omega⟩
/-- a search that spreads only from the calmest, and stops at m -/
theorem pruned_end {v : Vw} {p : Nat} {ly : Nat → Int → Nat} {l0 : Nat} {a0 c0 t0 m : Int} {D : Nat → Int → Int → Int} {Z : Nat → Int → Int → Prop} (hL : Lb v) (hp : (p : Int) < v 0 2) (ha : 0 ≤ a0 ∧ a0 < v 0 0) (hc : 0 ≤ c0 ∧ c0 ≤ 5) (h0 : D l0 a0 c0 ≤ t0) (hH : ∀ n l a c t C, Rc v p ly l0 a0 c0 t0 n l a c t → c ≤ C → C ≤ 5 → (∃ C', Z l a C' ∧ C ≤ C' ∧ C' ≤ 5 ∧ D l a C' ≤ D l a C) ∨ m ≤ D l a C) (hE : ∀ l a c l' a' c' t', Z l a c → Eg v p ly l a c (D l a c) l' a' c' t' → ∃ C', c' ≤ C' ∧ C' ≤ 5 ∧ D l' a' C' ≤ t') : ∀ n l a c t, Rc v p ly l0 a0 c0 t0 n l a c t → (∃ C, Z l a C ∧ c ≤ C ∧ C ≤ 5 ∧ D l a C ≤ t) ∨ m ≤ t := by
  intro n
  induction n with
  | zero =>
    intro l a c t h
    have hr := h
    obtain ⟨rfl, rfl, rfl, rfl⟩ := h
    rcases hH 0 l a c t c hr (by omega) (by omega) with ⟨C', g1, g2, g3, g4⟩ | g
    · exact Or.inl ⟨C', g1, g2, g3, by omega⟩
    · exact Or.inr (by omega)
  | succ n ih =>
    intro l a c t h
    have hr := h
    obtain ⟨l1, a1, c1, t1, h1, h2⟩ := h
    have hpos := Eg_pos hL hp h2
    rcases ih _ _ _ _ h1 with ⟨C, g1, g2, g3, g4⟩ | g
    · rcases Eg_dom hL h2 g2 g3 g4 with ⟨e0, e1, q1, q2⟩ | ⟨C', T', q0, q1, q2, q3⟩
      · rw [e0, e1]
        exact Or.inl ⟨C, g1, q1, g3, q2⟩
      · obtain ⟨C2, w1, w2, w3⟩ := hE _ _ _ _ _ _ _ g1 q0
        rcases hH (n + 1) l a c t C2 hr (by omega) w2 with ⟨C3, y1, y2, y3, y4⟩ | y
        · exact Or.inl ⟨C3, y1, by omega, y3, by omega⟩
        · exact Or.inr (by omega)
    · exact Or.inr (by omega)
