/-! the reference's spreading, whole -/
def cn (f : Nat → Int) : Nat → Nat
  | 0 => 0
  | n + 1 => cn f n + (if f n = 0 then 0 else 1)
theorem cn_le (f : Nat → Int) : ∀ n, cn f n ≤ n := by
  intro n
  induction n with
  | zero => exact Nat.le_refl 0
  | succ n ih => unfold cn; split <;> omega
theorem cn_lt {f : Nat → Int} : ∀ n i, i < n → f i = 0 → cn f n < n := by
  intro n
  induction n with
  | zero => intro i hi _; omega
  | succ n ih =>
    intro i hi hf
    have := cn_le f n
    unfold cn
    by_cases h : i = n
    · subst h
      rw [if_pos hf]; omega
    · have := ih i (by omega) hf
      split <;> omega
theorem cn_eq {f g : Nat → Int} : ∀ n, (∀ j, j < n → g j = f j) → cn g n = cn f n := by
  intro n
  induction n with
  | zero => intro _; rfl
  | succ n ih => intro h; unfold cn; rw [ih (fun j hj => h j (by omega)), h n (by omega)]
theorem cn_up {f g : Nat → Int} : ∀ n i, i < n → f i = 0 → g i = 1 → (∀ j, j ≠ i → g j = f j) → cn g n = cn f n + 1 := by
  intro n
  induction n with
  | zero => intro i hi; omega
  | succ n ih =>
    intro i hi h0 h1 h
    unfold cn
    by_cases hin : i = n
    · subst hin
      rw [cn_eq i (fun j hj => h j (by omega)), h0, h1, if_pos rfl, if_neg (by omega)]
    · rw [ih i (by omega) h0 h1 h, h n (by omega)]
      omega
theorem cn_0 {f : Nat → Int} : ∀ n, (∀ j, j < n → f j = 0) → cn f n = 0 := by
  intro n
  induction n with
  | zero => intro _; rfl
  | succ n ih => intro h; unfold cn; rw [ih (fun j hj => h j (by omega)), if_pos (h n (by omega))]
def Dk (v : Vw) (p : Nat) (a0 c0 t0 : Int) (T : St) : Prop := (∀ j, j < 36 → zz T 82 j = 0 ∨ zz T 82 j = 1) ∧ (∀ j, j < 36 → zz T 81 j = 100000000 ∨ (((j / 6 : Nat) : Int) < v 0 0 ∧ 0 ≤ zz T 81 j ∧ zz T 81 j ≤ t0 + 240 * (cn (zz T 82) 36 : Int) ∧ ∃ n, Rc v p ly0 0 a0 c0 t0 n 0 ((j / 6 : Nat) : Int) ((j % 6 : Nat) : Int) (zz T 81 j))) ∧ (∀ j, j < 36 → zz T 82 j = 1 → zz T 81 j < 100000000 ∧ ∀ a' c' t', Eg v p ly0 0 ((j / 6 : Nat) : Int) ((j % 6 : Nat) : Int) (zz T 81 j) 0 a' c' t' → zz T 81 (6 * a'.toNat + c'.toNat) ≤ t') ∧ (∀ j k, j < 36 → k < 36 → zz T 82 j = 1 → zz T 82 k = 0 → zz T 81 j ≤ zz T 81 k) ∧ zz T 81 (6 * a0.toNat + c0.toNat) ≤ t0
/-- what the spreading has found -/
def Sp (v : Vw) (p : Nat) (a0 c0 t0 : Int) (L : Nat → Int) : Prop := (∀ j, j < 36 → L j = 100000000 ∨ (0 ≤ L j ∧ L j ≤ t0 + 8640 ∧ ∃ n, Rc v p ly0 0 a0 c0 t0 n 0 ((j / 6 : Nat) : Int) ((j % 6 : Nat) : Int) (L j))) ∧ ∀ n a c t, Rc v p ly0 0 a0 c0 t0 n 0 a c t → L (6 * a.toNat + c.toNat) < 100000000 ∧ L (6 * a.toNat + c.toNat) ≤ t
theorem Dk_step {v : Vw} {p i : Nat} {a0 c0 t0 : Int} {T T' : St} (hL : Lb v) (hp : (p : Int) < v 0 2) (ha : 0 ≤ a0 ∧ a0 < v 0 0) (hc : 0 ≤ c0 ∧ c0 ≤ 5) (h : Dk v p a0 c0 t0 T) (hi : i < 36) (hz : zz T 82 i = 0) (hl : zz T 81 i < 100000000) (hm : ∀ j, j < 36 → zz T 82 j = 0 → zz T 81 i ≤ zz T 81 j) (hR : Rx v p i (zz T 81 i) (up T 82 i 1) T') (hE : ∀ a' c' t', Eg v p ly0 0 ((i / 6 : Nat) : Int) ((i % 6 : Nat) : Int) (zz T 81 i) 0 a' c' t' → zz T' 81 (6 * a'.toNat + c'.toNat) ≤ t') (hi' : zz T' 81 i = zz T 81 i) : Dk v p a0 c0 t0 T' ∧ cn (zz T' 82) 36 = cn (zz T 82) 36 + 1 := by
  obtain ⟨d1, d2, d3, d4, d5⟩ := h
  obtain ⟨b0, b0', _⟩ := id hL.1
  have f1 : zz T' 82 i = 1 := by unfold zz; rw [hR.1 82 i (by omega), up_at]; decide
  have f2 : ∀ j, j ≠ i → zz T' 82 j = zz T 82 j := fun j hj => by unfold zz; rw [hR.1 82 j (by omega), up_ne _ _ (by omega)]
  have hcn := cn_up (f := zz T 82) (g := zz T' 82) 36 i hi hz f1 f2
  have lab : ∀ j, j < 36 → zz T' 81 j ≤ zz T 81 j ∧ (zz T' 81 j = zz T 81 j ∨ Ej v p i (zz T 81 i) j (zz T' 81 j)) := fun j hj => by
    have := hR.2 j hj
    have e : zz (up T 82 i 1) 81 j = zz T 81 j := by unfold zz; rw [up_ne _ _ (by omega)]
    rw [e] at this
    exact this
  have ilow : ((i / 6 : Nat) : Int) < v 0 0 ∧ 0 ≤ zz T 81 i ∧ zz T 81 i ≤ t0 + 240 * (cn (zz T 82) 36 : Int) ∧ ∃ n, Rc v p ly0 0 a0 c0 t0 n 0 ((i / 6 : Nat) : Int) ((i % 6 : Nat) : Int) (zz T 81 i) := by
    rcases d2 i hi with g | g
    · omega
    · exact g
  obtain ⟨q1, q2, q3, n, q4⟩ := ilow
  have stay : ∀ j, j < 36 → zz T 82 j = 1 → zz T' 81 j = zz T 81 j := fun j hj hj1 => by
    rcases (lab j hj).2 with g | g
    · exact g
    · have := Eg_pos hL hp g
      have := d4 j i hj hi hj1 hz
      have := (lab j hj).1
      omega
  refine ⟨⟨fun j hj => ?_, fun j hj => ?_, fun j hj hj1 => ?_, fun j k hj hk hj1 hk0 => ?_, ?_⟩, hcn⟩
  · by_cases hji : j = i
    · rw [hji]; exact Or.inr f1
    · rw [f2 j hji]; exact d1 j hj
  · rcases (lab j hj).2 with g | g
    · rw [g, hcn]
      rcases d2 j hj with w | ⟨w1, w2, w3, w4⟩
      · exact Or.inl w
      · exact Or.inr ⟨w1, w2, by omega, w4⟩
    · have hpos := Eg_pos hL hp g
      have hin := Eg_in hL ⟨by omega, q1⟩ ⟨by omega, by omega⟩ g
      exact Or.inr ⟨hin.1.2, by omega, by omega, n + 1, 0, _, _, _, q4, g⟩
  · by_cases hji : j = i
    · subst hji
      rw [hi']
      exact ⟨hl, hE⟩
    · rw [f2 j hji] at hj1
      rw [stay j hj hj1]
      obtain ⟨w1, w2⟩ := d3 j hj hj1
      refine ⟨w1, fun a' c' t' he => ?_⟩
      have hw : ((j / 6 : Nat) : Int) < v 0 0 := by
        rcases d2 j hj with g | g
        · omega
        · exact g.1
      have hin := Eg_in hL ⟨by omega, hw⟩ ⟨by omega, by omega⟩ he
      have := (lab (6 * a'.toNat + c'.toNat) (by omega)).1
      have := w2 a' c' t' he
      omega
  · have hki : k ≠ i := fun e => by rw [e, f1] at hk0; omega
    rw [f2 k hki] at hk0
    have hik := hm k hk hk0
    have hjle : zz T' 81 j ≤ zz T 81 i ∧ zz T' 81 j ≤ zz T 81 k := by
      by_cases hji : j = i
      · rw [hji, hi']; omega
      · rw [f2 j hji] at hj1
        rw [stay j hj hj1]
        exact ⟨d4 j i hj hi hj1 hz, d4 j k hj hk hj1 hk0⟩
    rcases (lab k hk).2 with g | g
    · rw [g]; exact hjle.2
    · have := Eg_pos hL hp g
      omega
  · have := (lab (6 * a0.toNat + c0.toNat) (by omega)).1
    omega
theorem Dk_end {v : Vw} {p : Nat} {a0 c0 t0 : Int} {T : St} (hL : Lb v) (hp : (p : Int) < v 0 2) (ha : 0 ≤ a0 ∧ a0 < v 0 0) (hc : 0 ≤ c0 ∧ c0 ≤ 5) (ht : 0 ≤ t0 ∧ t0 ≤ 900000) (h : Dk v p a0 c0 t0 T) (hx : ∀ j, j < 36 → zz T 82 j = 0 → 100000000 ≤ zz T 81 j) : Sp v p a0 c0 t0 (zz T 81) := by
  obtain ⟨d1, d2, d3, d4, d5⟩ := h
  obtain ⟨b0, b0', _⟩ := id hL.1
  have hcn := cn_le (zz T 82) 36
  refine ⟨fun j hj => ?_, fun n a c t hR => ?_⟩
  · rcases d2 j hj with w | ⟨w1, w2, w3, w4⟩
    · exact Or.inl w
    · exact Or.inr ⟨w2, by omega, w4⟩
  · have key := plain_end (v := v) (p := p) (ly := ly0) (l0 := 0) (a0 := a0) (c0 := c0) (t0 := t0) (N := 100000000) (D := fun l a c => if l = 0 ∧ 0 ≤ a ∧ a < v 0 0 ∧ 0 ≤ c ∧ c ≤ 5 then zz T 81 (6 * a.toNat + c.toNat) else 100000000) hL (by rw [if_pos ⟨rfl, ha.1, ha.2, hc.1, hc.2⟩]; exact d5) (by rw [if_pos ⟨rfl, ha.1, ha.2, hc.1, hc.2⟩]; omega) (by
      intro l a c l' a' c' t' hD he
      by_cases hin : l = 0 ∧ 0 ≤ a ∧ a < v 0 0 ∧ 0 ≤ c ∧ c ≤ 5
      · rw [if_pos hin] at hD he
        obtain ⟨rfl, i1, i2, i3, i4⟩ := hin
        have hl' : l' = 0 := by
          rcases he with ⟨_, _, e, _⟩ | ⟨_, _, _, _, _, _, _, e, _⟩ <;> exact e
        subst hl'
        have hj : 6 * a.toNat + c.toNat < 36 := by omega
        have ea : (((6 * a.toNat + c.toNat) / 6 : Nat) : Int) = a := by omega
        have ec : (((6 * a.toNat + c.toNat) % 6 : Nat) : Int) = c := by omega
        have hset : zz T 82 (6 * a.toNat + c.toNat) = 1 := by
          rcases d1 _ hj with g | g
          · have := hx _ hj g
            omega
          · exact g
        have hw := (d3 _ hj hset).2 a' c' t'
        rw [ea, ec] at hw
        have hw := hw he
        obtain ⟨g1, g2⟩ := Eg_in hL ⟨i1, i2⟩ ⟨i3, i4⟩ he
        have hpos := Eg_pos hL hp he
        have hlow : zz T 81 (6 * a.toNat + c.toNat) ≤ t0 + 8640 := by
          rcases d2 _ hj with w | ⟨_, _, w3, _⟩
          · omega
          · omega
        rw [if_pos ⟨rfl, g1.1, g1.2, g2.1, g2.2⟩]
        exact ⟨hw, by omega⟩
      · rw [if_neg hin] at hD
        omega) n 0 a c t hR
    obtain ⟨g1, g2, _⟩ := Rc_in hL hp ha hc n 0 a c t hR
    rw [if_pos ⟨rfl, g1.1, g1.2, g2.1, g2.2⟩] at key
    exact key
