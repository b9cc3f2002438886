/-! the class's layer: what is kept -/
def Lok (M : Nat) (v : Vw) (p : Nat) (ly : Nat → Int → Nat) (l0 : Nat) (a0 c0 t0 : Int) (B : Int) (T : St) : Prop := ∀ j, j < 36 * M → zz T 51 j = 1000000000 ∨ (((j % 36 / 6 : Nat) : Int) < v 0 0 ∧ 0 ≤ zz T 51 j ∧ zz T 51 j ≤ B ∧ ∃ n, Rc v p ly l0 a0 c0 t0 n (j / 36) ((j % 36 / 6 : Nat) : Int) ((j % 36 % 6 : Nat) : Int) (zz T 51 j))
/-- the steps from state i of layer l all have been looked at -/
def Wk (v : Vw) (p : Nat) (ly : Nat → Int → Nat) (l i : Nat) (T : St) : Prop := ∀ l' a' c' t', Eg v p ly l ((i / 6 : Nat) : Int) ((i % 6 : Nat) : Int) (zz T 51 (36 * l + i)) l' a' c' t' → ∃ C' : Nat, c' ≤ C' ∧ C' ≤ 5 ∧ zz T 51 (36 * l' + 6 * a'.toNat + C') ≤ t'
def Kd (M : Nat) (v : Vw) (p : Nat) (ly : Nat → Int → Nat) (l0 : Nat) (a0 c0 t0 : Int) (l : Nat) (g B : Int) (T : St) (Z : Nat → Prop) : Prop := (∀ j, j < 36 → zz T 53 j = 0 ∨ zz T 53 j = 1) ∧ Lok M v p ly l0 a0 c0 t0 (B + 240 * (cn (zz T 53) 36 : Int)) T ∧ (∀ a, a < 6 → zz T 54 a = -1 ∨ ∃ C : Nat, C ≤ 5 ∧ zz T 54 a = (C : Int) ∧ Z (6 * a + C)) ∧ (∀ i, i < 36 → zz T 53 i = 1 → ((i / 6 : Nat) : Int) ≠ g ∧ zz T 51 (36 * l + i) < 1000000000 ∧ ∃ C : Nat, i % 6 ≤ C ∧ C ≤ 5 ∧ Z (6 * (i / 6) + C) ∧ zz T 51 (36 * l + (6 * (i / 6) + C)) ≤ zz T 51 (36 * l + i)) ∧ (∀ i, Z i → i < 36 ∧ zz T 53 i = 1 ∧ Wk v p ly l i T) ∧ (∀ i k, i < 36 → k < 36 → zz T 53 i = 1 → zz T 53 k = 0 → zz T 51 (36 * l + i) ≤ zz T 51 (36 * l + k))
/-- a layer that is done, up to m -/
def Fn (M : Nat) (v : Vw) (p : Nat) (ly : Nat → Int → Nat) (l0 : Nat) (a0 c0 t0 : Int) (l : Nat) (g B m : Int) (T : St) (Z : Nat → Prop) : Prop := Lok M v p ly l0 a0 c0 t0 (B + 8640) T ∧ (∀ i, Z i → i < 36 ∧ ((i / 6 : Nat) : Int) ≠ g ∧ Wk v p ly l i T) ∧ (∀ a C : Nat, (a : Int) < v 0 0 → C ≤ 5 → (∃ C' : Nat, Z (6 * a + C') ∧ C ≤ C' ∧ C' ≤ 5 ∧ zz T 51 (36 * l + (6 * a + C')) ≤ zz T 51 (36 * l + (6 * a + C))) ∨ m ≤ zz T 51 (36 * l + (6 * a + C))) ∧ m ≤ 1000000000 ∧ (m = 1000000000 ∨ ∃ a C : Nat, (a : Int) = g ∧ C ≤ 5 ∧ zz T 51 (36 * l + (6 * a + C)) = m)
theorem Kd_order {M : Nat} {v : Vw} {p : Nat} {ly : Nat → Int → Nat} {l0 : Nat} {a0 c0 t0 : Int} {l i : Nat} {g B : Int} {T T' : St} {Z : Nat → Prop} (hL : Lb v) (hp : (p : Int) < v 0 2) (hM : M ≤ 64) (hl : l < M) (h : Kd M v p ly l0 a0 c0 t0 l g B T Z) (hi : i < 36) (hiv : ((i / 6 : Nat) : Int) < v 0 0) (hz : zz T 53 i = 0) (hlt : zz T 51 (36 * l + i) < 1000000000) (hg : ((i / 6 : Nat) : Int) ≠ g) (hm : ∀ j, j < 36 → ((j / 6 : Nat) : Int) < v 0 0 → zz T 53 j = 0 → zz T 51 (36 * l + i) ≤ zz T 51 (36 * l + j)) (f1 : zz T' 53 i = 1) (f2 : ∀ j, j ≠ i → zz T' 53 j = zz T 53 j) (hlab : ∀ j, j < 2304 → zz T' 51 j ≤ zz T 51 j ∧ (zz T' 51 j = zz T 51 j ∨ Ec v p ly l i (zz T 51 (36 * l + i)) j (zz T' 51 j))) (hly : ∀ b : Nat, b < 6 → ly l b < M) (Z' : Nat → Prop) (hZ1 : ∀ k, Z k → Z' k) (hZ2 : ∀ k, Z' k → Z k ∨ (k = i ∧ Wk v p ly l i T')) (hdom : ∃ C : Nat, i % 6 ≤ C ∧ C ≤ 5 ∧ Z' (6 * (i / 6) + C) ∧ zz T' 51 (36 * l + (6 * (i / 6) + C)) ≤ zz T' 51 (36 * l + i)) (h54 : ∀ a, a < 6 → zz T' 54 a = -1 ∨ ∃ C : Nat, C ≤ 5 ∧ zz T' 54 a = (C : Int) ∧ Z' (6 * a + C)) : Kd M v p ly l0 a0 c0 t0 l g B T' Z' ∧ cn (zz T' 53) 36 = cn (zz T 53) 36 + 1 := by
  obtain ⟨d1, d2, d3, d4, d5, d6⟩ := h
  obtain ⟨b0, b0', _⟩ := id hL.1
  have hcn := cn_up (f := zz T 53) (g := zz T' 53) 36 i hi hz f1 f2
  have e36 : ∀ k, k < 36 → (36 * l + k) / 36 = l ∧ (36 * l + k) % 36 = k ∧ 36 * l + k < 36 * M := fun k hk => by omega
  have iok := d2 (36 * l + i) (e36 i hi).2.2
  rw [(e36 i hi).1, (e36 i hi).2.1] at iok
  have iok : 0 ≤ zz T 51 (36 * l + i) ∧ zz T 51 (36 * l + i) ≤ B + 240 * (cn (zz T 53) 36 : Int) ∧ ∃ n, Rc v p ly l0 a0 c0 t0 n l ((i / 6 : Nat) : Int) ((i % 6 : Nat) : Int) (zz T 51 (36 * l + i)) := by
    rcases iok with g' | ⟨_, g2, g3, g4⟩
    · omega
    · exact ⟨g2, g3, g4⟩
  obtain ⟨q2, q3, n, q4⟩ := iok
  have stay : ∀ k, k < 36 → zz T 53 k = 1 → zz T' 51 (36 * l + k) = zz T 51 (36 * l + k) := fun k hk hk1 => by
    obtain ⟨g1, g2⟩ := hlab (36 * l + k) (by omega)
    rcases g2 with g' | g'
    · exact g'
    · have := Eg_pos hL hp g'
      have := d6 k i hk hi hk1 hz
      omega
  have stayi : zz T' 51 (36 * l + i) = zz T 51 (36 * l + i) := by
    obtain ⟨g1, g2⟩ := hlab (36 * l + i) (by omega)
    rcases g2 with g' | g'
    · exact g'
    · have := Eg_pos hL hp g'
      omega
  refine ⟨⟨fun j hj => ?_, fun j hj => ?_, h54, fun k hk hk1 => ?_, fun k hk => ?_, fun j k hj hk hj1 hk0 => ?_⟩, hcn⟩
  · by_cases hji : j = i
    · rw [hji]; exact Or.inr f1
    · rw [f2 j hji]; exact d1 j hj
  · rcases (hlab j (by omega)).2 with g' | g'
    · rw [g', hcn]
      rcases d2 j hj with w | ⟨w1, w2, w3, w4⟩
      · exact Or.inl w
      · exact Or.inr ⟨w1, w2, by omega, w4⟩
    · have hpos := Eg_pos hL hp g'
      have hin := Eg_in hL ⟨by omega, hiv⟩ ⟨by omega, by omega⟩ g'
      exact Or.inr ⟨hin.1.2, by omega, by omega, n + 1, l, _, _, _, q4, g'⟩
  · by_cases hki : k = i
    · subst hki
      exact ⟨hg, by rw [stayi]; exact hlt, hdom⟩
    · rw [f2 k hki] at hk1
      obtain ⟨w0, w1, C, w2, w3, w4, w5⟩ := d4 k hk hk1
      have hf := (d5 _ w4).2.1
      refine ⟨w0, by rw [stay k hk hk1]; exact w1, C, w2, w3, hZ1 _ w4, ?_⟩
      rw [stay k hk hk1, stay _ (d5 _ w4).1 hf]
      exact w5
  · rcases hZ2 k hk with hk' | ⟨rfl, hw⟩
    · obtain ⟨w1, w2, w3⟩ := d5 k hk'
      have hki : k ≠ i := fun e => by rw [e, hz] at w2; omega
      refine ⟨w1, by rw [f2 k hki]; exact w2, ?_⟩
      intro l' a' c' t' he
      rw [stay k w1 w2] at he
      obtain ⟨C', y1, y2, y3⟩ := w3 l' a' c' t' he
      have hkv : ((k / 6 : Nat) : Int) < v 0 0 := by
        have hk1 := (d4 k w1 w2).2.1
        have := d2 (36 * l + k) (e36 k w1).2.2
        rw [(e36 k w1).2.1] at this
        rcases this with w | ⟨w, _⟩
        · omega
        · exact w
      have hin := Eg_in hL ⟨by omega, hkv⟩ ⟨by omega, by omega⟩ he
      have hl' : l' < M := by
        rcases he with ⟨_, _, e, _⟩ | ⟨_, _, _, _, _, _, _, e, _⟩
        · omega
        · have := hly a'.toNat (by omega)
          rw [show ((a'.toNat : Nat) : Int) = a' from by omega] at this
          omega
      exact ⟨C', y1, y2, Int.le_trans (hlab _ (by omega)).1 y3⟩
    · exact ⟨hi, f1, hw⟩
  · have hki : k ≠ i := fun e => by rw [e, f1] at hk0; omega
    rw [f2 k hki] at hk0
    have hjle : zz T' 51 (36 * l + j) ≤ zz T 51 (36 * l + i) ∧ zz T' 51 (36 * l + j) ≤ zz T 51 (36 * l + k) := by
      by_cases hji : j = i
      · rw [hji, stayi]
        refine ⟨Int.le_refl _, ?_⟩
        by_cases hkv : ((k / 6 : Nat) : Int) < v 0 0
        · exact hm k hk hkv hk0
        · have := d2 (36 * l + k) (e36 k hk).2.2
          rw [(e36 k hk).2.1] at this
          rcases this with w | ⟨w, _⟩
          · omega
          · exact absurd w hkv
      · rw [f2 j hji] at hj1
        rw [stay j hj hj1]
        exact ⟨d6 j i hj hi hj1 hz, d6 j k hj hk hj1 hk0⟩
    rcases (hlab (36 * l + k) (by omega)).2 with g' | g'
    · rw [g']; exact hjle.2
    · have := Eg_pos hL hp g'
      omega
