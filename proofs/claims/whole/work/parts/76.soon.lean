/-! how soon, by the class -/
theorem Rc_l0 {v : Vw} {p : Nat} {a0 c0 t0 : Int} : ∀ n l a c t, Rc v p ly0 0 a0 c0 t0 n l a c t → l = 0 := by
  intro n
  induction n with
  | zero => rintro l a c t ⟨h, _⟩; exact h
  | succ n ih =>
    rintro l a c t ⟨l1, a1, c1, t1, h1, h2⟩
    have := ih _ _ _ _ h1
    rcases h2 with ⟨_, _, e, _⟩ | ⟨_, _, _, _, _, _, _, e, _⟩
    · omega
    · exact e
theorem Fn_far {v : Vw} {p : Nat} {a0 c0 t0 g m K : Int} {T : St} {Z : Nat → Prop} (hL : Lb v) (hp : (p : Int) < v 0 2) (ha : 0 ≤ a0 ∧ a0 < v 0 0) (hc : 0 ≤ c0 ∧ c0 ≤ 5) (ht : 0 ≤ t0 ∧ t0 ≤ 900000) (hF : Fn 1 v p ly0 0 a0 c0 t0 0 g t0 m T Z) (hs : zz T 51 (6 * a0.toNat + c0.toNat) ≤ t0) (hK : 1000000000 ≤ K) : ∀ n l a c t, Rc v p ly0 0 a0 c0 t0 n l a c t → (∃ C : Int, Z (6 * a.toNat + C.toNat) ∧ c ≤ C ∧ C ≤ 5 ∧ 0 ≤ C ∧ zz T 51 (6 * a.toNat + C.toNat) < 1000000000 ∧ zz T 51 (6 * a.toNat + C.toNat) ≤ t) ∨ (if m = 1000000000 then K else m) ≤ t := by
  obtain ⟨f1, f2, f3, f4, f5⟩ := hF
  obtain ⟨b0, b0', _⟩ := id hL.1
  have lab : ∀ j, j < 36 → zz T 51 j = 1000000000 ∨ (0 ≤ zz T 51 j ∧ zz T 51 j ≤ t0 + 8640) := fun j hj => by
    rcases f1 j (by omega) with w | ⟨_, w2, w3, _⟩
    · exact Or.inl w
    · exact Or.inr ⟨w2, w3⟩
  intro n l a c t hR
  have key := pruned_end (v := v) (p := p) (ly := ly0) (l0 := 0) (a0 := a0) (c0 := c0) (t0 := t0) (m := if m = 1000000000 then K else m) (D := fun _ a c => if zz T 51 (6 * a.toNat + c.toNat) = 1000000000 then K else zz T 51 (6 * a.toNat + c.toNat)) (Z := fun l a c => l = 0 ∧ (0 ≤ a ∧ a < v 0 0) ∧ (0 ≤ c ∧ c ≤ 5) ∧ zz T 51 (6 * a.toNat + c.toNat) < 1000000000 ∧ Z (6 * a.toNat + c.toNat)) hL hp ha hc (by rw [if_neg (by omega)]; exact hs) (by
    intro n l a c t C hR hcC hC
    obtain ⟨g1, g2, _⟩ := Rc_in hL hp ha hc n l a c t hR
    have hl0 := Rc_l0 n l a c t hR
    have hj : 6 * a.toNat + C.toNat < 36 := by omega
    by_cases hN : zz T 51 (6 * a.toNat + C.toNat) = 1000000000
    · refine Or.inr ?_
      rw [if_pos hN]
      by_cases hm : m = 1000000000
      · rw [if_pos hm]; exact Int.le_refl _
      · rw [if_neg hm]; omega
    · have h3 := f3 a.toNat C.toNat (by omega) (by omega)
      rw [Nat.mul_zero, Nat.zero_add] at h3
      have hlow := lab _ hj
      rcases h3 with ⟨C', w1, w2, w3, w4⟩ | w
      · rw [Nat.zero_add] at w4
        refine Or.inl ⟨(C' : Int), ⟨hl0, g1, ⟨by omega, by omega⟩, by rw [Int.toNat_natCast]; omega, by rw [Int.toNat_natCast]; exact w1⟩, by omega, by omega, ?_⟩
        rw [Int.toNat_natCast, if_neg (by omega), if_neg hN]
        exact w4
      · refine Or.inr ?_
        rw [if_neg hN, if_neg (by omega)]
        exact w) (by
    intro l a c l' a' c' t' hZ he
    obtain ⟨rfl, g1, g2, g3, g4⟩ := hZ
    have hne : ¬ zz T 51 (6 * a.toNat + c.toNat) = 1000000000 := by omega
    rw [if_neg hne] at he
    have hj : 6 * a.toNat + c.toNat < 36 := by omega
    have hlow := lab _ hj
    have hpos := Eg_pos hL hp he
    have hin := Eg_in hL g1 g2 he
    have hl' : l' = 0 := by
      rcases he with ⟨_, _, e, _⟩ | ⟨_, _, _, _, _, _, _, e, _⟩ <;> exact e
    have hW := (f2 _ g4).2.2 l' a' c' t'
    rw [Nat.mul_zero, Nat.zero_add, show (((6 * a.toNat + c.toNat) / 6 : Nat) : Int) = a from by omega, show (((6 * a.toNat + c.toNat) % 6 : Nat) : Int) = c from by omega] at hW
    obtain ⟨C', y1, y2, y3⟩ := hW he
    rw [hl', Nat.mul_zero, Nat.zero_add] at y3
    refine ⟨(C' : Int), y1, by omega, ?_⟩
    rw [Int.toNat_natCast, if_neg (by omega)]
    exact y3) n l a c t hR
  rcases key with ⟨C, ⟨_, _, w0, w1, w⟩, w2, w3, w4⟩ | w
  · rw [if_neg (by omega)] at w4
    exact Or.inl ⟨C, w, w2, w3, w0.1, w1, w4⟩
  · exact Or.inr w
/-- the least label at the goal is how soon -/
theorem Fn_soon {v : Vw} {p : Nat} {a0 c0 t0 g m x : Int} {T : St} {Z : Nat → Prop} (hL : Lb v) (hp : (p : Int) < v 0 2) (ha : 0 ≤ a0 ∧ a0 < v 0 0) (hc : 0 ≤ c0 ∧ c0 ≤ 5) (ht : 0 ≤ t0 ∧ t0 ≤ 900000) (hg : 0 ≤ g ∧ g < v 0 0) (hF : Fn 1 v p ly0 0 a0 c0 t0 0 g t0 m T Z) (hs : zz T 51 (6 * a0.toNat + c0.toNat) ≤ t0) (h1 : x = 1000000000 ∨ ∃ k, k < 6 ∧ x = zz T 51 (6 * g.toNat + k)) (h2 : ∀ k, k < 6 → x ≤ zz T 51 (6 * g.toNat + k)) : (x = 1000000000 ∧ Soon v p a0 c0 t0 g 100000000) ∨ (0 ≤ x ∧ x < 100000000 ∧ Soon v p a0 c0 t0 g x) := by
  obtain ⟨f1, f2, f3, f4, f5⟩ := id hF
  obtain ⟨b0, b0', _⟩ := id hL.1
  have noZ : ∀ C : Nat, C ≤ 5 → ¬ Z (6 * g.toNat + C) := fun C hC hZ => by
    have := (f2 _ hZ).2.1
    rw [show (6 * g.toNat + C) / 6 = g.toNat from by omega] at this
    exact this (by omega)
  have far : ∀ K, 1000000000 ≤ K → ∀ n c t, Rc v p ly0 0 a0 c0 t0 n 0 g c t → (if m = 1000000000 then K else m) ≤ t := fun K hK n c t hR => by
    obtain ⟨g1, g2, _⟩ := Rc_in hL hp ha hc n 0 g c t hR
    rcases Fn_far hL hp ha hc ht hF hs hK n 0 g c t hR with ⟨C, w1, w2, w3, _⟩ | w
    · exact absurd w1 (noZ C.toNat (by omega))
    · exact w
  have ge : ∀ k, k < 6 → m ≤ zz T 51 (6 * g.toNat + k) := fun k hk => by
    have h3 := f3 g.toNat k (by omega) (by omega)
    rw [Nat.mul_zero, Nat.zero_add] at h3
    rcases h3 with ⟨C', w1, w2, w3, _⟩ | w
    · exact absurd w1 (noZ C' w3)
    · exact w
  have xm : x = m := by
    rcases f5 with e | ⟨a, C, e1, e2, e3⟩
    · rcases h1 with e' | ⟨k, hk, e'⟩
      · omega
      · have := ge k hk
        rcases f1 (6 * g.toNat + k) (by omega) with w | ⟨_, _, w3, _⟩ <;> omega
    · have ea : a = g.toNat := by omega
      rw [Nat.mul_zero, Nat.zero_add, ea] at e3
      have := h2 C (by omega)
      rcases h1 with e' | ⟨k, hk, e'⟩
      · omega
      · have := ge k hk
        omega
  by_cases hm : m = 1000000000
  · refine Or.inl ⟨by omega, Or.inr ⟨rfl, fun n c t hR => ?_⟩⟩
    have hin := (Rc_in hL hp ha hc n 0 g c t hR).2.2
    have := far (t + 1000000001) (by omega) n c t hR
    rw [if_pos hm] at this
    omega
  · rcases f5 with e | ⟨a, C, e1, e2, e3⟩
    · exact absurd e hm
    have ea : a = g.toNat := by omega
    rw [Nat.mul_zero, Nat.zero_add, ea] at e3
    have hl := f1 (6 * g.toNat + C) (by omega)
    rw [show (6 * g.toNat + C) / 36 = 0 from by omega, show (6 * g.toNat + C) % 36 / 6 = g.toNat from by omega, show ((g.toNat : Nat) : Int) = g from by omega, e3] at hl
    rcases hl with w | ⟨_, w2, w3, n, w4⟩
    · omega
    · refine Or.inr ⟨by omega, by omega, Or.inl ⟨by omega, by omega, ⟨n, _, by rw [xm]; exact w4⟩, fun n c t hR => ?_⟩⟩
      have := far 1000000000 (by omega) n c t hR
      rw [if_neg hm] at this
      omega
/-- with no goal: the least label at any place is how soon one is there -/
theorem Fn_soon_all {v : Vw} {p : Nat} {a0 c0 t0 b m x : Int} {T : St} {Z : Nat → Prop} (hL : Lb v) (hp : (p : Int) < v 0 2) (ha : 0 ≤ a0 ∧ a0 < v 0 0) (hc : 0 ≤ c0 ∧ c0 ≤ 5) (ht : 0 ≤ t0 ∧ t0 ≤ 900000) (hb : 0 ≤ b ∧ b < v 0 0) (hF : Fn 1 v p ly0 0 a0 c0 t0 0 (-1) t0 m T Z) (hs : zz T 51 (6 * a0.toNat + c0.toNat) ≤ t0) (h1 : x = 1000000000 ∨ ∃ k, k < 6 ∧ x = zz T 51 (6 * b.toNat + k)) (h2 : ∀ k, k < 6 → x ≤ zz T 51 (6 * b.toNat + k)) : (x = 1000000000 ∧ Soon v p a0 c0 t0 b 100000000) ∨ (0 ≤ x ∧ x < 100000000 ∧ Soon v p a0 c0 t0 b x) := by
  obtain ⟨f1, f2, f3, f4, f5⟩ := id hF
  obtain ⟨b0, b0', _⟩ := id hL.1
  have hm : m = 1000000000 := by
    rcases f5 with e | ⟨a, C, e1, _⟩
    · exact e
    · omega
  have far : ∀ n c t, Rc v p ly0 0 a0 c0 t0 n 0 b c t → x ≤ t ∧ x < 1000000000 := fun n c t hR => by
    have hin := (Rc_in hL hp ha hc n 0 b c t hR).2.2
    rcases Fn_far hL hp ha hc ht hF hs (K := t + 1000000001) (by omega) n 0 b c t hR with ⟨C, w1, w2, w3, w4, w5, w6⟩ | w
    · have := h2 C.toNat (by omega)
      omega
    · rw [if_pos hm] at w
      omega
  by_cases hx : x = 1000000000
  · refine Or.inl ⟨hx, Or.inr ⟨rfl, fun n c t hR => ?_⟩⟩
    have := far n c t hR
    omega
  · rcases h1 with e | ⟨k, hk, e⟩
    · exact absurd e hx
    have hl := f1 (6 * b.toNat + k) (by omega)
    rw [show (6 * b.toNat + k) / 36 = 0 from by omega, show (6 * b.toNat + k) % 36 / 6 = b.toNat from by omega, show ((b.toNat : Nat) : Int) = b from by omega, ← e] at hl
    rcases hl with w | ⟨_, w2, w3, n, w4⟩
    · exact absurd w hx
    · exact Or.inr ⟨w2, by omega, Or.inl ⟨w2, by omega, ⟨n, _, w4⟩, fun n c t hR => (far n c t hR).1⟩⟩
