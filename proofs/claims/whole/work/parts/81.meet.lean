/-! meet: how soon at every place -/
theorem min_ex (f : Nat → Int) (N : Int) : ∀ n, (∀ k, k < n → f k ≤ N) → ∃ x, (x = N ∨ ∃ k, k < n ∧ x = f k) ∧ (∀ k, k < n → x ≤ f k) ∧ x ≤ N := by
  intro n
  induction n with
  | zero => intro _; exact ⟨N, Or.inl rfl, fun k hk => absurd hk (by omega), Int.le_refl _⟩
  | succ n ih =>
    intro h
    obtain ⟨x, h1, h2, h3⟩ := ih (fun k hk => h k (by omega))
    by_cases hx : x ≤ f n
    · refine ⟨x, ?_, fun k hk => ?_, h3⟩
      · rcases h1 with e | ⟨k, hk, e⟩
        · exact Or.inl e
        · exact Or.inr ⟨k, by omega, e⟩
      · by_cases hkn : k = n
        · rw [hkn]; exact hx
        · exact h2 k (by omega)
    · refine ⟨f n, Or.inr ⟨n, by omega, rfl⟩, fun k hk => ?_, h n (by omega)⟩
      by_cases hkn : k = n
      · rw [hkn]; exact Int.le_refl _
      · have := h2 k (by omega)
        omega
theorem Fn_all {v : Vw} {p : Nat} {a0 c0 t0 m : Int} {T : St} {Z : Nat → Prop} (hL : Lb v) (hp : (p : Int) < v 0 2) (ha : 0 ≤ a0 ∧ a0 < v 0 0) (hc : 0 ≤ c0 ∧ c0 ≤ 5) (ht : 0 ≤ t0 ∧ t0 ≤ 900000) (hF : Fn 1 v p ly0 0 a0 c0 t0 0 (-1) t0 m T Z) (hs : zz T 51 (6 * a0.toNat + c0.toNat) ≤ t0) : ∃ A : Nat → Int, (∀ b : Nat, (b : Int) < v 0 0 → 0 ≤ A b ∧ A b ≤ 100000000 ∧ Soon v p a0 c0 t0 b (A b)) ∧ ∀ (S : St) (post : Int32 → St → Prop) (b : Nat), (∀ j, j < 36 → zz S 51 j = zz T 51 j) → (b : Int) < v 0 0 → post (iI (if A b = 100000000 then -1 else A b)) S → wp_X4_soonestAt (iI b) S post := by
  obtain ⟨b0, b0', _⟩ := id hL.1
  have lab : ∀ j, j < 36 → 0 ≤ zz T 51 j ∧ zz T 51 j ≤ 1000000000 := fun j hj => by
    rcases hF.1 j (by omega) with w | ⟨_, w2, w3, _⟩ <;> omega
  have ex : ∀ b : Nat, ∃ y : Int, (b : Int) < v 0 0 → 0 ≤ y ∧ y ≤ 100000000 ∧ Soon v p a0 c0 t0 b y := by
    intro b
    by_cases hb : (b : Int) < v 0 0
    · obtain ⟨x, h1, h2, h3⟩ := min_ex (fun k => zz T 51 (6 * b + k)) 1000000000 6 (fun k hk => (lab _ (by omega)).2)
      rcases Fn_soon_all (b := (b : Int)) (x := x) hL hp ha hc ht ⟨by omega, hb⟩ hF hs (by rw [Int.toNat_natCast]; exact h1) (by rw [Int.toNat_natCast]; exact h2) with ⟨_, w⟩ | ⟨w1, w2, w⟩
      · exact ⟨100000000, fun _ => ⟨by omega, by omega, w⟩⟩
      · exact ⟨x, fun _ => ⟨w1, by omega, w⟩⟩
    · exact ⟨0, fun h => absurd h hb⟩
  obtain ⟨A, hA⟩ := Classical.axiomOfChoice ex
  refine ⟨A, hA, fun S post b hS hb hpost => ?_⟩
  obtain ⟨k1, k2, k3⟩ := hA b hb
  refine s_X4_soonestAt (b := (b : Int)) (by omega) (fun k hk => ?_) (fun x x1 x2 h1 h2 => ?_)
  · rw [Int.toNat_natCast, hS _ (by omega)]
    exact lab _ (by omega)
  · rw [Int.toNat_natCast] at h1 h2
    have h1' : x = 1000000000 ∨ ∃ k, k < 6 ∧ x = zz T 51 (6 * ((b : Int)).toNat + k) := by
      rw [Int.toNat_natCast]
      rcases h1 with e | ⟨k, hk, e⟩
      · exact Or.inl e
      · exact Or.inr ⟨k, hk, by rw [e, hS _ (by omega)]⟩
    have h2' : ∀ k, k < 6 → x ≤ zz T 51 (6 * ((b : Int)).toNat + k) := fun k hk => by
      rw [Int.toNat_natCast]
      have := h2 k hk
      rw [hS _ (by omega)] at this
      exact this
    rcases Fn_soon_all (b := (b : Int)) hL hp ha hc ht ⟨by omega, hb⟩ hF hs h1' h2' with ⟨e, w⟩ | ⟨w1, w2, w⟩
    · rw [if_pos e]
      rw [Soon_uniq k3 w, if_pos rfl] at hpost
      exact hpost
    · rw [if_neg (by omega)]
      rw [Soon_uniq k3 w, if_neg (by omega)] at hpost
      exact hpost
/-- the first place with the least later one: its place and minute -/
def mtF (A B : Nat → Int) : Nat → Nat → Int → Int → Int × Int
  | 0, _, bp, bm => (bp, bm)
  | d + 1, i, bp, bm => if bm ≤ (if A i ≤ B i then B i else A i) then mtF A B d (i + 1) bp bm else mtF A B d (i + 1) i (if A i ≤ B i then B i else A i)
