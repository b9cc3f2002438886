/-! drift: the loops over the roads -/
theorem s_X6_waysFrom {o : Nat} {a : Int} {S : St} {post : Int32 → St → Prop} (hH : Hb (cv S o)) (a1 : 0 ≤ a) (a2 : a < 6) (h : post (iI (wys (cv S o) a (cv S o 0 1).toNat 0 : Nat)) S) : wp_X6_waysFrom o (iI a) S post := by
  obtain ⟨_, _, b1, b1', _⟩ := id hH
  obtain ⟨n, hn⟩ : ∃ n : Nat, cv S o 0 1 = (n : Int) := ⟨(cv S o 0 1).toNat, by omega⟩
  have e1 : S o 1 = iI (n : Int) := by rw [← hn]; exact zz_S S o 1
  have hn2 : (cv S o 0 1).toNat = n := by omega
  rw [hn2] at h
  have key : ∀ d i k : Nat, i + d = n → k ≤ i → (post (iI ((k + wys (cv S o) a d i : Nat) : Int)) S) → L_X6_waysFrom_4 post o (d + 1) (iI a) (iI k) (iI i) S := by
    intro d
    induction d with
    | zero =>
      intro i k hi hk hp
      show BD_X6_waysFrom_4 (L_X6_waysFrom_4 post o 0) post _ _ _ _ _
      unfold BD_X6_waysFrom_4
      rw [e1, iI_le (by omega) (by omega) (by omega) (by omega)]
      exact ⟨fun _ => hp, fun e => absurd (by omega) e⟩
    | succ d ih =>
      intro i k hi hk hp
      show BD_X6_waysFrom_4 (L_X6_waysFrom_4 post o (d + 1)) post _ _ _ _ _
      unfold BD_X6_waysFrom_4
      rw [e1, iI_le (by omega) (by omega) (by omega) (by omega)]
      refine ⟨fun e => absurd e (by omega), fun _ => ?_⟩
      refine s_X6_otherEnd (by omega) (by omega) (by omega) ?_
      have ob : -2147483648 ≤ oth (cv S o) i a ∧ oth (cv S o) i a < 2147483648 := by
        have c1 := zz_lo S (o + 1) i
        have c2 := zz_hi S (o + 1) i
        have c3 := zz_lo S (o + 2) i
        have c4 := zz_hi S (o + 2) i
        unfold oth
        show -2147483648 ≤ (if zz S (o + 1) i = a then zz S (o + 2) i else if zz S (o + 2) i = a then zz S (o + 1) i else -1) ∧ (if zz S (o + 1) i = a then zz S (o + 2) i else if zz S (o + 2) i = a then zz S (o + 1) i else -1) < 2147483648
        split
        · omega
        · split <;> omega
      have ei : iI (i : Int) + 1 = iI ((i + 1 : Nat) : Int) := by rw [show (1 : Int32) = iI 1 from rfl, iI_add]; rfl
      have ek : iI (k : Int) + 1 = iI ((k + 1 : Nat) : Int) := by rw [show (1 : Int32) = iI 1 from rfl, iI_add]; rfl
      rw [ei, ek, show (-1 : Int32) = iI (-1) from by decide, iI_eq (by omega) (by omega) (by omega) (by omega)]
      refine ⟨fun e => ih (i + 1) k (by omega) (by omega) ?_, fun e => ih (i + 1) (k + 1) (by omega) (by omega) ?_⟩
      · unfold wys at hp
        rw [if_pos e, Nat.zero_add] at hp
        exact hp
      · unfold wys at hp
        rw [if_neg e, ← Nat.add_assoc] at hp
        exact hp
  refine ⟨n + 1, ?_⟩
  exact key n 0 0 (by omega) (by omega) (by rw [Nat.zero_add]; exact h)
theorem s_X6_roadOfWay {o k0 : Nat} {a : Int} {S : St} {post : Int32 → St → Prop} (hH : Hb (cv S o)) (a1 : 0 ≤ a) (a2 : a < 6) (hk0 : k0 ≤ 9) (h : post (iI (rdw (cv S o) a (cv S o 0 1).toNat 0 k0)) S) : wp_X6_roadOfWay o (iI a) (iI k0) S post := by
  obtain ⟨_, _, b1, b1', _⟩ := id hH
  obtain ⟨n, hn⟩ : ∃ n : Nat, cv S o 0 1 = (n : Int) := ⟨(cv S o 0 1).toNat, by omega⟩
  have e1 : S o 1 = iI (n : Int) := by rw [← hn]; exact zz_S S o 1
  have hn2 : (cv S o 0 1).toNat = n := by omega
  rw [hn2] at h
  have key : ∀ d i k : Nat, i + d = n → k ≤ 9 → (post (iI (rdw (cv S o) a d i k)) S) → L_X6_roadOfWay_5 post o (d + 1) (iI a) (iI k) (iI i) S := by
    intro d
    induction d with
    | zero =>
      intro i k hi hk hp
      show BD_X6_roadOfWay_5 (L_X6_roadOfWay_5 post o 0) post _ _ _ _ _
      unfold BD_X6_roadOfWay_5
      rw [e1, iI_le (by omega) (by omega) (by omega) (by omega)]
      exact ⟨fun _ => hp, fun e => absurd (by omega) e⟩
    | succ d ih =>
      intro i k hi hk hp
      show BD_X6_roadOfWay_5 (L_X6_roadOfWay_5 post o (d + 1)) post _ _ _ _ _
      unfold BD_X6_roadOfWay_5
      rw [e1, iI_le (by omega) (by omega) (by omega) (by omega)]
      refine ⟨fun e => absurd e (by omega), fun _ => ?_⟩
      refine s_X6_otherEnd (by omega) (by omega) (by omega) ?_
      have ob : -2147483648 ≤ oth (cv S o) i a ∧ oth (cv S o) i a < 2147483648 := by
        have c1 := zz_lo S (o + 1) i
        have c2 := zz_hi S (o + 1) i
        have c3 := zz_lo S (o + 2) i
        have c4 := zz_hi S (o + 2) i
        unfold oth
        show -2147483648 ≤ (if zz S (o + 1) i = a then zz S (o + 2) i else if zz S (o + 2) i = a then zz S (o + 1) i else -1) ∧ (if zz S (o + 1) i = a then zz S (o + 2) i else if zz S (o + 2) i = a then zz S (o + 1) i else -1) < 2147483648
        split
        · omega
        · split <;> omega
      have ei : iI (i : Int) + 1 = iI ((i + 1 : Nat) : Int) := by rw [show (1 : Int32) = iI 1 from rfl, iI_add]; rfl
      rw [ei, show (-1 : Int32) = iI (-1) from by decide, show (0 : Int32) = iI 0 from rfl, iI_eq (by omega) (by omega) (by omega) (by omega), iI_eq (by omega) (by omega) (by omega) (by omega), iI_add]
      unfold rdw at hp
      refine ⟨fun e => ?_, fun e => ih (i + 1) k (by omega) (by omega) (by rw [if_pos e] at hp; exact hp)⟩
      rw [if_neg e] at hp
      cases k with
      | zero => exact ⟨fun e' => absurd rfl e', fun _ => hp⟩
      | succ k =>
        refine ⟨fun _ => ?_, fun e' => absurd e' (by omega)⟩
        rw [show ((k + 1 : Nat) : Int) + -1 = (k : Int) from by omega]
        exact ih (i + 1) k (by omega) (by omega) hp
  exact ⟨n + 1, key n 0 k0 (by omega) hk0 h⟩
theorem s_X8_roadsFrom {a0 : Nat} {a : Int} {S : St} {post : Int32 → St → Prop} (hH : Hb (mz S a0)) (a1 : 0 ≤ a) (a2 : a < 6) (h : post (iI (wys (mz S a0) a (mz S a0 0 1).toNat 0 : Nat)) S) : wp_X8_roadsFrom (iI a) S post := by
  obtain ⟨_, _, b1, b1', _⟩ := id hH
  obtain ⟨n, hn⟩ : ∃ n : Nat, mz S a0 0 1 = (n : Int) := ⟨(mz S a0 0 1).toNat, by omega⟩
  have e1 : S 71 11 = iI (n : Int) := by rw [← hn]; exact zz_S S 71 11
  have hn2 : (mz S a0 0 1).toNat = n := by omega
  rw [hn2] at h
  have key : ∀ d i k : Nat, i + d = n → k ≤ i → (post (iI ((k + wys (mz S a0) a d i : Nat) : Int)) S) → L_X8_roadsFrom_4 post (d + 1) (iI a) (iI k) (iI i) S := by
    intro d
    induction d with
    | zero =>
      intro i k hi hk hp
      show BD_X8_roadsFrom_4 (L_X8_roadsFrom_4 post 0) post _ _ _ _
      unfold BD_X8_roadsFrom_4
      rw [e1, iI_le (by omega) (by omega) (by omega) (by omega)]
      exact ⟨fun _ => hp, fun e => absurd (by omega) e⟩
    | succ d ih =>
      intro i k hi hk hp
      show BD_X8_roadsFrom_4 (L_X8_roadsFrom_4 post (d + 1)) post _ _ _ _
      unfold BD_X8_roadsFrom_4
      rw [e1, iI_le (by omega) (by omega) (by omega) (by omega)]
      refine ⟨fun e => absurd e (by omega), fun _ => ?_⟩
      refine s_X8_otherEnd (a0 := a0) (by omega) (by omega) (by omega) ?_
      have ob : -2147483648 ≤ oth (mz S a0) i a ∧ oth (mz S a0) i a < 2147483648 := by
        have c1 := zz_lo S 73 (3 * i)
        have c2 := zz_hi S 73 (3 * i)
        have c3 := zz_lo S 73 (3 * i + 1)
        have c4 := zz_hi S 73 (3 * i + 1)
        unfold oth
        show -2147483648 ≤ (if zz S 73 (3 * i) = a then zz S 73 (3 * i + 1) else if zz S 73 (3 * i + 1) = a then zz S 73 (3 * i) else -1) ∧ (if zz S 73 (3 * i) = a then zz S 73 (3 * i + 1) else if zz S 73 (3 * i + 1) = a then zz S 73 (3 * i) else -1) < 2147483648
        split
        · omega
        · split <;> omega
      have ei : iI (i : Int) + 1 = iI ((i + 1 : Nat) : Int) := by rw [show (1 : Int32) = iI 1 from rfl, iI_add]; rfl
      have ek0 : iI (k : Int) + 0 = iI (k : Int) := by rw [show (0 : Int32) = iI 0 from rfl, iI_add, Int.add_zero]
      have ek : iI (k : Int) + 1 = iI ((k + 1 : Nat) : Int) := by rw [show (1 : Int32) = iI 1 from rfl, iI_add]; rfl
      rw [ei, ek, show (-1 : Int32) = iI (-1) from by decide, iI_eq (by omega) (by omega) (by omega) (by omega)]
      refine ⟨fun e v5 e5 => ?_, fun e v6 e6 => ?_⟩
      · rw [e5]
        unfold wys at hp
        rw [if_neg e, ← Nat.add_assoc] at hp
        exact ih (i + 1) (k + 1) (by omega) (by omega) hp
      · rw [e6, ek0]
        unfold wys at hp
        rw [if_pos e, Nat.zero_add] at hp
        exact ih (i + 1) k (by omega) (by omega) hp
  refine ⟨n + 1, ?_⟩
  exact key n 0 0 (by omega) (by omega) (by rw [Nat.zero_add]; exact h)
theorem s_X8_roadFrom {a0 k0 : Nat} {a : Int} {S : St} {post : Int32 → St → Prop} (hH : Hb (mz S a0)) (a1 : 0 ≤ a) (a2 : a < 6) (hk0 : k0 ≤ 9) (h : post (iI (rdw (mz S a0) a (mz S a0 0 1).toNat 0 k0)) S) : wp_X8_roadFrom (iI a) (iI k0) S post := by
  obtain ⟨_, _, b1, b1', _⟩ := id hH
  obtain ⟨n, hn⟩ : ∃ n : Nat, mz S a0 0 1 = (n : Int) := ⟨(mz S a0 0 1).toNat, by omega⟩
  have e1 : S 71 11 = iI (n : Int) := by rw [← hn]; exact zz_S S 71 11
  have hn2 : (mz S a0 0 1).toNat = n := by omega
  rw [hn2] at h
  have key : ∀ d i k : Nat, i + d = n → k ≤ 9 → (post (iI (rdw (mz S a0) a d i k)) S) → L_X8_roadFrom_5 post (d + 1) (iI a) (iI k) (iI i) S := by
    intro d
    induction d with
    | zero =>
      intro i k hi hk hp
      show BD_X8_roadFrom_5 (L_X8_roadFrom_5 post 0) post _ _ _ _
      unfold BD_X8_roadFrom_5
      rw [e1, iI_le (by omega) (by omega) (by omega) (by omega)]
      exact ⟨fun _ => hp, fun e => absurd (by omega) e⟩
    | succ d ih =>
      intro i k hi hk hp
      show BD_X8_roadFrom_5 (L_X8_roadFrom_5 post (d + 1)) post _ _ _ _
      unfold BD_X8_roadFrom_5
      rw [e1, iI_le (by omega) (by omega) (by omega) (by omega)]
      refine ⟨fun e => absurd e (by omega), fun _ => ?_⟩
      refine s_X8_otherEnd (a0 := a0) (by omega) (by omega) (by omega) ?_
      have ob : -2147483648 ≤ oth (mz S a0) i a ∧ oth (mz S a0) i a < 2147483648 := by
        have c1 := zz_lo S 73 (3 * i)
        have c2 := zz_hi S 73 (3 * i)
        have c3 := zz_lo S 73 (3 * i + 1)
        have c4 := zz_hi S 73 (3 * i + 1)
        unfold oth
        show -2147483648 ≤ (if zz S 73 (3 * i) = a then zz S 73 (3 * i + 1) else if zz S 73 (3 * i + 1) = a then zz S 73 (3 * i) else -1) ∧ (if zz S 73 (3 * i) = a then zz S 73 (3 * i + 1) else if zz S 73 (3 * i + 1) = a then zz S 73 (3 * i) else -1) < 2147483648
        split
        · omega
        · split <;> omega
      have ei : iI (i : Int) + 1 = iI ((i + 1 : Nat) : Int) := by rw [show (1 : Int32) = iI 1 from rfl, iI_add]; rfl
      rw [ei, show (-1 : Int32) = iI (-1) from by decide, show (0 : Int32) = iI 0 from rfl, iI_eq (by omega) (by omega) (by omega) (by omega), iI_eq (by omega) (by omega) (by omega) (by omega), iI_add]
      unfold rdw at hp
      refine ⟨fun e => ih (i + 1) k (by omega) (by omega) (by rw [if_pos e] at hp; exact hp), fun e => ?_⟩
      rw [if_neg e] at hp
      cases k with
      | zero => exact ⟨fun e' => absurd rfl e', fun _ => hp⟩
      | succ k =>
        refine ⟨fun _ => ?_, fun e' => absurd e' (by omega)⟩
        rw [show ((k + 1 : Nat) : Int) + -1 = (k : Int) from by omega]
        exact ih (i + 1) k (by omega) (by omega) hp
  exact ⟨n + 1, key n 0 k0 (by omega) hk0 h⟩
