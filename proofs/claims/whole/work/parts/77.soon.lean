/-! soonest -/
theorem s_X4_explore {v : Vw} {p : Nat} {a0 c0 t0 g : Int} {S : St} {post : St → Prop} (hL : Lb v) (hp : (p : Int) < v 0 2) (hS : Sv v (cv S 11)) (hP : Pb (cv S 11) p) (e7 : zz S 18 p = a0) (e8 : zz S 19 p = c0) (e10 : zz S 21 p = t0) (ha : 0 ≤ a0 ∧ a0 < v 0 0) (hc : 0 ≤ c0 ∧ c0 ≤ 5) (ht : 0 ≤ t0 ∧ t0 ≤ 900000) (hg : -1 ≤ g ∧ g < 6) (h : ∀ T Z m, (∀ c k, c ≠ 51 → c ≠ 53 → c ≠ 54 → T c k = S c k) → Fn 1 v p ly0 0 a0 c0 t0 0 g t0 m T Z → zz T 51 (6 * a0.toNat + c0.toNat) ≤ t0 → post T) : wp_X4_explore (iI p) 0 (iI g) S post := by
  obtain ⟨b0, b0', b1, b1', b2, b2', _⟩ := id hL.1
  unfold wp_X4_explore
  intro v1 e1
  have e1 : v1 = iI 36 := by rw [e1]; decide
  subst e1
  have xp : ix (iI (p : Int)) = p := by rw [iI_ix (by omega) (by omega)]; simp
  have ip : vp_in (iI (p : Int)) 4 := (iI_in (by omega) (by omega)).mpr ⟨by omega, by omega⟩
  have key : ∀ (d n : Nat) (T : St), n + d = 36 → (∀ c k, c ≠ 51 → T c k = S c k) → (∀ j, j < n → T 51 j = 1000000000) → L_X4_explore_11 post (d + 1) (iI p) 0 (iI g) (iI 36) (iI n) T := by
    intro d
    induction d with
    | zero =>
      intro n T hn o1 o2
      show BD_X4_explore_11 (L_X4_explore_11 post 0) post _ _ _ _ _ _
      unfold BD_X4_explore_11
      rw [iI_le (by omega) (by omega) (by omega) (by omega)]
      refine ⟨fun _ => ?_, fun e => absurd (by omega) e⟩
      unfold B_X4_explore_33
      rw [xp]
      refine ⟨ip, fun v1 e1 v2 e2 => ⟨ip, ip, ?_⟩⟩
      rw [o1 _ _ (by omega), zz_S S 18 p, e7] at e1
      have e2' : v2 = iI 0 := by rw [e2]; simp; rfl
      clear e2
      subst e1
      subst e2'
      obtain ⟨i, hi⟩ : ∃ i : Nat, 6 * a0.toNat + c0.toNat = i := ⟨_, rfl⟩
      have xi : ix (iI (i : Int)) = i := by rw [iI_ix (by omega) (by omega)]; simp
      have ii : vp_in (iI (i : Int)) 2304 := (iI_in (by omega) (by omega)).mpr ⟨by omega, by omega⟩
      have ei : iI 0 * 36 + iI a0 * 6 + T 19 p = iI (i : Int) := by
        rw [o1 _ _ (by omega), zz_S S 19 p, e8, show (36 : Int32) = iI 36 from rfl, show (6 : Int32) = iI 6 from rfl, iI_mul, iI_mul, iI_add, iI_add]
        congr 1
        omega
      rw [ei, xi]
      refine ⟨ii, fun S3 e3 => ?_⟩
      have o3 : ∀ c k, c ≠ 51 → S3 c k = S c k := fun c k hc => by rw [e3, up_ne _ _ (by omega), o1 c k hc]
      have z3 : zz S3 51 i = t0 := zz_iI (by rw [e3, up_at, o1 _ _ (by omega), zz_S S 21 p, e10]) (by omega) (by omega)
      have z4 : ∀ j, j < 36 → j ≠ i → zz S3 51 j = 1000000000 := fun j hj hne => by
        unfold zz
        rw [e3, up_ne _ _ (by omega), o2 j (by omega)]
        decide
      refine ⟨2, ?_⟩
      show BD_X4_explore_91 (L_X4_explore_91 post 1) post _ _ _ _ _
      unfold BD_X4_explore_91
      refine ⟨fun e => absurd e (by decide), fun _ => ⟨fun e => absurd (by decide) e, fun _ => ?_⟩⟩
      have hrs : Rs 1 v p ly0 0 0 S3 := ⟨hL, hp, by omega, by omega, cv_51s o3 hS, Pb_congr (v := cv S 11) (cv_51 o3 _ _ (by omega)) ⟨cv_51 o3 _ _ (by omega), cv_51 o3 _ _ (by omega), cv_51 o3 _ _ (by omega), cv_51 o3 _ _ (by omega), cv_51 o3 _ _ (by omega), cv_51 o3 _ _ (by omega)⟩ hP, fun b hb => ⟨by simp [ly0, iI], by show (0 : Nat) < 1; omega, by show (0 : Nat) ≤ 0; omega⟩⟩
      refine s_X4_settleLayer (M := 1) (ly := ly0) (l0 := 0) (a0 := a0) (c0 := c0) (t0 := t0) (l := 0) (B := t0) hrs hg ht ?_ ?_
      · intro j hj
        by_cases hji : j = i
        · subst hji
          rw [z3]
          refine Or.inr ⟨by omega, ht.1, Int.le_refl _, 0, by omega, by omega, by omega, rfl⟩
        · exact Or.inl (z4 j (by omega) hji)
      · intro T' Z m hF hFn
        show BD_X4_explore_91 (L_X4_explore_91 post 0) post _ _ _ _ _
        unfold BD_X4_explore_91
        refine ⟨fun _ => h T' Z m (fun c k h1 h2 h3 => by rw [hF.1 c k h1 h2 h3, o3 c k h1]) hFn ?_, fun e => absurd (by decide) e⟩
        have := (hF.2 i (by omega)).1
        rw [hi]
        omega
    | succ d ih =>
      intro n T hn o1 o2
      show BD_X4_explore_11 (L_X4_explore_11 post (d + 1)) post _ _ _ _ _ _
      unfold BD_X4_explore_11
      have xn : ix (iI (n : Int)) = n := by rw [iI_ix (by omega) (by omega)]; simp
      have ni : vp_in (iI (n : Int)) 2304 := (iI_in (by omega) (by omega)).mpr ⟨by omega, by omega⟩
      have en : iI (n : Int) + 1 = iI ((n + 1 : Nat) : Int) := by rw [show (1 : Int32) = iI 1 from rfl, iI_add]; rfl
      rw [iI_le (by omega) (by omega) (by omega) (by omega), xn, en]
      refine ⟨fun q => absurd q (by omega), fun _ => ⟨ni, fun S2 e2 => ?_⟩⟩
      refine ih (n + 1) S2 (by omega) (fun c k h1 => by rw [e2, up_ne _ _ (by omega), o1 c k h1]) (fun j hj => ?_)
      by_cases hjn : j = n
      · rw [e2, hjn, up_at]
      · rw [e2, up_ne _ _ (by omega), o2 j (by omega)]
  exact ⟨36 + 1, key 36 0 S (by omega) (fun _ _ _ => rfl) (fun j hj => absurd hj (by omega))⟩
theorem s_X4_soonestAt {b : Int} {S : St} {post : Int32 → St → Prop} (hb : 0 ≤ b ∧ b < 6) (hl : ∀ k, k < 6 → 0 ≤ zz S 51 (6 * b.toNat + k) ∧ zz S 51 (6 * b.toNat + k) ≤ 1000000000) (h : ∀ x, 0 ≤ x → x ≤ 1000000000 → (x = 1000000000 ∨ ∃ k, k < 6 ∧ x = zz S 51 (6 * b.toNat + k)) → (∀ k, k < 6 → x ≤ zz S 51 (6 * b.toNat + k)) → post (iI (if x = 1000000000 then -1 else x)) S) : wp_X4_soonestAt (iI b) S post := by
  have key : ∀ (d n : Nat) (x : Int), n + d = 6 → 0 ≤ x → x ≤ 1000000000 → (x = 1000000000 ∨ ∃ k, k < n ∧ x = zz S 51 (6 * b.toNat + k)) → (∀ k, k < n → x ≤ zz S 51 (6 * b.toNat + k)) → L_X4_soonestAt_5 post (d + 1) (iI b) (iI x) (iI n) S := by
    intro d
    induction d with
    | zero =>
      intro n x hn x1 x2 h1 h2
      show BD_X4_soonestAt_5 (L_X4_soonestAt_5 post 0) post _ _ _ _
      unfold BD_X4_soonestAt_5
      rw [show (6 : Int32) = iI 6 from rfl, iI_le (by omega) (by omega) (by omega) (by omega)]
      refine ⟨fun _ => ?_, fun e => absurd (by omega) e⟩
      have hx := h x x1 x2 (by rcases h1 with h1 | ⟨k, hk, e⟩; exact Or.inl h1; exact Or.inr ⟨k, by omega, e⟩) (fun k hk => h2 k (by omega))
      unfold B_X4_soonestAt_33
      rw [show (1000000000 : Int32) = iI 1000000000 from rfl, iI_eq (by omega) (by omega) (by omega) (by omega)]
      refine ⟨fun e => ?_, fun e => ?_⟩
      · rw [if_neg e] at hx; exact hx
      · rw [if_pos e] at hx; exact hx
    | succ d ih =>
      intro n x hn x1 x2 h1 h2
      show BD_X4_soonestAt_5 (L_X4_soonestAt_5 post (d + 1)) post _ _ _ _
      unfold BD_X4_soonestAt_5
      have en : iI (n : Int) + 1 = iI ((n + 1 : Nat) : Int) := by rw [show (1 : Int32) = iI 1 from rfl, iI_add]; rfl
      have hj := hl n (by omega)
      have ej : b * 6 + (n : Int) = ((6 * b.toNat + n : Nat) : Int) := by omega
      have xj : ix (iI ((6 * b.toNat + n : Nat) : Int)) = 6 * b.toNat + n := by rw [iI_ix (by omega) (by omega)]; omega
      have ij : vp_in (iI ((6 * b.toNat + n : Nat) : Int)) 2304 := (iI_in (by omega) (by omega)).mpr ⟨by omega, by omega⟩
      rw [en, show (6 : Int32) = iI 6 from rfl, iI_le (by omega) (by omega) (by omega) (by omega), iI_mul, iI_add, ej, xj, zz_S S 51 (6 * b.toNat + n)]
      refine ⟨fun q => absurd q (by omega), fun _ => ⟨ij, fun v2 e2 => ?_⟩⟩
      by_cases hlt : zz S 51 (6 * b.toNat + n) < x
      · rw [if_pos ((iI_lt (by omega) (by omega) (by omega) (by omega)).mpr hlt)] at e2
        rw [e2]
        refine ih (n + 1) _ (by omega) hj.1 hj.2 (Or.inr ⟨n, by omega, rfl⟩) (fun k hk => ?_)
        by_cases hkn : k = n
        · rw [hkn]; exact Int.le_refl _
        · have := h2 k (by omega)
          omega
      · rw [if_neg (fun q => hlt ((iI_lt (by omega) (by omega) (by omega) (by omega)).mp q))] at e2
        rw [e2]
        refine ih (n + 1) x (by omega) x1 x2 ?_ (fun k hk => ?_)
        · rcases h1 with h1 | ⟨k, hk, e⟩
          · exact Or.inl h1
          · exact Or.inr ⟨k, by omega, e⟩
        · by_cases hkn : k = n
          · rw [hkn]; omega
          · exact h2 k (by omega)
  exact ⟨6 + 1, key 6 0 1000000000 (by omega) (by omega) (by omega) (Or.inl rfl) (fun k hk => absurd hk (by omega))⟩
/-- explore to a goal, then how soon there -/
theorem s_X4_soon {v : Vw} {p : Nat} {a0 c0 t0 g : Int} {S : St} {post : Int32 → St → Prop} (hL : Lb v) (hp : (p : Int) < v 0 2) (hS : Sv v (cv S 11)) (hP : Pb (cv S 11) p) (e7 : zz S 18 p = a0) (e8 : zz S 19 p = c0) (e10 : zz S 21 p = t0) (ha : 0 ≤ a0 ∧ a0 < v 0 0) (hc : 0 ≤ c0 ∧ c0 ≤ 5) (ht : 0 ≤ t0 ∧ t0 ≤ 900000) (hg : 0 ≤ g ∧ g < v 0 0) (h : ∀ T y, (∀ c k, c ≠ 51 → c ≠ 53 → c ≠ 54 → T c k = S c k) → Soon v p a0 c0 t0 g y → post (iI (if y = 100000000 then -1 else y)) T) : wp_X4_explore (iI p) 0 (iI g) S (fun T => wp_X4_soonestAt (iI g) T post) := by
  obtain ⟨b0, b0', _⟩ := id hL.1
  refine s_X4_explore hL hp hS hP e7 e8 e10 ha hc ht (by omega) ?_
  intro T Z m oT hF hs
  refine s_X4_soonestAt (by omega) (fun k hk => ?_) (fun x x1 x2 h1 h2 => ?_)
  · rcases hF.1 (6 * g.toNat + k) (by omega) with w | ⟨_, w2, w3, _⟩ <;> omega
  · rcases Fn_soon hL hp ha hc ht hg hF hs h1 h2 with ⟨e, hy⟩ | ⟨y1, y2, hy⟩
    · rw [if_pos e]
      have := h T _ oT hy
      rw [if_pos rfl] at this
      exact this
    · rw [if_neg (by omega)]
      have := h T _ oT hy
      rw [if_neg (by omega)] at this
      exact this
