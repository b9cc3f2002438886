/-! the class's layer, whole -/
theorem s_X4_settleLayer {M : Nat} {v : Vw} {p : Nat} {ly : Nat → Int → Nat} {hs : Int32} {l0 : Nat} {a0 c0 t0 : Int} {l : Nat} {g B : Int} {S : St} {post : St → Prop} (hr : Rs M v p ly hs l S) (hg : -1 ≤ g ∧ g < 6) (hB : 0 ≤ B ∧ B ≤ 900000) (hLok : Lok M v p ly l0 a0 c0 t0 B S) (h : ∀ T Z m, Frl l S T → Fn M v p ly l0 a0 c0 t0 l g B m T Z → post T) : wp_X4_settleLayer (iI p) hs (iI l) (iI g) S post := by
  have last : ∀ T : St, (∀ c k, c ≠ 53 → c ≠ 54 → T c k = S c k) → (∀ j, j < 36 → T 53 j = 0) → (∀ a, a < 6 → T 54 a = -1) → B_X4_settleLayer_51 post (iI p) hs (iI l) (iI g) 0 T := by
    intro T o1 o2 o3
    have z3 : ∀ j, j < 36 → zz T 53 j = 0 := fun j hj => by unfold zz; rw [o2 j hj]; decide
    have z4 : ∀ a, a < 6 → zz T 54 a = -1 := fun a ha => by unfold zz; rw [o3 a ha]; decide
    have z1 : ∀ j, zz T 51 j = zz S 51 j := fun j => by unfold zz; rw [o1 _ _ (by omega) (by omega)]
    have hc0 : cn (zz T 53) 36 = 0 := cn_0 36 z3
    refine ⟨36 + 1, s_X4_settle_loop hr hg hB h 36 0 T (fun _ => False) (by omega) hc0 ⟨fun c k h1 h2 h3 => o1 c k h2 h3, fun j _ => ⟨by rw [z1]; exact Int.le_refl _, fun _ => z1 j⟩⟩ ⟨fun j hj => Or.inl (z3 j hj), fun j hj => ?_, fun a ha => Or.inl (z4 a ha), fun i hi h1 => ?_, fun i hi => absurd hi (fun q => q), fun i k hi hk h1 => ?_⟩⟩
    · rw [z1, hc0]
      rcases hLok j hj with w | ⟨w1, w2, w3, w4⟩
      · exact Or.inl w
      · exact Or.inr ⟨w1, w2, by omega, w4⟩
    · have := z3 i hi
      omega
    · have := z3 i hi
      omega
  have key2 : ∀ (d n : Nat) (T : St), n + d = 6 → (∀ c k, c ≠ 53 → c ≠ 54 → T c k = S c k) → (∀ j, j < 36 → T 53 j = 0) → (∀ a, a < n → T 54 a = -1) → L_X4_settleLayer_27 post (d + 1) (iI p) hs (iI l) (iI g) (iI n) T := by
    intro d
    induction d with
    | zero =>
      intro n T hn o1 o2 o3
      show BD_X4_settleLayer_27 (L_X4_settleLayer_27 post 0) post _ _ _ _ _ _
      unfold BD_X4_settleLayer_27
      refine ⟨fun _ => last T o1 o2 (fun a ha => o3 a (by omega)), fun e => absurd ?_ e⟩
      rw [show (6 : Int32) = iI 6 from rfl, iI_le (by omega) (by omega) (by omega) (by omega)]
      omega
    | succ d ih =>
      intro n T hn o1 o2 o3
      show BD_X4_settleLayer_27 (L_X4_settleLayer_27 post (d + 1)) post _ _ _ _ _ _
      unfold BD_X4_settleLayer_27
      have xn : ix (iI (n : Int)) = n := by rw [iI_ix (by omega) (by omega)]; simp
      have ni : vp_in (iI (n : Int)) 6 := (iI_in (by omega) (by omega)).mpr ⟨by omega, by omega⟩
      have en : iI (n : Int) + 1 = iI ((n + 1 : Nat) : Int) := by rw [show (1 : Int32) = iI 1 from rfl, iI_add]; rfl
      have h6 : (6 : Int32) ≤ iI (n : Int) ↔ (6 : Int) ≤ n := by
        rw [show (6 : Int32) = iI 6 from rfl]
        exact iI_le (by omega) (by omega) (by omega) (by omega)
      rw [h6, xn, en]
      refine ⟨fun q => absurd q (by omega), fun _ => ⟨ni, fun S2 e2 => ?_⟩⟩
      refine ih (n + 1) S2 (by omega) (fun c k h1 h2 => by rw [e2, up_ne _ _ (by omega), o1 c k h1 h2]) (fun j hj => by rw [e2, up_ne _ _ (by omega), o2 j hj]) (fun a ha => ?_)
      by_cases han : a = n
      · rw [e2, han, up_at]
      · rw [e2, up_ne _ _ (by omega), o3 a (by omega)]
  have key1 : ∀ (d n : Nat) (T : St), n + d = 36 → (∀ c k, c ≠ 53 → c ≠ 54 → T c k = S c k) → (∀ j, j < n → T 53 j = 0) → L_X4_settleLayer_3 post (d + 1) (iI p) hs (iI l) (iI g) (iI n) T := by
    intro d
    induction d with
    | zero =>
      intro n T hn o1 o2
      show BD_X4_settleLayer_3 (L_X4_settleLayer_3 post 0) post _ _ _ _ _ _
      unfold BD_X4_settleLayer_3
      refine ⟨fun _ => ⟨6 + 1, key2 6 0 T (by omega) o1 (fun j hj => o2 j (by omega)) (fun a ha => absurd ha (by omega))⟩, fun e => absurd ?_ e⟩
      rw [show (36 : Int32) = iI 36 from rfl, iI_le (by omega) (by omega) (by omega) (by omega)]
      omega
    | succ d ih =>
      intro n T hn o1 o2
      show BD_X4_settleLayer_3 (L_X4_settleLayer_3 post (d + 1)) post _ _ _ _ _ _
      unfold BD_X4_settleLayer_3
      have xn : ix (iI (n : Int)) = n := by rw [iI_ix (by omega) (by omega)]; simp
      have ni : vp_in (iI (n : Int)) 36 := (iI_in (by omega) (by omega)).mpr ⟨by omega, by omega⟩
      have en : iI (n : Int) + 1 = iI ((n + 1 : Nat) : Int) := by rw [show (1 : Int32) = iI 1 from rfl, iI_add]; rfl
      have h6 : (36 : Int32) ≤ iI (n : Int) ↔ (36 : Int) ≤ n := by
        rw [show (36 : Int32) = iI 36 from rfl]
        exact iI_le (by omega) (by omega) (by omega) (by omega)
      rw [h6, xn, en]
      refine ⟨fun q => absurd q (by omega), fun _ => ⟨ni, fun S2 e2 => ?_⟩⟩
      refine ih (n + 1) S2 (by omega) (fun c k h1 h2 => by rw [e2, up_ne _ _ (by omega), o1 c k h1 h2]) (fun j hj => ?_)
      by_cases hjn : j = n
      · rw [e2, hjn, up_at]
      · rw [e2, up_ne _ _ (by omega), o2 j (by omega)]
  exact ⟨36 + 1, key1 36 0 S (by omega) (fun _ _ _ _ => rfl) (fun j hj => absurd hj (by omega))⟩
