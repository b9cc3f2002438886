/-! the class's spreading from one state, whole; the nearest -/
theorem s_X4_spread {v : Vw} {p : Nat} {ly : Nat → Int → Nat} {hs : Int32} {l i : Nat} {u : Int} {S : St} {post : St → Prop} (hd : Rq v p ly hs l i u S) (hu : zz S 51 (36 * l + i) = u) (h : ∀ T', Rk v p ly l i u S T' → (∀ l' a' c' t', Eg v p ly l ((i / 6 : Nat) : Int) ((i % 6 : Nat) : Int) u l' a' c' t' → ∃ C' : Nat, c' ≤ C' ∧ C' ≤ 5 ∧ zz T' 51 (36 * l' + 6 * a'.toNat + C') ≤ t') → post T') : wp_X4_spread (iI p) hs (iI l) (iI i) S post := by
  obtain ⟨hL, hp, hi, hi2, hl, hS, hP, h1, h2, hly⟩ := id hd
  obtain ⟨b0, b0', b1, b1', b2, b2', _⟩ := id hL.1
  have hub := hur_b (v := v) (p := p) ((i / 6 : Nat) : Int) u (hL.2.2 p hp)
  unfold wp_X4_spread
  intro v1 e1 v2 e2
  rw [show (6 : Int32) = iI 6 from rfl, iI_div (by omega) (by omega) (by omega) (by omega), show (i : Int) / 6 = ((i / 6 : Nat) : Int) from by omega] at e1
  rw [show (6 : Int32) = iI 6 from rfl, iI_div (by omega) (by omega) (by omega) (by omega), iI_mul, iI_sub, show (i : Int) - (i : Int) / 6 * 6 = ((i % 6 : Nat) : Int) from by omega] at e2
  subst e1
  subst e2
  have ej : (l : Int) * 36 + (i : Int) = ((36 * l + i : Nat) : Int) := by omega
  have xj : ix (iI ((36 * l + i : Nat) : Int)) = 36 * l + i := by rw [iI_ix (by omega) (by omega)]; omega
  have ij : vp_in (iI ((36 * l + i : Nat) : Int)) 2304 := (iI_in (by omega) (by omega)).mpr ⟨by omega, by omega⟩
  rw [show (36 : Int32) = iI 36 from rfl, iI_mul, iI_add, ej, xj, zz_S S 51 (36 * l + i), hu]
  refine ⟨ij, fun v3 e3 => ?_⟩
  subst e3
  have hw : bt (cv S 11 0 3) ((i / 6 : Nat) : Int) = bt (v 0 3) ((i / 6 : Nat) : Int) := by rw [hS.1 3 (by omega)]
  have roads : ∀ T, Rk v p ly l i u S T → (bt (v 0 3) ((i / 6 : Nat) : Int) = 1 → ((i % 6 : Nat) : Int) < 5 → zz T 51 (36 * l + 6 * (i / 6) + (i % 6 + 1)) ≤ u + 1) → B_X4_spread_61 post (iI p) hs (iI l) (iI ((i / 6 : Nat) : Int)) (iI ((i % 6 : Nat) : Int)) (iI u) T := by
    intro T hR hwt
    unfold B_X4_spread_61
    have hS' := cv_51s hR.1 hS
    have hPT : Pb (cv T 11) p := by
      refine Pb_congr (v := cv S 11) (cv_51 hR.1 _ _ (by omega)) ⟨cv_51 hR.1 _ _ (by omega), cv_51 hR.1 _ _ (by omega), cv_51 hR.1 _ _ (by omega), cv_51 hR.1 _ _ (by omega), cv_51 hR.1 _ _ (by omega), cv_51 hR.1 _ _ (by omega)⟩ hP
    refine s_X6_hurry (o := 11) (Sv_Hb hS' hL.1) hPT (by omega) (by omega) (by omega) (by omega) (by omega) ?_
    rw [hur_Sv hS' hp]
    refine ⟨(v 0 1).toNat + 1, s_X4_spread_mid hd (v 0 1).toNat 0 T (by omega) hR ?_⟩
    intro T' hR' le' l'
    refine h T' hR' ?_
    intro l1 a' c' t' hE
    have hin := Eg_in hL ⟨by omega, hi2⟩ ⟨by omega, by omega⟩ hE
    rcases hE with ⟨k1, k2, k0, k3, k4, k5⟩ | ⟨r, s, k1, k2, k3, k4, k5, k0, k6, k7⟩
    · refine ⟨i % 6 + 1, by omega, by omega, ?_⟩
      rw [k0, k3, k5, Int.toNat_natCast]
      exact Int.le_trans (le' _) (hwt k1 k2)
    · obtain ⟨b, hb⟩ : ∃ b : Nat, a' = (b : Int) := ⟨a'.toNat, by omega⟩
      subst hb
      by_cases hsh : s ≤ hur v p ((i / 6 : Nat) : Int) u
      · obtain ⟨sn, rfl⟩ : ∃ sn : Nat, s = (sn : Int) := ⟨s.toNat, by omega⟩
        refine ⟨i % 6 - sn, by omega, by omega, ?_⟩
        have hx := l' r b (by omega) k1 k2 sn (by omega) hsh
        rw [k0, k7, Int.toNat_natCast]
        exact hx
      · obtain ⟨sn, hsn⟩ : ∃ sn : Nat, hur v p ((i / 6 : Nat) : Int) u = (sn : Int) := ⟨(hur v p ((i / 6 : Nat) : Int) u).toNat, by omega⟩
        refine ⟨i % 6 - sn, by omega, by omega, ?_⟩
        have hx := l' r b (by omega) k1 k2 sn (by omega) (by omega)
        have et : tme v p r ((i / 6 : Nat) : Int) u s = tme v p r ((i / 6 : Nat) : Int) u sn := by
          unfold tme
          rw [if_pos (by omega), if_neg (by omega), hsn, Int.sub_self]
        rw [k0, k7, et, Int.toNat_natCast]
        exact hx
  refine s_X6_hasInn (o := 11) (Sv_Hb hS hL.1) (by omega) (by omega) (fun hy => ?_) (fun hn => ?_)
  · rw [hw] at hy
    refine ⟨fun e => absurd e (by decide), fun _ => ?_⟩
    rw [show (5 : Int32) = iI 5 from rfl, iI_le (by omega) (by omega) (by omega) (by omega)]
    refine ⟨fun h5 => roads S (Rk.rf _ _ _ _ _ _ _) (fun _ q => absurd q (by omega)), fun h5 => ?_⟩
    rw [show (1 : Int32) = iI 1 from rfl, iI_add, iI_add, show ((i % 6 : Nat) : Int) + 1 = ((i % 6 + 1 : Nat) : Int) from rfl]
    refine s_X4_reach (v := v) (p := p) (ly := ly) (l := l) (i := i) (u := u) (S := S) hl (by omega) (by omega) (by omega) (by omega) (Rk.rf _ _ _ _ _ _ _) ?_ ?_
    · exact Or.inl ⟨hy, by omega, rfl, rfl, by omega, rfl⟩
    · intro T' hR' _ l'
      exact roads T' hR' (fun _ _ => l')
  · rw [hw] at hn
    refine ⟨fun _ => roads S (Rk.rf _ _ _ _ _ _ _) (fun q => absurd q (by omega)), fun e => absurd rfl e⟩
theorem s_X4_nearest {l n6 : Nat} {S : St} {post : Int32 → St → Prop} (hl : l < 64) (hn6 : n6 ≤ 36) (h11 : zz S 11 0 * 6 = (n6 : Int)) (hf : ∀ j, j < 36 → zz S 53 j = 0 ∨ zz S 53 j = 1) (hb : ∀ j, j < 36 → zz S 51 (36 * l + j) ≤ 1000000000) (h1 : (∀ j, j < n6 → zz S 53 j = 0 → zz S 51 (36 * l + j) = 1000000000) → post (iI (-1)) S) (h2 : ∀ i : Nat, i < n6 → zz S 53 i = 0 → zz S 51 (36 * l + i) < 1000000000 → (∀ j, j < n6 → zz S 53 j = 0 → zz S 51 (36 * l + i) ≤ zz S 51 (36 * l + j)) → post (iI i) S) : wp_X4_nearest (iI (l : Int) * 36) S post := by
  unfold wp_X4_nearest
  intro v1 e1
  rw [zz_S S 11 0, show (6 : Int32) = iI 6 from rfl, iI_mul, h11] at e1
  subst e1
  have el : iI (l : Int) * 36 = iI ((36 * l : Nat) : Int) := by
    rw [show (36 : Int32) = iI 36 from rfl, iI_mul]
    congr 1
    omega
  rw [el]
  have key : ∀ (d n : Nat) (b x : Int), n + d = n6 → -2147483648 ≤ x → x ≤ 1000000000 → (b = -1 ∧ x = 1000000000 ∧ ∀ j, j < n → zz S 53 j = 0 → zz S 51 (36 * l + j) = 1000000000) ∨ (0 ≤ b ∧ b < n ∧ zz S 53 b.toNat = 0 ∧ zz S 51 (36 * l + b.toNat) = x ∧ x < 1000000000 ∧ ∀ j, j < n → zz S 53 j = 0 → x ≤ zz S 51 (36 * l + j)) → L_X4_nearest_20 post (d + 1) (iI ((36 * l : Nat) : Int)) (iI b) (iI x) (iI n6) (iI n) S := by
    intro d
    induction d with
    | zero =>
      intro n b x hn x1 x2 hx
      show BD_X4_nearest_20 (L_X4_nearest_20 post 0) post _ _ _ _ _ _
      unfold BD_X4_nearest_20
      rw [iI_le (by omega) (by omega) (by omega) (by omega)]
      refine ⟨fun _ => ?_, fun e => absurd (by omega) e⟩
      rcases hx with ⟨rfl, _, hx⟩ | ⟨g1, g2, g3, g4, g5, g6⟩
      · exact h1 (fun j hj => hx j (by omega))
      · have : iI b = iI (b.toNat : Int) := by congr 1; omega
        rw [this]
        exact h2 b.toNat (by omega) g3 (by omega) (fun j hj hz => by rw [g4]; exact g6 j (by omega) hz)
    | succ d ih =>
      intro n b x hn x1 x2 hx
      show BD_X4_nearest_20 (L_X4_nearest_20 post (d + 1)) post _ _ _ _ _ _
      unfold BD_X4_nearest_20
      have xn : ix (iI (n : Int)) = n := by rw [iI_ix (by omega) (by omega)]; simp
      have ni : vp_in (iI (n : Int)) 36 := (iI_in (by omega) (by omega)).mpr ⟨by omega, by omega⟩
      have en : iI (n : Int) + 1 = iI ((n + 1 : Nat) : Int) := by rw [show (1 : Int32) = iI 1 from rfl, iI_add]; rfl
      have ej : iI ((36 * l : Nat) : Int) + iI (n : Int) = iI ((36 * l + n : Nat) : Int) := by rw [iI_add]; rfl
      have xj : ix (iI ((36 * l + n : Nat) : Int)) = 36 * l + n := by rw [iI_ix (by omega) (by omega)]; omega
      have ij : vp_in (iI ((36 * l + n : Nat) : Int)) 2304 := (iI_in (by omega) (by omega)).mpr ⟨by omega, by omega⟩
      have l1 := zz_lo S 51 (36 * l + n)
      have l2 := hb n (by omega)
      have e0 : S 53 n = 0 ↔ zz S 53 n = 0 := by
        rw [zz_S S 53 n, show (0 : Int32) = iI 0 from rfl]
        have := hf n (by omega)
        exact iI_eq (by omega) (by omega) (by omega) (by omega)
      have e5 : iI x ≤ S 51 (36 * l + n) ↔ x ≤ zz S 51 (36 * l + n) := by
        rw [zz_S S 51 (36 * l + n)]
        exact iI_le (by omega) (by omega) (by omega) (by omega)
      rw [iI_le (by omega) (by omega) (by omega) (by omega), xn, en, ej, xj, e0, e5]
      refine ⟨fun q => absurd q (by omega), fun _ => ⟨ni, fun hz => ?_, fun hz => ⟨ij, fun hle => ?_, fun hle => ⟨ij, fun v4 e4 => ?_⟩⟩⟩⟩
      · refine ih (n + 1) b x (by omega) x1 x2 ?_
        rcases hx with ⟨g1, g2, g3⟩ | ⟨g1, g2, g3, g4, g5, g6⟩
        · refine Or.inl ⟨g1, g2, fun j hj hz' => ?_⟩
          by_cases hjn : j = n
          · subst hjn; exact absurd hz' hz
          · exact g3 j (by omega) hz'
        · refine Or.inr ⟨g1, by omega, g3, g4, g5, fun j hj hz' => ?_⟩
          by_cases hjn : j = n
          · subst hjn; exact absurd hz' hz
          · exact g6 j (by omega) hz'
      · refine ih (n + 1) b x (by omega) x1 x2 ?_
        rcases hx with ⟨g1, g2, g3⟩ | ⟨g1, g2, g3, g4, g5, g6⟩
        · refine Or.inl ⟨g1, g2, fun j hj hz' => ?_⟩
          by_cases hjn : j = n
          · subst hjn; omega
          · exact g3 j (by omega) hz'
        · refine Or.inr ⟨g1, by omega, g3, g4, g5, fun j hj hz' => ?_⟩
          by_cases hjn : j = n
          · subst hjn; exact hle
          · exact g6 j (by omega) hz'
      · rw [e4, zz_S S 51 (36 * l + n)]
        refine ih (n + 1) n _ (by omega) l1 l2 (Or.inr ⟨by omega, by omega, by rw [Int.toNat_natCast]; exact hz, by rw [Int.toNat_natCast], by omega, fun j hj hz' => ?_⟩)
        by_cases hjn : j = n
        · rw [hjn]; exact Int.le_refl _
        · rcases hx with ⟨g1, g2, g3⟩ | ⟨g1, g2, g3, g4, g5, g6⟩
          · have := g3 j (by omega) hz'
            omega
          · have := g6 j (by omega) hz'
            omega
  exact ⟨n6 + 1, key n6 0 (-1) 1000000000 (by omega) (by omega) (by omega) (Or.inl ⟨rfl, rfl, fun j hj => absurd hj (by omega)⟩)⟩
