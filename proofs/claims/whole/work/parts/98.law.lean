/-! the law's loop, out of the calls -/
theorem S0_ne {c k : Nat} (h1 : ¬ (c = 48 ∧ k = 2)) (h2 : ¬ (c = 71 ∧ k = 9)) : S0 c k = 0 := by
  unfold S0
  by_cases h : c = 48
  · rw [if_pos h]
    show (if k = 2 then (-1 : Int32) else 0) = 0
    rw [if_neg (fun e => h1 ⟨h, e⟩)]
  · rw [if_neg h]
    by_cases g : c = 71
    · rw [if_pos g]
      show (if k = 9 then (-1 : Int32) else 0) = 0
      rw [if_neg (fun e => h2 ⟨g, e⟩)]
    · rw [if_neg g]
theorem S0_zz {c k : Nat} (h1 : ¬ (c = 48 ∧ k = 2)) (h2 : ¬ (c = 71 ∧ k = 9)) : zz S0 c k = 0 := by
  unfold zz
  rw [S0_ne h1 h2]
  decide
theorem Inv_S0 : Inv S0 := by
  have c0 : ∀ f k, f ≤ 10 → cv S0 0 f k = 0 := fun f k hf => S0_zz (by omega) (by omega)
  have m0 : ∀ k, mz S0 75 0 k = 0 := fun k => by
    unfold mz
    match k with
    | 0 => exact S0_zz (by omega) (by omega)
    | 1 => exact S0_zz (by omega) (by omega)
    | 2 => exact S0_zz (by omega) (by omega)
    | 3 => exact S0_zz (by omega) (by omega)
    | 4 => exact S0_zz (by omega) (by omega)
    | _ + 5 => exact S0_zz (by omega) (by omega)
  refine ⟨⟨⟨?_, ?_, ?_⟩, ?_, ?_, ?_, ?_⟩, ⟨?_, ?_, ?_, ?_, ?_⟩, ⟨?_, ?_, ?_, ?_⟩, ⟨?_, ?_, ?_, ?_⟩, ?_⟩
  · unfold Hb
    rw [c0 0 0 (by omega), c0 0 1 (by omega), c0 0 2 (by omega), c0 0 3 (by omega), c0 0 4 (by omega), c0 0 5 (by omega)]
    omega
  · intro r hr; rw [c0 0 1 (by omega)] at hr; omega
  · intro p hp; rw [c0 0 2 (by omega)] at hp; omega
  · intro p hp; rw [c0 0 2 (by omega)] at hp; omega
  · intro k _; rw [m0, c0 0 k (by omega)]
  · intro r hr; rw [c0 0 1 (by omega)] at hr; omega
  · intro p hp; rw [c0 0 2 (by omega)] at hp; omega
  · rw [S0_zz (by omega) (by omega), S0_zz (by omega) (by omega)]
  · rw [S0_zz (by omega) (by omega)]; omega
  · rw [S0_zz (by omega) (by omega)]; omega
  · rfl
  · intro k hk; rw [S0_zz (by omega) (by omega)] at hk; omega
  · rw [S0_zz (by omega) (by omega), S0_zz (by omega) (by omega)]
  · rw [S0_zz (by omega) (by omega)]; omega
  · rw [S0_zz (by omega) (by omega)]; omega
  · intro k hk; rw [S0_zz (by omega) (by omega)] at hk; omega
  · rw [S0_zz (by omega) (by omega), S0_zz (by omega) (by omega)]
  · rw [S0_zz (by omega) (by omega)]; omega
  · rw [S0_zz (by omega) (by omega)]; omega
  · intro k hk; rw [S0_zz (by omega) (by omega)] at hk; omega
  · intro i hi
    rw [S0_zz (by omega) (by omega), S0_zz (by omega) (by omega)]
    exact ⟨rfl, Or.inl rfl, fun e => absurd e (by omega)⟩
theorem law_calls {Ln : Nat} (hL : Ln ≤ 384) (xs : Nat → Int32) : B_L_law_18 (fun v _ => v = 1) Ln xs 0 S0 := by
  have hof : Int32.ofNat Ln - 6 = iI ((Ln : Int) - 6) := by
    rw [show (6 : Int32) = iI 6 from rfl, show Int32.ofNat Ln = iI (Ln : Int) from (Int32.ofInt_eq_ofNat).symm, iI_sub]
  have key : ∀ (d i : Nat) (S : St), (Ln : Int) - 6 < (i : Int) + 6 * d → i ≤ 1000 → Inv S → L_L_law_18 (fun v _ => v = 1) Ln xs (d + 1) (iI i) S := by
    intro d
    induction d with
    | zero =>
      intro i S hi hi2 hI
      show BD_L_law_18 (L_L_law_18 (fun v _ => v = 1) Ln xs 0) (fun v _ => v = 1) Ln xs _ _
      unfold BD_L_law_18
      rw [hof, iI_lt (by omega) (by omega) (by omega) (by omega)]
      exact ⟨fun _ => rfl, fun e => absurd (by omega) e⟩
    | succ d ih =>
      intro i S hi hi2 hI
      show BD_L_law_18 (L_L_law_18 (fun v _ => v = 1) Ln xs (d + 1)) (fun v _ => v = 1) Ln xs _ _
      have kk : ∀ S2, Inv S2 → (L_L_law_18 (fun v _ => v = 1) Ln xs (d + 1)) (iI i + 6) S2 → True := fun _ _ _ => trivial
      by_cases hend : (Ln : Int) - 6 < (i : Int)
      · unfold BD_L_law_18
        rw [hof, iI_lt (by omega) (by omega) (by omega) (by omega)]
        exact ⟨fun _ => rfl, fun e => absurd hend e⟩
      have k18 : ∀ S2, Inv S2 → (L_L_law_18 (fun v _ => v = 1) Ln xs (d + 1)) (iI i + 6) S2 := by
        intro S2 h2
        have e6 : iI (i : Int) + 6 = iI ((i + 6 : Nat) : Int) := by rw [show (6 : Int32) = iI 6 from rfl, iI_add]; rfl
        rw [e6]
        exact ih (i + 6) S2 (by omega) (by omega) h2
      generalize L_L_law_18 (fun v _ => v = 1) Ln xs (d + 1) = kf at k18
      have j0 : vp_in (iI (i : Int)) Ln := (iI_in (by omega) (by omega)).mpr ⟨by omega, by omega⟩
      have j1 : vp_in (iI (i : Int) + 1) Ln := by
        rw [show (1 : Int32) = iI 1 from rfl, iI_add]
        exact (iI_in (by omega) (by omega)).mpr ⟨by omega, by omega⟩
      have j2 : vp_in (iI (i : Int) + 2) Ln := by
        rw [show (2 : Int32) = iI 2 from rfl, iI_add]
        exact (iI_in (by omega) (by omega)).mpr ⟨by omega, by omega⟩
      have j3 : vp_in (iI (i : Int) + 3) Ln := by
        rw [show (3 : Int32) = iI 3 from rfl, iI_add]
        exact (iI_in (by omega) (by omega)).mpr ⟨by omega, by omega⟩
      have j4 : vp_in (iI (i : Int) + 4) Ln := by
        rw [show (4 : Int32) = iI 4 from rfl, iI_add]
        exact (iI_in (by omega) (by omega)).mpr ⟨by omega, by omega⟩
      have j5 : vp_in (iI (i : Int) + 5) Ln := by
        rw [show (5 : Int32) = iI 5 from rfl, iI_add]
        exact (iI_in (by omega) (by omega)).mpr ⟨by omega, by omega⟩
      have pf : ∀ (r : Int32) (S2 : St), Inv S2 → (r = r → kf (iI i + 6) S2) ∧ (¬ r = r → (0 : Int32) = 1) := fun r S2 h => ⟨fun _ => k18 S2 h, fun e => absurd rfl e⟩
      have hinn : ∀ t : Int32, (xs (ix (iI i + 2)) = 0 ↔ t = 0) → t = 0 ∨ t = 1 → B_L_law_513 kf (fun v _ => v = 1) Ln xs (iI i) t (xs (ix (iI i + 1))) S := by
        intro t ht ht2
        unfold B_L_law_513
        rcases ht2 with rfl | rfl
        · have e := ht.mpr rfl
          simp only [e, not_true_eq_false, false_implies, and_true, true_implies]
          exact call_inn _ _ S hI (fun p => vp_in (iI i + 1) Ln ∧ vp_in (iI i + 2) Ln ∧ p) (fun p h => ⟨j1, j2, h⟩) (fun a b S2 => (a = b → kf (iI i + 6) S2) ∧ (¬ a = b → (0 : Int32) = 1)) pf
        · have e : ¬ xs (ix (iI i + 2)) = 0 := fun q => absurd (ht.mp q) (by decide)
          simp only [e, not_false_eq_true, false_implies, true_and, true_implies]
          exact call_inn _ _ S hI (fun p => vp_in (iI i + 1) Ln ∧ vp_in (iI i + 2) Ln ∧ p) (fun p h => ⟨j1, j2, h⟩) (fun a b S2 => (a = b → kf (iI i + 6) S2) ∧ (¬ a = b → (0 : Int32) = 1)) pf
      have hclock : ∀ t : Int32, (xs (ix (iI i + 2)) = 0 ↔ t = 0) → t = 0 ∨ t = 1 → B_L_law_562 kf (fun v _ => v = 1) Ln xs (iI i) t (xs (ix (iI i + 1))) S := by
        intro t ht ht2
        unfold B_L_law_562
        rcases ht2 with rfl | rfl
        · have e := ht.mpr rfl
          simp only [e, not_true_eq_false, false_implies, and_true, true_implies]
          exact call_clock _ _ S hI (fun p => vp_in (iI i + 1) Ln ∧ vp_in (iI i + 2) Ln ∧ p) (fun p h => ⟨j1, j2, h⟩) (fun a b S2 => (a = b → kf (iI i + 6) S2) ∧ (¬ a = b → (0 : Int32) = 1)) pf
        · have e : ¬ xs (ix (iI i + 2)) = 0 := fun q => absurd (ht.mp q) (by decide)
          simp only [e, not_false_eq_true, false_implies, true_and, true_implies]
          exact call_clock _ _ S hI (fun p => vp_in (iI i + 1) Ln ∧ vp_in (iI i + 2) Ln ∧ p) (fun p h => ⟨j1, j2, h⟩) (fun a b S2 => (a = b → kf (iI i + 6) S2) ∧ (¬ a = b → (0 : Int32) = 1)) pf
      unfold BD_L_law_18
      rw [hof, iI_lt (by omega) (by omega) (by omega) (by omega)]
      refine ⟨fun e => absurd e hend, fun _ => ⟨j0, fun v2 ev => ⟨fun _ => k18 S hI, ?_⟩⟩⟩
      exact ⟨fun _ => ⟨j1, call_feed _ S hI (fun p => vp_in (iI i + 1) Ln ∧ p) (fun p h => ⟨j1, h⟩) (fun a b S2 => (a = b → kf (iI i + 6) S2) ∧ (¬ a = b → (0 : Int32) = 1)) pf⟩,
        fun _ => call_land S hI (fun p => p) (fun p h => h) (fun a b S2 => (a = b → kf (iI i + 6) S2) ∧ (¬ a = b → (0 : Int32) = 1)) pf,
        fun _ => call_fault S hI (fun p => p) (fun p h => h) (fun a b S2 => (a = b → kf (iI i + 6) S2) ∧ (¬ a = b → (0 : Int32) = 1)) pf,
        fun _ => ⟨j1, call_told _ S hI (fun p => vp_in (iI i + 1) Ln ∧ p) (fun p h => ⟨j1, h⟩) (fun a b S2 => (a = b → kf (iI i + 6) S2) ∧ (¬ a = b → (0 : Int32) = 1)) pf⟩,
        fun _ => ⟨j1, j2, call_road _ _ S hI (fun p => vp_in (iI i + 1) Ln ∧ vp_in (iI i + 2) Ln ∧ p) (fun p h => ⟨j1, j2, h⟩) (fun a b S2 => (a = b → kf (iI i + 6) S2) ∧ (¬ a = b → (0 : Int32) = 1)) pf⟩,
        fun _ => ⟨j1, j2, call_person _ _ S hI (fun p => vp_in (iI i + 1) Ln ∧ vp_in (iI i + 2) Ln ∧ p) (fun p h => ⟨j1, j2, h⟩) (fun a b S2 => (a = b → kf (iI i + 6) S2) ∧ (¬ a = b → (0 : Int32) = 1)) pf⟩,
        fun _ => ⟨j1, j2, j3, j4, j5, call_takes _ _ _ _ _ S hI (fun p => vp_in (iI i + 1) Ln ∧ vp_in (iI i + 2) Ln ∧ vp_in (iI i + 3) Ln ∧ vp_in (iI i + 4) Ln ∧ vp_in (iI i + 5) Ln ∧ p) (fun p h => ⟨j1, j2, j3, j4, j5, h⟩) (fun a b S2 => (a = b → kf (iI i + 6) S2) ∧ (¬ a = b → (0 : Int32) = 1)) pf⟩,
        fun _ => ⟨j1, j2, j3, call_go _ _ _ S hI (fun p => vp_in (iI i + 1) Ln ∧ vp_in (iI i + 2) Ln ∧ vp_in (iI i + 3) Ln ∧ p) (fun p h => ⟨j1, j2, j3, h⟩) (fun a b S2 => (a = b → kf (iI i + 6) S2) ∧ (¬ a = b → (0 : Int32) = 1)) pf⟩,
        fun _ => ⟨j1, j2, call_await _ _ S hI (fun p => vp_in (iI i + 1) Ln ∧ vp_in (iI i + 2) Ln ∧ p) (fun p h => ⟨j1, j2, h⟩) (fun a b S2 => (a = b → kf (iI i + 6) S2) ∧ (¬ a = b → (0 : Int32) = 1)) pf⟩,
        fun _ => ⟨j1, j2, call_load _ _ S hI (fun p => vp_in (iI i + 1) Ln ∧ vp_in (iI i + 2) Ln ∧ p) (fun p h => ⟨j1, j2, h⟩) (fun a b S2 => (a = b → kf (iI i + 6) S2) ∧ (¬ a = b → (0 : Int32) = 1)) pf⟩,
        fun _ => ⟨j1, j2, fun e => hinn 0 ⟨fun _ => rfl, fun _ => e⟩ (Or.inl rfl), fun e => hinn 1 ⟨fun q => absurd q e, fun q => absurd q (by decide)⟩ (Or.inr rfl)⟩,
        fun _ => ⟨j1, j2, fun e => hclock 0 ⟨fun _ => rfl, fun _ => e⟩ (Or.inl rfl), fun e => hclock 1 ⟨fun q => absurd q e, fun q => absurd q (by decide)⟩ (Or.inr rfl)⟩,
        fun _ => ⟨j1, j2, call_miles _ _ S hI (fun p => vp_in (iI i + 1) Ln ∧ vp_in (iI i + 2) Ln ∧ p) (fun p h => ⟨j1, j2, h⟩) (fun a b S2 => (a = b → kf (iI i + 6) S2) ∧ (¬ a = b → (0 : Int32) = 1)) pf⟩,
        fun _ => ⟨j1, call_drift _ S hI (fun p => vp_in (iI i + 1) Ln ∧ p) (fun p h => ⟨j1, h⟩) (fun a b S2 => (a = b → kf (iI i + 6) S2) ∧ (¬ a = b → (0 : Int32) = 1)) pf⟩,
        fun _ => ⟨j1, j2, call_soonest _ _ S hI (fun p => vp_in (iI i + 1) Ln ∧ vp_in (iI i + 2) Ln ∧ p) (fun p h => ⟨j1, j2, h⟩) (fun a b S2 => (a = b → kf (iI i + 6) S2) ∧ (¬ a = b → (0 : Int32) = 1)) pf⟩,
        fun _ => ⟨j1, j2, call_step _ _ S hI (fun p => vp_in (iI i + 1) Ln ∧ vp_in (iI i + 2) Ln ∧ p) (fun p h => ⟨j1, j2, h⟩) (fun a b S2 => (a = b → kf (iI i + 6) S2) ∧ (¬ a = b → (0 : Int32) = 1)) pf⟩,
        fun _ => ⟨j1, call_latest _ S hI (fun p => vp_in (iI i + 1) Ln ∧ p) (fun p h => ⟨j1, h⟩) (fun a b S2 => (a = b → kf (iI i + 6) S2) ∧ (¬ a = b → (0 : Int32) = 1)) pf⟩,
        fun _ => ⟨j1, call_inns _ S hI (fun p => vp_in (iI i + 1) Ln ∧ p) (fun p h => ⟨j1, h⟩) (fun a b S2 => (a = b → kf (iI i + 6) S2) ∧ (¬ a = b → (0 : Int32) = 1)) pf⟩,
        fun _ => ⟨j1, j2, j3, call_relay _ _ _ S hI (fun p => vp_in (iI i + 1) Ln ∧ vp_in (iI i + 2) Ln ∧ vp_in (iI i + 3) Ln ∧ p) (fun p h => ⟨j1, j2, j3, h⟩) (fun a b S2 => (a = b → kf (iI i + 6) S2) ∧ (¬ a = b → (0 : Int32) = 1)) pf⟩,
        fun _ => ⟨j1, j2, j3, call_meet _ _ _ S hI (fun p => vp_in (iI i + 1) Ln ∧ vp_in (iI i + 2) Ln ∧ vp_in (iI i + 3) Ln ∧ p) (fun p h => ⟨j1, j2, j3, h⟩) (fun a b S2 => (a = b → kf (iI i + 6) S2) ∧ (¬ a = b → (0 : Int32) = 1)) pf⟩,
        fun _ => ⟨j1, call_cost _ S hI (fun p => vp_in (iI i + 1) Ln ∧ p) (fun p h => ⟨j1, h⟩) (fun a b S2 => (a = b → kf (iI i + 6) S2) ∧ (¬ a = b → (0 : Int32) = 1)) pf⟩,
        fun _ => ⟨j1, call_shorter _ S hI (fun p => vp_in (iI i + 1) Ln ∧ p) (fun p h => ⟨j1, h⟩) (fun a b S2 => (a = b → kf (iI i + 6) S2) ∧ (¬ a = b → (0 : Int32) = 1)) pf⟩,
        fun _ => ⟨j1, j2, j3, call_lend _ _ _ S hI (fun p => vp_in (iI i + 1) Ln ∧ vp_in (iI i + 2) Ln ∧ vp_in (iI i + 3) Ln ∧ p) (fun p h => ⟨j1, j2, j3, h⟩) (fun a b S2 => (a = b → kf (iI i + 6) S2) ∧ (¬ a = b → (0 : Int32) = 1)) pf⟩,
        fun _ => ⟨j1, j2, call_guard _ _ S hI (fun p => vp_in (iI i + 1) Ln ∧ vp_in (iI i + 2) Ln ∧ p) (fun p h => ⟨j1, j2, h⟩) (fun a b S2 => (a = b → kf (iI i + 6) S2) ∧ (¬ a = b → (0 : Int32) = 1)) pf⟩,
        fun _ => ⟨j1, j2, call_round _ _ S hI (fun p => vp_in (iI i + 1) Ln ∧ vp_in (iI i + 2) Ln ∧ p) (fun p h => ⟨j1, j2, h⟩) (fun a b S2 => (a = b → kf (iI i + 6) S2) ∧ (¬ a = b → (0 : Int32) = 1)) pf⟩,
        fun _ => ⟨j1, j2, j3, j4, j5, call_took _ _ _ _ _ S hI (fun p => vp_in (iI i + 1) Ln ∧ vp_in (iI i + 2) Ln ∧ vp_in (iI i + 3) Ln ∧ vp_in (iI i + 4) Ln ∧ vp_in (iI i + 5) Ln ∧ p) (fun p h => ⟨j1, j2, j3, j4, j5, h⟩) (fun a b S2 => (a = b → kf (iI i + 6) S2) ∧ (¬ a = b → (0 : Int32) = 1)) pf⟩,
        fun _ => ⟨j1, call_spent _ S hI (fun p => vp_in (iI i + 1) Ln ∧ p) (fun p h => ⟨j1, h⟩) (fun a b S2 => (a = b → kf (iI i + 6) S2) ∧ (¬ a = b → (0 : Int32) = 1)) pf⟩,
        fun _ => call_lie S hI (fun p => p) (fun p h => h) (fun a b S2 => (a = b → kf (iI i + 6) S2) ∧ (¬ a = b → (0 : Int32) = 1)) pf,
        fun _ => ⟨j1, call_write _ S hI (fun p => vp_in (iI i + 1) Ln ∧ p) (fun p h => ⟨j1, h⟩) (fun a b S2 => (a = b → kf (iI i + 6) S2) ∧ (¬ a = b → (0 : Int32) = 1)) pf⟩,
        fun _ => call_tear S hI (fun p => p) (fun p h => h) (fun a b S2 => (a = b → kf (iI i + 6) S2) ∧ (¬ a = b → (0 : Int32) = 1)) pf,
        fun _ => ⟨j1, j2, call_judge _ _ S hI (fun p => vp_in (iI i + 1) Ln ∧ vp_in (iI i + 2) Ln ∧ p) (fun p h => ⟨j1, j2, h⟩) (fun a b S2 => (a = b → kf (iI i + 6) S2) ∧ (¬ a = b → (0 : Int32) = 1)) pf⟩,
        fun _ => ⟨j1, call_seed _ S hI (fun p => vp_in (iI i + 1) Ln ∧ p) (fun p h => ⟨j1, h⟩) (fun a b S2 => (a = b → kf (iI i + 6) S2) ∧ (¬ a = b → (0 : Int32) = 1)) pf⟩,
        fun _ => ⟨j1, call_keep _ S hI (fun p => vp_in (iI i + 1) Ln ∧ p) (fun p h => ⟨j1, h⟩) (fun a b S2 => (a = b → kf (iI i + 6) S2) ∧ (¬ a = b → (0 : Int32) = 1)) pf⟩,
        fun _ => ⟨j1, call_goBack _ S hI (fun p => vp_in (iI i + 1) Ln ∧ p) (fun p h => ⟨j1, h⟩) (fun a b S2 => (a = b → kf (iI i + 6) S2) ∧ (¬ a = b → (0 : Int32) = 1)) pf⟩⟩
  exact ⟨64 + 1, key 64 0 S0 (by omega) (by omega) Inv_S0⟩
