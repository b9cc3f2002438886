/-! meet: the reference's loops -/
theorem s_X8_meet_48 {n : Nat} {A : Nat → Int} {S : St} {x1 x2 x3 : Int32} {post : Int32 → St → Prop} (hA : Cn n A) (h10 : S 71 10 = iI (n : Int)) (hat : ∀ (T : St) (po : Int32 → St → Prop) (b : Nat), (∀ c k, c ≠ 81 → c ≠ 82 → c ≠ 89 → T c k = S c k) → b < n → (∀ T', (∀ c k, c ≠ 81 → c ≠ 82 → T' c k = T c k) → po (iI (A b)) T') → wp_X8_soonestOf x1 (iI b) T po) (h : ∀ T, (∀ c k, c ≠ 81 → c ≠ 82 → c ≠ 89 → T c k = S c k) → (∀ b, b < n → T 89 b = iI (A b)) → B_X8_meet_77 post x2 x3 T) : ∀ (d i : Nat) (T : St), i + d = n → (∀ c k, c ≠ 81 → c ≠ 82 → c ≠ 89 → T c k = S c k) → (∀ b, b < i → T 89 b = iI (A b)) → L_X8_meet_48 post (d + 1) x1 x2 x3 (iI i) T := by
  obtain ⟨hn, hA⟩ := hA
  intro d
  induction d with
  | zero =>
    intro i T hi o1 o2
    show BD_X8_meet_48 (L_X8_meet_48 post 0) post _ _ _ _ _
    unfold BD_X8_meet_48
    rw [o1 71 10 (by omega) (by omega) (by omega), h10, iI_le (by omega) (by omega) (by omega) (by omega)]
    exact ⟨fun _ => h T o1 (fun b hb => o2 b (by omega)), fun e => absurd (by omega) e⟩
  | succ d ih =>
    intro i T hi o1 o2
    show BD_X8_meet_48 (L_X8_meet_48 post (d + 1)) post _ _ _ _ _
    unfold BD_X8_meet_48
    have ei : iI (i : Int) + 1 = iI ((i + 1 : Nat) : Int) := by rw [show (1 : Int32) = iI 1 from rfl, iI_add]; rfl
    have xi : ix (iI (i : Int)) = i := by rw [iI_ix (by omega) (by omega)]; simp
    have ii : vp_in (iI (i : Int)) 6 := (iI_in (by omega) (by omega)).mpr ⟨by omega, by omega⟩
    rw [o1 71 10 (by omega) (by omega) (by omega), h10, iI_le (by omega) (by omega) (by omega) (by omega), ei, xi]
    refine ⟨fun e => absurd e (by omega), fun _ => ?_⟩
    refine hat T _ i o1 (by omega) (fun T' o' => ⟨ii, fun S4 e4 => ?_⟩)
    refine ih (i + 1) S4 (by omega) (fun c k h1 h2 h3 => by rw [e4, up_ne _ _ (by omega), o' c k h1 h2, o1 c k h1 h2 h3]) (fun b hb => ?_)
    by_cases hbi : b = i
    · rw [e4, hbi, up_at]
    · rw [e4, up_ne _ _ (by omega), o' _ _ (by omega) (by omega), o2 b (by omega)]
theorem s_X8_meet_87 {n : Nat} {A B : Nat → Int} {S : St} {x2 x3 : Int32} {post : Int32 → St → Prop} (hA : Cn n A) (hB : Cn n B) (h10 : S 71 10 = iI (n : Int)) (h89 : ∀ b, b < n → S 89 b = iI (A b)) (hat : ∀ (T : St) (po : Int32 → St → Prop) (b : Nat), (∀ c k, c ≠ 81 → c ≠ 82 → T c k = S c k) → b < n → (∀ T', (∀ c k, c ≠ 81 → c ≠ 82 → T' c k = T c k) → po (iI (B b)) T') → wp_X8_soonestOf x2 (iI b) T po) : ∀ (d i : Nat) (bp bm : Int) (T : St), i + d = n → -1 ≤ bp → bp < 6 → 0 ≤ bm → bm ≤ 100000000 → (∀ c k, c ≠ 81 → c ≠ 82 → T c k = S c k) → (∀ bp' bm' T', (bp', bm') = mtF A B d i bp bm → (∀ c k, c ≠ 81 → c ≠ 82 → T' c k = S c k) → B_X8_meet_169 post x3 (iI bp') (iI bm') T') → L_X8_meet_87 post (d + 1) x2 x3 (iI bp) (iI bm) (iI i) T := by
  obtain ⟨hn, hA⟩ := hA
  obtain ⟨_, hB⟩ := hB
  intro d
  induction d with
  | zero =>
    intro i bp bm T hi p1 p2 m1 m2 o1 h
    show BD_X8_meet_87 (L_X8_meet_87 post 0) post _ _ _ _ _ _
    unfold BD_X8_meet_87
    rw [o1 71 10 (by omega) (by omega), h10, iI_le (by omega) (by omega) (by omega) (by omega)]
    exact ⟨fun _ => h bp bm T rfl o1, fun e => absurd (by omega) e⟩
  | succ d ih =>
    intro i bp bm T hi p1 p2 m1 m2 o1 h
    show BD_X8_meet_87 (L_X8_meet_87 post (d + 1)) post _ _ _ _ _ _
    unfold BD_X8_meet_87
    have ei : iI (i : Int) + 1 = iI ((i + 1 : Nat) : Int) := by rw [show (1 : Int32) = iI 1 from rfl, iI_add]; rfl
    have xi : ix (iI (i : Int)) = i := by rw [iI_ix (by omega) (by omega)]; simp
    have ii : vp_in (iI (i : Int)) 6 := (iI_in (by omega) (by omega)).mpr ⟨by omega, by omega⟩
    obtain ⟨a1, a2⟩ := hA i (by omega)
    obtain ⟨c1, c2⟩ := hB i (by omega)
    rw [o1 71 10 (by omega) (by omega), h10, iI_le (by omega) (by omega) (by omega) (by omega), xi]
    refine ⟨fun e => absurd e (by omega), fun _ => ?_⟩
    refine hat T _ i o1 (by omega) (fun T' o' => ⟨ii, ?_⟩)
    have oS : ∀ c k, c ≠ 81 → c ≠ 82 → T' c k = S c k := fun c k h1 h2 => by rw [o' c k h1 h2, o1 c k h1 h2]
    have step : ∀ m : Int, m = (if A i ≤ B i then B i else A i) → (iI bm ≤ iI m → B_X8_meet_145 (L_X8_meet_87 post (d + 1)) post x2 x3 (iI bm) (iI (i : Int)) (iI m) (iI bp) T') ∧ (¬ iI bm ≤ iI m → B_X8_meet_145 (L_X8_meet_87 post (d + 1)) post x2 x3 (iI bm) (iI (i : Int)) (iI m) (iI (i : Int)) T') := by
      intro m hm
      have hmb : 0 ≤ m ∧ m ≤ 100000000 := by rw [hm]; split <;> omega
      have k : iI bm ≤ iI m ↔ bm ≤ m := iI_le (by omega) (by omega) (by omega) (by omega)
      unfold B_X8_meet_145
      rw [k, ei]
      refine ⟨fun hle => ⟨fun _ => ih (i + 1) bp bm T' (by omega) p1 p2 m1 m2 oS (fun bp' bm' T2 e' o2 => h bp' bm' T2 ?_ o2), fun q => absurd hle q⟩, fun hle => ⟨fun q => absurd q hle, fun _ => ih (i + 1) (i : Int) m T' (by omega) (by omega) (by omega) hmb.1 hmb.2 oS (fun bp' bm' T2 e' o2 => h bp' bm' T2 ?_ o2)⟩⟩
      · unfold mtF
        rw [← hm, if_pos hle]
        exact e'
      · unfold mtF
        rw [← hm, if_neg hle]
        exact e'
    rw [oS 89 i (by omega) (by omega), h89 i (by omega), iI_le (by omega) (by omega) (by omega) (by omega)]
    refine ⟨fun hab => step (B i) (by rw [if_pos hab]), fun hab => ⟨ii, fun v6 e6 => ?_⟩⟩
    rw [e6]
    exact step (A i) (by rw [if_neg hab])
