/-! the class's layer: the loop -/
theorem Kd_none {M : Nat} {v : Vw} {p : Nat} {ly : Nat → Int → Nat} {l0 : Nat} {a0 c0 t0 : Int} {l : Nat} {g B : Int} {T : St} {Z : Nat → Prop} (hL : Lb v) (hl : l < M) (h : Kd M v p ly l0 a0 c0 t0 l g B T Z) (hx : ∀ j, j < 36 → ((j / 6 : Nat) : Int) < v 0 0 → zz T 53 j = 0 → zz T 51 (36 * l + j) = 1000000000) : Fn M v p ly l0 a0 c0 t0 l g B 1000000000 T Z := by
  obtain ⟨d1, d2, d3, d4, d5, d6⟩ := h
  obtain ⟨b0, b0', _⟩ := id hL.1
  have hcl := cn_le (zz T 53) 36
  refine ⟨fun j hj => ?_, fun i hi => ?_, fun a C ha hC => ?_, by omega, Or.inl rfl⟩
  · rcases d2 j hj with w | ⟨w1, w2, w3, w4⟩
    · exact Or.inl w
    · exact Or.inr ⟨w1, w2, by omega, w4⟩
  · obtain ⟨w1, w2, w3⟩ := d5 i hi
    exact ⟨w1, (d4 i w1 w2).1, w3⟩
  · have hj : 6 * a + C < 36 := by omega
    rcases d1 _ hj with g' | g'
    · exact Or.inr (by rw [hx _ hj (by omega) g']; exact Int.le_refl _)
    · obtain ⟨_, _, C', w2, w3, w4, w5⟩ := d4 _ hj g'
      rw [show (6 * a + C) / 6 = a from by omega] at w4 w5
      exact Or.inl ⟨C', w4, by omega, w3, w5⟩
theorem Kd_goal {M : Nat} {v : Vw} {p : Nat} {ly : Nat → Int → Nat} {l0 : Nat} {a0 c0 t0 : Int} {l i : Nat} {g B : Int} {T T' : St} {Z : Nat → Prop} (hL : Lb v) (hl : l < M) (h : Kd M v p ly l0 a0 c0 t0 l g B T Z) (hi : i < 36) (hlt : zz T 51 (36 * l + i) < 1000000000) (hg : ((i / 6 : Nat) : Int) = g) (hm : ∀ j, j < 36 → ((j / 6 : Nat) : Int) < v 0 0 → zz T 53 j = 0 → zz T 51 (36 * l + i) ≤ zz T 51 (36 * l + j)) (hT : ∀ j, zz T' 51 j = zz T 51 j) : Fn M v p ly l0 a0 c0 t0 l g B (zz T 51 (36 * l + i)) T' Z := by
  obtain ⟨d1, d2, d3, d4, d5, d6⟩ := h
  obtain ⟨b0, b0', _⟩ := id hL.1
  have hcl := cn_le (zz T 53) 36
  refine ⟨fun j hj => ?_, fun k hk => ?_, fun a C ha hC => ?_, by omega, Or.inr ⟨i / 6, i % 6, hg, by omega, ?_⟩⟩
  · rw [hT]
    rcases d2 j hj with w | ⟨w1, w2, w3, w4⟩
    · exact Or.inl w
    · exact Or.inr ⟨w1, w2, by omega, w4⟩
  · obtain ⟨w1, w2, w3⟩ := d5 k hk
    refine ⟨w1, (d4 k w1 w2).1, ?_⟩
    intro l' a' c' t' he
    rw [hT] at he
    obtain ⟨C', y1, y2, y3⟩ := w3 l' a' c' t' he
    exact ⟨C', y1, y2, by rw [hT]; exact y3⟩
  · have hj : 6 * a + C < 36 := by omega
    rw [hT]
    rcases d1 _ hj with g' | g'
    · exact Or.inr (hm _ hj (by omega) g')
    · obtain ⟨_, _, C', w2, w3, w4, w5⟩ := d4 _ hj g'
      rw [show (6 * a + C) / 6 = a from by omega] at w4 w5
      exact Or.inl ⟨C', w4, by omega, w3, by rw [hT]; exact w5⟩
  · rw [hT, show 6 * (i / 6) + i % 6 = i from by omega]
/-- what a layer's settling rests on -/
def Rs (M : Nat) (v : Vw) (p : Nat) (ly : Nat → Int → Nat) (hs : Int32) (l : Nat) (S : St) : Prop := Lb v ∧ (p : Int) < v 0 2 ∧ M ≤ 64 ∧ l < M ∧ Sv v (cv S 11) ∧ Pb (cv S 11) p ∧ ∀ b : Nat, b < 6 → (iI (l : Int)) ||| (hs &&& ((1 : Int32) <<< ((iI (b : Int)) &&& 31))) = iI (ly l b : Int) ∧ ly l b < M ∧ l ≤ ly l b
/-- from S on only labels, marks and calmest have changed; of the layers before l nothing -/
def Frl (l : Nat) (S T : St) : Prop := (∀ c k, c ≠ 51 → c ≠ 53 → c ≠ 54 → T c k = S c k) ∧ ∀ j, j < 2304 → zz T 51 j ≤ zz S 51 j ∧ (j / 36 < l → zz T 51 j = zz S 51 j)
theorem s_X4_settle_loop {M : Nat} {v : Vw} {p : Nat} {ly : Nat → Int → Nat} {hs : Int32} {l0 : Nat} {a0 c0 t0 : Int} {l : Nat} {g B : Int} {S : St} {post : St → Prop} (hr : Rs M v p ly hs l S) (hg : -1 ≤ g ∧ g < 6) (hB : 0 ≤ B ∧ B ≤ 900000) (h : ∀ T Z m, Frl l S T → Fn M v p ly l0 a0 c0 t0 l g B m T Z → post T) : ∀ (d n : Nat) (T : St) (Z : Nat → Prop), n + d = 36 → cn (zz T 53) 36 = n → Frl l S T → Kd M v p ly l0 a0 c0 t0 l g B T Z → L_X4_settleLayer_51 post (d + 1) (iI p) hs (iI l) (iI g) (iI n) T := by
  obtain ⟨hL, hp, hM, hl, hS, hP, hly⟩ := id hr
  obtain ⟨b0, b0', b1, b1', b2, b2', _⟩ := id hL.1
  intro d
  induction d with
  | zero =>
    intro n T Z hn hcn hF hK
    show BD_X4_settleLayer_51 (L_X4_settleLayer_51 post 0) post _ _ _ _ _ _
    unfold BD_X4_settleLayer_51
    rw [show (36 : Int32) = iI 36 from rfl, iI_le (by omega) (by omega) (by omega) (by omega)]
    refine ⟨fun _ => h T Z 1000000000 hF (Kd_none hL hl hK (fun j hj _ hz => ?_)), fun e => absurd (by omega) e⟩
    have := cn_lt 36 j hj hz
    omega
  | succ d ih =>
    intro n T Z hn hcn hF hK
    show BD_X4_settleLayer_51 (L_X4_settleLayer_51 post (d + 1)) post _ _ _ _ _ _
    unfold BD_X4_settleLayer_51
    have en : iI (n : Int) + 1 = iI ((n + 1 : Nat) : Int) := by rw [show (1 : Int32) = iI 1 from rfl, iI_add]; rfl
    have e36 : (36 : Int32) = iI 36 := rfl
    have hlt36 : iI (36 : Int) ≤ iI (n : Int) ↔ (36 : Int) ≤ n := iI_le (by omega) (by omega) (by omega) (by omega)
    have cvT : ∀ f k, f ≤ 10 → cv T 11 f k = cv S 11 f k := fun f k hf => by unfold cv zz; rw [hF.1 _ _ (by omega) (by omega) (by omega)]
    have hST : Sv v (cv T 11) := hS.trans ⟨fun k _ => cvT _ _ (by omega), fun r _ => ⟨cvT _ _ (by omega), cvT _ _ (by omega), cvT _ _ (by omega)⟩, fun q _ => ⟨cvT _ _ (by omega), cvT _ _ (by omega), cvT _ _ (by omega), cvT _ _ (by omega)⟩⟩
    have hPT : Pb (cv T 11) p := Pb_congr (v := cv S 11) (cvT _ _ (by omega)) ⟨cvT _ _ (by omega), cvT _ _ (by omega), cvT _ _ (by omega), cvT _ _ (by omega), cvT _ _ (by omega), cvT _ _ (by omega)⟩ hP
    have z110 : zz T 11 0 = v 0 0 := hST.1 0 (by omega)
    obtain ⟨n0, hn0⟩ : ∃ n0 : Nat, v 0 0 = (n0 : Int) := ⟨(v 0 0).toNat, by omega⟩
    have hcl := cn_le (zz T 53) 36
    have lab9 : ∀ j, j < 36 → zz T 51 (36 * l + j) ≤ 1000000000 := fun j hj => by
      rcases hK.2.1 (36 * l + j) (by omega) with w | ⟨_, _, w3, _⟩ <;> omega
    rw [show ((36 : Int32) ≤ iI (n : Int)) = (iI (36 : Int) ≤ iI (n : Int)) from rfl, hlt36, en]
    refine ⟨fun q => absurd q (by omega), fun _ => ?_⟩
    refine s_X4_nearest (n6 := 6 * n0) (by omega) (by omega) (by rw [z110, hn0]; omega) hK.1 lab9 (fun hx => ?_) (fun i hi hz hlt hm => ?_)
    · exact ⟨fun e => absurd rfl e, fun _ => h T Z 1000000000 hF (Kd_none hL hl hK (fun j hj hjv hz => hx j (by omega) hz))⟩
    · have hi36 : i < 36 := by omega
      have xi : ix (iI (i : Int)) = i := by rw [iI_ix (by omega) (by omega)]; simp
      have ii : vp_in (iI (i : Int)) 36 := (iI_in (by omega) (by omega)).mpr ⟨by omega, by omega⟩
      have hiv : ((i / 6 : Nat) : Int) < v 0 0 := by omega
      have hm' : ∀ j, j < 36 → ((j / 6 : Nat) : Int) < v 0 0 → zz T 53 j = 0 → zz T 51 (36 * l + i) ≤ zz T 51 (36 * l + j) := fun j hj hjv hz => hm j (by omega) hz
      have hnm1 : ¬ iI (i : Int) = -1 := by
        rw [show (-1 : Int32) = iI (-1) from by decide, iI_eq (by omega) (by omega) (by omega) (by omega)]
        omega
      rw [xi]
      refine ⟨fun _ => ⟨ii, ?_⟩, fun e => absurd e hnm1⟩
      intro S5 e5 v7 e7 v8 e8
      rw [show (6 : Int32) = iI 6 from rfl, iI_div (by omega) (by omega) (by omega) (by omega), show (i : Int) / 6 = ((i / 6 : Nat) : Int) from by omega] at e7
      rw [show (6 : Int32) = iI 6 from rfl, iI_div (by omega) (by omega) (by omega) (by omega), iI_mul, iI_sub, show (i : Int) - (i : Int) / 6 * 6 = ((i % 6 : Nat) : Int) from by omega] at e8
      subst e7
      subst e8
      have o5 : ∀ c k, ¬ (c = 53 ∧ k = i) → S5 c k = T c k := fun c k hh => by rw [e5, up_ne _ _ hh]
      have z5 : ∀ c k, ¬ (c = 53 ∧ k = i) → zz S5 c k = zz T c k := fun c k hh => by unfold zz; rw [o5 c k hh]
      have f1 : zz S5 53 i = 1 := by unfold zz; rw [e5, up_at]; decide
      have F5 : Frl l S S5 := ⟨fun c k h1 h2 h3 => by rw [o5 c k (by omega), hF.1 c k h1 h2 h3], fun j hj => by rw [z5 _ _ (by omega)]; exact hF.2 j hj⟩
      have x7 : ix (iI ((i / 6 : Nat) : Int)) = i / 6 := by rw [iI_ix (by omega) (by omega)]; omega
      have i7 : vp_in (iI ((i / 6 : Nat) : Int)) 6 := (iI_in (by omega) (by omega)).mpr ⟨by omega, by omega⟩
      rw [iI_eq (by omega) (by omega) (by omega) (by omega), x7]
      refine ⟨fun hne => ⟨i7, ?_⟩, fun heq => h S5 Z _ F5 (Kd_goal hL hl hK hi36 hlt heq hm' (fun j => z5 _ _ (by omega)))⟩
      obtain ⟨d1, d2, d3, d4, d5, d6⟩ := id hK
      have h54 : zz T 54 (i / 6) = -1 ∨ ∃ C : Nat, C ≤ 5 ∧ zz T 54 (i / 6) = (C : Int) ∧ Z (6 * (i / 6) + C) := d3 (i / 6) (by omega)
      have ec : S5 54 (i / 6) < iI ((i % 6 : Nat) : Int) ↔ zz T 54 (i / 6) < ((i % 6 : Nat) : Int) := by
        rw [o5 _ _ (by omega), zz_S T 54 (i / 6)]
        rcases h54 with e | ⟨C, e1, e2, _⟩ <;> exact iI_lt (by omega) (by omega) (by omega) (by omega)
      rw [ec]
      constructor
      · intro hclm
        refine ⟨i7, fun S11 e11 => ?_⟩
        have o11 : ∀ c k, ¬ (c = 53 ∧ k = i) → ¬ (c = 54 ∧ k = i / 6) → S11 c k = T c k := fun c k h1 h2 => by rw [e11, up_ne _ _ h2, o5 c k h1]
        have z11 : ∀ c k, ¬ (c = 53 ∧ k = i) → ¬ (c = 54 ∧ k = i / 6) → zz S11 c k = zz T c k := fun c k h1 h2 => by unfold zz; rw [o11 c k h1 h2]
        have cv11 : ∀ f k, f ≤ 10 → cv S11 11 f k = cv T 11 f k := fun f k hf => by unfold cv; exact z11 _ _ (by omega) (by omega)
        have iok := d2 (36 * l + i) (by omega)
        have iok : 0 ≤ zz T 51 (36 * l + i) ∧ zz T 51 (36 * l + i) ≤ B + 240 * (cn (zz T 53) 36 : Int) := by
          rcases iok with g' | ⟨_, g2, g3, _⟩
          · omega
          · exact ⟨g2, g3⟩
        have hq : Rq v p ly hs l i (zz T 51 (36 * l + i)) S11 := ⟨hL, hp, hi36, hiv, by omega, hST.trans ⟨fun k _ => cv11 _ _ (by omega), fun r _ => ⟨cv11 _ _ (by omega), cv11 _ _ (by omega), cv11 _ _ (by omega)⟩, fun q _ => ⟨cv11 _ _ (by omega), cv11 _ _ (by omega), cv11 _ _ (by omega), cv11 _ _ (by omega)⟩⟩, Pb_congr (v := cv T 11) (cv11 _ _ (by omega)) ⟨cv11 _ _ (by omega), cv11 _ _ (by omega), cv11 _ _ (by omega), cv11 _ _ (by omega), cv11 _ _ (by omega), cv11 _ _ (by omega)⟩ hPT, iok.1, by omega, fun b hb => ⟨(hly b hb).1, by have := (hly b hb).2.1; omega⟩⟩
        refine s_X4_spread hq (z11 _ _ (by omega) (by omega)) ?_
        intro T' hR hE
        have hlab : ∀ j, j < 2304 → zz T' 51 j ≤ zz T 51 j ∧ (zz T' 51 j = zz T 51 j ∨ Ec v p ly l i (zz T 51 (36 * l + i)) j (zz T' 51 j)) := fun j hj => by
          have := hR.2 j hj
          rw [z11 51 j (by omega) (by omega)] at this
          exact this
        have zT' : ∀ c k, c ≠ 51 → zz T' c k = zz S11 c k := fun c k hc => by unfold zz; rw [hR.1 c k hc]
        have f1' : zz T' 53 i = 1 := by rw [zT' _ _ (by omega)]; unfold zz; rw [e11, up_ne _ _ (by omega)]; exact f1
        have f2' : ∀ j, j ≠ i → zz T' 53 j = zz T 53 j := fun j hj => by rw [zT' _ _ (by omega), z11 _ _ (by omega) (by omega)]
        have stayi : zz T' 51 (36 * l + i) = zz T 51 (36 * l + i) := by
          obtain ⟨g1, g2⟩ := hlab (36 * l + i) (by omega)
          rcases g2 with g' | g'
          · exact g'
          · have := Eg_pos hL hp g'
            omega
        have hW : Wk v p ly l i T' := by
          intro l' a' c' t' he
          rw [stayi] at he
          exact hE l' a' c' t' he
        have e6 : 6 * (i / 6) + i % 6 = i := by omega
        obtain ⟨hK', hcn'⟩ := Kd_order hL hp hM hl hK hi36 hiv hz hlt hne hm' f1' f2' hlab (fun b hb => (hly b hb).2.1) (fun k => Z k ∨ k = i) (fun k hk => Or.inl hk) (fun k hk => hk.elim Or.inl (fun e => Or.inr ⟨e, hW⟩)) ⟨i % 6, by omega, by omega, Or.inr e6, by rw [e6]; exact Int.le_refl _⟩ (fun a ha => by
          by_cases hai : a = i / 6
          · refine Or.inr ⟨i % 6, by omega, ?_, Or.inr (by rw [hai]; exact e6)⟩
            rw [zT' _ _ (by omega), hai]
            exact zz_iI (by rw [e11, up_at]) (by omega) (by omega)
          · rw [zT' _ _ (by omega), z11 _ _ (by omega) (by omega)]
            rcases d3 a ha with w | ⟨C, w1, w2, w3⟩
            · exact Or.inl w
            · exact Or.inr ⟨C, w1, w2, Or.inl w3⟩)
        refine ih (n + 1) T' _ (by omega) (by omega) ⟨fun c k h1 h2 h3 => by rw [hR.1 c k h1, o11 c k (by omega) (by omega), hF.1 c k h1 h2 h3], fun j hj => ?_⟩ hK'
        obtain ⟨w1, w2⟩ := hF.2 j hj
        obtain ⟨y1, y2⟩ := hlab j hj
        refine ⟨by omega, fun hjl => ?_⟩
        rcases y2 with y2 | y2
        · rw [y2]; exact w2 hjl
        · exfalso
          have hin := Eg_in hL ⟨by omega, hiv⟩ ⟨by omega, by omega⟩ y2
          rcases y2 with ⟨_, _, e, _⟩ | ⟨_, _, _, _, _, _, _, e, _⟩
          · omega
          · have := (hly (j % 36 / 6) (by omega)).2.2
            omega
      · intro hclm
        rcases h54 with e | ⟨C, e1, e2, e3⟩
        · omega
        have hc5 := d5 _ e3
        obtain ⟨hK', hcn'⟩ := Kd_order (T' := S5) hL hp hM hl hK hi36 hiv hz hlt hne hm' f1 (fun j hj => z5 _ _ (by omega)) (fun j hj => by rw [z5 _ _ (by omega)]; exact ⟨Int.le_refl _, Or.inl rfl⟩) (fun b hb => (hly b hb).2.1) Z (fun k hk => hk) (fun k hk => Or.inl hk) ⟨C, by omega, e1, e3, by rw [z5 _ _ (by omega), z5 _ _ (by omega)]; exact d6 _ i hc5.1 hi36 hc5.2.1 hz⟩ (fun a ha => by rw [z5 _ _ (by omega)]; exact d3 a ha)
        exact ih (n + 1) S5 Z (by omega) (by omega) F5 hK'
