/-! relay: the class -/
def RlF (T0 T : St) : Prop := ∀ c k, c ≠ 21 → c ≠ 51 → c ≠ 53 → c ≠ 54 → c ≠ 56 → c ≠ 57 → c ≠ 58 → T c k = T0 c k
def Gi (n : Nat) (B K : Int) (z : Nat → Int) (s : MK) : Prop := (∀ j, j < n → (s.1 j = 100000000 ∨ (0 ≤ s.1 j ∧ s.1 j ≤ B)) ∧ (0 ≤ s.2 j ∧ s.2 j ≤ K) ∧ (z j = 0 ∨ z j = 1)) ∧ ∀ i j, i < n → j < n → z j ≠ 0 → z i = 0 → s.1 j ≤ s.1 i
theorem Gi_Tn {n i : Nat} {B K : Int} {z : Nat → Int} {s : MK} (hB : B ≤ 900000) (h : Gi n B K z s) (hx : NxR n s.1 z (i : Int)) : Tn n i (s.1 i) (B + 8640) (K + 1) (pu z i 1) s := by
  rcases hx with ⟨e, _⟩ | ⟨i', e, h1, h2, h3, h4, h5⟩
  · omega
  · have e : i = i' := by omega
    subst e
    have hi := h.1 i h1
    refine ⟨⟨h1, pu_at _ _ _, rfl, ?_, ?_, by omega⟩, fun j hj => ?_, fun j hj hz => ?_, fun j hj hz => ?_⟩
    · rcases hi.1 with q | q <;> omega
    · rcases hi.1 with q | q <;> omega
    · obtain ⟨g1, g2, g3⟩ := h.1 j hj
      refine ⟨by omega, by omega, ?_⟩
      by_cases q : j = i
      · rw [q, pu_at]; exact Or.inr rfl
      · rw [pu_ne _ _ q]; exact g3
    · by_cases q : j = i
      · rw [q]; exact Int.le_refl _
      · rw [pu_ne _ _ q] at hz
        exact h.2 i j h1 hj hz h2
    · by_cases q : j = i
      · rw [q, pu_at] at hz; omega
      · rw [pu_ne _ _ q] at hz
        exact h4 j hj hz
theorem Tn_Gi {n i : Nat} {μ B K : Int} {z : Nat → Int} {s : MK} (h : Tn n i μ B K z s) : Gi n B K z s := by
  obtain ⟨_, h6, h7, h8⟩ := h
  refine ⟨h6, fun a j ha hj hz hz2 => ?_⟩
  have := h7 j hj hz
  have := h8 a ha hz2
  omega
theorem s_carry_77 {v : Vw} {T0 : St} {n N at' : Nat} {turn μ B K : Int} {z : Nat → Int} {k45 : Int32 → St → Prop} {post : St → Prop} (hL : Lb v) (hA : Ag v (cv T0 11)) (hn : v 0 0 = (n : Int)) (hN : v 0 2 = (N : Int)) (hB : B ≤ 900000) (hK : K ≤ 100) : ∀ (d q : Nat) (T : St) (s : MK), q + d = N → RlF T0 T → Tn n at' μ B K z s → MtC n s z T → (∀ T' f, RlF T0 T' → PsR v at' n μ z d q s f → Tn n at' μ B K z f → MtC n f z T' → k45 (iI turn + 1) T') → L_X3_carry_77 k45 post (d + 1) (iI turn) (iI at') (iI q) T := by
  obtain ⟨b0, b0', b1, b1', b2, b2', _⟩ := id hL.1
  have e2 : ∀ T : St, RlF T0 T → T 11 2 = iI (N : Int) := fun T oT => by
    rw [oT _ _ (by omega) (by omega) (by omega) (by omega) (by omega) (by omega) (by omega), zz_S T0 11 2]
    congr 1
    exact (hA.1 2 (by omega)).trans hN
  intro d
  induction d with
  | zero =>
    intro q T s hq oT hI hM h
    show BD_X3_carry_77 k45 (L_X3_carry_77 k45 post 0) post _ _ _ _
    unfold BD_X3_carry_77
    rw [e2 T oT, iI_le (by omega) (by omega) (by omega) (by omega)]
    exact ⟨fun _ => h T s oT rfl hI hM, fun e => absurd (by omega) e⟩
  | succ d ih =>
    intro q T s hq oT hI hM h
    show BD_X3_carry_77 k45 (L_X3_carry_77 k45 post (d + 1)) post _ _ _ _
    unfold BD_X3_carry_77
    have eq1 : iI (q : Int) + 1 = iI ((q + 1 : Nat) : Int) := by rw [show (1 : Int32) = iI 1 from rfl, iI_add]; rfl
    have xq : ix (iI (q : Int)) = q := by rw [iI_ix (by omega) (by omega)]; simp
    have iq : vp_in (iI (q : Int)) 4 := (iI_in (by omega) (by omega)).mpr ⟨by omega, by omega⟩
    have hq2 : (q : Int) < v 0 2 := by omega
    obtain ⟨_, _, _, _, _, _, r7, r7', r8, r8', _⟩ := id (hL.2.2 q hq2)
    obtain ⟨_, _, _, w7, w8, _, _⟩ := hA.2.2 q hq2
    have w7 : zz T0 18 q = v 7 q := w7
    have w8 : zz T0 19 q = v 8 q := w8
    obtain ⟨⟨h0, h1, h2, h3, h4, h5⟩, h6, h7, h8⟩ := id hI
    have xa : ix (iI (at' : Int)) = at' := by rw [iI_ix (by omega) (by omega)]; simp
    have ia : vp_in (iI (at' : Int)) 6 := (iI_in (by omega) (by omega)).mpr ⟨by omega, by omega⟩
    rw [e2 T oT, iI_le (by omega) (by omega) (by omega) (by omega), eq1, xq, oT 18 q (by omega) (by omega) (by omega) (by omega) (by omega) (by omega) (by omega), zz_S T0 18 q, w7, iI_eq (by omega) (by omega) (by omega) (by omega)]
    refine ⟨fun e => absurd e (by omega), fun _ => ⟨iq, fun hne => ?_, fun heq => ?_⟩⟩
    · exact ih (q + 1) T s (by omega) oT hI hM (fun T' f oT' hP hI' hM' => h T' f oT' (Or.inl ⟨hne, hP⟩) hI' hM')
    · unfold wp_X3_takeOn
      have m56 : T 56 at' = iI μ := by
        rw [zz_S T 56 at', (hM at' h0).1, h2, show enN μ = μ from if_neg (by omega)]
      rw [xa, xq, m56]
      refine ⟨ia, iq, fun S1 e1 => ?_⟩
      have o1 : ∀ c k, ¬ (c = 21 ∧ k = q) → S1 c k = T c k := fun c k hh => by rw [e1, up_ne _ _ hh]
      have oS1 : ∀ c k, c ≠ 21 → c ≠ 51 → c ≠ 53 → c ≠ 54 → c ≠ 56 → c ≠ 57 → c ≠ 58 → S1 c k = T0 c k := fun c k a1 a2 a3 a4 a5 a6 a7 => by rw [o1 c k (by omega), oT c k a1 a2 a3 a4 a5 a6 a7]
      have eT : ∀ f k, f ≤ 9 → cv S1 11 f k = cv T0 11 f k := fun f k hf => by unfold cv zz; rw [oS1 _ _ (by omega) (by omega) (by omega) (by omega) (by omega) (by omega) (by omega)]
      have hS1 : Sv v (cv S1 11) := hA.sv.trans ⟨fun k _ => eT _ _ (by omega), fun r _ => ⟨eT _ _ (by omega), eT _ _ (by omega), eT _ _ (by omega)⟩, fun q _ => ⟨eT _ _ (by omega), eT _ _ (by omega), eT _ _ (by omega), eT _ _ (by omega)⟩⟩
      have hP1 : Pb (cv S1 11) q := Pb_congr (eT _ _ (by omega)) ⟨eT _ _ (by omega), eT _ _ (by omega), eT _ _ (by omega), eT _ _ (by omega), eT _ _ (by omega), eT _ _ (by omega)⟩ ((Ag_Lb hA hL).2.2 q (by rw [hA.1 2 (by omega)]; exact hq2))
      have z18 : zz S1 18 q = (at' : Int) := by
        rw [← heq, ← w7]; unfold zz; rw [oS1 _ _ (by omega) (by omega) (by omega) (by omega) (by omega) (by omega) (by omega)]
      have z19 : zz S1 19 q = v 8 q := by
        rw [← w8]; unfold zz; rw [oS1 _ _ (by omega) (by omega) (by omega) (by omega) (by omega) (by omega) (by omega)]
      have z21 : zz S1 21 q = μ := zz_iI (by rw [e1, up_at]) (by omega) (by omega)
      rw [show (-1 : Int32) = iI (-1) from by decide]
      refine s_X4_explore (v := v) (a0 := (at' : Int)) (c0 := v 8 q) (t0 := μ) hL hq2 hS1 hP1 z18 z19 z21 (by omega) ⟨r8, r8'⟩ (by omega) (by omega) ?_
      intro T3 Z m o3 hF hst
      obtain ⟨A, hA1, hA2⟩ := Fn_all hL hq2 (show 0 ≤ (at' : Int) ∧ (at' : Int) < v 0 0 by omega) ⟨r8, r8'⟩ (by omega) hF hst
      have hA3 : ∀ b, b < n → 0 ≤ A b ∧ A b ≤ 100000000 ∧ Soon v q (at' : Int) (v 8 q) μ (b : Int) (A b) := fun b hb => hA1 b (by omega)
      have hAb : Ab n at' μ A := Soon_Ab hL hq2 (by omega) ⟨r8, r8'⟩ (by omega) hA3
      have oT3 : RlF T0 T3 := fun c k a1 a2 a3 a4 a5 a6 a7 => by rw [o3 c k a2 a3 a4, oS1 c k a1 a2 a3 a4 a5 a6 a7]
      have e00 : T3 11 0 = iI (n : Int) := by
        rw [oT3 _ _ (by omega) (by omega) (by omega) (by omega) (by omega) (by omega) (by omega), zz_S T0 11 0]
        congr 1
        exact (hA.1 0 (by omega)).trans hn
      have hM3 : MtC n s z T3 := fun j hj => by
        obtain ⟨q1, q2, q3⟩ := hM j hj
        refine ⟨?_, ?_, ?_⟩
        · rw [← q1]; unfold zz; rw [o3 _ _ (by omega) (by omega) (by omega), o1 _ _ (by omega)]
        · rw [← q2]; unfold zz; rw [o3 _ _ (by omega) (by omega) (by omega), o1 _ _ (by omega)]
        · rw [← q3]; unfold zz; rw [o3 _ _ (by omega) (by omega) (by omega), o1 _ _ (by omega)]
      refine ⟨n + 1, ?_⟩
      rw [show (0 : Int32) = iI ((0 : Nat) : Int) from rfl]
      refine s_take_loop (S := T3) (by omega) hB hK hAb e00 (fun U po b hU hb hpo => hA2 U po b (fun j _ => by unfold zz; rw [hU _ _ (by omega) (by omega)]) (by omega) hpo) n 0 T3 s (by omega) (fun _ _ _ _ => rfl) hI hM3 ?_
      intro T4 o4 hM4
      refine ih (q + 1) T4 _ (by omega) (fun c k a1 a2 a3 a4 a5 a6 a7 => by rw [o4 c k a5 a6, oT3 c k a1 a2 a3 a4 a5 a6 a7]) (Tn_take hAb n 0 s (by omega) hI) hM4 ?_
      intro T' f oT' hP hI' hM'
      exact h T' f oT' (Or.inr ⟨heq, A, hA3, hP⟩) hI' hM'
theorem s_X3_nearest {n : Nat} {z : Nat → Int} {s : MK} {T : St} {post : Int32 → St → Prop} (hn : n ≤ 6) (h00 : T 11 0 = iI (n : Int)) (hb : ∀ j, j < n → (s.1 j = 100000000 ∨ (0 ≤ s.1 j ∧ s.1 j ≤ 900000)) ∧ (z j = 0 ∨ z j = 1)) (hM : MtC n s z T) (h : ∀ x, NxR n s.1 z x → post (iI x) T) : wp_X3_nearest T post := by
  have key : ∀ (d i : Nat) (b l : Int), i + d = n → NxR i s.1 z b → (b = -1 → l = 1000000000) → (∀ i' : Nat, b = (i' : Int) → l = s.1 i') → 0 ≤ l → l ≤ 1000000000 → L_X3_nearest_7 post (d + 1) (iI b) (iI l) (iI i) T := by
    intro d
    induction d with
    | zero =>
      intro i b l hi hN h1 h2 l1 l2
      show BD_X3_nearest_7 (L_X3_nearest_7 post 0) post _ _ _ _
      unfold BD_X3_nearest_7
      rw [h00, iI_le (by omega) (by omega) (by omega) (by omega)]
      refine ⟨fun _ => h b ?_, fun e => absurd (by omega) e⟩
      rw [show n = i from by omega]
      exact hN
    | succ d ih =>
      intro i b l hi hN h1 h2 l1 l2
      show BD_X3_nearest_7 (L_X3_nearest_7 post (d + 1)) post _ _ _ _
      unfold BD_X3_nearest_7
      have ei : iI (i : Int) + 1 = iI ((i + 1 : Nat) : Int) := by rw [show (1 : Int32) = iI 1 from rfl, iI_add]; rfl
      have xi : ix (iI (i : Int)) = i := by rw [iI_ix (by omega) (by omega)]; simp
      have ii : vp_in (iI (i : Int)) 6 := (iI_in (by omega) (by omega)).mpr ⟨by omega, by omega⟩
      obtain ⟨m1, m2, m3⟩ := hM i (by omega)
      obtain ⟨g1, g3⟩ := hb i (by omega)
      obtain ⟨en1, en2, en3⟩ := enN_b g1
      rw [h00, iI_le (by omega) (by omega) (by omega) (by omega), ei, xi, zz_S T 58 i, m3, zz_S T 56 i, m1, show (0 : Int32) = iI 0 from rfl, iI_eq (by omega) (by omega) (by omega) (by omega), iI_le (by omega) (by omega) (by omega) (by omega)]
      have keep : (z i = 0 → (b = -1 → s.1 i = 100000000) ∧ ∀ i' : Nat, b = (i' : Int) → s.1 i' ≤ s.1 i) → L_X3_nearest_7 post (d + 1) (iI b) (iI l) (iI ((i + 1 : Nat) : Int)) T := by
        intro hk
        refine ih (i + 1) b l (by omega) ?_ h1 h2 l1 l2
        rcases hN with ⟨e, q⟩ | ⟨i', e, q1, q2, q3, q4, q5⟩
        · refine Or.inl ⟨e, fun j hj hz => ?_⟩
          by_cases hji : j = i
          · rw [hji] at hz ⊢; exact (hk hz).1 e
          · exact q j (by omega) hz
        · refine Or.inr ⟨i', e, by omega, q2, q3, fun j hj hz => ?_, q5⟩
          by_cases hji : j = i
          · rw [hji] at hz ⊢; exact (hk hz).2 i' e
          · exact q4 j (by omega) hz
      refine ⟨fun e => absurd e (by omega), fun _ => ⟨ii, fun hz => keep (fun q => absurd q hz), fun hz => ⟨ii, fun hle => keep (fun _ => ⟨fun e => ?_, fun i' e => ?_⟩), fun hle => ⟨ii, fun v4 e4 => ?_⟩⟩⟩⟩
      · have := h1 e
        exact en2.mp (by omega)
      · have := h2 i' e
        by_cases hs : s.1 i = 100000000
        · rcases hN with ⟨e', q⟩ | ⟨i2, e', q1, q2, q3, q4, q5⟩
          · omega
          · have : i2 = i' := by omega
            subst this
            omega
        · rw [en3 hs] at hle; omega
      · have hs : s.1 i ≠ 100000000 := fun q => by
          have := en2.mpr q
          omega
        rw [e4]
        refine ih (i + 1) i (enN (s.1 i)) (by omega) (Or.inr ⟨i, rfl, by omega, hz, by omega, fun j hj hzj => ?_, fun j hj hzj => ?_⟩) (fun e => by omega) (fun i' e => ?_) en1.1 en1.2
        · by_cases hji : j = i
          · rw [hji]; exact Int.le_refl _
          · rcases hN with ⟨e, q⟩ | ⟨i', e, q1, q2, q3, q4, q5⟩
            · have := q j (by omega) hzj
              omega
            · have a := q4 j (by omega) hzj
              have b := h2 i' e
              rw [en3 hs] at hle
              omega
        · rcases hN with ⟨e, q⟩ | ⟨i', e, q1, q2, q3, q4, q5⟩
          · have := q j (by omega) hzj
            omega
          · have a := q4 j (by omega) hzj
            have b := h2 i' e
            rw [en3 hs] at hle
            omega
        · have : i' = i := by omega
          rw [this]
          exact en3 hs
  have := key n 0 (-1) 1000000000 (by omega) (Or.inl ⟨rfl, fun j hj => absurd hj (by omega)⟩) (fun _ => rfl) (fun i' e => by omega) (by omega) (by omega)
  exact ⟨n + 1, this⟩
theorem s_carry_45 {v : Vw} {T0 : St} {n N : Nat} {post : St → Prop} (hL : Lb v) (hA : Ag v (cv T0 11)) (hn : v 0 0 = (n : Int)) (hN : v 0 2 = (N : Int)) : ∀ (d t : Nat) (T : St) (s : MK) (z : Nat → Int), t + d = n → RlF T0 T → Gi n (8640 * (t : Int)) t z s → MtC n s z T → (∀ T' f, RlF T0 T' → RlR v n N d s z f → (∀ j, j < n → (f.1 j = 100000000 ∨ (0 ≤ f.1 j ∧ f.1 j ≤ 900000)) ∧ zz T' 56 j = enN (f.1 j) ∧ zz T' 57 j = f.2 j) → post T') → L_X3_carry_45 post (d + 1) (iI t) T := by
  obtain ⟨b0, b0', b1, b1', b2, b2', _⟩ := id hL.1
  have e0 : ∀ T : St, RlF T0 T → T 11 0 = iI (n : Int) := fun T oT => by
    rw [oT _ _ (by omega) (by omega) (by omega) (by omega) (by omega) (by omega) (by omega), zz_S T0 11 0]
    congr 1
    exact (hA.1 0 (by omega)).trans hn
  have fin : ∀ (t : Nat) (T : St) (s : MK) (z : Nat → Int), t ≤ 6 → Gi n (8640 * (t : Int)) t z s → MtC n s z T → (∀ j, j < n → (s.1 j = 100000000 ∨ (0 ≤ s.1 j ∧ s.1 j ≤ 900000)) ∧ zz T 56 j = enN (s.1 j) ∧ zz T 57 j = s.2 j) := by
    intro t T s z ht hG hM j hj
    obtain ⟨g1, g2, g3⟩ := hG.1 j hj
    exact ⟨by omega, (hM j hj).1, (hM j hj).2.1⟩
  intro d
  induction d with
  | zero =>
    intro t T s z ht oT hG hM h
    show BD_X3_carry_45 (L_X3_carry_45 post 0) post _ _
    unfold BD_X3_carry_45
    rw [e0 T oT, iI_le (by omega) (by omega) (by omega) (by omega)]
    exact ⟨fun _ => h T s oT rfl (fin t T s z (by omega) hG hM), fun e => absurd (by omega) e⟩
  | succ d ih =>
    intro t T s z ht oT hG hM h
    show BD_X3_carry_45 (L_X3_carry_45 post (d + 1)) post _ _
    unfold BD_X3_carry_45
    have en : iI (t : Int) + 1 = iI ((t + 1 : Nat) : Int) := by rw [show (1 : Int32) = iI 1 from rfl, iI_add]; rfl
    rw [e0 T oT, iI_le (by omega) (by omega) (by omega) (by omega)]
    refine ⟨fun e => absurd e (by omega), fun _ => ?_⟩
    refine s_X3_nearest (s := s) (z := z) (by omega) (e0 T oT) (fun j hj => by obtain ⟨g1, g2, g3⟩ := hG.1 j hj; exact ⟨by omega, g3⟩) hM ?_
    intro x hx
    rcases (show x = -1 ∨ ∃ i : Nat, x = (i : Int) ∧ i < n by
      rcases hx with ⟨e, _⟩ | ⟨i, e, q, _⟩
      · exact Or.inl e
      · exact Or.inr ⟨i, e, q⟩) with e | ⟨i, e, hi⟩
    · rw [e] at hx ⊢
      exact ⟨fun q => absurd (by decide) q, fun _ => h T s oT (Or.inl ⟨hx, rfl⟩) (fin t T s z (by omega) hG hM)⟩
    · rw [e] at hx ⊢
      have xi : ix (iI (i : Int)) = i := by rw [iI_ix (by omega) (by omega)]; simp
      have ii : vp_in (iI (i : Int)) 6 := (iI_in (by omega) (by omega)).mpr ⟨by omega, by omega⟩
      rw [show (-1 : Int32) = iI (-1) from by decide, iI_eq (by omega) (by omega) (by omega) (by omega), xi]
      refine ⟨fun _ => ⟨ii, fun S5 e5 => ⟨N + 1, ?_⟩⟩, fun q => absurd q (by omega)⟩
      have hT := Gi_Tn (by omega) hG hx
      rw [show (0 : Int32) = iI ((0 : Nat) : Int) from rfl]
      refine s_carry_77 hL hA hn hN (by omega) (by omega) N 0 S5 s (by omega) (fun c k a1 a2 a3 a4 a5 a6 a7 => by rw [e5, up_ne _ _ (by omega), oT c k a1 a2 a3 a4 a5 a6 a7]) hT (fun j hj => ?_) ?_
      · obtain ⟨q1, q2, q3⟩ := hM j hj
        refine ⟨?_, ?_, ?_⟩
        · rw [← q1]; unfold zz; rw [e5, up_ne _ _ (by omega)]
        · rw [← q2]; unfold zz; rw [e5, up_ne _ _ (by omega)]
        · by_cases hji : j = i
          · rw [hji, pu_at]; unfold zz; rw [e5, up_at]; decide
          · rw [pu_ne _ _ hji, ← q3]; unfold zz; rw [e5, up_ne _ _ (by omega)]
      · intro T' f oT' hP hI' hM'
        rw [en]
        have hG' := Tn_Gi hI'
        rw [show 8640 * (t : Int) + 8640 = 8640 * ((t + 1 : Nat) : Int) from by omega, show (t : Int) + 1 = ((t + 1 : Nat) : Int) from by omega] at hG'
        refine ih (t + 1) T' f _ (by omega) oT' hG' hM' ?_
        intro T2 f2 oT2 hR hf
        exact h T2 f2 oT2 (Or.inr ⟨i, f, hx, hP, hR⟩) hf
def rl0 (from' : Nat) : MK := (fun j => if j = from' then 0 else 100000000, fun _ => 0)
theorem s_X3_carry {v : Vw} {T0 : St} {n N from' : Nat} {post : St → Prop} (hL : Lb v) (hA : Ag v (cv T0 11)) (hn : v 0 0 = (n : Int)) (hN : v 0 2 = (N : Int)) (hf : from' < n) (h : ∀ T' f, RlF T0 T' → RlR v n N n (rl0 from') (fun _ => 0) f → (∀ j, j < n → (f.1 j = 100000000 ∨ (0 ≤ f.1 j ∧ f.1 j ≤ 900000)) ∧ zz T' 56 j = enN (f.1 j) ∧ zz T' 57 j = f.2 j) → post T') : wp_X3_carry (iI from') T0 post := by
  obtain ⟨b0, b0', b1, b1', b2, b2', _⟩ := id hL.1
  have xf : ix (iI (from' : Int)) = from' := by rw [iI_ix (by omega) (by omega)]; simp
  have fi : vp_in (iI (from' : Int)) 6 := (iI_in (by omega) (by omega)).mpr ⟨by omega, by omega⟩
  have key : ∀ (d i : Nat) (T : St), i + d = 6 → RlF T0 T → (∀ j, j < i → T 56 j = 1000000000 ∧ T 57 j = 0 ∧ T 58 j = 0) → L_X3_carry_2 post (d + 1) (iI from') (iI i) T := by
    intro d
    induction d with
    | zero =>
      intro i T hi oT hj
      show BD_X3_carry_2 (L_X3_carry_2 post 0) post _ _ _
      unfold BD_X3_carry_2
      have h6 : (6 : Int32) ≤ iI (i : Int) ↔ (6 : Int) ≤ i := by
        rw [show (6 : Int32) = iI 6 from rfl]
        exact iI_le (by omega) (by omega) (by omega) (by omega)
      rw [h6]
      refine ⟨fun _ => ?_, fun e => absurd (by omega) e⟩
      unfold B_X3_carry_36
      rw [xf]
      refine ⟨fi, fun S1 e1 => ⟨n + 1, ?_⟩⟩
      have o1 : ∀ c k, ¬ (c = 56 ∧ k = from') → S1 c k = T c k := fun c k hh => by rw [e1, up_ne _ _ hh]
      rw [show (0 : Int32) = iI ((0 : Nat) : Int) from rfl]
      refine s_carry_45 hL hA hn hN n 0 S1 (rl0 from') (fun _ => 0) (by omega) (fun c k a1 a2 a3 a4 a5 a6 a7 => by rw [o1 c k (by omega), oT c k a1 a2 a3 a4 a5 a6 a7]) ⟨fun j _ => ?_, fun i j _ _ q => absurd rfl q⟩ (fun j hj2 => ?_) h
      · refine ⟨?_, by show (0 : Int) ≤ 0 ∧ (0 : Int) ≤ ((0 : Nat) : Int); omega, Or.inl rfl⟩
        show (if j = from' then (0 : Int) else 100000000) = 100000000 ∨ (0 ≤ (if j = from' then (0 : Int) else 100000000) ∧ (if j = from' then (0 : Int) else 100000000) ≤ 8640 * ((0 : Nat) : Int))
        split <;> omega
      · obtain ⟨q1, q2, q3⟩ := hj j (by omega)
        refine ⟨?_, ?_, ?_⟩
        · show zz S1 56 j = enN (if j = from' then 0 else 100000000)
          by_cases hjf : j = from'
          · rw [if_pos hjf, hjf, show enN 0 = 0 from if_neg (by omega)]
            unfold zz; rw [e1, up_at]; decide
          · rw [if_neg hjf, show enN 100000000 = 1000000000 from if_pos rfl]
            unfold zz; rw [o1 _ _ (by omega), q1]; decide
        · show zz S1 57 j = 0
          unfold zz; rw [o1 _ _ (by omega), q2]; decide
        · show zz S1 58 j = 0
          unfold zz; rw [o1 _ _ (by omega), q3]; decide
    | succ d ih =>
      intro i T hi oT hj
      show BD_X3_carry_2 (L_X3_carry_2 post (d + 1)) post _ _ _
      unfold BD_X3_carry_2
      have xn : ix (iI (i : Int)) = i := by rw [iI_ix (by omega) (by omega)]; simp
      have ni : vp_in (iI (i : Int)) 6 := (iI_in (by omega) (by omega)).mpr ⟨by omega, by omega⟩
      have en : iI (i : Int) + 1 = iI ((i + 1 : Nat) : Int) := by rw [show (1 : Int32) = iI 1 from rfl, iI_add]; rfl
      have h6 : (6 : Int32) ≤ iI (i : Int) ↔ (6 : Int) ≤ i := by
        rw [show (6 : Int32) = iI 6 from rfl]
        exact iI_le (by omega) (by omega) (by omega) (by omega)
      rw [h6, xn, en]
      refine ⟨fun q => absurd q (by omega), fun _ => ⟨ni, fun S2 e2 => ⟨ni, fun S4 e4 => ⟨ni, fun S6 e6 => ?_⟩⟩⟩⟩
      refine ih (i + 1) S6 (by omega) (fun c k a1 a2 a3 a4 a5 a6 a7 => by rw [e6, up_ne _ _ (by omega), e4, up_ne _ _ (by omega), e2, up_ne _ _ (by omega), oT c k a1 a2 a3 a4 a5 a6 a7]) (fun j hj2 => ?_)
      by_cases hji : j = i
      · subst hji
        refine ⟨?_, ?_, ?_⟩
        · rw [e6, up_ne _ _ (by omega), e4, up_ne _ _ (by omega), e2, up_at]
        · rw [e6, up_ne _ _ (by omega), e4, up_at]
        · rw [e6, up_at]
      · obtain ⟨q1, q2, q3⟩ := hj j (by omega)
        refine ⟨?_, ?_, ?_⟩
        · rw [e6, up_ne _ _ (by omega), e4, up_ne _ _ (by omega), e2, up_ne _ _ (by omega), q1]
        · rw [e6, up_ne _ _ (by omega), e4, up_ne _ _ (by omega), e2, up_ne _ _ (by omega), q2]
        · rw [e6, up_ne _ _ (by omega), e4, up_ne _ _ (by omega), e2, up_ne _ _ (by omega), q3]
  have := key 6 0 T0 (by omega) (fun _ _ _ _ _ _ _ _ _ => rfl) (fun j hj => absurd hj (by omega))
  exact ⟨6 + 1, this⟩
