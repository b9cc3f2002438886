/-! relay: the reference -/
def RmF (T0 T : St) : Prop := ∀ c k, c ≠ 81 → c ≠ 82 → c ≠ 86 → c ≠ 87 → c ≠ 88 → T c k = T0 c k
def MtM (n : Nat) (s : MK) (z : Nat → Int) (T : St) : Prop := ∀ j, j < n → zz T 86 j = s.1 j ∧ zz T 87 j = s.2 j ∧ zz T 88 j = z j
theorem mz_Rm {S T : St} (h : RmF S T) : mz T 76 = mz S 76 := by
  have z : ∀ c k, c ≠ 81 → c ≠ 82 → c ≠ 86 → c ≠ 87 → c ≠ 88 → zz T c k = zz S c k := fun c k h1 h2 h3 h4 h5 => by unfold zz; rw [h c k h1 h2 h3 h4 h5]
  funext f k
  unfold mz
  split
  · split <;> exact z _ _ (by omega) (by omega) (by omega) (by omega) (by omega)
  all_goals exact z _ _ (by omega) (by omega) (by omega) (by omega) (by omega)
theorem s_carries_loop {v : Vw} {q n at' : Nat} {c μ B K : Int} {z A : Nat → Int} {S : St} {post : St → Prop} (hL : Lb v) (hq : (q : Int) < v 0 2) (hn : v 0 0 = (n : Int)) (hat : at' < n) (hc : 0 ≤ c ∧ c ≤ 5) (hμ : 0 ≤ μ ∧ μ ≤ 900000) (hB : B ≤ 900000) (hK : K ≤ 100) (hA3 : ∀ b, b < n → 0 ≤ A b ∧ A b ≤ 100000000 ∧ Soon v q (at' : Int) c μ (b : Int) (A b)) (h10 : S 71 10 = iI (n : Int)) (hSp : Sp v q (at' : Int) c μ (zz S 81)) : ∀ (d i : Nat) (T : St) (s : MK), i + d = n → (∀ c k, c ≠ 86 → c ≠ 87 → T c k = S c k) → Tn n at' μ B K z s → MtM n s z T → (∀ T', (∀ c k, c ≠ 86 → c ≠ 87 → T' c k = S c k) → MtM n (takeF A at' z d i s) z T' → post T') → L_X8_carries_24 post (d + 1) (iI at') (iI i) T := by
  obtain ⟨b0, b0', b1, b1', b2, b2', _⟩ := id hL.1
  have hA : Ab n at' μ A := Soon_Ab hL hq (by omega) hc hμ hA3
  intro d
  induction d with
  | zero =>
    intro i T s hi oT hI hM h
    show BD_X8_carries_24 (L_X8_carries_24 post 0) post _ _ _
    unfold BD_X8_carries_24
    rw [oT 71 10 (by omega) (by omega), h10, iI_le (by omega) (by omega) (by omega) (by omega)]
    exact ⟨fun _ => h T oT hM, fun e => absurd (by omega) e⟩
  | succ d ih =>
    intro i T s hi oT hI hM h
    show BD_X8_carries_24 (L_X8_carries_24 post (d + 1)) post _ _ _
    unfold BD_X8_carries_24
    have ei : iI (i : Int) + 1 = iI ((i + 1 : Nat) : Int) := by rw [show (1 : Int32) = iI 1 from rfl, iI_add]; rfl
    have xi : ix (iI (i : Int)) = i := by rw [iI_ix (by omega) (by omega)]; simp
    have ii : vp_in (iI (i : Int)) 6 := (iI_in (by omega) (by omega)).mpr ⟨by omega, by omega⟩
    obtain ⟨⟨h0, h1, h2, h3, h4, h5⟩, h6, h7, h8⟩ := id hI
    have xa : ix (iI (at' : Int)) = at' := by rw [iI_ix (by omega) (by omega)]; simp
    have ia : vp_in (iI (at' : Int)) 6 := (iI_in (by omega) (by omega)).mpr ⟨by omega, by omega⟩
    obtain ⟨m1, m2, m3⟩ := hM i (by omega)
    obtain ⟨g1, g2, g3⟩ := h6 i (by omega)
    have ga := (h6 at' h0).2.1
    have ma := (hM at' h0).2.1
    obtain ⟨ha1, ha2, ha3⟩ := hA i (by omega)
    obtain ⟨a1, a2, a3⟩ := hA3 i (by omega)
    have hSpT : Sp v q (at' : Int) c μ (zz T 81) := by
      have : zz T 81 = zz S 81 := by funext k; unfold zz; rw [oT _ _ (by omega) (by omega)]
      rw [this]; exact hSp
    rw [oT 71 10 (by omega) (by omega), h10, iI_le (by omega) (by omega) (by omega) (by omega), ei, xi]
    refine ⟨fun e => absurd e (by omega), fun _ => ?_⟩
    refine s_X8_soonestAt hL hq (show 0 ≤ (at' : Int) ∧ (at' : Int) < v 0 0 by omega) hc hμ (by omega) hSpT ?_
    intro x x1 x2 hx
    rw [← Soon_uniq a3 hx]
    refine ⟨ii, ?_⟩
    have skip : ¬ (z i = 0 ∧ A i ≠ 100000000 ∧ (A i < s.1 i ∨ (A i = s.1 i ∧ s.2 at' + 1 < s.2 i))) → L_X8_carries_24 post (d + 1) (iI at') (iI ((i + 1 : Nat) : Int)) T := by
      intro hcn
      refine ih (i + 1) T s (by omega) oT hI hM (fun T' oT' hM' => h T' oT' ?_)
      unfold takeF
      rw [if_neg hcn]
      exact hM'
    have take : (z i = 0 ∧ A i ≠ 100000000 ∧ (A i < s.1 i ∨ (A i = s.1 i ∧ s.2 at' + 1 < s.2 i))) → B_X8_carries_85 (L_X8_carries_24 post (d + 1)) post (iI at') (iI i) (iI (A i)) T := by
      intro hcn
      unfold B_X8_carries_85
      rw [xi, xa, ei]
      refine ⟨ii, fun S1 e1 => ⟨ia, ii, fun S3 e3 => ?_⟩⟩
      have hia : at' ≠ i := fun e => by rw [e] at h1; omega
      rw [e1, up_ne _ _ (by omega), zz_S T 87 at', ma, show (1 : Int32) = iI 1 from rfl, iI_add] at e3
      refine ih (i + 1) S3 _ (by omega) (fun c k a1 a2 => by rw [e3, up_ne _ _ (by omega), up_ne _ _ (by omega), oT c k a1 a2]) (Tn_pu hI hA (by omega) hcn.1 hcn.2.1) (fun j hj => ?_) (fun T' oT' hM' => h T' oT' ?_)
      · dsimp only
        by_cases e : j = i
        · subst e
          rw [pu_at, pu_at]
          refine ⟨?_, ?_, ?_⟩
          · exact zz_iI (by rw [e3, up_ne _ _ (by omega), up_at]) (by omega) (by omega)
          · exact zz_iI (by rw [e3, up_at]) (by omega) (by omega)
          · rw [← m3]; unfold zz; rw [e3, up_ne _ _ (by omega), up_ne _ _ (by omega)]
        · rw [pu_ne _ _ e, pu_ne _ _ e]
          obtain ⟨q1, q2, q3⟩ := hM j hj
          refine ⟨?_, ?_, ?_⟩
          · rw [← q1]; unfold zz; rw [e3, up_ne _ _ (by omega), up_ne _ _ (by omega)]
          · rw [← q2]; unfold zz; rw [e3, up_ne _ _ (by omega), up_ne _ _ (by omega)]
          · rw [← q3]; unfold zz; rw [e3, up_ne _ _ (by omega), up_ne _ _ (by omega)]
      · unfold takeF
        rw [if_pos hcn]
        exact hM'
    have set1 : z i ≠ 0 → i ≠ at' → s.1 i < A i := fun hz hne => by
      have := h7 i (by omega) hz
      have := ha2 hne
      omega
    have set2 : i = at' → A i = s.1 i ∧ s.2 i ≤ s.2 at' + 1 := fun e => by
      rw [ha3 e, e, h2]
      exact ⟨rfl, by omega⟩
    rw [xa, zz_S T 86 i, m1, zz_S T 87 i, m2, zz_S T 87 at', ma, iI_lt (by omega) (by omega) (by omega) (by omega), iI_eq (by omega) (by omega) (by omega) (by omega), show (100000000 : Int32) = iI 100000000 from rfl, iI_le (by omega) (by omega) (by omega) (by omega), show (1 : Int32) = iI 1 from rfl, iI_add, iI_le (by omega) (by omega) (by omega) (by omega)]
    refine ⟨fun hlt => take ⟨?_, by omega, Or.inl hlt⟩, fun hlt => ⟨ii, fun hneq => skip (fun q => ?_), fun heq => ⟨fun h8 => skip (fun q => ?_), fun h8 => ⟨ia, ii, fun hle => skip (fun q => ?_), fun hle => take ⟨?_, by omega, Or.inr ⟨heq, by omega⟩⟩⟩⟩⟩⟩
    · apply Classical.byContradiction
      intro hz
      by_cases e : i = at'
      · have := set2 e
        omega
      · have := set1 hz e
        omega
    · omega
    · omega
    · omega
    · apply Classical.byContradiction
      intro hz
      by_cases e : i = at'
      · have := set2 e
        omega
      · have := set1 hz e
        omega
theorem s_relay_116 {v : Vw} {T0 : St} {n N at' : Nat} {μ B K : Int} {z : Nat → Int} {x2 x3 : Int32} {k99 : Int32 → Int32 → Int32 → St → Prop} {post : Int32 → St → Prop} (hL : Lb v) (hA : Ag v (mz T0 76)) (hn : v 0 0 = (n : Int)) (hN : v 0 2 = (N : Int)) (hB : B ≤ 900000) (hK : K ≤ 100) : ∀ (d q : Nat) (T : St) (s f : MK), q + d = N → RmF T0 T → Tn n at' μ B K z s → MtM n s z T → PsR v at' n μ z d q s f → (∀ T', RmF T0 T' → Tn n at' μ B K z f → MtM n f z T' → B_X8_relay_153 k99 post x2 x3 T') → L_X8_relay_116 k99 post (d + 1) x2 x3 (iI at') (iI q) T := by
  obtain ⟨b0, b0', b1, b1', b2, b2', _⟩ := id hL.1
  have e12 : ∀ T : St, RmF T0 T → T 71 12 = iI (N : Int) := fun T oT => by
    rw [oT _ _ (by omega) (by omega) (by omega) (by omega) (by omega), zz_S T0 71 12]
    congr 1
    exact (hA.1 2 (by omega)).trans hN
  intro d
  induction d with
  | zero =>
    intro q T s f hq oT hI hM hP h
    show BD_X8_relay_116 k99 (L_X8_relay_116 k99 post 0) post _ _ _ _ _
    unfold BD_X8_relay_116
    rw [e12 T oT, iI_le (by omega) (by omega) (by omega) (by omega)]
    have hf : f = s := hP
    subst hf
    exact ⟨fun _ => h T oT hI hM, fun e => absurd (by omega) e⟩
  | succ d ih =>
    intro q T s f hq oT hI hM hP h
    show BD_X8_relay_116 k99 (L_X8_relay_116 k99 post (d + 1)) post _ _ _ _ _
    unfold BD_X8_relay_116
    have eq1 : iI (q : Int) + 1 = iI ((q + 1 : Nat) : Int) := by rw [show (1 : Int32) = iI 1 from rfl, iI_add]; rfl
    have hq2 : (q : Int) < v 0 2 := by omega
    have x0 : ix ((4 : Int32) * iI q) = 4 * q := by
      simp (disch := omega) only [iI_add, iI_sub, iI_mul, iI_le, iI_lt, iI_eq, iI_ix, iI_in, iI_neg, iI_lit]; omega
    have x1 : ix ((4 : Int32) * iI q + 1) = 4 * q + 1 := by
      simp (disch := omega) only [iI_add, iI_sub, iI_mul, iI_le, iI_lt, iI_eq, iI_ix, iI_in, iI_neg, iI_lit]; omega
    have i0 : vp_in ((4 : Int32) * iI q) 28 := by
      simp (disch := omega) only [iI_add, iI_sub, iI_mul, iI_le, iI_lt, iI_eq, iI_ix, iI_in, iI_neg, iI_lit]; omega
    have i1 : vp_in ((4 : Int32) * iI q + 1) 28 := by
      simp (disch := omega) only [iI_add, iI_sub, iI_mul, iI_le, iI_lt, iI_eq, iI_ix, iI_in, iI_neg, iI_lit]; omega
    have em := mz_Rm oT
    have hAT : Ag v (mz T 76) := by rw [em]; exact hA
    obtain ⟨_, _, _, _, _, _, r7, r7', r8, r8', _⟩ := id (hL.2.2 q hq2)
    obtain ⟨_, _, _, w7, w8, _, _⟩ := hAT.2.2 q hq2
    have w7 : zz T 76 (4 * q) = v 7 q := w7
    have w8 : zz T 76 (4 * q + 1) = v 8 q := w8
    obtain ⟨⟨h0, h1, h2, h3, h4, h5⟩, h6, h7, h8⟩ := id hI
    have xa : ix (iI (at' : Int)) = at' := by rw [iI_ix (by omega) (by omega)]; simp
    have ia : vp_in (iI (at' : Int)) 6 := (iI_in (by omega) (by omega)).mpr ⟨by omega, by omega⟩
    rw [e12 T oT, iI_le (by omega) (by omega) (by omega) (by omega), eq1, x0, zz_S T 76 (4 * q), w7, iI_eq (by omega) (by omega) (by omega) (by omega)]
    refine ⟨fun e => absurd e (by omega), fun _ => ⟨i0, fun hne => ?_, fun heq => ?_⟩⟩
    · rcases hP with ⟨_, hP⟩ | ⟨e, _⟩
      · exact ih (q + 1) T s f (by omega) oT hI hM hP h
      · exact absurd e hne
    · rcases hP with ⟨e, _⟩ | ⟨_, A, hA3, hP⟩
      · exact absurd heq e
      · unfold wp_X8_carries
        have m86 : T 86 at' = iI μ := by rw [zz_S T 86 at', (hM at' h0).1, h2]
        rw [xa, x1, m86, zz_S T 76 (4 * q + 1), w8]
        refine ⟨ia, i1, ?_⟩
        refine s_X8_spreads hL hq2 (show 0 ≤ (at' : Int) ∧ (at' : Int) < v 0 0 by omega) ⟨r8, r8'⟩ (by omega) hAT.sv ((Ag_Lb hAT hL).2.2 q (by rw [hAT.1 2 (by omega)]; exact hq2)) ?_
        intro T3 o3 hSp
        have oT3 : RmF T0 T3 := fun c k a1 a2 a3 a4 a5 => by rw [o3 c k a1 a2, oT c k a1 a2 a3 a4 a5]
        have e10 : T3 71 10 = iI (n : Int) := by
          rw [oT3 _ _ (by omega) (by omega) (by omega) (by omega) (by omega), zz_S T0 71 10]
          congr 1
          exact (hA.1 0 (by omega)).trans hn
        have hM3 : MtM n s z T3 := fun j hj => by
          obtain ⟨q1, q2, q3⟩ := hM j hj
          refine ⟨?_, ?_, ?_⟩
          · rw [← q1]; unfold zz; rw [o3 _ _ (by omega) (by omega)]
          · rw [← q2]; unfold zz; rw [o3 _ _ (by omega) (by omega)]
          · rw [← q3]; unfold zz; rw [o3 _ _ (by omega) (by omega)]
        refine ⟨n + 1, ?_⟩
        rw [show (0 : Int32) = iI ((0 : Nat) : Int) from rfl]
        refine s_carries_loop (S := T3) hL hq2 hn h0 ⟨r8, r8'⟩ (by omega) hB hK hA3 e10 hSp n 0 T3 s (by omega) (fun _ _ _ _ => rfl) hI hM3 ?_
        intro T4 o4 hM4
        have hAb : Ab n at' μ A := Soon_Ab hL hq2 (by omega) ⟨r8, r8'⟩ (by omega) hA3
        exact ih (q + 1) T4 _ f (by omega) (fun c k a1 a2 a3 a4 a5 => by rw [o4 c k a3 a4, oT3 c k a1 a2 a3 a4 a5]) (Tn_take hAb n 0 s (by omega) hI) hM4 hP h
theorem s_X8_nextPlace {n : Nat} {z : Nat → Int} {s : MK} {T : St} {post : Int32 → St → Prop} (hn : n ≤ 6) (h10 : T 71 10 = iI (n : Int)) (hb : ∀ j, j < n → (s.1 j = 100000000 ∨ (0 ≤ s.1 j ∧ s.1 j ≤ 900000)) ∧ (z j = 0 ∨ z j = 1)) (hM : MtM n s z T) (h : ∀ x, NxR n s.1 z x → post (iI x) T) : wp_X8_nextPlace T post := by
  have key : ∀ (d i : Nat) (b : Int), i + d = n → NxR i s.1 z b → L_X8_nextPlace_4 post (d + 1) (iI b) (iI i) T := by
    intro d
    induction d with
    | zero =>
      intro i b hi hN
      show BD_X8_nextPlace_4 (L_X8_nextPlace_4 post 0) post _ _ _
      unfold BD_X8_nextPlace_4
      rw [h10, iI_le (by omega) (by omega) (by omega) (by omega)]
      refine ⟨fun _ => h b ?_, fun e => absurd (by omega) e⟩
      rw [show n = i from by omega]
      exact hN
    | succ d ih =>
      intro i b hi hN
      show BD_X8_nextPlace_4 (L_X8_nextPlace_4 post (d + 1)) post _ _ _
      unfold BD_X8_nextPlace_4
      have ei : iI (i : Int) + 1 = iI ((i + 1 : Nat) : Int) := by rw [show (1 : Int32) = iI 1 from rfl, iI_add]; rfl
      have xi : ix (iI (i : Int)) = i := by rw [iI_ix (by omega) (by omega)]; simp
      have ii : vp_in (iI (i : Int)) 6 := (iI_in (by omega) (by omega)).mpr ⟨by omega, by omega⟩
      obtain ⟨m1, m2, m3⟩ := hM i (by omega)
      obtain ⟨g1, g3⟩ := hb i (by omega)
      have hbb : -1 ≤ b ∧ b < (i : Int) := by
        rcases hN with ⟨e, _⟩ | ⟨i', e, q, _⟩
        · omega
        · omega
      have eb : iI b = -1 ↔ b = -1 := by
        rw [show (-1 : Int32) = iI (-1) from by decide]
        exact iI_eq (by omega) (by omega) (by omega) (by omega)
      rw [h10, iI_le (by omega) (by omega) (by omega) (by omega), ei, xi, zz_S T 88 i, m3, zz_S T 86 i, m1, show (0 : Int32) = iI 0 from rfl, iI_eq (by omega) (by omega) (by omega) (by omega), eb, show (100000000 : Int32) = iI 100000000 from rfl, iI_le (by omega) (by omega) (by omega) (by omega)]
      have keep : (z i = 0 → (b = -1 → s.1 i = 100000000) ∧ ∀ i' : Nat, b = (i' : Int) → s.1 i' ≤ s.1 i) → L_X8_nextPlace_4 post (d + 1) (iI b) (iI ((i + 1 : Nat) : Int)) T := by
        intro hk
        refine ih (i + 1) b (by omega) ?_
        rcases hN with ⟨e, q⟩ | ⟨i', e, q1, q2, q3, q4, q5⟩
        · refine Or.inl ⟨e, fun j hj hz => ?_⟩
          by_cases hji : j = i
          · rw [hji] at hz ⊢; exact (hk hz).1 e
          · exact q j (by omega) hz
        · refine Or.inr ⟨i', e, by omega, q2, q3, fun j hj hz => ?_, q5⟩
          by_cases hji : j = i
          · rw [hji] at hz ⊢; exact (hk hz).2 i' e
          · exact q4 j (by omega) hz
      have take : z i = 0 → s.1 i < 100000000 → (∀ i' : Nat, b = (i' : Int) → s.1 i < s.1 i') → L_X8_nextPlace_4 post (d + 1) (iI (i : Int)) (iI ((i + 1 : Nat) : Int)) T := by
        intro hz hlt hk
        refine ih (i + 1) i (by omega) (Or.inr ⟨i, rfl, by omega, hz, hlt, fun j hj hzj => ?_, fun j hj hzj => ?_⟩)
        · by_cases hji : j = i
          · rw [hji]; exact Int.le_refl _
          · rcases hN with ⟨e, q⟩ | ⟨i', e, q1, q2, q3, q4, q5⟩
            · have := q j (by omega) hzj
              omega
            · have a := q4 j (by omega) hzj
              have b := hk i' e
              omega
        · rcases hN with ⟨e, q⟩ | ⟨i', e, q1, q2, q3, q4, q5⟩
          · have := q j (by omega) hzj
            omega
          · have a := q4 j (by omega) hzj
            have b := hk i' e
            omega
      refine ⟨fun e => absurd e (by omega), fun _ => ⟨ii, fun hz => keep (fun q => absurd q hz), fun hz => ⟨ii, fun h8 => keep (fun _ => ⟨fun _ => by omega, fun i' e => ?_⟩), fun h8 => ⟨fun e => take hz (by omega) (fun i' e' => by omega), fun e => ?_⟩⟩⟩⟩
      · rcases hN with ⟨e', q⟩ | ⟨i2, e', q1, q2, q3, q4, q5⟩
        · omega
        · have : i2 = i' := by omega
          subst this
          omega
      · obtain ⟨i', q⟩ : ∃ i' : Nat, b = (i' : Int) := ⟨b.toNat, by omega⟩
        · subst q
          have xb : ix (iI (i' : Int)) = i' := by rw [iI_ix (by omega) (by omega)]; simp
          have bi : vp_in (iI (i' : Int)) 6 := (iI_in (by omega) (by omega)).mpr ⟨by omega, by omega⟩
          obtain ⟨m1', _, _⟩ := hM i' (by omega)
          obtain ⟨g1', _⟩ := hb i' (by omega)
          rw [xb, zz_S T 86 i', m1', iI_le (by omega) (by omega) (by omega) (by omega)]
          refine ⟨ii, bi, fun hle => keep (fun _ => ⟨fun q => by omega, fun i2 q => ?_⟩), fun hle => take hz (by omega) (fun i2 q => ?_)⟩
          · have : i2 = i' := by omega
            rw [this]; exact hle
          · have : i2 = i' := by omega
            rw [this]; omega
  have := key n 0 (-1) (by omega) (Or.inl ⟨rfl, fun j hj => absurd hj (by omega)⟩)
  exact ⟨n + 1, this⟩
theorem s_relay_99 {v : Vw} {T0 : St} {n N to : Nat} {x3 : Int} {post : Int32 → St → Prop} (hL : Lb v) (hA : Ag v (mz T0 76)) (hn : v 0 0 = (n : Int)) (hN : v 0 2 = (N : Int)) (hto : to < n) (y1 : -2147483648 ≤ x3) (y2 : x3 < 2147483648) : ∀ (d t : Nat) (T : St) (s f : MK) (z : Nat → Int) (x : Int), t + d = n → cn z n = t → RmF T0 T → Gi n (8640 * (t : Int)) t z s → MtM n s z T → NxR n s.1 z x → RlR v n N d s z f → (∀ T', RmF T0 T' → post (iI (if f.1 to = 100000000 then -1 else if x3 = 0 then f.1 to else f.2 to)) T') → L_X8_relay_99 post (d + 1) (iI to) (iI x3) (iI x) T := by
  obtain ⟨b0, b0', b1, b1', b2, b2', _⟩ := id hL.1
  have xt : ix (iI (to : Int)) = to := by rw [iI_ix (by omega) (by omega)]; simp
  have it : vp_in (iI (to : Int)) 6 := (iI_in (by omega) (by omega)).mpr ⟨by omega, by omega⟩
  have fin : ∀ (t : Nat) (T : St) (s : MK) (z : Nat → Int), t ≤ 6 → RmF T0 T → Gi n (8640 * (t : Int)) t z s → MtM n s z T → (∀ T', RmF T0 T' → post (iI (if s.1 to = 100000000 then -1 else if x3 = 0 then s.1 to else s.2 to)) T') → B_X8_relay_162 post (iI to) (iI x3) T := by
    intro t T s z ht oT hG hM h
    obtain ⟨g1, g2, g3⟩ := hG.1 to hto
    obtain ⟨m1, m2, m3⟩ := hM to hto
    have hp := h T oT
    unfold B_X8_relay_162
    rw [xt, zz_S T 86 to, m1, zz_S T 87 to, m2, show (100000000 : Int32) = iI 100000000 from rfl, iI_eq (by omega) (by omega) (by omega) (by omega), show (0 : Int32) = iI 0 from rfl, iI_eq (by omega) (by omega) (by omega) (by omega)]
    refine ⟨it, fun hne => ⟨fun h3 => ⟨it, ?_⟩, fun h3 => ⟨it, ?_⟩⟩, fun he => ?_⟩
    · rw [if_neg hne, if_neg h3] at hp; exact hp
    · rw [if_neg hne, if_pos h3] at hp; exact hp
    · rw [if_pos he] at hp; exact hp
  intro d
  induction d with
  | zero =>
    intro t T s f z x ht hcn oT hG hM hx hR h
    have hf : f = s := hR
    subst hf
    have hx1 : x = -1 := by
      rcases hx with ⟨e, _⟩ | ⟨i, e, q1, q2, _⟩
      · exact e
      · exact absurd q2 (cn_all n (by omega) i q1)
    show BD_X8_relay_99 (L_X8_relay_99 post 0) post _ _ _ _
    unfold BD_X8_relay_99
    rw [hx1]
    exact ⟨fun _ => fin t T f z (by omega) oT hG hM h, fun e => absurd (by decide) e⟩
  | succ d ih =>
    intro t T s f z x ht hcn oT hG hM hx hR h
    show BD_X8_relay_99 (L_X8_relay_99 post (d + 1)) post _ _ _ _
    unfold BD_X8_relay_99
    rcases hR with ⟨q, hf⟩ | ⟨i, s', hxi, hP, hR⟩
    · have hx1 : x = -1 := NxR_uniq hx q
      subst hf
      rw [hx1]
      exact ⟨fun _ => fin t T f z (by omega) oT hG hM h, fun e => absurd (by decide) e⟩
    · have hx1 : x = (i : Int) := NxR_uniq hx hxi
      subst hx1
      have hi : i < n ∧ z i = 0 := by
        rcases hxi with ⟨e, _⟩ | ⟨i', e, q1, q2, _⟩
        · omega
        · have : i = i' := by omega
          rw [this]; exact ⟨q1, q2⟩
      have xi : ix (iI (i : Int)) = i := by rw [iI_ix (by omega) (by omega)]; simp
      have ii : vp_in (iI (i : Int)) 6 := (iI_in (by omega) (by omega)).mpr ⟨by omega, by omega⟩
      rw [show (-1 : Int32) = iI (-1) from by decide, iI_eq (by omega) (by omega) (by omega) (by omega), xi]
      refine ⟨fun q => absurd q (by omega), fun _ => ⟨ii, fun S5 e5 => ⟨N + 1, ?_⟩⟩⟩
      have hT := Gi_Tn (by omega) hG hxi
      rw [show (0 : Int32) = iI ((0 : Nat) : Int) from rfl]
      refine s_relay_116 hL hA hn hN (by omega) (by omega) N 0 S5 s s' (by omega) (fun c k a1 a2 a3 a4 a5 => by rw [e5, up_ne _ _ (by omega), oT c k a1 a2 a3 a4 a5]) hT (fun j hj => ?_) hP ?_
      · obtain ⟨q1, q2, q3⟩ := hM j hj
        refine ⟨?_, ?_, ?_⟩
        · rw [← q1]; unfold zz; rw [e5, up_ne _ _ (by omega)]
        · rw [← q2]; unfold zz; rw [e5, up_ne _ _ (by omega)]
        · by_cases hji : j = i
          · rw [hji, pu_at]; unfold zz; rw [e5, up_at]; decide
          · rw [pu_ne _ _ hji, ← q3]; unfold zz; rw [e5, up_ne _ _ (by omega)]
      · intro T' oT' hI' hM'
        have hG' := Tn_Gi hI'
        rw [show 8640 * (t : Int) + 8640 = 8640 * ((t + 1 : Nat) : Int) from by omega, show (t : Int) + 1 = ((t + 1 : Nat) : Int) from by omega] at hG'
        have e10 : T' 71 10 = iI (n : Int) := by
          rw [oT' _ _ (by omega) (by omega) (by omega) (by omega) (by omega), zz_S T0 71 10]
          congr 1
          exact (hA.1 0 (by omega)).trans hn
        unfold B_X8_relay_153
        refine s_X8_nextPlace (s := s') (z := pu z i 1) (by omega) e10 (fun j hj => by obtain ⟨g1, g2, g3⟩ := hG'.1 j hj; exact ⟨by omega, g3⟩) hM' ?_
        intro x' hx'
        have hcn' := cn_up (f := z) (g := pu z i 1) n i hi.1 hi.2 (pu_at _ _ _) (fun j hj => pu_ne _ _ hj)
        exact ih (t + 1) T' s' f _ x' (by omega) (by omega) oT' hG' hM' hx' hR h
theorem s_relay_48 {v : Vw} {T0 : St} {n N from' to : Nat} {x3 : Int} {f : MK} {post : Int32 → St → Prop} (hL : Lb v) (hA : Ag v (mz T0 76)) (hn : v 0 0 = (n : Int)) (hN : v 0 2 = (N : Int)) (hf : from' < n) (hto : to < n) (y1 : -2147483648 ≤ x3) (y2 : x3 < 2147483648) (hR : RlR v n N n (rl0 from') (fun _ => 0) f) (h : ∀ T', RmF T0 T' → post (iI (if f.1 to = 100000000 then -1 else if x3 = 0 then f.1 to else f.2 to)) T') : B_X8_relay_48 post (iI from') (iI to) (iI x3) 0 T0 := by
  obtain ⟨b0, b0', b1, b1', b2, b2', _⟩ := id hL.1
  have key : ∀ (d i : Nat) (T : St), i + d = 6 → RmF T0 T → (∀ j, j < i → zz T 86 j = (if j = from' then 0 else 100000000) ∧ T 87 j = 0 ∧ T 88 j = 0) → L_X8_relay_48 post (d + 1) (iI from') (iI to) (iI x3) (iI i) T := by
    intro d
    induction d with
    | zero =>
      intro i T hi oT hj
      show BD_X8_relay_48 (L_X8_relay_48 post 0) post _ _ _ _ _
      unfold BD_X8_relay_48
      have h6 : (6 : Int32) ≤ iI (i : Int) ↔ (6 : Int) ≤ i := by
        rw [show (6 : Int32) = iI 6 from rfl]
        exact iI_le (by omega) (by omega) (by omega) (by omega)
      rw [h6]
      refine ⟨fun _ => ⟨n + 1, ?_⟩, fun e => absurd (by omega) e⟩
      refine s_relay_99 hL hA hn hN hto y1 y2 n 0 T (rl0 from') f (fun _ => 0) (from' : Int) (by omega) (cn_0 n (fun _ _ => rfl)) oT ⟨fun j _ => ?_, fun i j _ _ q => absurd rfl q⟩ (fun j hj2 => ?_) (Or.inr ⟨from', rfl, hf, rfl, ?_, fun j _ _ => ?_, fun j hj _ => ?_⟩) hR h
      · refine ⟨?_, by show (0 : Int) ≤ 0 ∧ (0 : Int) ≤ ((0 : Nat) : Int); omega, Or.inl rfl⟩
        show (if j = from' then (0 : Int) else 100000000) = 100000000 ∨ (0 ≤ (if j = from' then (0 : Int) else 100000000) ∧ (if j = from' then (0 : Int) else 100000000) ≤ 8640 * ((0 : Nat) : Int))
        split <;> omega
      · obtain ⟨q1, q2, q3⟩ := hj j (by omega)
        refine ⟨q1, ?_, ?_⟩
        · show zz T 87 j = 0
          unfold zz; rw [q2]; decide
        · show zz T 88 j = 0
          unfold zz; rw [q3]; decide
      · show (if from' = from' then (0 : Int) else 100000000) < 100000000
        rw [if_pos rfl]; omega
      · show (if from' = from' then (0 : Int) else 100000000) ≤ (if j = from' then (0 : Int) else 100000000)
        rw [if_pos rfl]; split <;> omega
      · show (if from' = from' then (0 : Int) else 100000000) < (if j = from' then (0 : Int) else 100000000)
        rw [if_pos rfl, if_neg (by omega)]; omega
    | succ d ih =>
      intro i T hi oT hj
      show BD_X8_relay_48 (L_X8_relay_48 post (d + 1)) post _ _ _ _ _
      unfold BD_X8_relay_48
      have xn : ix (iI (i : Int)) = i := by rw [iI_ix (by omega) (by omega)]; simp
      have ni : vp_in (iI (i : Int)) 6 := (iI_in (by omega) (by omega)).mpr ⟨by omega, by omega⟩
      have en : iI (i : Int) + 1 = iI ((i + 1 : Nat) : Int) := by rw [show (1 : Int32) = iI 1 from rfl, iI_add]; rfl
      have h6 : (6 : Int32) ≤ iI (i : Int) ↔ (6 : Int) ≤ i := by
        rw [show (6 : Int32) = iI 6 from rfl]
        exact iI_le (by omega) (by omega) (by omega) (by omega)
      rw [h6, iI_eq (by omega) (by omega) (by omega) (by omega)]
      have go : ∀ y : Int, y = (if i = from' then 0 else 100000000) → B_X8_relay_73 (L_X8_relay_48 post (d + 1)) post (iI from') (iI to) (iI x3) (iI i) (iI y) (iI i) T := by
        intro y hy
        have yb : 0 ≤ y ∧ y ≤ 100000000 := by rw [hy]; split <;> omega
        unfold B_X8_relay_73
        rw [xn, en]
        refine ⟨ni, fun S2 e2 => ⟨ni, fun S4 e4 => ⟨ni, fun S6 e6 => ?_⟩⟩⟩
        refine ih (i + 1) S6 (by omega) (fun c k a1 a2 a3 a4 a5 => by rw [e6, up_ne _ _ (by omega), e4, up_ne _ _ (by omega), e2, up_ne _ _ (by omega), oT c k a1 a2 a3 a4 a5]) (fun j hj2 => ?_)
        by_cases hji : j = i
        · subst hji
          refine ⟨?_, ?_, ?_⟩
          · rw [← hy]
            exact zz_iI (by rw [e6, up_ne _ _ (by omega), e4, up_ne _ _ (by omega), e2, up_at]) (by omega) (by omega)
          · rw [e6, up_ne _ _ (by omega), e4, up_at]
          · rw [e6, up_at]
        · obtain ⟨q1, q2, q3⟩ := hj j (by omega)
          refine ⟨?_, ?_, ?_⟩
          · rw [← q1]; unfold zz; rw [e6, up_ne _ _ (by omega), e4, up_ne _ _ (by omega), e2, up_ne _ _ (by omega)]
          · rw [e6, up_ne _ _ (by omega), e4, up_ne _ _ (by omega), e2, up_ne _ _ (by omega), q2]
          · rw [e6, up_ne _ _ (by omega), e4, up_ne _ _ (by omega), e2, up_ne _ _ (by omega), q3]
      exact ⟨fun q => absurd q (by omega), fun _ => ⟨fun hne => go 100000000 (by rw [if_neg (by omega)]), fun heq => go 0 (by rw [if_pos (by omega)])⟩⟩
  have := key 6 0 T0 (by omega) (fun _ _ _ _ _ _ _ => rfl) (fun j hj => absurd hj (by omega))
  exact ⟨6 + 1, this⟩
theorem call_relay (x1 x2 x3 : Int32) : CallOk (wp_X7_relay x1 x2 x3) (wp_X8_relay x1 x2 x3) := by
  intro S hI G hG P hP
  obtain ⟨p, p1, p2, rfl⟩ := iI_ex x1
  obtain ⟨q, q1, q2, rfl⟩ := iI_ex x2
  obtain ⟨s, s1, s2, rfl⟩ := iI_ex x3
  have hH0 := hI.head
  obtain ⟨b0, b0', b1, b1', b2, b2', _⟩ := id hH0.1
  simp only [cv, Nat.add_zero] at b0 b0' b1 b1' b2 b2'
  obtain ⟨hL, _⟩ := id hI
  obtain ⟨n, hn⟩ : ∃ n : Nat, zz S 0 0 = (n : Int) := ⟨(zz S 0 0).toNat, by omega⟩
  obtain ⟨N, hN⟩ : ∃ N : Nat, zz S 0 2 = (N : Int) := ⟨(zz S 0 2).toNat, by omega⟩
  have hn' : cv S 0 0 0 = (n : Int) := hn
  have hN' : cv S 0 0 2 = (N : Int) := hN
  have epq : iI p = iI q ↔ p = q := iI_eq p1 p2 q1 q2
  have hfin : ∀ (T : St), (∀ c k, ¬ (11 ≤ c ∧ c ≤ 21) → ¬ (50 ≤ c ∧ c ≤ 58) → ¬ (c = 71 ∧ k = 0) → c ≠ 76 → c ≠ 81 → c ≠ 82 → c ≠ 86 → c ≠ 87 → c ≠ 88 → T c k = S c k) → Inv T := fun T h => hI.sm (fun c k hc => h c k (by unfold ps at hc; omega) (by unfold ps at hc; omega) (by unfold ps at hc; omega) (by unfold ps at hc; omega) (by unfold ps at hc; omega) (by unfold ps at hc; omega) (by unfold ps at hc; omega) (by unfold ps at hc; omega) (by unfold ps at hc; omega))
  have M : ∀ (T : St) (w : Int32), (∀ c k, ¬ (11 ≤ c ∧ c ≤ 21) → ¬ (50 ≤ c ∧ c ≤ 58) → T c k = S c k) → (¬ ((0 ≤ p ∧ p < zz S 0 0) ∧ (0 ≤ q ∧ q < zz S 0 0) ∧ p ≠ q) → w = -1000000001) → ((0 ≤ p ∧ p < zz S 0 0) ∧ (0 ≤ q ∧ q < zz S 0 0) ∧ p ≠ q → ¬ (0 ≤ s ∧ s ≤ 1) → w = -1000000002) → ((0 ≤ p ∧ p < zz S 0 0) ∧ (0 ≤ q ∧ q < zz S 0 0) ∧ p ≠ q → (0 ≤ s ∧ s ≤ 1) → ∃ f : MK, RlR (cv S 0) n N n (rl0 p.toNat) (fun _ => 0) f ∧ w = iI (if f.1 q.toNat = 100000000 then -1 else if s = 0 then f.1 q.toNat else f.2 q.toNat)) → wp_X8_relay (iI p) (iI q) (iI s) T (P w) := by
    intro T w hT1 k0 k1 k2
    unfold wp_X8_relay
    intro S1 e1
    have o1 : ∀ c k, ¬ (11 ≤ c ∧ c ≤ 21) → ¬ (50 ≤ c ∧ c ≤ 58) → ¬ (c = 71 ∧ k = 0) → S1 c k = S c k := fun c k h1 h2 h3 => by rw [e1, up_ne _ _ h3, hT1 c k h1 h2]
    have z1' : ∀ c k, ¬ (11 ≤ c ∧ c ≤ 21) → ¬ (50 ≤ c ∧ c ≤ 58) → ¬ (c = 71 ∧ k = 0) → zz S1 c k = zz S c k := fun c k h1 h2 h3 => by unfold zz; rw [o1 c k h1 h2 h3]
    have hI1 : Inv S1 := hfin S1 (fun c k h1 h2 h3 _ _ _ _ _ _ => o1 c k h1 h2 h3)
    have c10 : zz S1 71 10 = zz S 0 0 := (z1' _ _ (by omega) (by omega) (by omega)).trans hH0.2.2.1
    refine s_X8_isPlace p1 p2 (by omega) (fun h1 h2 => ⟨fun e => absurd e (by decide), fun _ => ?_⟩) (fun h => ⟨fun _ => CallOk.fin (S := S) hP hI1 (k0 (by omega)), fun e => absurd rfl e⟩)
    refine s_X8_isPlace q1 q2 (by omega) (fun h3 h4 => ⟨fun e => absurd e (by decide), fun _ => ?_⟩) (fun h => ⟨fun _ => CallOk.fin (S := S) hP hI1 (k0 (by omega)), fun e => absurd rfl e⟩)
    rw [epq]
    refine ⟨fun hne => ?_, fun he => CallOk.fin (S := S) hP hI1 (k0 (by omega))⟩
    refine s_X8_in (a := 0) (b := 1) s1 s2 (by omega) (by omega) (by omega) (by omega) (fun h5 h6 => ⟨fun _ => ?_, fun e => absurd e (by decide)⟩) (fun h => ⟨fun e => absurd rfl e, fun _ => CallOk.fin (S := S) hP hI1 (k1 (by omega) (by omega))⟩)
    obtain ⟨f, hR, hw⟩ := k2 (by omega) ⟨h5, h6⟩
    refine s_X8_asNow ?_
    intro T2 hT2
    have o2 : ∀ c k, ¬ (11 ≤ c ∧ c ≤ 21) → ¬ (50 ≤ c ∧ c ≤ 58) → ¬ (c = 71 ∧ k = 0) → c ≠ 76 → T2 c k = S c k := fun c k h1 h2 h3 h4 => by rw [hT2, if_neg (by omega), o1 c k h1 h2 h3]
    have o76 : ∀ k, k < 28 → T2 76 k = S 75 k := fun k hk => by rw [hT2, if_pos ⟨rfl, hk⟩, o1 _ _ (by omega) (by omega) (by omega)]
    have A2 : Ag (cv S 0) (mz T2 76) := now_view hI o76 (fun c k h => o2 c k (by omega) (by omega) (by omega) (by omega))
    have hpp : iI p = iI (p.toNat : Int) := by congr 1; omega
    have hqq : iI q = iI (q.toNat : Int) := by congr 1; omega
    rw [hpp, hqq]
    refine s_relay_48 hL.1 A2 hn' hN' (by omega) (by omega) s1 s2 hR ?_
    intro T3 o3
    have hI3 : Inv T3 := hfin T3 (fun c k a1 a2 a3 a4 a5 a6 a7 a8 a9 => by rw [o3 c k a5 a6 a7 a8 a9, o2 c k a1 a2 a3 a4])
    exact CallOk.fin (S := S) hP hI3 hw
  unfold wp_X7_relay
  refine s_X6_hasPlace (o := 0) p1 p2 (fun h1 h2 => ⟨fun e => absurd e (by decide), fun _ => ?_⟩) (fun h => ⟨fun _ => hG _ (M S _ (fun _ _ _ _ => rfl) (fun _ => rfl) (fun e => absurd e.1 h) (fun e => absurd e.1 h)), fun e => absurd rfl e⟩)
  refine s_X6_hasPlace (o := 0) q1 q2 (fun h3 h4 => ⟨fun e => absurd e (by decide), fun _ => ?_⟩) (fun h => ⟨fun _ => hG _ (M S _ (fun _ _ _ _ => rfl) (fun _ => rfl) (fun e => absurd e.2.1 h) (fun e => absurd e.2.1 h)), fun e => absurd rfl e⟩)
  rw [epq]
  refine ⟨fun hne => ?_, fun he => hG _ (M S _ (fun _ _ _ _ => rfl) (fun _ => rfl) (fun e => absurd he e.2.2) (fun e => absurd he e.2.2))⟩
  have ok : (0 ≤ p ∧ p < zz S 0 0) ∧ (0 ≤ q ∧ q < zz S 0 0) ∧ p ≠ q := ⟨⟨h1, h2⟩, ⟨h3, h4⟩, hne⟩
  refine s_X7_outside (a := 0) (b := 1) s1 s2 (by omega) (by omega) (by omega) (by omega) (fun h5 h6 => ⟨fun _ => ?_, fun e => absurd rfl e⟩) (fun h => ⟨fun e => absurd e (by decide), fun _ => hG _ (M S _ (fun _ _ _ _ => rfl) (fun e => absurd ok e) (fun _ _ => rfl) (fun _ e => absurd e h))⟩)
  refine s_X6_become (o := 11) (o2 := 0) (fun f g hf hg => by omega) ?_
  intro T hT1 hT2
  have hA : Ag (cv S 0) (cv T 11) := cv_Ag hL.1 (fun f k h1 h2 h3 h4 => hT1 f k h1 h2 h3 h4)
  have hpp : iI p = iI (p.toNat : Int) := by congr 1; omega
  have hqq : iI q = iI (q.toNat : Int) := by congr 1; omega
  have xq : ix (iI q) = q.toNat := by rw [iI_ix (by omega) (by omega)]
  have iq : vp_in (iI q) 6 := (iI_in (by omega) (by omega)).mpr ⟨by omega, by omega⟩
  have key := s_X3_carry (v := cv S 0) (T0 := T) (from' := p.toNat) (post := fun S12 => ((¬ iI s = 0 → wp_X3_carriersTo (iI q) S12 (fun r15 S14 => G (wp_X8_relay (iI p) (iI q) (iI s) S14 (P r15)))) ∧ (iI s = 0 → wp_X3_minuteAt (iI q) S12 (fun r17 S16 => G (wp_X8_relay (iI p) (iI q) (iI s) S16 (P r17)))))) hL.1 hA hn' hN' (by omega)
  rw [← hpp] at key
  refine key ?_
  intro T2 f o2 hR hf
  obtain ⟨g1, g2, g3⟩ := hf q.toNat (by omega)
  obtain ⟨en1, en2, en3⟩ := enN_b g1
  have oT2 : ∀ c k, ¬ (11 ≤ c ∧ c ≤ 21) → ¬ (50 ≤ c ∧ c ≤ 58) → T2 c k = S c k := fun c k a1 a2 => by rw [o2 c k (by omega) (by omega) (by omega) (by omega) (by omega) (by omega) (by omega), hT2 c k (by omega)]
  have out : ∀ w : Int32, w = iI (if f.1 q.toNat = 100000000 then -1 else if s = 0 then f.1 q.toNat else f.2 q.toNat) → G (wp_X8_relay (iI p) (iI q) (iI s) T2 (P w)) := fun w hw => hG _ (M T2 w oT2 (fun e => absurd ok e) (fun _ e => absurd ⟨h5, h6⟩ e) (fun _ _ => ⟨f, hR, hw⟩))
  unfold wp_X3_carriersTo wp_X3_minuteAt
  rw [xq, zz_S T2 56 q.toNat, g2, zz_S T2 57 q.toNat, g3, show (1000000000 : Int32) = iI 1000000000 from rfl, iI_eq (by omega) (by omega) (by omega) (by omega), show (0 : Int32) = iI 0 from rfl, iI_eq (by omega) (by omega) (by omega) (by omega), en2]
  refine ⟨fun hs0 => ⟨iq, fun hne => ⟨iq, out _ ?_⟩, fun he => out _ ?_⟩, fun hs0 => ⟨iq, fun hne => ⟨iq, out _ ?_⟩, fun he => out _ ?_⟩⟩
  · rw [if_neg hne, if_neg hs0]
  · rw [if_pos he]; decide
  · rw [if_neg hne, if_pos hs0, en3 hne]
  · rw [if_pos he]; decide
