/-! relay: what both do -/
abbrev MK : Type := (Nat → Int) × (Nat → Int)
def pu (f : Nat → Int) (i : Nat) (x : Int) : Nat → Int := fun j => if j = i then x else f j
theorem pu_at (f : Nat → Int) (i : Nat) (x : Int) : pu f i x i = x := if_pos rfl
theorem pu_ne (f : Nat → Int) {i j : Nat} (x : Int) (h : j ≠ i) : pu f i x j = f j := if_neg h
/-- one person carries on from a place: A is how soon it is where -/
def takeF (A : Nat → Int) (at' : Nat) (z : Nat → Int) : Nat → Nat → MK → MK
  | 0, _, s => s
  | d + 1, i, s => if z i = 0 ∧ A i ≠ 100000000 ∧ (A i < s.1 i ∨ (A i = s.1 i ∧ s.2 at' + 1 < s.2 i)) then takeF A at' z d (i + 1) (pu s.1 i (A i), pu s.2 i (s.2 at' + 1)) else takeF A at' z d (i + 1) s
def PsR (v : Vw) (at' n : Nat) (μ : Int) (z : Nat → Int) : Nat → Nat → MK → MK → Prop
  | 0, _, s, f => f = s
  | d + 1, q, s, f => (v 7 q ≠ (at' : Int) ∧ PsR v at' n μ z d (q + 1) s f) ∨ (v 7 q = (at' : Int) ∧ ∃ A : Nat → Int, (∀ b, b < n → 0 ≤ A b ∧ A b ≤ 100000000 ∧ Soon v q (at' : Int) (v 8 q) μ (b : Int) (A b)) ∧ PsR v at' n μ z d (q + 1) (takeF A at' z n 0 s) f)
def NxR (n : Nat) (m z : Nat → Int) (x : Int) : Prop := (x = -1 ∧ ∀ j, j < n → z j = 0 → m j = 100000000) ∨ ∃ i : Nat, x = (i : Int) ∧ i < n ∧ z i = 0 ∧ m i < 100000000 ∧ (∀ j, j < n → z j = 0 → m i ≤ m j) ∧ ∀ j, j < i → z j = 0 → m i < m j
theorem NxR_uniq {n : Nat} {m z : Nat → Int} {x y : Int} (h : NxR n m z x) (h' : NxR n m z y) : x = y := by
  rcases h with ⟨e, h⟩ | ⟨i, e, h1, h2, h3, h4, h5⟩ <;> rcases h' with ⟨e', h'⟩ | ⟨i', e', k1, k2, k3, k4, k5⟩
  · omega
  · have := h i' k1 k2
    omega
  · have := h' i h1 h2
    omega
  · have a := h4 i' k1 k2
    have b := k4 i h1 h2
    rcases (show i < i' ∨ i' < i ∨ i = i' by omega) with q | q | q
    · have := k5 i q h2
      omega
    · have := h5 i' q k2
      omega
    · omega
def RlR (v : Vw) (n N : Nat) : Nat → MK → (Nat → Int) → MK → Prop
  | 0, s, _, f => f = s
  | d + 1, s, z, f => (NxR n s.1 z (-1) ∧ f = s) ∨ ∃ (i : Nat) (s' : MK), NxR n s.1 z (i : Int) ∧ PsR v i n (s.1 i) (pu z i 1) N 0 s s' ∧ RlR v n N d s' (pu z i 1) f
/-- within a turn -/
def Tn (n : Nat) (at' : Nat) (μ B K : Int) (z : Nat → Int) (s : MK) : Prop := (at' < n ∧ z at' = 1 ∧ s.1 at' = μ ∧ 0 ≤ μ ∧ μ + 8640 ≤ B ∧ s.2 at' + 1 ≤ K) ∧ (∀ j, j < n → (s.1 j = 100000000 ∨ (0 ≤ s.1 j ∧ s.1 j ≤ B)) ∧ (0 ≤ s.2 j ∧ s.2 j ≤ K) ∧ (z j = 0 ∨ z j = 1)) ∧ (∀ j, j < n → z j ≠ 0 → s.1 j ≤ μ) ∧ ∀ j, j < n → z j = 0 → μ ≤ s.1 j
/-- what the soonest minutes from a place are like -/
def Ab (n at' : Nat) (μ : Int) (A : Nat → Int) : Prop := ∀ b, b < n → (A b = 100000000 ∨ (μ ≤ A b ∧ A b ≤ μ + 8640)) ∧ (b ≠ at' → μ < A b) ∧ (b = at' → A b = μ)
theorem Tn_pu {n at' : Nat} {μ B K : Int} {z A : Nat → Int} {s : MK} {i : Nat} (h : Tn n at' μ B K z s) (hA : Ab n at' μ A) (hi : i < n) (hz : z i = 0) (hAi : A i ≠ 100000000) : Tn n at' μ B K z (pu s.1 i (A i), pu s.2 i (s.2 at' + 1)) := by
  obtain ⟨⟨h0, h1, h2, h3, h4, h5⟩, h6, h7, h8⟩ := h
  have hia : at' ≠ i := fun e => by rw [e] at h1; omega
  have ha := hA i hi
  refine ⟨⟨h0, h1, by dsimp only; rw [pu_ne _ _ hia]; exact h2, h3, h4, by dsimp only; rw [pu_ne _ _ hia]; exact h5⟩, fun j hj => ?_, fun j hj hzj => ?_, fun j hj hzj => ?_⟩
  · dsimp only
    by_cases e : j = i
    · subst e
      rw [pu_at, pu_at]
      have := (h6 at' h0).2.1
      refine ⟨Or.inr ?_, by omega, (h6 j hj).2.2⟩
      rcases ha.1 with q | q
      · exact absurd q hAi
      · omega
    · rw [pu_ne _ _ e, pu_ne _ _ e]
      exact h6 j hj
  · dsimp only
    by_cases e : j = i
    · rw [e] at hzj; exact absurd hz hzj
    · rw [pu_ne _ _ e]; exact h7 j hj hzj
  · dsimp only
    by_cases e : j = i
    · subst e
      rw [pu_at]
      rcases ha.1 with q | q
      · exact absurd q hAi
      · exact q.1
    · rw [pu_ne _ _ e]; exact h8 j hj hzj
theorem Tn_take {n at' : Nat} {μ B K : Int} {z A : Nat → Int} (hA : Ab n at' μ A) : ∀ (d i : Nat) (s : MK), i + d = n → Tn n at' μ B K z s → Tn n at' μ B K z (takeF A at' z d i s) := by
  intro d
  induction d with
  | zero => intro i s _ h; exact h
  | succ d ih =>
    intro i s hi h
    unfold takeF
    by_cases hc : z i = 0 ∧ A i ≠ 100000000 ∧ (A i < s.1 i ∨ (A i = s.1 i ∧ s.2 at' + 1 < s.2 i))
    · rw [if_pos hc]
      exact ih (i + 1) _ (by omega) (Tn_pu h hA (by omega) hc.1 hc.2.1)
    · rw [if_neg hc]
      exact ih (i + 1) s (by omega) h
theorem Soon_Ab {v : Vw} {q at' n : Nat} {c μ : Int} {A : Nat → Int} (hL : Lb v) (hq : (q : Int) < v 0 2) (hat : (at' : Int) < v 0 0) (hc : 0 ≤ c ∧ c ≤ 5) (hμ : 0 ≤ μ ∧ μ ≤ 900000) (h : ∀ b, b < n → 0 ≤ A b ∧ A b ≤ 100000000 ∧ Soon v q (at' : Int) c μ (b : Int) (A b)) : Ab n at' μ A := by
  intro b hb
  obtain ⟨h1, h2, h3⟩ := h b hb
  have pos : ∀ n' c' t, Rc v q ly0 0 (at' : Int) c μ n' 0 (b : Int) c' t → μ ≤ t ∧ (b ≠ at' → μ < t) := by
    intro n' c' t hR
    have hin := Rc_in hL hq ⟨by omega, hat⟩ hc n' _ _ _ _ hR
    refine ⟨hin.2.2, fun hne => ?_⟩
    cases n' with
    | zero =>
      have e := hR.2.1
      exact absurd (show b = at' by omega) hne
    | succ n' =>
      obtain ⟨l1, a1, c1, t1, k1, k2⟩ := hR
      have := (Rc_in hL hq ⟨by omega, hat⟩ hc n' _ _ _ _ k1).2.2
      have := Eg_pos hL hq k2
      omega
  rcases h3 with ⟨_, q1, ⟨n', c', q2⟩, q3⟩ | ⟨q1, q2⟩
  · have hp := pos _ _ _ q2
    refine ⟨Or.inr ⟨hp.1, q1.2⟩, hp.2, fun e => ?_⟩
    have := q3 0 c μ ⟨rfl, by rw [e], rfl, rfl⟩
    omega
  · refine ⟨Or.inl q1, fun _ => by omega, fun e => ?_⟩
    exact absurd (show Rc v q ly0 0 (at' : Int) c μ 0 0 (b : Int) c μ from ⟨rfl, by rw [e], rfl, rfl⟩) (q2 _ _ _)
/-! the class -/
def enN (y : Int) : Int := if y = 100000000 then 1000000000 else y
theorem enN_b {y : Int} (h : y = 100000000 ∨ (0 ≤ y ∧ y ≤ 900000)) : (0 ≤ enN y ∧ enN y ≤ 1000000000) ∧ (enN y = 1000000000 ↔ y = 100000000) ∧ (y ≠ 100000000 → enN y = y) := by
  unfold enN
  split <;> omega
def MtC (n : Nat) (s : MK) (z : Nat → Int) (T : St) : Prop := ∀ j, j < n → zz T 56 j = enN (s.1 j) ∧ zz T 57 j = s.2 j ∧ zz T 58 j = z j
theorem s_take_loop {n at' : Nat} {μ B K : Int} {z A : Nat → Int} {S : St} {post : St → Prop} (hn : n ≤ 6) (hB : B ≤ 900000) (hK : K ≤ 100) (hA : Ab n at' μ A) (h00 : S 11 0 = iI (n : Int)) (hat : ∀ (T : St) (po : Int32 → St → Prop) (b : Nat), (∀ c k, c ≠ 56 → c ≠ 57 → T c k = S c k) → b < n → po (iI (enc (A b))) T → wp_X4_soonestAt (iI b) T po) : ∀ (d i : Nat) (T : St) (s : MK), i + d = n → (∀ c k, c ≠ 56 → c ≠ 57 → T c k = S c k) → Tn n at' μ B K z s → MtC n s z T → (∀ T', (∀ c k, c ≠ 56 → c ≠ 57 → T' c k = S c k) → MtC n (takeF A at' z d i s) z T' → post T') → L_X3_takeOn_27 post (d + 1) (iI at') (iI i) T := by
  intro d
  induction d with
  | zero =>
    intro i T s hi oT hI hM h
    show BD_X3_takeOn_27 (L_X3_takeOn_27 post 0) post _ _ _
    unfold BD_X3_takeOn_27
    rw [oT 11 0 (by omega) (by omega), h00, iI_le (by omega) (by omega) (by omega) (by omega)]
    exact ⟨fun _ => h T oT hM, fun e => absurd (by omega) e⟩
  | succ d ih =>
    intro i T s hi oT hI hM h
    show BD_X3_takeOn_27 (L_X3_takeOn_27 post (d + 1)) post _ _ _
    unfold BD_X3_takeOn_27
    have ei : iI (i : Int) + 1 = iI ((i + 1 : Nat) : Int) := by rw [show (1 : Int32) = iI 1 from rfl, iI_add]; rfl
    have xi : ix (iI (i : Int)) = i := by rw [iI_ix (by omega) (by omega)]; simp
    have ii : vp_in (iI (i : Int)) 6 := (iI_in (by omega) (by omega)).mpr ⟨by omega, by omega⟩
    obtain ⟨⟨h0, h1, h2, h3, h4, h5⟩, h6, h7, h8⟩ := id hI
    have xa : ix (iI (at' : Int)) = at' := by rw [iI_ix (by omega) (by omega)]; simp
    have ia : vp_in (iI (at' : Int)) 6 := (iI_in (by omega) (by omega)).mpr ⟨by omega, by omega⟩
    obtain ⟨m1, m2, m3⟩ := hM i (by omega)
    obtain ⟨g1, g2, g3⟩ := h6 i (by omega)
    have g1' : s.1 i = 100000000 ∨ (0 ≤ s.1 i ∧ s.1 i ≤ 900000) := by omega
    obtain ⟨en1, en2, en3⟩ := enN_b g1'
    have ga := (h6 at' h0).2.1
    have ma := (hM at' h0).2.1
    have ha := (hA i (by omega)).1
    obtain ⟨ea1, ea2, ea3, ea4⟩ := enc_b (y := A i) (by omega) (by omega)
    rw [oT 11 0 (by omega) (by omega), h00, iI_le (by omega) (by omega) (by omega) (by omega), ei, xi]
    refine ⟨fun e => absurd e (by omega), fun _ => ?_⟩
    refine hat T _ i oT (by omega) ⟨ii, ?_⟩
    have skip : ¬ (z i = 0 ∧ A i ≠ 100000000 ∧ (A i < s.1 i ∨ (A i = s.1 i ∧ s.2 at' + 1 < s.2 i))) → L_X3_takeOn_27 post (d + 1) (iI at') (iI ((i + 1 : Nat) : Int)) T := by
      intro hc
      refine ih (i + 1) T s (by omega) oT hI hM (fun T' oT' hM' => h T' oT' ?_)
      unfold takeF
      rw [if_neg hc]
      exact hM'
    have take : (z i = 0 ∧ A i ≠ 100000000 ∧ (A i < s.1 i ∨ (A i = s.1 i ∧ s.2 at' + 1 < s.2 i))) → B_X3_takeOn_105 (L_X3_takeOn_27 post (d + 1)) post (iI at') (iI i) (iI (enc (A i))) T := by
      intro hc
      unfold B_X3_takeOn_105
      rw [xi, xa, ei]
      refine ⟨ii, fun S1 e1 => ⟨ia, ii, fun S3 e3 => ?_⟩⟩
      have hia : at' ≠ i := fun e => by rw [e] at h1; omega
      rw [e1, up_ne _ _ (by omega), zz_S T 57 at', ma, show (1 : Int32) = iI 1 from rfl, iI_add] at e3
      refine ih (i + 1) S3 _ (by omega) (fun c k a1 a2 => by rw [e3, up_ne _ _ (by omega), up_ne _ _ (by omega), oT c k a1 a2]) (Tn_pu hI hA (by omega) hc.1 hc.2.1) (fun j hj => ?_) (fun T' oT' hM' => h T' oT' ?_)
      · dsimp only
        by_cases e : j = i
        · subst e
          rw [pu_at, pu_at]
          refine ⟨?_, ?_, ?_⟩
          · rw [show enN (A j) = A j from if_neg hc.2.1]
            have : S3 56 j = iI (A j) := by rw [e3, up_ne _ _ (by omega), up_at, ea4 hc.2.1]
            exact zz_iI this (by omega) (by omega)
          · exact zz_iI (by rw [e3, up_at]) (by omega) (by omega)
          · rw [← m3]; unfold zz; rw [e3, up_ne _ _ (by omega), up_ne _ _ (by omega)]
        · rw [pu_ne _ _ e, pu_ne _ _ e]
          obtain ⟨q1, q2, q3⟩ := hM j hj
          refine ⟨?_, ?_, ?_⟩
          · rw [← q1]; unfold zz; rw [e3, up_ne _ _ (by omega), up_ne _ _ (by omega)]
          · rw [← q2]; unfold zz; rw [e3, up_ne _ _ (by omega), up_ne _ _ (by omega)]
          · rw [← q3]; unfold zz; rw [e3, up_ne _ _ (by omega), up_ne _ _ (by omega)]
      · unfold takeF
        rw [if_pos hc]
        exact hM'
    rw [xa, zz_S T 58 i, m3, zz_S T 56 i, m1, zz_S T 57 i, m2, zz_S T 57 at', ma, show (0 : Int32) = iI 0 from rfl, iI_eq (by omega) (by omega) (by omega) (by omega), show (-1 : Int32) = iI (-1) from by decide, iI_eq (by omega) (by omega) (by omega) (by omega), iI_lt (by omega) (by omega) (by omega) (by omega), iI_eq (by omega) (by omega) (by omega) (by omega), show (1 : Int32) = iI 1 from rfl, iI_add, iI_le (by omega) (by omega) (by omega) (by omega)]
    refine ⟨fun hz => skip (fun q => hz q.1), fun hz => ⟨fun hne => ⟨ii, fun hlt => take ⟨hz, fun q => hne (ea3.mpr q), ?_⟩, fun hlt => ⟨ii, fun hneq => skip (fun q => ?_), fun heq => ⟨ia, ii, fun hle => skip (fun q => ?_), fun hle => take ⟨hz, fun q => hne (ea3.mpr q), ?_⟩⟩⟩⟩, fun he => skip (fun q => q.2.1 (ea3.mp he))⟩⟩
    · have hAn : A i ≠ 100000000 := fun q => hne (ea3.mpr q)
      rw [ea4 hAn] at hlt
      by_cases e : s.1 i = 100000000
      · exact Or.inl (by omega)
      · rw [en3 e] at hlt; exact Or.inl hlt
    · rw [ea4 q.2.1] at hlt hneq
      by_cases e : s.1 i = 100000000
      · have := en2.mpr e
        omega
      · rw [en3 e] at hlt hneq
        omega
    · have hAn : A i ≠ 100000000 := fun q => hne (ea3.mpr q)
      rw [ea4 hAn] at heq hlt
      by_cases e : s.1 i = 100000000
      · have := en2.mpr e
        omega
      · rw [en3 e] at heq hlt
        omega
    · have hAn : A i ≠ 100000000 := fun q => hne (ea3.mpr q)
      rw [ea4 hAn] at heq
      by_cases e : s.1 i = 100000000
      · have := en2.mpr e
        omega
      · rw [en3 e] at heq
        exact Or.inr ⟨heq, by omega⟩
