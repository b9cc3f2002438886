/-! meet: the loops -/
def enc (y : Int) : Int := if y = 100000000 then -1 else y
theorem enc_b {y : Int} (h1 : 0 ≤ y) (h2 : y ≤ 100000000) : -1 ≤ enc y ∧ enc y ≤ 100000000 ∧ (enc y = -1 ↔ y = 100000000) ∧ (y ≠ 100000000 → enc y = y) := by
  unfold enc
  split <;> omega
/-- places whose minutes lie in an array -/
def Cn (n : Nat) (A : Nat → Int) : Prop := n ≤ 6 ∧ ∀ b, b < n → 0 ≤ A b ∧ A b ≤ 100000000
theorem s_X7_meet_66 {n : Nat} {A : Nat → Int} {S : St} {x2 x3 : Int32} {post : Int32 → St → Prop} (hA : Cn n A) (h00 : S 0 0 = iI (n : Int)) (hat : ∀ (T : St) (po : Int32 → St → Prop) (b : Nat), (∀ c k, c ≠ 47 → T c k = S c k) → b < n → po (iI (enc (A b))) T → wp_X4_soonestAt (iI b) T po) (h : ∀ T, (∀ c k, c ≠ 47 → T c k = S c k) → (∀ b, b < n → T 47 b = iI (enc (A b))) → B_X7_meet_100 post x2 x3 T) : ∀ (d i : Nat) (T : St), i + d = n → (∀ c k, c ≠ 47 → T c k = S c k) → (∀ b, b < i → T 47 b = iI (enc (A b))) → L_X7_meet_66 post (d + 1) x2 x3 (iI i) T := by
  obtain ⟨hn, hA⟩ := hA
  intro d
  induction d with
  | zero =>
    intro i T hi o1 o2
    show BD_X7_meet_66 (L_X7_meet_66 post 0) post _ _ _ _
    unfold BD_X7_meet_66
    rw [o1 0 0 (by omega), h00, iI_le (by omega) (by omega) (by omega) (by omega)]
    exact ⟨fun _ => h T o1 (fun b hb => o2 b (by omega)), fun e => absurd (by omega) e⟩
  | succ d ih =>
    intro i T hi o1 o2
    show BD_X7_meet_66 (L_X7_meet_66 post (d + 1)) post _ _ _ _
    unfold BD_X7_meet_66
    have ei : iI (i : Int) + 1 = iI ((i + 1 : Nat) : Int) := by rw [show (1 : Int32) = iI 1 from rfl, iI_add]; rfl
    have xi : ix (iI (i : Int)) = i := by rw [iI_ix (by omega) (by omega)]; simp
    have ii : vp_in (iI (i : Int)) 6 := (iI_in (by omega) (by omega)).mpr ⟨by omega, by omega⟩
    rw [o1 0 0 (by omega), h00, iI_le (by omega) (by omega) (by omega) (by omega), ei, xi]
    refine ⟨fun e => absurd e (by omega), fun _ => ?_⟩
    refine hat T _ i o1 (by omega) ⟨ii, fun S4 e4 => ?_⟩
    refine ih (i + 1) S4 (by omega) (fun c k hc => by rw [e4, up_ne _ _ (by omega), o1 c k hc]) (fun b hb => ?_)
    by_cases hbi : b = i
    · rw [e4, hbi, up_at]
    · rw [e4, up_ne _ _ (by omega), o2 b (by omega)]
theorem s_X7_meet_119 {n : Nat} {A B : Nat → Int} {S : St} {x3 : Int32} {post : Int32 → St → Prop} (hA : Cn n A) (hB : Cn n B) (h00 : S 0 0 = iI (n : Int)) (h47 : ∀ b, b < n → S 47 b = iI (enc (A b))) (hat : ∀ (po : Int32 → St → Prop) (b : Nat), b < n → po (iI (enc (B b))) S → wp_X4_soonestAt (iI b) S po) : ∀ (d i : Nat) (bp bm : Int), i + d = n → -1 ≤ bp → bp < 6 → 0 ≤ bm → bm ≤ 100000000 → (bp = -1 ↔ bm = 100000000) → (∀ bp' bm', (bp', bm') = mtF A B d i bp bm → (bp' = -1 ↔ bm' = 100000000) → B_X7_meet_203 post x3 (iI (if bp' = -1 then -1 else bm')) (iI bp') S) → L_X7_meet_119 post (d + 1) x3 (iI (if bp = -1 then -1 else bm)) (iI bp) (iI i) S := by
  obtain ⟨hn, hA⟩ := hA
  obtain ⟨_, hB⟩ := hB
  intro d
  induction d with
  | zero =>
    intro i bp bm hi p1 p2 m1 m2 hpm h
    show BD_X7_meet_119 (L_X7_meet_119 post 0) post _ _ _ _ _
    unfold BD_X7_meet_119
    rw [h00, iI_le (by omega) (by omega) (by omega) (by omega)]
    exact ⟨fun _ => h bp bm rfl hpm, fun e => absurd (by omega) e⟩
  | succ d ih =>
    intro i bp bm hi p1 p2 m1 m2 hpm h
    show BD_X7_meet_119 (L_X7_meet_119 post (d + 1)) post _ _ _ _ _
    unfold BD_X7_meet_119
    have ei : iI (i : Int) + 1 = iI ((i + 1 : Nat) : Int) := by rw [show (1 : Int32) = iI 1 from rfl, iI_add]; rfl
    have xi : ix (iI (i : Int)) = i := by rw [iI_ix (by omega) (by omega)]; simp
    have ii : vp_in (iI (i : Int)) 6 := (iI_in (by omega) (by omega)).mpr ⟨by omega, by omega⟩
    obtain ⟨a1, a2⟩ := hA i (by omega)
    obtain ⟨c1, c2⟩ := hB i (by omega)
    obtain ⟨ea1, ea2, ea3, ea4⟩ := enc_b a1 a2
    obtain ⟨eb1, eb2, eb3, eb4⟩ := enc_b c1 c2
    obtain ⟨m, hm⟩ : ∃ m : Int, m = (if A i ≤ B i then B i else A i) := ⟨_, rfl⟩
    have hmb : 0 ≤ m ∧ m ≤ 100000000 ∧ A i ≤ m ∧ B i ≤ m ∧ (m = A i ∨ m = B i) := by rw [hm]; split <;> omega
    have keep : bm ≤ m → L_X7_meet_119 post (d + 1) x3 (iI (if bp = -1 then -1 else bm)) (iI bp) (iI ((i + 1 : Nat) : Int)) S := by
      intro hle
      refine ih (i + 1) bp bm (by omega) p1 p2 m1 m2 hpm ?_
      intro bp' bm' e' hpm'
      refine h bp' bm' ?_ hpm'
      unfold mtF
      rw [← hm, if_pos hle]
      exact e'
    have take : ¬ bm ≤ m → L_X7_meet_119 post (d + 1) x3 (iI m) (iI (i : Int)) (iI ((i + 1 : Nat) : Int)) S := by
      intro hle
      have hh := ih (i + 1) (i : Int) m (by omega) (by omega) (by omega) hmb.1 hmb.2.1 (by omega) (by
        intro bp' bm' e' hpm'
        refine h bp' bm' ?_ hpm'
        unfold mtF
        rw [← hm, if_neg hle]
        exact e')
      rw [if_neg (by omega)] at hh
      exact hh
    rw [h00, iI_le (by omega) (by omega) (by omega) (by omega), ei, xi]
    refine ⟨fun e => absurd e (by omega), fun _ => ?_⟩
    refine hat _ i (by omega) ⟨ii, ?_⟩
    have e1 : (-1 : Int32) = iI (-1) := by decide
    have k1 : iI (enc (A i)) = -1 ↔ A i = 100000000 := by rw [e1, iI_eq (by omega) (by omega) (by omega) (by omega)]; exact ea3
    have k2 : iI (enc (B i)) = -1 ↔ B i = 100000000 := by rw [e1, iI_eq (by omega) (by omega) (by omega) (by omega)]; exact eb3
    have k3 : iI bp = -1 ↔ bp = -1 := by rw [e1, iI_eq (by omega) (by omega) (by omega) (by omega)]
    rw [h47 i (by omega), k1, k2, k3]
    refine ⟨fun q => keep (by omega), fun qa => ⟨fun qb => ⟨ii, fun v6 e6 => ?_⟩, fun q => keep (by omega)⟩⟩
    have e6 : v6 = iI m := by
      rw [e6, ea4 qa, eb4 qb, hm]
      by_cases hab : A i < B i
      · rw [if_pos ((iI_lt (by omega) (by omega) (by omega) (by omega)).mpr hab), if_pos (by omega)]
      · rw [if_neg (fun e => hab ((iI_lt (by omega) (by omega) (by omega) (by omega)).mp e))]
        by_cases hab2 : A i ≤ B i
        · rw [if_pos hab2]; congr 1; omega
        · rw [if_neg hab2]
    subst e6
    refine ⟨fun hb => take (by omega), fun hb => ?_⟩
    rw [if_neg hb, iI_le (by omega) (by omega) (by omega) (by omega)]
    refine ⟨fun q => ?_, fun q => take q⟩
    have := keep q
    rw [if_neg hb] at this
    exact this
