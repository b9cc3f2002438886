/-! guard: the reference's rounds -/
theorem s_guard_72 {v : Vw} {n r : Nat} {x1 x2 : Int32} {S : St} {k63 : Int32 → Int32 → Int32 → St → Prop} {post : Int32 → St → Prop} (hd : Rg v n r S) (h : ∀ T, (∀ c k, c ≠ 90 → c ≠ 91 → T c k = S c k) → VA v n (r + 1) (zz T 90) → k63 x1 x2 (iI r + 1) T) : B_X8_guard_72 k63 post x1 x2 (iI r) 0 S := by
  obtain ⟨hL, hn, h73, h11, h10, hr, hV⟩ := id hd
  obtain ⟨b0, b0', b1, b1', b2, b2', _⟩ := id hL.1
  have copy : ∀ (T0 : St), (∀ c k, c ≠ 91 → T0 c k = S c k) → VA v n (r + 1) (zz T0 91) → B_X8_guard_155 k63 post x1 x2 (iI r) 0 T0 := by
    intro T0 o0 hV0
    have key : ∀ (d i : Nat) (T : St), i + d = 36 → (∀ c k, c ≠ 90 → T c k = T0 c k) → (∀ j, j < i → T 90 j = T0 91 j) → L_X8_guard_155 k63 post (d + 1) x1 x2 (iI r) (iI i) T := by
      intro d
      induction d with
      | zero =>
        intro i T hi oT hj
        show BD_X8_guard_155 k63 (L_X8_guard_155 k63 post 0) post _ _ _ _ _
        unfold BD_X8_guard_155
        have h36 : (36 : Int32) ≤ iI (i : Int) ↔ (36 : Int) ≤ i := by
          rw [show (36 : Int32) = iI 36 from rfl]
          exact iI_le (by omega) (by omega) (by omega) (by omega)
        rw [h36]
        refine ⟨fun _ => h T (fun c k a1 a2 => by rw [oT c k a1, o0 c k a2]) (fun t g ht hg => ?_), fun e => absurd (by omega) e⟩
        have := hV0 t g ht hg
        have e : zz T 90 (6 * t + g) = zz T0 91 (6 * t + g) := by unfold zz; rw [hj _ (by omega)]
        rw [e]
        exact this
      | succ d ih =>
        intro i T hi oT hj
        show BD_X8_guard_155 k63 (L_X8_guard_155 k63 post (d + 1)) post _ _ _ _ _
        unfold BD_X8_guard_155
        have h36 : (36 : Int32) ≤ iI (i : Int) ↔ (36 : Int) ≤ i := by
          rw [show (36 : Int32) = iI 36 from rfl]
          exact iI_le (by omega) (by omega) (by omega) (by omega)
        have ei : iI (i : Int) + 1 = iI ((i + 1 : Nat) : Int) := by rw [show (1 : Int32) = iI 1 from rfl, iI_add]; rfl
        have xi : ix (iI (i : Int)) = i := by rw [iI_ix (by omega) (by omega)]; simp
        have ii : vp_in (iI (i : Int)) 36 := (iI_in (by omega) (by omega)).mpr ⟨by omega, by omega⟩
        rw [h36, ei, xi]
        refine ⟨fun e => absurd e (by omega), fun _ => ⟨ii, ii, fun S2 e2 => ?_⟩⟩
        refine ih (i + 1) S2 (by omega) (fun c k a1 => by rw [e2, up_ne _ _ (by omega), oT c k a1]) (fun j hj2 => ?_)
        by_cases e : j = i
        · rw [e, e2, up_at, oT _ _ (by omega)]
        · rw [e2, up_ne _ _ (by omega), hj j (by omega)]
    have := key 36 0 T0 (by omega) (fun _ _ _ => rfl) (fun j hj => absurd hj (by omega))
    exact ⟨36 + 1, this⟩
  have key : ∀ (d i : Nat) (T : St), i + d = 36 → (∀ c k, c ≠ 91 → T c k = S c k) → (∀ j, j < i → j / 6 < n → j % 6 < n → VS v n (r + 1) (j / 6) (j % 6) (zz T 91 j)) → L_X8_guard_72 k63 post (d + 1) x1 x2 (iI r) (iI i) T := by
    intro d
    induction d with
    | zero =>
      intro i T hi oT hj
      show BD_X8_guard_72 k63 (L_X8_guard_72 k63 post 0) post _ _ _ _ _
      unfold BD_X8_guard_72
      have h36 : (36 : Int32) ≤ iI (i : Int) ↔ (36 : Int) ≤ i := by
        rw [show (36 : Int32) = iI 36 from rfl]
        exact iI_le (by omega) (by omega) (by omega) (by omega)
      rw [h36]
      refine ⟨fun _ => copy T oT (fun t g ht hg => ?_), fun e => absurd (by omega) e⟩
      have := hj (6 * t + g) (by omega) (by omega) (by omega)
      rw [show (6 * t + g) / 6 = t from by omega, show (6 * t + g) % 6 = g from by omega] at this
      exact this
    | succ d ih =>
      intro i T hi oT hj
      show BD_X8_guard_72 k63 (L_X8_guard_72 k63 post (d + 1)) post _ _ _ _ _
      unfold BD_X8_guard_72
      have h36 : (36 : Int32) ≤ iI (i : Int) ↔ (36 : Int) ≤ i := by
        rw [show (36 : Int32) = iI 36 from rfl]
        exact iI_le (by omega) (by omega) (by omega) (by omega)
      have ei : iI (i : Int) + 1 = iI ((i + 1 : Nat) : Int) := by rw [show (1 : Int32) = iI 1 from rfl, iI_add]; rfl
      have xi : ix (iI (i : Int)) = i := by rw [iI_ix (by omega) (by omega)]; simp
      have ii : vp_in (iI (i : Int)) 36 := (iI_in (by omega) (by omega)).mpr ⟨by omega, by omega⟩
      have e6 : iI (i : Int) / 6 = iI ((i / 6 : Nat) : Int) := by rw [show (6 : Int32) = iI 6 from rfl, iI_div (by omega) (by omega) (by omega) (by omega)]; rfl
      have e6' : iI (i : Int) - iI ((i / 6 : Nat) : Int) * 6 = iI ((i % 6 : Nat) : Int) := by
        rw [show (6 : Int32) = iI 6 from rfl, iI_mul, iI_sub]
        congr 1
        omega
      have next : ∀ (T2 : St) (y : Int32), T2 = up T 91 i y → (i / 6 < n → i % 6 < n → VS v n (r + 1) (i / 6) (i % 6) (y.toInt)) → L_X8_guard_72 k63 post (d + 1) x1 x2 (iI r) (iI ((i + 1 : Nat) : Int)) T2 := by
        intro T2 y e2 hy
        refine ih (i + 1) T2 (by omega) (fun c k a1 => by rw [e2, up_ne _ _ (by omega), oT c k a1]) (fun j hj2 q1 q2 => ?_)
        by_cases e : j = i
        · subst e
          have : zz T2 91 j = y.toInt := by unfold zz; rw [e2, up_at]
          rw [this]
          exact hy q1 q2
        · have : zz T2 91 j = zz T 91 j := by unfold zz; rw [e2, up_ne _ _ (by omega)]
          rw [this]
          exact hj j (by omega) q1 q2
      have skip : ¬ (i / 6 < n ∧ i % 6 < n) → B_X8_guard_108 k63 (L_X8_guard_72 k63 post (d + 1)) post x1 x2 (iI r) (iI i) 0 T := by
        intro hno
        unfold B_X8_guard_108
        rw [xi, ei]
        exact ⟨fun _ => ⟨ii, ii, fun S2 e2 => next S2 _ e2 (fun q1 q2 => absurd ⟨q1, q2⟩ hno)⟩, fun e => absurd rfl e⟩
      have e10 : T 71 10 = iI (n : Int) := by rw [oT _ _ (by omega), h10]
      rw [h36, e10, e6, e6', iI_le (by omega) (by omega) (by omega) (by omega), iI_le (by omega) (by omega) (by omega) (by omega)]
      refine ⟨fun e => absurd e (by omega), fun _ => ⟨fun q => skip (by omega), fun q => ⟨fun q2 => skip (by omega), fun q2 => ?_⟩⟩⟩
      unfold B_X8_guard_108
      refine ⟨fun e => absurd e (by decide), fun _ => ?_⟩
      rw [e6, e6', xi, ei]
      have hdT : Rg v n r T := by
        refine ⟨hL, hn, fun r' hr' => ?_, by rw [oT _ _ (by omega)]; exact h11, e10, hr, ?_⟩
        · have := h73 r' hr'
          unfold zz at this ⊢
          rw [oT _ _ (by omega), oT _ _ (by omega)]
          exact this
        · have : zz T 90 = zz S 90 := by funext k; unfold zz; rw [oT _ _ (by omega)]
          rw [this]; exact hV
      refine s_X8_fled hdT (by omega) (by omega) ?_
      intro x hx
      refine ⟨ii, fun S6 e6s => next S6 _ e6s (fun _ _ => ?_)⟩
      have xb := hx.1
      rw [iI_toInt (by omega) (by omega)]
      exact hx
  have := key 36 0 S (by omega) (fun _ _ _ => rfl) (fun j hj => absurd hj (by omega))
  exact ⟨36 + 1, this⟩
theorem s_guard_63 {v : Vw} {n t g : Nat} {S : St} {post : Int32 → St → Prop} (hL : Lb v) (hn : v 0 0 = (n : Int)) (h73 : ∀ r : Nat, (r : Int) < v 0 1 → zz S 73 (3 * r) = v 1 r ∧ zz S 73 (3 * r + 1) = v 2 r) (h11 : S 71 11 = iI (v 0 1)) (h10 : S 71 10 = iI (n : Int)) (ht : t < n) (hg : g < n) (h : ∀ T x, (∀ c k, c ≠ 90 → c ≠ 91 → T c k = S c k) → VS v n 40 t g x → post (iI (if x = 100000000 then -1 else x)) T) : ∀ (d r : Nat) (T : St), r + d = 40 → (∀ c k, c ≠ 90 → c ≠ 91 → T c k = S c k) → VA v n r (zz T 90) → L_X8_guard_63 post (d + 1) (iI t) (iI g) (iI r) T := by
  obtain ⟨b0, b0', b1, b1', b2, b2', _⟩ := id hL.1
  intro d
  induction d with
  | zero =>
    intro r T hr oT hV
    show BD_X8_guard_63 (L_X8_guard_63 post 0) post _ _ _ _
    unfold BD_X8_guard_63
    rw [show (40 : Int32) = iI 40 from rfl, iI_le (by omega) (by omega) (by omega) (by omega)]
    refine ⟨fun _ => ?_, fun e => absurd (by omega) e⟩
    unfold B_X8_guard_188
    have ej : (6 : Int32) * iI (t : Int) + iI (g : Int) = iI ((6 * t + g : Nat) : Int) := by
      rw [show (6 : Int32) = iI 6 from rfl, iI_mul, iI_add]
      rfl
    have xj : ix (iI ((6 * t + g : Nat) : Int)) = 6 * t + g := by rw [iI_ix (by omega) (by omega)]; omega
    have ij : vp_in (iI ((6 * t + g : Nat) : Int)) 36 := (iI_in (by omega) (by omega)).mpr ⟨by omega, by omega⟩
    have hx := hV t g ht hg
    have r40 : r = 40 := by omega
    subst r40
    have xb := hx.1
    have hp := h T _ oT hx
    rw [ej, xj, zz_S T 90 (6 * t + g)]
    refine ⟨ij, fun v1 e1 => ?_⟩
    unfold wp_X8_told_
    rw [e1, show (100000000 : Int32) = iI 100000000 from rfl, iI_le (by omega) (by omega) (by omega) (by omega)]
    refine ⟨fun q => ⟨fun _ => ?_, fun e => absurd rfl e⟩, fun q => ⟨fun e => absurd e (by decide), fun _ => ?_⟩⟩
    · rw [if_pos (by omega)] at hp; exact hp
    · rw [if_neg (by omega)] at hp; exact hp
  | succ d ih =>
    intro r T hr oT hV
    show BD_X8_guard_63 (L_X8_guard_63 post (d + 1)) post _ _ _ _
    unfold BD_X8_guard_63
    have er : iI (r : Int) + 1 = iI ((r + 1 : Nat) : Int) := by rw [show (1 : Int32) = iI 1 from rfl, iI_add]; rfl
    rw [show (40 : Int32) = iI 40 from rfl, iI_le (by omega) (by omega) (by omega) (by omega)]
    refine ⟨fun e => absurd e (by omega), fun _ => ?_⟩
    refine s_guard_72 (v := v) (n := n) ⟨hL, hn, fun r' hr' => ?_, by rw [oT _ _ (by omega) (by omega)]; exact h11, by rw [oT _ _ (by omega) (by omega)]; exact h10, by omega, hV⟩ ?_
    · have := h73 r' hr'
      unfold zz at this ⊢
      rw [oT _ _ (by omega) (by omega), oT _ _ (by omega) (by omega)]
      exact this
    · intro T2 o2 hV2
      rw [er]
      exact ih (r + 1) T2 (by omega) (fun c k a1 a2 => by rw [o2 c k a1 a2, oT c k a1 a2]) hV2
theorem s_guard_26 {v : Vw} {n t g : Nat} {S : St} {post : Int32 → St → Prop} (hL : Lb v) (hn : v 0 0 = (n : Int)) (h73 : ∀ r : Nat, (r : Int) < v 0 1 → zz S 73 (3 * r) = v 1 r ∧ zz S 73 (3 * r + 1) = v 2 r) (h11 : S 71 11 = iI (v 0 1)) (h10 : S 71 10 = iI (n : Int)) (ht : t < n) (hg : g < n) (h : ∀ T x, (∀ c k, c ≠ 90 → c ≠ 91 → T c k = S c k) → VS v n 40 t g x → post (iI (if x = 100000000 then -1 else x)) T) : B_X8_guard_26 post (iI t) (iI g) 0 S := by
  obtain ⟨b0, b0', b1, b1', b2, b2', _⟩ := id hL.1
  have key : ∀ (d i : Nat) (T : St), i + d = 36 → (∀ c k, c ≠ 90 → T c k = S c k) → (∀ j, j < i → zz T 90 j = if j / 6 = j % 6 then 0 else 100000000) → L_X8_guard_26 post (d + 1) (iI t) (iI g) (iI i) T := by
    intro d
    induction d with
    | zero =>
      intro i T hi oT hj
      show BD_X8_guard_26 (L_X8_guard_26 post 0) post _ _ _ _
      unfold BD_X8_guard_26
      have h36 : (36 : Int32) ≤ iI (i : Int) ↔ (36 : Int) ≤ i := by
        rw [show (36 : Int32) = iI 36 from rfl]
        exact iI_le (by omega) (by omega) (by omega) (by omega)
      rw [h36]
      refine ⟨fun _ => ⟨40 + 1, ?_⟩, fun e => absurd (by omega) e⟩
      have := s_guard_63 hL hn h73 h11 h10 ht hg h 40 0 T (by omega) (fun c k a1 _ => oT c k a1) (fun t' g' ht' hg' => by
        rw [hj _ (by omega), show (6 * t' + g') / 6 = t' from by omega, show (6 * t' + g') % 6 = g' from by omega]
        refine ⟨by split <;> omega, fun k hk => ?_⟩
        have k0 : k = 0 := by omega
        subst k0
        show _ ↔ t' = g'
        by_cases e : t' = g'
        · rw [if_pos e]; exact ⟨fun _ => e, fun _ => by omega⟩
        · rw [if_neg e]; exact ⟨fun q => absurd q (by omega), fun q => absurd q e⟩)
      exact this
    | succ d ih =>
      intro i T hi oT hj
      show BD_X8_guard_26 (L_X8_guard_26 post (d + 1)) post _ _ _ _
      unfold BD_X8_guard_26
      have h36 : (36 : Int32) ≤ iI (i : Int) ↔ (36 : Int) ≤ i := by
        rw [show (36 : Int32) = iI 36 from rfl]
        exact iI_le (by omega) (by omega) (by omega) (by omega)
      have ei : iI (i : Int) + 1 = iI ((i + 1 : Nat) : Int) := by rw [show (1 : Int32) = iI 1 from rfl, iI_add]; rfl
      have xi : ix (iI (i : Int)) = i := by rw [iI_ix (by omega) (by omega)]; simp
      have ii : vp_in (iI (i : Int)) 36 := (iI_in (by omega) (by omega)).mpr ⟨by omega, by omega⟩
      have e6 : iI (i : Int) / 6 = iI ((i / 6 : Nat) : Int) := by rw [show (6 : Int32) = iI 6 from rfl, iI_div (by omega) (by omega) (by omega) (by omega)]; rfl
      have e6' : iI (i : Int) - iI ((i / 6 : Nat) : Int) * 6 = iI ((i % 6 : Nat) : Int) := by
        rw [show (6 : Int32) = iI 6 from rfl, iI_mul, iI_sub]
        congr 1
        omega
      have next : ∀ (T2 : St) (y : Int), T2 = up T 90 i (iI y) → (y = if i / 6 = i % 6 then 0 else 100000000) → L_X8_guard_26 post (d + 1) (iI t) (iI g) (iI ((i + 1 : Nat) : Int)) T2 := by
        intro T2 y e2 hy
        have yb : 0 ≤ y ∧ y ≤ 100000000 := by rw [hy]; split <;> omega
        refine ih (i + 1) T2 (by omega) (fun c k a1 => by rw [e2, up_ne _ _ (by omega), oT c k a1]) (fun j hj2 => ?_)
        by_cases e : j = i
        · subst e
          rw [← hy]
          exact zz_iI (by rw [e2, up_at]) (by omega) (by omega)
        · rw [← hj j (by omega)]
          unfold zz; rw [e2, up_ne _ _ (by omega)]
      rw [h36, ei, xi, e6, e6', iI_eq (by omega) (by omega) (by omega) (by omega)]
      refine ⟨fun e => absurd e (by omega), fun _ => ⟨fun hne => ⟨ii, fun S3 e3 => next S3 100000000 e3 (by rw [if_neg (by omega)])⟩, fun heq => ⟨ii, fun S5 e5 => next S5 0 e5 (by rw [if_pos (by omega)])⟩⟩⟩
  have := key 36 0 S (by omega) (fun _ _ _ => rfl) (fun j hj => absurd hj (by omega))
  exact ⟨36 + 1, this⟩
/-! sets of places as bits -/
theorem tbit : ∀ x : Fin 64, ∀ b : Fin 6, bt (x.val : Int) (b.val : Int) = 1 ↔ Nat.testBit x.val b.val = true := by decide +kernel
theorem and_and' : ∀ x y : Fin 64, iI (x.val : Int) &&& iI (y.val : Int) = iI ((x.val &&& y.val : Nat) : Int) ∧ (x.val &&& y.val) < 64 := by decide +kernel
theorem shl_bit : ∀ b : Fin 6, ((1 : Int32) <<< (iI (b.val : Int) &&& 31)) = iI ((2 ^ b.val : Nat) : Int) ∧ 2 ^ b.val < 64 ∧ ∀ c : Fin 6, Nat.testBit (2 ^ b.val) c.val = true ↔ c.val = b.val := by decide +kernel
theorem all_bit : ∀ n : Fin 7, 2 ^ n.val - 1 < 64 ∧ ∀ c : Fin 6, Nat.testBit (2 ^ n.val - 1) c.val = true ↔ c.val < n.val := by decide +kernel
theorem zero_bit : ∀ x : Fin 64, x.val = 0 ↔ ∀ c : Fin 6, ¬ Nat.testBit x.val c.val = true := by decide +kernel
def BS (x : Int32) (Q : Nat → Prop) : Prop := ∃ X : Nat, x = iI (X : Int) ∧ X < 64 ∧ ∀ b, b < 6 → (X.testBit b = true ↔ Q b)
theorem BS_congr {x : Int32} {Q R : Nat → Prop} (h : BS x Q) (hq : ∀ b, b < 6 → (Q b ↔ R b)) : BS x R := by
  obtain ⟨X, h1, h2, h3⟩ := h
  exact ⟨X, h1, h2, fun b hb => (h3 b hb).trans (hq b hb)⟩
theorem BS_bit {x : Int32} {Q : Nat → Prop} {b : Nat} (h : BS x Q) (hb : b < 6) : (x >>> (iI (b : Int) &&& 31)) &&& 1 = 1 ↔ Q b := by
  obtain ⟨X, h1, h2, h3⟩ := h
  have := tbit ⟨X, h2⟩ ⟨b, hb⟩
  have b01 := bt_01 (X : Int) (b : Int)
  rw [h1, bit_get (by omega) (by omega) (by omega) (by omega), show (1 : Int32) = iI 1 from rfl, iI_eq (by omega) (by omega) (by omega) (by omega), ← h3 b hb]
  exact this
theorem BS_or {x y : Int32} {Q R : Nat → Prop} (h : BS x Q) (h' : BS y R) : BS (x ||| y) (fun b => Q b ∨ R b) := by
  obtain ⟨X, h1, h2, h3⟩ := h
  obtain ⟨Y, k1, k2, k3⟩ := h'
  have a := set_or ⟨X, h2⟩ ⟨Y, k2⟩
  have a2 := or_le ⟨X, h2⟩ ⟨Y, k2⟩
  refine ⟨X ||| Y, by rw [h1, k1]; exact a, a2.2, fun b hb => ?_⟩
  rw [Nat.testBit_or, Bool.or_eq_true, h3 b hb, k3 b hb]
theorem BS_and {x y : Int32} {Q R : Nat → Prop} (h : BS x Q) (h' : BS y R) : BS (x &&& y) (fun b => Q b ∧ R b) := by
  obtain ⟨X, h1, h2, h3⟩ := h
  obtain ⟨Y, k1, k2, k3⟩ := h'
  have a := and_and' ⟨X, h2⟩ ⟨Y, k2⟩
  refine ⟨X &&& Y, by rw [h1, k1]; exact a.1, a.2, fun b hb => ?_⟩
  rw [Nat.testBit_and, Bool.and_eq_true, h3 b hb, k3 b hb]
theorem BS_1 {a : Nat} (ha : a < 6) : BS ((1 : Int32) <<< (iI (a : Int) &&& 31)) (fun b => b = a) := by
  have := shl_bit ⟨a, ha⟩
  exact ⟨2 ^ a, this.1, this.2.1, fun b hb => this.2.2 ⟨b, hb⟩⟩
theorem BS_0 : BS 0 (fun _ => False) := ⟨0, rfl, by omega, fun b _ => by rw [Nat.zero_testBit]; exact ⟨fun q => absurd q (by decide), fun q => absurd q id⟩⟩
theorem BS_all {n : Nat} (hn : n ≤ 6) : BS (((1 : Int32) <<< (iI (n : Int) &&& 31)) - 1) (fun b => b < n) := by
  have := all_bit ⟨n, by omega⟩
  have s := shl_n ⟨n, by omega⟩
  have p := pow_b ⟨n, by omega⟩
  have s : ((1 : Int32) <<< (iI (n : Int) &&& 31)) = iI ((2 ^ n : Nat) : Int) := s
  have p : 1 ≤ 2 ^ n ∧ 2 ^ n ≤ 64 := p
  refine ⟨2 ^ n - 1, ?_, this.1, fun b hb => this.2 ⟨b, hb⟩⟩
  rw [s, show (1 : Int32) = iI 1 from rfl, iI_sub]
  congr 1
  omega
theorem BS_zero {x : Int32} {Q : Nat → Prop} (h : BS x Q) : x = 0 ↔ ∀ b, b < 6 → ¬ Q b := by
  obtain ⟨X, h1, h2, h3⟩ := h
  have := zero_bit ⟨X, h2⟩
  rw [h1, show (0 : Int32) = iI 0 from rfl, iI_eq (by omega) (by omega) (by omega) (by omega)]
  refine ⟨fun e b hb => ?_, fun e => ?_⟩
  · rw [← h3 b hb]
    exact this.mp (show X = 0 by omega) ⟨b, hb⟩
  · have := this.mpr (fun c => by
      have := e c.val c.isLt
      rw [← h3 c.val c.isLt] at this
      exact this)
    have : X = 0 := this
    omega
