/-! guard: who is caught in how many turns -/
def Nr (v : Vw) (a b : Nat) : Prop := a = b ∨ ∃ r : Nat, (r : Int) < v 0 1 ∧ oth v r (a : Int) = (b : Int)
def Cgt (v : Vw) (n : Nat) : Nat → Nat → Nat → Prop
  | 0, t, g => t = g
  | k + 1, t, g => Cgt v n k t g ∨ ∀ to, to < n → Nr v t to → ∃ go, go < n ∧ Nr v g go ∧ Cgt v n k to go
def Hgt (v : Vw) (n k to g : Nat) : Prop := ∃ go, go < n ∧ Nr v g go ∧ Cgt v n k to go
def Fgt (v : Vw) (n k t g : Nat) : Prop := ∀ to, to < n → Nr v t to → Hgt v n k to g
theorem Cgt_s {v : Vw} {n k t g : Nat} : Cgt v n (k + 1) t g ↔ Cgt v n k t g ∨ Fgt v n k t g := Iff.rfl
theorem Cgt_up {v : Vw} {n k t g : Nat} (h : Cgt v n k t g) : Cgt v n (k + 1) t g := Or.inl h
theorem Cgt_le {v : Vw} {n t g : Nat} : ∀ d k, Cgt v n k t g → Cgt v n (k + d) t g := by
  intro d
  induction d with
  | zero => intro k h; exact h
  | succ d ih => intro k h; exact Cgt_up (ih k h)
theorem Hgt_up {v : Vw} {n k to g : Nat} (h : Hgt v n k to g) : Hgt v n (k + 1) to g := by
  obtain ⟨go, h1, h2, h3⟩ := h
  exact ⟨go, h1, h2, Cgt_up h3⟩
theorem Fgt_up {v : Vw} {n k t g : Nat} (h : Fgt v n k t g) : Fgt v n (k + 1) t g := fun to h1 h2 => Hgt_up (h to h1 h2)
theorem Cgt_F {v : Vw} {n t g : Nat} (hne : t ≠ g) : ∀ k, Cgt v n (k + 1) t g ↔ Fgt v n k t g := by
  intro k
  induction k with
  | zero =>
    rw [Cgt_s]
    exact ⟨fun h => h.elim (fun q => absurd q hne) id, fun h => Or.inr h⟩
  | succ k ih =>
    rw [Cgt_s]
    exact ⟨fun h => h.elim (fun q => Fgt_up (ih.mp q)) id, fun h => Or.inr h⟩
theorem Cgt_self {v : Vw} {n t : Nat} : ∀ k, Cgt v n k t t := by
  intro k
  induction k with
  | zero => exact rfl
  | succ k ih => exact Or.inl ih
/-- of n places no more than 36 pairs come on -/
theorem cn_lt2 {f g : Nat → Int} : ∀ n, (∀ j, j < n → f j ≠ 0 → g j ≠ 0) → cn f n ≤ cn g n ∧ ∀ i, i < n → f i = 0 → g i ≠ 0 → cn f n < cn g n := by
  intro n
  induction n with
  | zero => intro _; exact ⟨Nat.le_refl _, fun i hi => absurd hi (by omega)⟩
  | succ n ih =>
    intro h
    obtain ⟨h1, h2⟩ := ih (fun j hj => h j (by omega))
    have hn := h n (by omega)
    refine ⟨?_, fun i hi q1 q2 => ?_⟩
    · unfold cn
      by_cases e : f n = 0
      · rw [if_pos e]; split <;> omega
      · rw [if_neg e, if_neg (hn e)]; omega
    · unfold cn
      by_cases e : i = n
      · subst e
        rw [if_pos q1, if_neg q2]; omega
      · have := h2 i (by omega) q1 q2
        by_cases e2 : f n = 0
        · rw [if_pos e2]; split <;> omega
        · rw [if_neg e2, if_neg (hn e2)]; omega
theorem Cgt_stable {v : Vw} {n : Nat} (hn : n ≤ 6) : ∃ k0, k0 ≤ 36 ∧ ∀ t g, t < n → g < n → Cgt v n (k0 + 1) t g → Cgt v n k0 t g := by
  apply Classical.byContradiction
  intro hno
  have hno : ∀ k0, k0 ≤ 36 → ∃ t g, t < n ∧ g < n ∧ Cgt v n (k0 + 1) t g ∧ ¬ Cgt v n k0 t g := by
    intro k0 hk
    apply Classical.byContradiction
    intro q
    exact hno ⟨k0, hk, fun t g ht hg hc => Classical.byContradiction (fun q2 => q ⟨t, g, ht, hg, hc, q2⟩)⟩
  have ex : ∀ k : Nat, ∃ f : Nat → Int, ∀ j, (Cgt v n k (j / 6) (j % 6) → f j = 1) ∧ (¬ Cgt v n k (j / 6) (j % 6) → f j = 0) := by
    intro k
    have e1 : ∀ j : Nat, ∃ x : Int, (Cgt v n k (j / 6) (j % 6) → x = 1) ∧ (¬ Cgt v n k (j / 6) (j % 6) → x = 0) := by
      intro j
      by_cases q : Cgt v n k (j / 6) (j % 6)
      · exact ⟨1, fun _ => rfl, fun q' => absurd q q'⟩
      · exact ⟨0, fun q' => absurd q' q, fun _ => rfl⟩
    exact Classical.axiomOfChoice e1
  obtain ⟨F, hF⟩ := Classical.axiomOfChoice ex
  have grow : ∀ k, k ≤ 37 → k ≤ cn (F k) 36 := by
    intro k
    induction k with
    | zero => intro _; omega
    | succ k ih =>
      intro hk
      have h1 := ih (by omega)
      obtain ⟨t, g, ht, hg, hc, hnc⟩ := hno k (by omega)
      have := (cn_lt2 (f := F k) (g := F (k + 1)) 36 (fun j _ hf => by
        by_cases q : Cgt v n k (j / 6) (j % 6)
        · rw [(hF (k + 1) j).1 (Cgt_up q)]; omega
        · exact absurd ((hF k j).2 q) hf)).2 (6 * t + g) (by omega) ((hF k (6 * t + g)).2 (by
        rw [show (6 * t + g) / 6 = t from by omega, show (6 * t + g) % 6 = g from by omega]
        exact hnc)) (by
        rw [(hF (k + 1) (6 * t + g)).1 (by
          rw [show (6 * t + g) / 6 = t from by omega, show (6 * t + g) % 6 = g from by omega]
          exact hc)]
        omega)
      omega
  have h1 := grow 37 (by omega)
  have h2 := cn_le (F 37) 36
  omega
theorem Cgt_36 {v : Vw} {n t g : Nat} (hn : n ≤ 6) (ht : t < n) (hg : g < n) (h : Cgt v n 40 t g) : Cgt v n 36 t g := by
  obtain ⟨k0, hk, hs⟩ := Cgt_stable (v := v) hn
  have back : ∀ d t g, t < n → g < n → Cgt v n (k0 + d) t g → Cgt v n k0 t g := by
    intro d
    induction d with
    | zero => intro t g _ _ h; exact h
    | succ d ih =>
      intro t g ht hg h
      rcases h with h | h
      · exact ih t g ht hg h
      · refine hs t g ht hg (Or.inr (fun to h1 h2 => ?_))
        obtain ⟨go, q1, q2, q3⟩ := h to h1 h2
        exact ⟨go, q1, q2, ih to go h1 q1 q3⟩
  have h0 := back (40 - k0) t g ht hg (by rw [show k0 + (40 - k0) = 40 from by omega]; exact h)
  have := Cgt_le (36 - k0) k0 h0
  rw [show k0 + (36 - k0) = 36 from by omega] at this
  exact this
/-! the reference's values -/
def VS (v : Vw) (n r t g : Nat) (x : Int) : Prop := (x = 100000000 ∨ (0 ≤ x ∧ x ≤ r)) ∧ ∀ k : Nat, k ≤ r → (x ≤ k ↔ Cgt v n k t g)
def VA (v : Vw) (n r : Nat) (f : Nat → Int) : Prop := ∀ t g, t < n → g < n → VS v n r t g (f (6 * t + g))
theorem s_X8_isNear {v : Vw} {a b : Nat} {S : St} {post : Int32 → St → Prop} (hL : Lb v) (h73 : ∀ r : Nat, (r : Int) < v 0 1 → zz S 73 (3 * r) = v 1 r ∧ zz S 73 (3 * r + 1) = v 2 r) (h11 : S 71 11 = iI (v 0 1)) (ha : a < 6) (hb : b < 6) (h1 : Nr v a b → post 1 S) (h0 : ¬ Nr v a b → post 0 S) : wp_X8_isNear (iI a) (iI b) S post := by
  obtain ⟨b0, b0', b1, b1', b2, b2', _⟩ := id hL.1
  have key : ∀ (d r : Nat) (x : Int32), (r : Int) + d = v 0 1 → (x = 1 ∧ Nr v a b) ∨ (x = 0 ∧ a ≠ b ∧ ∀ r' : Nat, r' < r → oth v r' (a : Int) ≠ (b : Int)) → L_X8_isNear_14 post (d + 1) (iI a) (iI b) x (iI r) S := by
    intro d
    induction d with
    | zero =>
      intro r x hr hx
      show BD_X8_isNear_14 (L_X8_isNear_14 post 0) post _ _ _ _ _
      unfold BD_X8_isNear_14
      rw [h11, iI_le (by omega) (by omega) (by omega) (by omega)]
      refine ⟨fun _ => ?_, fun e => absurd (by omega) e⟩
      rcases hx with ⟨rfl, q⟩ | ⟨rfl, q1, q2⟩
      · exact ⟨Or.inr rfl, h1 q⟩
      · refine ⟨Or.inl rfl, h0 (fun q => ?_)⟩
        rcases q with q | ⟨r', q, q'⟩
        · exact q1 q
        · exact q2 r' (by omega) q'
    | succ d ih =>
      intro r x hr hx
      show BD_X8_isNear_14 (L_X8_isNear_14 post (d + 1)) post _ _ _ _ _
      unfold BD_X8_isNear_14
      have er : iI (r : Int) + 1 = iI ((r + 1 : Nat) : Int) := by rw [show (1 : Int32) = iI 1 from rfl, iI_add]; rfl
      have hrv : (r : Int) < v 0 1 := by omega
      rw [h11, iI_le (by omega) (by omega) (by omega) (by omega), er]
      refine ⟨fun e => absurd e (by omega), fun _ => ⟨fun hx1 => ?_, fun hx0 => ?_⟩⟩
      · refine ih (r + 1) 1 (by omega) (Or.inl ⟨rfl, ?_⟩)
        rcases hx with q | q
        · exact q.2
        · exact absurd q.1 hx1
      · have hq : a ≠ b ∧ ∀ r' : Nat, r' < r → oth v r' (a : Int) ≠ (b : Int) := by
          rcases hx with q | q
          · rw [q.1] at hx0; exact absurd hx0 (by decide)
          · exact q.2
        have ob := oth_b (a : Int) (hL.2.1 r hrv) hL.1
        refine s_X8_otherEnd (a0 := 75) (by omega) (by omega) (by omega) ?_
        have eo : oth (mz S 75) r (a : Int) = oth v r (a : Int) := oth_up (h73 r hrv).1 (h73 r hrv).2
        rw [eo, iI_eq (by omega) (by omega) (by omega) (by omega)]
        refine ⟨fun hne => ih (r + 1) 0 (by omega) (Or.inr ⟨rfl, hq.1, fun r' hr' => ?_⟩), fun heq => ih (r + 1) 1 (by omega) (Or.inl ⟨rfl, Or.inr ⟨r, hrv, heq⟩⟩)⟩
        by_cases e : r' = r
        · rw [e]; exact hne
        · exact hq.2 r' (by omega)
  unfold wp_X8_isNear
  rw [iI_eq (by omega) (by omega) (by omega) (by omega)]
  refine ⟨fun hne => ⟨(v 0 1).toNat + 1, ?_⟩, fun heq => ⟨(v 0 1).toNat + 1, ?_⟩⟩
  · have := key (v 0 1).toNat 0 0 (by omega) (Or.inr ⟨rfl, by omega, fun r' hr' => absurd hr' (by omega)⟩)
    exact this
  · have := key (v 0 1).toNat 0 1 (by omega) (Or.inl ⟨rfl, Or.inl (by omega)⟩)
    exact this
/-- what the reference's looking on rests on -/
def Rg (v : Vw) (n r : Nat) (S : St) : Prop := Lb v ∧ v 0 0 = (n : Int) ∧ (∀ r : Nat, (r : Int) < v 0 1 → zz S 73 (3 * r) = v 1 r ∧ zz S 73 (3 * r + 1) = v 2 r) ∧ S 71 11 = iI (v 0 1) ∧ S 71 10 = iI (n : Int) ∧ r ≤ 40 ∧ VA v n r (zz S 90)
def GdS (v : Vw) (n r to g : Nat) (y : Int) : Prop := (y = 100000000 ∨ (0 ≤ y ∧ y ≤ r + 1)) ∧ (to ≠ g → 1 ≤ y) ∧ ∀ k : Nat, k ≤ r → (y ≤ k + 1 ↔ Hgt v n k to g)
theorem s_X8_guarded {v : Vw} {n r to g : Nat} {S : St} {post : Int32 → St → Prop} (hd : Rg v n r S) (hto : to < n) (hg : g < n) (h : ∀ y, GdS v n r to g y → post (iI y) S) : wp_X8_guarded (iI to) (iI g) S post := by
  obtain ⟨hL, hn, h73, h11, h10, hr, hV⟩ := hd
  obtain ⟨b0, b0', b1, b1', b2, b2', _⟩ := id hL.1
  have key : ∀ (d i : Nat) (m : Int), i + d = n → (m = 100000000 ∨ (0 ≤ m ∧ m ≤ r)) → (∀ k : Nat, k ≤ r → (m ≤ k ↔ ∃ go, go < i ∧ Nr v g go ∧ Cgt v n k to go)) → to ≠ g → L_X8_guarded_13 post (d + 1) (iI to) (iI g) (iI m) (iI i) S := by
    intro d
    induction d with
    | zero =>
      intro i m hi hm hk hne
      show BD_X8_guarded_13 (L_X8_guarded_13 post 0) post _ _ _ _ _
      unfold BD_X8_guarded_13
      rw [h10, iI_le (by omega) (by omega) (by omega) (by omega)]
      refine ⟨fun _ => ?_, fun e => absurd (by omega) e⟩
      unfold B_X8_guarded_65
      rw [show (100000000 : Int32) = iI 100000000 from rfl, iI_eq (by omega) (by omega) (by omega) (by omega), show (1 : Int32) = iI 1 from rfl, iI_add]
      refine ⟨fun q => h (m + 1) ⟨Or.inr (by omega), fun _ => by omega, fun k hkr => ?_⟩, fun q => h 100000000 ⟨Or.inl rfl, fun _ => by omega, fun k hkr => ?_⟩⟩
      · have := hk k hkr
        rw [show i = n from by omega] at this
        refine ⟨fun w => this.mp (by omega), fun w => ?_⟩
        have := this.mpr w
        omega
      · have := hk k hkr
        rw [show i = n from by omega] at this
        refine ⟨fun w => absurd w (by omega), fun w => ?_⟩
        have := this.mpr w
        omega
    | succ d ih =>
      intro i m hi hm hk hne
      show BD_X8_guarded_13 (L_X8_guarded_13 post (d + 1)) post _ _ _ _ _
      unfold BD_X8_guarded_13
      have ei : iI (i : Int) + 1 = iI ((i + 1 : Nat) : Int) := by rw [show (1 : Int32) = iI 1 from rfl, iI_add]; rfl
      have ej : (6 : Int32) * iI (to : Int) + iI (i : Int) = iI ((6 * to + i : Nat) : Int) := by
        rw [show (6 : Int32) = iI 6 from rfl, iI_mul, iI_add]
        rfl
      have xj : ix (iI ((6 * to + i : Nat) : Int)) = 6 * to + i := by rw [iI_ix (by omega) (by omega)]; omega
      have ij : vp_in (iI ((6 * to + i : Nat) : Int)) 36 := (iI_in (by omega) (by omega)).mpr ⟨by omega, by omega⟩
      obtain ⟨w1, w2⟩ := hV to i hto (by omega)
      rw [h10, iI_le (by omega) (by omega) (by omega) (by omega), ei, ej, xj, zz_S S 90 (6 * to + i)]
      refine ⟨fun e => absurd e (by omega), fun _ => ⟨ij, fun v2 e2 => ?_⟩⟩
      rw [e2]
      refine s_X8_isNear hL h73 h11 (by omega) (by omega) (fun hnr => ⟨fun e => absurd e (by decide), fun _ => ?_⟩) (fun hnr => ⟨fun _ => ?_, fun e => absurd rfl e⟩)
      · rw [iI_le (by omega) (by omega) (by omega) (by omega)]
        refine ⟨fun hle => ih (i + 1) m (by omega) hm (fun k hkr => ?_) hne, fun hle => ih (i + 1) _ (by omega) w1 (fun k hkr => ?_) hne⟩
        · rw [hk k hkr]
          refine ⟨fun ⟨go, q1, q2, q3⟩ => ⟨go, by omega, q2, q3⟩, fun ⟨go, q1, q2, q3⟩ => ?_⟩
          by_cases e : go = i
          · subst e
            have := (w2 k hkr).mpr q3
            exact (hk k hkr).mp (by omega)
          · exact ⟨go, by omega, q2, q3⟩
        · refine ⟨fun q => ⟨i, by omega, hnr, (w2 k hkr).mp q⟩, fun ⟨go, q1, q2, q3⟩ => ?_⟩
          by_cases e : go = i
          · subst e
            exact (w2 k hkr).mpr q3
          · have := (hk k hkr).mpr ⟨go, by omega, q2, q3⟩
            omega
      · refine ih (i + 1) m (by omega) hm (fun k hkr => ?_) hne
        rw [hk k hkr]
        refine ⟨fun ⟨go, q1, q2, q3⟩ => ⟨go, by omega, q2, q3⟩, fun ⟨go, q1, q2, q3⟩ => ?_⟩
        by_cases e : go = i
        · subst e
          exact absurd q2 hnr
        · exact ⟨go, by omega, q2, q3⟩
  unfold wp_X8_guarded
  rw [iI_eq (by omega) (by omega) (by omega) (by omega)]
  refine ⟨fun hne => ⟨n + 1, ?_⟩, fun heq => ?_⟩
  · have := key n 0 100000000 (by omega) (Or.inl rfl) (fun k hkr => ⟨fun q => absurd q (by omega), fun ⟨go, q1, _⟩ => absurd q1 (by omega)⟩) (by omega)
    exact this
  · have e : to = g := by omega
    subst e
    have := h 0 ⟨Or.inr (by omega), fun q => absurd rfl q, fun k _ => ⟨fun _ => ⟨to, hto, Or.inl rfl, Cgt_self k⟩, fun _ => by omega⟩⟩
    exact this
theorem s_X8_fled {v : Vw} {n r t g : Nat} {S : St} {post : Int32 → St → Prop} (hd : Rg v n r S) (ht : t < n) (hg : g < n) (h : ∀ x, VS v n (r + 1) t g x → post (iI x) S) : wp_X8_fled (iI t) (iI g) S post := by
  obtain ⟨hL, hn, h73, h11, h10, hr, hV⟩ := id hd
  obtain ⟨b0, b0', b1, b1', b2, b2', _⟩ := id hL.1
  have key : ∀ (d i : Nat) (m : Int), i + d = n → (m = 100000000 ∨ (0 ≤ m ∧ m ≤ r + 1)) → (t < i → t ≠ g → 1 ≤ m) → (∀ k : Nat, k ≤ r → (m ≤ k + 1 ↔ ∀ to, to < i → Nr v t to → Hgt v n k to g)) → L_X8_fled_5 post (d + 1) (iI t) (iI g) (iI m) (iI i) S := by
    intro d
    induction d with
    | zero =>
      intro i m hi hm hm1 hk
      show BD_X8_fled_5 (L_X8_fled_5 post 0) post _ _ _ _ _
      unfold BD_X8_fled_5
      rw [h10, iI_le (by omega) (by omega) (by omega) (by omega)]
      refine ⟨fun _ => ?_, fun e => absurd (by omega) e⟩
      unfold B_X8_fled_56
      rw [iI_eq (by omega) (by omega) (by omega) (by omega)]
      refine ⟨fun hne => h m ⟨by rcases hm with q | q; exact Or.inl q; exact Or.inr (by omega), fun k hkr => ?_⟩, fun heq => ?_⟩
      · have hne2 : t ≠ g := by omega
        cases k with
        | zero =>
          have := hm1 (by omega) hne2
          exact ⟨fun q => absurd q (by omega), fun q => absurd q hne2⟩
        | succ k =>
          rw [Cgt_F hne2 k]
          have := hk k (by omega)
          rw [show i = n from by omega] at this
          exact ⟨fun q => this.mp (by omega), fun q => by have := this.mpr q; omega⟩
      · have e : t = g := by omega
        subst e
        have := h 0 ⟨Or.inr (by omega), fun k _ => ⟨fun _ => Cgt_self k, fun _ => by omega⟩⟩
        exact this
    | succ d ih =>
      intro i m hi hm hm1 hk
      show BD_X8_fled_5 (L_X8_fled_5 post (d + 1)) post _ _ _ _ _
      unfold BD_X8_fled_5
      have ei : iI (i : Int) + 1 = iI ((i + 1 : Nat) : Int) := by rw [show (1 : Int32) = iI 1 from rfl, iI_add]; rfl
      have step : ∀ y : Int, (y = 100000000 ∨ (0 ≤ y ∧ y ≤ r + 1)) → (t = i → t ≠ g → 1 ≤ y) → (∀ k : Nat, k ≤ r → (y ≤ k + 1 ↔ (Nr v t i → Hgt v n k i g))) → B_X8_fled_35 (L_X8_fled_5 post (d + 1)) post (iI t) (iI g) (iI m) (iI i) (iI y) S := by
        intro y hy hy1 hyk
        unfold B_X8_fled_35
        rw [iI_le (by omega) (by omega) (by omega) (by omega), ei]
        have comb : ∀ k : Nat, k ≤ r → ((m ≤ k + 1 ∧ y ≤ k + 1) ↔ ∀ to, to < i + 1 → Nr v t to → Hgt v n k to g) := by
          intro k hkr
          rw [hk k hkr, hyk k hkr]
          refine ⟨fun ⟨q1, q2⟩ to h1 h2 => ?_, fun q => ⟨fun to h1 h2 => q to (by omega) h2, fun h2 => q i (by omega) h2⟩⟩
          by_cases e : to = i
          · subst e; exact q2 h2
          · exact q1 to (by omega) h2
        refine ⟨fun hle => ih (i + 1) m (by omega) hm (fun q1 q2 => ?_) (fun k hkr => ?_), fun hle => ih (i + 1) y (by omega) hy (fun q1 q2 => ?_) (fun k hkr => ?_)⟩
        · by_cases e : t = i
          · have := hy1 e q2
            omega
          · exact hm1 (by omega) q2
        · rw [← comb k hkr]
          exact ⟨fun q => ⟨q, by omega⟩, fun q => q.1⟩
        · by_cases e : t = i
          · exact hy1 e q2
          · have := hm1 (by omega) q2
            omega
        · rw [← comb k hkr]
          exact ⟨fun q => ⟨by omega, q⟩, fun q => q.2⟩
      rw [h10, iI_le (by omega) (by omega) (by omega) (by omega)]
      refine ⟨fun e => absurd e (by omega), fun _ => ?_⟩
      refine s_X8_isNear hL h73 h11 (by omega) (by omega) (fun hnr => ⟨fun e => absurd e (by decide), fun _ => ?_⟩) (fun hnr => ⟨fun _ => ?_, fun e => absurd rfl e⟩)
      · refine s_X8_guarded hd (by omega) hg ?_
        intro y hy
        refine step y hy.1 (fun e1 e2 => hy.2.1 (by omega)) (fun k hkr => ?_)
        rw [hy.2.2 k hkr]
        exact ⟨fun q _ => q, fun q => q hnr⟩
      · have := step 0 (Or.inr (by omega)) (fun e1 _ => absurd (Or.inl e1) hnr) (fun k _ => ⟨fun _ q => absurd q hnr, fun _ => by omega⟩)
        exact this
  have := key n 0 0 (by omega) (Or.inr (by omega)) (fun q => absurd q (by omega)) (fun k _ => ⟨fun _ to q => absurd q (by omega), fun _ => by omega⟩)
  exact ⟨n + 1, this⟩
