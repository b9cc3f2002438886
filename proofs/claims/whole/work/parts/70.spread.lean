/-! the reference's spreading: the loop, and how soon -/
theorem mz_fr {S T : St} (h : ∀ c k, c ≠ 81 → c ≠ 82 → T c k = S c k) : mz T 76 = mz S 76 := by
  have z : ∀ c k, c ≠ 81 → c ≠ 82 → zz T c k = zz S c k := fun c k hc hd => by unfold zz; rw [h c k hc hd]
  funext f k
  unfold mz
  split
  · split <;> exact z _ _ (by omega) (by omega)
  all_goals exact z _ _ (by omega) (by omega)
theorem s_X8_spreads_loop {v : Vw} {p : Nat} {a0 c0 t0 : Int} {S : St} {post : St → Prop} (hL : Lb v) (hp : (p : Int) < v 0 2) (ha : 0 ≤ a0 ∧ a0 < v 0 0) (hc : 0 ≤ c0 ∧ c0 ≤ 5) (ht : 0 ≤ t0 ∧ t0 ≤ 900000) (hS : Sv v (mz S 76)) (hP : Pb (mz S 76) p) (h : ∀ T, (∀ c k, c ≠ 81 → c ≠ 82 → T c k = S c k) → Sp v p a0 c0 t0 (zz T 81) → post T) : ∀ (d : Nat) (T : St) (x : Int), cn (zz T 82) 36 + d = 36 → (∀ c k, c ≠ 81 → c ≠ 82 → T c k = S c k) → Dk v p a0 c0 t0 T → (x = -1 ∧ ∀ j, j < 36 → zz T 82 j = 0 → 100000000 ≤ zz T 81 j) ∨ (∃ i : Nat, x = (i : Int) ∧ i < 36 ∧ zz T 82 i = 0 ∧ zz T 81 i < 100000000 ∧ ∀ j, j < 36 → zz T 82 j = 0 → zz T 81 i ≤ zz T 81 j) → L_X8_spreads_55 post (d + 1) (iI p) (iI x) T := by
  intro d
  induction d with
  | zero =>
    intro T x hd hF hD hx
    show BD_X8_spreads_55 (L_X8_spreads_55 post 0) post _ _ _
    rcases hx with ⟨rfl, hx⟩ | ⟨i, rfl, hi, hz, _⟩
    · unfold BD_X8_spreads_55
      exact ⟨fun _ => h T hF (Dk_end hL hp ha hc ht hD hx), fun e => absurd rfl e⟩
    · have := cn_lt 36 i hi hz
      omega
  | succ d ih =>
    intro T x hd hF hD hx
    show BD_X8_spreads_55 (L_X8_spreads_55 post (d + 1)) post _ _ _
    rcases hx with ⟨rfl, hx⟩ | ⟨i, rfl, hi, hz, hl, hm⟩
    · unfold BD_X8_spreads_55
      exact ⟨fun _ => h T hF (Dk_end hL hp ha hc ht hD hx), fun e => absurd rfl e⟩
    · have hlow := hD.2.1 i hi
      have hcl := cn_le (zz T 82) 36
      have em := mz_fr hF
      have hRd : Rd v p i (zz T 81 i) T := by
        rcases hlow with g | ⟨g1, g2, g3, _⟩
        · omega
        · exact ⟨hL, hp, hi, g1, by rw [em]; exact hS, by rw [em]; exact hP, rfl, g2, by omega⟩
      refine s_X8_node hRd ?_
      intro T' hR hE
      have hi' : zz T' 81 i = zz T 81 i := by
        have hg := (hR.2 i hi)
        have e : zz (up T 82 i 1) 81 i = zz T 81 i := by unfold zz; rw [up_ne _ _ (by omega)]
        rw [e] at hg
        rcases hg.2 with g | g
        · exact g
        · have := Eg_pos hL hp g
          omega
      obtain ⟨hD', hcn⟩ := Dk_step hL hp ha hc hD hi hz hl hm hR hE hi'
      have hF' : ∀ c k, c ≠ 81 → c ≠ 82 → T' c k = S c k := fun c k h1 h2 => by rw [hR.1 c k h1, up_ne _ _ (by omega), hF c k h1 h2]
      unfold B_X8_spreads_217
      refine s_X8_nextNode hD'.1 (fun hx => ?_) (fun i' hi2 hz2 hl2 hm2 => ?_)
      · exact ih T' (-1) (by omega) hF' hD' (Or.inl ⟨rfl, hx⟩)
      · exact ih T' i' (by omega) hF' hD' (Or.inr ⟨i', rfl, hi2, hz2, hl2, hm2⟩)
theorem s_X8_spreads {v : Vw} {p : Nat} {a0 c0 t0 : Int} {S : St} {post : St → Prop} (hL : Lb v) (hp : (p : Int) < v 0 2) (ha : 0 ≤ a0 ∧ a0 < v 0 0) (hc : 0 ≤ c0 ∧ c0 ≤ 5) (ht : 0 ≤ t0 ∧ t0 ≤ 900000) (hS : Sv v (mz S 76)) (hP : Pb (mz S 76) p) (h : ∀ T, (∀ c k, c ≠ 81 → c ≠ 82 → T c k = S c k) → Sp v p a0 c0 t0 (zz T 81) → post T) : wp_X8_spreads (iI p) (iI a0) (iI t0) (iI c0) S post := by
  obtain ⟨b0, b0', b1, b1', b2, b2', _⟩ := id hL.1
  have key : ∀ (d n : Nat) (T : St), n + d = 36 → (∀ c k, c ≠ 81 → c ≠ 82 → T c k = S c k) → (∀ j, j < n → T 81 j = 100000000 ∧ T 82 j = 0) → L_X8_spreads_3 post (d + 1) (iI p) (iI a0) (iI t0) (iI c0) (iI n) T := by
    intro d
    induction d with
    | zero =>
      intro n T hn hF hj
      show BD_X8_spreads_3 (L_X8_spreads_3 post 0) post _ _ _ _ _ _
      unfold BD_X8_spreads_3
      rw [show (36 : Int32) = iI 36 from rfl, iI_le (by omega) (by omega) (by omega) (by omega)]
      refine ⟨fun _ => ?_, fun e => absurd (by omega) e⟩
      unfold B_X8_spreads_33
      obtain ⟨i, hi⟩ : ∃ i : Nat, 6 * a0 + c0 = (i : Int) := ⟨(6 * a0 + c0).toNat, by omega⟩
      have xi : ix (iI (i : Int)) = i := by rw [iI_ix (by omega) (by omega)]; simp
      have ii : vp_in (iI (i : Int)) 36 := (iI_in (by omega) (by omega)).mpr ⟨by omega, by omega⟩
      rw [show (6 : Int32) = iI 6 from rfl, iI_mul, iI_add, hi, xi]
      refine ⟨ii, fun S1 e1 v3 e3 => ?_⟩
      rw [e3]
      have hi36 : i < 36 := by omega
      have z1 : zz S1 81 i = t0 := zz_iI (by rw [e1, up_at]) (by omega) (by omega)
      have z2 : ∀ j, j < 36 → j ≠ i → zz S1 81 j = 100000000 := fun j h1 h2 => by
        unfold zz
        rw [e1, up_ne _ _ (by omega), (hj j (by omega)).1]
        decide
      have z3 : ∀ j, j < 36 → zz S1 82 j = 0 := fun j h1 => by
        unfold zz
        rw [e1, up_ne _ _ (by omega), (hj j (by omega)).2]
        decide
      have hc0 : cn (zz S1 82) 36 = 0 := cn_0 36 z3
      have hia : ((i / 6 : Nat) : Int) = a0 := by omega
      have hic : ((i % 6 : Nat) : Int) = c0 := by omega
      have hin : 6 * a0.toNat + c0.toNat = i := by omega
      refine ⟨36 + 1, s_X8_spreads_loop hL hp ha hc ht hS hP h 36 S1 i (by omega) (fun c k h1 h2 => by rw [e1, up_ne _ _ (by omega), hF c k h1 h2]) ⟨fun j h1 => Or.inl (z3 j h1), fun j h1 => ?_, fun j h1 h2 => ?_, fun j k h1 _ h2 => ?_, ?_⟩ (Or.inr ⟨i, rfl, hi36, z3 i hi36, by omega, fun j h1 _ => ?_⟩)⟩
      · by_cases hji : j = i
        · subst hji
          rw [z1, hia, hic, hc0]
          exact Or.inr ⟨ha.2, ht.1, by omega, 0, rfl, rfl, rfl, rfl⟩
        · exact Or.inl (z2 j h1 hji)
      · have := z3 j h1
        omega
      · have := z3 j h1
        omega
      · rw [hin, z1]; exact Int.le_refl _
      · by_cases hji : j = i
        · rw [hji]; exact Int.le_refl _
        · rw [z1, z2 j h1 hji]; omega
    | succ d ih =>
      intro n T hn hF hj
      show BD_X8_spreads_3 (L_X8_spreads_3 post (d + 1)) post _ _ _ _ _ _
      unfold BD_X8_spreads_3
      have xn : ix (iI (n : Int)) = n := by rw [iI_ix (by omega) (by omega)]; simp
      have ni : vp_in (iI (n : Int)) 36 := (iI_in (by omega) (by omega)).mpr ⟨by omega, by omega⟩
      have en : iI (n : Int) + 1 = iI ((n + 1 : Nat) : Int) := by rw [show (1 : Int32) = iI 1 from rfl, iI_add]; rfl
      rw [show (36 : Int32) = iI 36 from rfl, iI_le (by omega) (by omega) (by omega) (by omega), xn, en]
      refine ⟨fun q => absurd q (by omega), fun _ => ⟨ni, fun S2 e2 => ⟨ni, fun S4 e4 => ?_⟩⟩⟩
      refine ih (n + 1) S4 (by omega) (fun c k h1 h2 => by rw [e4, up_ne _ _ (by omega), e2, up_ne _ _ (by omega), hF c k h1 h2]) (fun j h1 => ?_)
      by_cases hjn : j = n
      · subst hjn
        rw [e4, up_at, up_ne _ _ (by omega), e2, up_at]
        exact ⟨rfl, rfl⟩
      · rw [e4, up_ne _ _ (by omega), up_ne _ _ (by omega), e2, up_ne _ _ (by omega), up_ne _ _ (by omega)]
        exact hj j (by omega)
  exact ⟨36 + 1, key 36 0 S (by omega) (fun _ _ _ _ => rfl) (fun j hj => absurd hj (by omega))⟩
/-- how soon one can be at b; 100000000: never -/
def Soon (v : Vw) (p : Nat) (a0 c0 t0 b x : Int) : Prop := (0 ≤ x ∧ (x < 100000000 ∧ x ≤ t0 + 8640) ∧ (∃ n c, Rc v p ly0 0 a0 c0 t0 n 0 b c x) ∧ ∀ n c t, Rc v p ly0 0 a0 c0 t0 n 0 b c t → x ≤ t) ∨ (x = 100000000 ∧ ∀ n c t, ¬ Rc v p ly0 0 a0 c0 t0 n 0 b c t)
theorem Soon_uniq {v : Vw} {p : Nat} {a0 c0 t0 b x y : Int} (hx : Soon v p a0 c0 t0 b x) (hy : Soon v p a0 c0 t0 b y) : x = y := by
  rcases hx with ⟨_, _, ⟨n, c, h1⟩, h2⟩ | ⟨e, h⟩ <;> rcases hy with ⟨_, _, ⟨n', c', k1⟩, k2⟩ | ⟨e', k⟩
  · have := h2 _ _ _ k1
    have := k2 _ _ _ h1
    omega
  · exact absurd h1 (k _ _ _)
  · exact absurd k1 (h _ _ _)
  · omega
theorem Soon_Sv {v w : Vw} {p : Nat} {a0 c0 t0 b x : Int} (hS : Sv v w) (hp : (p : Int) < v 0 2) (h : Soon v p a0 c0 t0 b x) : Soon w p a0 c0 t0 b x := by
  rcases h with ⟨g1, g2, ⟨n, c, h1⟩, h2⟩ | ⟨e, h⟩
  · exact Or.inl ⟨g1, g2, ⟨n, c, (Rc_Sv hS hp _ _ _ _ _).mpr h1⟩, fun n c t h => h2 n c t ((Rc_Sv hS hp _ _ _ _ _).mp h)⟩
  · exact Or.inr ⟨e, fun n c t k => h n c t ((Rc_Sv hS hp _ _ _ _ _).mp k)⟩
theorem s_X8_soonestAt {v : Vw} {p : Nat} {a0 c0 t0 b : Int} {S : St} {post : Int32 → St → Prop} (hL : Lb v) (hp : (p : Int) < v 0 2) (ha : 0 ≤ a0 ∧ a0 < v 0 0) (hc : 0 ≤ c0 ∧ c0 ≤ 5) (ht : 0 ≤ t0 ∧ t0 ≤ 900000) (hb : 0 ≤ b ∧ b < 6) (hSp : Sp v p a0 c0 t0 (zz S 81)) (h : ∀ x, 0 ≤ x → x ≤ 100000000 → Soon v p a0 c0 t0 b x → post (iI x) S) : wp_X8_soonestAt (iI b) S post := by
  obtain ⟨s1, s2⟩ := hSp
  have lb : ∀ j, j < 36 → 0 ≤ zz S 81 j ∧ zz S 81 j ≤ 100000000 := fun j hj => by
    rcases s1 j hj with g | ⟨g1, g2, _⟩ <;> omega
  have key : ∀ (d n : Nat) (x : Int), n + d = 6 → 0 ≤ x → x ≤ 100000000 → (x = 100000000 ∨ ∃ k, k < n ∧ x = zz S 81 (6 * b.toNat + k)) → (∀ k, k < n → x ≤ zz S 81 (6 * b.toNat + k)) → L_X8_soonestAt_5 post (d + 1) (iI b) (iI x) (iI n) S := by
    intro d
    induction d with
    | zero =>
      intro n x hn x1 x2 h1 h2
      show BD_X8_soonestAt_5 (L_X8_soonestAt_5 post 0) post _ _ _ _
      unfold BD_X8_soonestAt_5
      rw [show (6 : Int32) = iI 6 from rfl, iI_le (by omega) (by omega) (by omega) (by omega)]
      refine ⟨fun _ => h x x1 x2 ?_, fun e => absurd (by omega) e⟩
      by_cases hx : x = 100000000
      · refine Or.inr ⟨hx, fun n' c t hR => ?_⟩
        obtain ⟨g1, g2, _⟩ := Rc_in hL hp ha hc n' 0 b c t hR
        have := (s2 n' b c t hR).1
        have := h2 c.toNat (by omega)
        omega
      · have hxb : x ≤ t0 + 8640 := by
          rcases h1 with h1 | ⟨k, hk, e⟩
          · exact absurd h1 hx
          · rcases s1 (6 * b.toNat + k) (by omega) with g | ⟨_, g, _⟩ <;> omega
        refine Or.inl ⟨x1, by omega, ?_, fun n' c t hR => ?_⟩
        · rcases h1 with h1 | ⟨k, hk, e⟩
          · exact absurd h1 hx
          · rcases s1 (6 * b.toNat + k) (by omega) with g | ⟨_, _, m, g⟩
            · omega
            · rw [show (6 * b.toNat + k) / 6 = b.toNat from by omega, show ((b.toNat : Nat) : Int) = b from by omega, ← e] at g
              exact ⟨m, _, g⟩
        · obtain ⟨g1, g2, _⟩ := Rc_in hL hp ha hc n' 0 b c t hR
          have := (s2 n' b c t hR).2
          have := h2 c.toNat (by omega)
          omega
    | succ d ih =>
      intro n x hn x1 x2 h1 h2
      show BD_X8_soonestAt_5 (L_X8_soonestAt_5 post (d + 1)) post _ _ _ _
      unfold BD_X8_soonestAt_5
      have en : iI (n : Int) + 1 = iI ((n + 1 : Nat) : Int) := by rw [show (1 : Int32) = iI 1 from rfl, iI_add]; rfl
      have hj := lb (6 * b.toNat + n) (by omega)
      have ej : 6 * b + (n : Int) = ((6 * b.toNat + n : Nat) : Int) := by omega
      have xj : ix (iI ((6 * b.toNat + n : Nat) : Int)) = 6 * b.toNat + n := by rw [iI_ix (by omega) (by omega)]; omega
      have ij : vp_in (iI ((6 * b.toNat + n : Nat) : Int)) 36 := (iI_in (by omega) (by omega)).mpr ⟨by omega, by omega⟩
      rw [en, show (6 : Int32) = iI 6 from rfl, iI_le (by omega) (by omega) (by omega) (by omega), iI_mul, iI_add, ej, xj, zz_S S 81 (6 * b.toNat + n), iI_le (by omega) (by omega) (by omega) (by omega)]
      refine ⟨fun q => absurd q (by omega), fun _ => ⟨ij, fun hle => ?_, fun hle => ⟨ij, fun v3 e3 => ?_⟩⟩⟩
      · refine ih (n + 1) x (by omega) x1 x2 ?_ (fun k hk => ?_)
        · rcases h1 with h1 | ⟨k, hk, e⟩
          · exact Or.inl h1
          · exact Or.inr ⟨k, by omega, e⟩
        · by_cases hkn : k = n
          · rw [hkn]; exact hle
          · exact h2 k (by omega)
      · rw [e3]
        refine ih (n + 1) _ (by omega) hj.1 hj.2 (Or.inr ⟨n, by omega, rfl⟩) (fun k hk => ?_)
        by_cases hkn : k = n
        · rw [hkn]; exact Int.le_refl _
        · have := h2 k (by omega)
          omega
  exact ⟨6 + 1, key 6 0 100000000 (by omega) (by omega) (by omega) (Or.inl rfl) (fun k hk => absurd hk (by omega))⟩
