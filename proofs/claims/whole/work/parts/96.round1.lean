/-! rounds: layers are the places of the set that one has been at -/
def lyS (s : Nat) : Nat → Int → Nat := fun l b => l ||| (s &&& 2 ^ b.toNat)
theorem set_bit : ∀ s : Fin 64, ∀ b : Fin 6, iI (s.val : Int) &&& ((1 : Int32) <<< (iI (b.val : Int) &&& 31)) = iI ((s.val &&& 2 ^ b.val : Nat) : Int) := by decide +kernel
theorem set_or : ∀ l k : Fin 64, iI (l.val : Int) ||| iI (k.val : Int) = iI ((l.val ||| k.val : Nat) : Int) := by decide +kernel
theorem set_sub : ∀ s : Fin 64, ∀ b : Fin 6, (s.val &&& 2 ^ b.val) ||| s.val = s.val ∧ (s.val &&& 2 ^ b.val) < 64 := by decide +kernel
theorem or_le : ∀ l k : Fin 64, l.val ≤ (l.val ||| k.val) ∧ (l.val ||| k.val) < 64 := by decide +kernel
theorem lyS_ok {s l b : Nat} (hs : s < 64) (hl : l ||| s = s) (hb : b < 6) : iI (l : Int) ||| (iI (s : Int) &&& ((1 : Int32) <<< (iI (b : Int) &&& 31))) = iI ((lyS s l (b : Int) : Nat) : Int) ∧ lyS s l (b : Int) ||| s = s ∧ l ≤ lyS s l (b : Int) ∧ lyS s l (b : Int) < s + 1 := by
  have hls : l ≤ s := by
    have := Nat.left_le_or (n := l) (m := s)
    omega
  have l64 : l < 64 := by omega
  have a1 := set_bit ⟨s, hs⟩ ⟨b, hb⟩
  have a2 := set_sub ⟨s, hs⟩ ⟨b, hb⟩
  have a3 := set_or ⟨l, l64⟩ ⟨s &&& 2 ^ b, a2.2⟩
  have a4 := or_le ⟨l, l64⟩ ⟨s &&& 2 ^ b, a2.2⟩
  have e : lyS s l (b : Int) = l ||| (s &&& 2 ^ b) := by unfold lyS; rw [Int.toNat_natCast]
  have sub : (l ||| (s &&& 2 ^ b)) ||| s = s := by
    rw [Nat.or_assoc, show (s &&& 2 ^ b) ||| s = s from a2.1, hl]
  have hle : l ||| (s &&& 2 ^ b) ≤ s := by
    have := Nat.left_le_or (n := l ||| (s &&& 2 ^ b)) (m := s)
    omega
  rw [e]
  refine ⟨?_, sub, a4.1, by omega⟩
  have a1' : iI (s : Int) &&& ((1 : Int32) <<< (iI (b : Int) &&& 31)) = iI ((s &&& 2 ^ b : Nat) : Int) := a1
  rw [a1']
  exact a3
/-- how soon one has been at all of the set; 100000000: never -/
def RS (v : Vw) (p s l0 : Nat) (a0 c0 t0 x : Int) : Prop := (0 ≤ x ∧ x < 100000000 ∧ (∃ n a c, Rc v p (lyS s) l0 a0 c0 t0 n s a c x) ∧ ∀ n a c t, Rc v p (lyS s) l0 a0 c0 t0 n s a c t → x ≤ t) ∨ (x = 100000000 ∧ ∀ n a c t, ¬ Rc v p (lyS s) l0 a0 c0 t0 n s a c t)
theorem RS_uniq {v : Vw} {p s l0 : Nat} {a0 c0 t0 x y : Int} (hx : RS v p s l0 a0 c0 t0 x) (hy : RS v p s l0 a0 c0 t0 y) : x = y := by
  rcases hx with ⟨_, _, ⟨n, a, c, h1⟩, h2⟩ | ⟨e, h⟩ <;> rcases hy with ⟨_, _, ⟨n', a', c', k1⟩, k2⟩ | ⟨e', k⟩
  · have := h2 _ _ _ _ k1
    have := k2 _ _ _ _ h1
    omega
  · exact absurd h1 (k _ _ _ _)
  · exact absurd k1 (h _ _ _ _)
  · omega
/-- a step stays within the set's layers -/
theorem Eg_lyS {v : Vw} {p s l l' : Nat} {a c t a' c' t' : Int} (hL : Lb v) (hs : s < 64) (hl : l ||| s = s) (ha : 0 ≤ a ∧ a < v 0 0) (hc : 0 ≤ c ∧ c ≤ 5) (h : Eg v p (lyS s) l a c t l' a' c' t') : l' ||| s = s ∧ l ≤ l' ∧ l' ≤ s := by
  have hin := Eg_in hL ha hc h
  have hb := hL.1.2.1
  have hls : l ≤ s := by
    have := Nat.left_le_or (n := l) (m := s)
    omega
  rcases h with ⟨_, _, e, _⟩ | ⟨r, q, _, _, _, _, _, e, _⟩
  · rw [e]; exact ⟨hl, Nat.le_refl _, hls⟩
  · obtain ⟨b, hb2⟩ : ∃ b : Nat, a' = (b : Int) := ⟨a'.toNat, by omega⟩
    have := lyS_ok hs hl (show b < 6 by omega)
    rw [e, hb2]
    exact ⟨this.2.1, this.2.2.1, by omega⟩
theorem Rc_lyS {v : Vw} {p s l0 : Nat} {a0 c0 t0 : Int} (hL : Lb v) (hp : (p : Int) < v 0 2) (hs : s < 64) (hl : l0 ||| s = s) (ha : 0 ≤ a0 ∧ a0 < v 0 0) (hc : 0 ≤ c0 ∧ c0 ≤ 5) : ∀ n l a c t, Rc v p (lyS s) l0 a0 c0 t0 n l a c t → l ||| s = s ∧ l0 ≤ l ∧ l ≤ s := by
  intro n
  induction n with
  | zero =>
    rintro l a c t ⟨rfl, _⟩
    have := Nat.left_le_or (n := l) (m := s)
    exact ⟨hl, Nat.le_refl _, by omega⟩
  | succ n ih =>
    rintro l a c t ⟨l1, a1, c1, t1, h1, h2⟩
    obtain ⟨q1, q2, q3⟩ := ih _ _ _ _ h1
    obtain ⟨g1, g2, _⟩ := Rc_in hL hp ha hc n _ _ _ _ h1
    have := Eg_lyS hL hs q1 g1 g2 h2
    exact ⟨this.1, by omega, this.2.2⟩
/-- the layers up to l are done -/
def LyD (v : Vw) (p s l0 : Nat) (a0 c0 t0 : Int) (l : Nat) (T : St) : Prop := Lok (s + 1) v p (lyS s) l0 a0 c0 t0 (t0 + 8640 * (l : Int)) T ∧ (∀ l', l0 ≤ l' → l' < l → l' ||| s = s → ∀ a C : Nat, (a : Int) < v 0 0 → C ≤ 5 → (∃ C' : Nat, C ≤ C' ∧ C' ≤ 5 ∧ Wk v p (lyS s) l' (6 * a + C') T ∧ zz T 51 (36 * l' + (6 * a + C')) ≤ zz T 51 (36 * l' + (6 * a + C))) ∨ 1000000000 ≤ zz T 51 (36 * l' + (6 * a + C))) ∧ zz T 51 (36 * l0 + (6 * a0.toNat + c0.toNat)) ≤ t0
theorem LyD_skip {v : Vw} {p s l0 l : Nat} {a0 c0 t0 : Int} {T : St} (h : LyD v p s l0 a0 c0 t0 l T) (hl : ¬ l ||| s = s) : LyD v p s l0 a0 c0 t0 (l + 1) T := by
  obtain ⟨h1, h2, h3⟩ := h
  refine ⟨fun j hj => ?_, fun l' q1 q2 q3 => ?_, h3⟩
  · rcases h1 j hj with w | ⟨w1, w2, w3, w4⟩
    · exact Or.inl w
    · exact Or.inr ⟨w1, w2, by omega, w4⟩
  · by_cases e : l' = l
    · rw [e] at q3; exact absurd q3 hl
    · exact h2 l' q1 (by omega) q3
theorem LyD_step {v : Vw} {p s l0 l : Nat} {a0 c0 t0 m : Int} {T T' : St} {Z : Nat → Prop} (hL : Lb v) (hs : s < 64) (hls : l ||| s = s) (hl0 : l0 ≤ s) (ha : 0 ≤ a0 ∧ a0 < v 0 0) (hc : 0 ≤ c0 ∧ c0 ≤ 5) (h : LyD v p s l0 a0 c0 t0 l T) (hF : Frl l T T') (hFn : Fn (s + 1) v p (lyS s) l0 a0 c0 t0 l (-1) (t0 + 8640 * (l : Int)) m T' Z) : LyD v p s l0 a0 c0 t0 (l + 1) T' := by
  obtain ⟨h1, h2, h3⟩ := h
  obtain ⟨f1, f2, f3, f4, f5⟩ := hFn
  obtain ⟨b0, b0', _⟩ := id hL.1
  have hl : l ≤ s := by
    have := Nat.left_le_or (n := l) (m := s)
    omega
  have hm : m = 1000000000 := by
    rcases f5 with q | ⟨a, C, q, _⟩
    · exact q
    · omega
  refine ⟨fun j hj => ?_, fun l' q1 q2 q3 a C hav hC => ?_, ?_⟩
  · rcases f1 j hj with w | ⟨w1, w2, w3, w4⟩
    · exact Or.inl w
    · exact Or.inr ⟨w1, w2, by omega, w4⟩
  · by_cases e : l' = l
    · subst e
      rcases f3 a C hav hC with ⟨C', w1, w2, w3, w4⟩ | w
      · exact Or.inl ⟨C', w2, w3, (f2 _ w1).2.2, w4⟩
      · exact Or.inr (by omega)
    · have hl' : l' < l := by omega
      have same : ∀ i, i < 36 → zz T' 51 (36 * l' + i) = zz T 51 (36 * l' + i) := fun i hi => (hF.2 (36 * l' + i) (by omega)).2 (by omega)
      rcases h2 l' q1 hl' q3 a C hav hC with ⟨C', w2, w3, w4, w5⟩ | w
      · refine Or.inl ⟨C', w2, w3, ?_, ?_⟩
        · intro l2 a2 c2 t2 hE
          rw [same _ (by omega)] at hE
          obtain ⟨C2, y1, y2, y3⟩ := w4 l2 a2 c2 t2 hE
          have hi6 : (((6 * a + C') / 6 : Nat) : Int) = (a : Int) := by omega
          have hi7 : (((6 * a + C') % 6 : Nat) : Int) = (C' : Int) := by omega
          rw [hi6, hi7] at hE
          have hly := Eg_lyS hL hs q3 ⟨by omega, hav⟩ ⟨by omega, by omega⟩ hE
          have hin := Eg_in hL ⟨by omega, hav⟩ ⟨by omega, by omega⟩ hE
          refine ⟨C2, y1, y2, ?_⟩
          have := (hF.2 (36 * l2 + 6 * a2.toNat + C2) (by omega)).1
          omega
        · rw [same _ (by omega), same _ (by omega)]; exact w5
      · exact Or.inr (by rw [same _ (by omega)]; exact w)
  · have := (hF.2 (36 * l0 + (6 * a0.toNat + c0.toNat)) (by omega)).1
    omega
theorem LyD_end {v : Vw} {p s l0 : Nat} {a0 c0 t0 : Int} {T : St} (hL : Lb v) (hp : (p : Int) < v 0 2) (hs : s < 64) (hl : l0 ||| s = s) (ha : 0 ≤ a0 ∧ a0 < v 0 0) (hc : 0 ≤ c0 ∧ c0 ≤ 5) (ht : 0 ≤ t0 ∧ t0 ≤ 100000) (h : LyD v p s l0 a0 c0 t0 (s + 1) T) : ∀ n l a c t, Rc v p (lyS s) l0 a0 c0 t0 n l a c t → ∃ C : Int, c ≤ C ∧ C ≤ 5 ∧ zz T 51 (36 * l + (6 * a.toNat + C.toNat)) < 1000000000 ∧ zz T 51 (36 * l + (6 * a.toNat + C.toNat)) ≤ t := by
  obtain ⟨h1, h2, h3⟩ := h
  obtain ⟨b0, b0', _⟩ := id hL.1
  have lab : ∀ j, j < 36 * (s + 1) → zz T 51 j = 1000000000 ∨ (0 ≤ zz T 51 j ∧ zz T 51 j ≤ 900000) := fun j hj => by
    rcases h1 j hj with w | ⟨_, w2, w3, _⟩
    · exact Or.inl w
    · exact Or.inr ⟨w2, by omega⟩
  intro n l a c t hR
  obtain ⟨K, hK1, hK2⟩ : ∃ K : Int, 1000000000 ≤ K ∧ t < K := ⟨if t < 1000000000 then 1000000000 else t + 1, by split <;> omega, by split <;> omega⟩
  have key := pruned_end (v := v) (p := p) (ly := lyS s) (l0 := l0) (a0 := a0) (c0 := c0) (t0 := t0) (m := K) (D := fun l a c => if zz T 51 (36 * l + (6 * a.toNat + c.toNat)) = 1000000000 then K else zz T 51 (36 * l + (6 * a.toNat + c.toNat))) (Z := fun l a c => (l ||| s = s) ∧ (0 ≤ a ∧ a < v 0 0) ∧ (0 ≤ c ∧ c ≤ 5) ∧ zz T 51 (36 * l + (6 * a.toNat + c.toNat)) < 1000000000 ∧ Wk v p (lyS s) l (6 * a.toNat + c.toNat) T) hL hp ha hc (by rw [if_neg (by omega)]; exact h3) (by
    intro n l a c t C hR hcC hC
    obtain ⟨g1, g2, _⟩ := Rc_in hL hp ha hc n l a c t hR
    obtain ⟨q1, q2, q3⟩ := Rc_lyS hL hp hs hl ha hc n l a c t hR
    have hj : 36 * l + (6 * a.toNat + C.toNat) < 36 * (s + 1) := by omega
    by_cases hN : zz T 51 (36 * l + (6 * a.toNat + C.toNat)) = 1000000000
    · refine Or.inr ?_
      rw [if_pos hN]
      exact Int.le_refl _
    · have hlow := lab _ hj
      rcases h2 l q2 (by omega) q1 a.toNat C.toNat (by omega) (by omega) with ⟨C', w1, w2, w3, w4⟩ | w
      · refine Or.inl ⟨(C' : Int), ⟨q1, g1, ⟨by omega, by omega⟩, by rw [Int.toNat_natCast]; omega, by rw [Int.toNat_natCast]; exact w3⟩, by omega, by omega, ?_⟩
        rw [Int.toNat_natCast, if_neg (by omega), if_neg hN]
        exact w4
      · omega) (by
    intro l a c l' a' c' t' hZ he
    obtain ⟨q1, g1, g2, g3, g4⟩ := hZ
    have hne : ¬ zz T 51 (36 * l + (6 * a.toNat + c.toNat)) = 1000000000 := by omega
    rw [if_neg hne] at he
    have hin := Eg_in hL g1 g2 he
    have hly := Eg_lyS hL hs q1 g1 g2 he
    have hls : l ≤ s := by
      have := Nat.left_le_or (n := l) (m := s)
      omega
    have hlow := lab _ (show 36 * l + (6 * a.toNat + c.toNat) < 36 * (s + 1) by omega)
    have hpos := Eg_pos hL hp he
    have hW := g4 l' a' c' t'
    rw [show (((6 * a.toNat + c.toNat) / 6 : Nat) : Int) = a from by omega, show (((6 * a.toNat + c.toNat) % 6 : Nat) : Int) = c from by omega] at hW
    obtain ⟨C', y1, y2, y3⟩ := hW he
    refine ⟨(C' : Int), y1, by omega, ?_⟩
    rw [Int.toNat_natCast, ← Nat.add_assoc, if_neg (by omega)]
    exact y3) n l a c t hR
  rcases key with ⟨C, ⟨_, _, w0, w1, w⟩, w2, w3, w4⟩ | w
  · rw [if_neg (by omega)] at w4
    exact ⟨C, w2, w3, w1, w4⟩
  · omega
theorem s_explore_layers {v : Vw} {p s l0 : Nat} {a0 c0 t0 : Int} {S : St} {post : St → Prop} (hL : Lb v) (hp : (p : Int) < v 0 2) (hs : s < 64) (hl0 : l0 ||| s = s) (ha : 0 ≤ a0 ∧ a0 < v 0 0) (hc : 0 ≤ c0 ∧ c0 ≤ 5) (ht : 0 ≤ t0 ∧ t0 ≤ 100000) (hS : Sv v (cv S 11)) (hP : Pb (cv S 11) p) (h : ∀ T, (∀ c k, c ≠ 51 → c ≠ 53 → c ≠ 54 → T c k = S c k) → LyD v p s l0 a0 c0 t0 (s + 1) T → post T) : ∀ (d l : Nat) (T : St), l + d = s + 1 → (∀ c k, c ≠ 51 → c ≠ 53 → c ≠ 54 → T c k = S c k) → LyD v p s l0 a0 c0 t0 l T → L_X4_explore_91 post (d + 1) (iI p) (iI s) (iI (-1)) (iI l) T := by
  have hl0s : l0 ≤ s := by
    have := Nat.left_le_or (n := l0) (m := s)
    omega
  intro d
  induction d with
  | zero =>
    intro l T hl oT hD
    show BD_X4_explore_91 (L_X4_explore_91 post 0) post _ _ _ _ _
    unfold BD_X4_explore_91
    rw [iI_lt (by omega) (by omega) (by omega) (by omega)]
    refine ⟨fun _ => h T oT ?_, fun e => absurd (by omega) e⟩
    rw [show s + 1 = l from by omega]
    exact hD
  | succ d ih =>
    intro l T hl oT hD
    show BD_X4_explore_91 (L_X4_explore_91 post (d + 1)) post _ _ _ _ _
    unfold BD_X4_explore_91
    have en : iI (l : Int) + 1 = iI ((l + 1 : Nat) : Int) := by rw [show (1 : Int32) = iI 1 from rfl, iI_add]; rfl
    have eo : iI (l : Int) ||| iI (s : Int) = iI ((l ||| s : Nat) : Int) := set_or ⟨l, by omega⟩ ⟨s, hs⟩
    have ob := or_le ⟨l, by omega⟩ ⟨s, hs⟩
    have ob : l ≤ (l ||| s) ∧ (l ||| s) < 64 := ob
    rw [iI_lt (by omega) (by omega) (by omega) (by omega), en, eo, iI_eq (by omega) (by omega) (by omega) (by omega)]
    refine ⟨fun e => absurd e (by omega), fun _ => ⟨fun hne => ih (l + 1) T (by omega) oT (LyD_skip hD (fun q => hne (by rw [q]))), fun heq => ?_⟩⟩
    have hls : l ||| s = s := by omega
    have eT : ∀ f k, f ≤ 10 → cv T 11 f k = cv S 11 f k := fun f k hf => by unfold cv zz; rw [oT _ _ (by omega) (by omega) (by omega)]
    have hST : Sv v (cv T 11) := hS.trans ⟨fun k _ => eT _ _ (by omega), fun r _ => ⟨eT _ _ (by omega), eT _ _ (by omega), eT _ _ (by omega)⟩, fun q _ => ⟨eT _ _ (by omega), eT _ _ (by omega), eT _ _ (by omega), eT _ _ (by omega)⟩⟩
    have hPT : Pb (cv T 11) p := Pb_congr (eT _ _ (by omega)) ⟨eT _ _ (by omega), eT _ _ (by omega), eT _ _ (by omega), eT _ _ (by omega), eT _ _ (by omega), eT _ _ (by omega)⟩ hP
    have hrs : Rs (s + 1) v p (lyS s) (iI s) l T := ⟨hL, hp, by omega, by omega, hST, hPT, fun b hb => by
      have := lyS_ok hs hls hb
      exact ⟨this.1, this.2.2.2, this.2.2.1⟩⟩
    refine s_X4_settleLayer (M := s + 1) (ly := lyS s) (l0 := l0) (a0 := a0) (c0 := c0) (t0 := t0) (l := l) (B := t0 + 8640 * (l : Int)) hrs (by omega) (by omega) hD.1 ?_
    intro T' Z m hF hFn
    exact ih (l + 1) T' (by omega) (fun c k a1 a2 a3 => by rw [hF.1 c k a1 a2 a3, oT c k a1 a2 a3]) (LyD_step hL hs hls hl0s ha hc hD hF hFn)
theorem s_X4_exploreSet {v : Vw} {p s l0 : Nat} {a0 c0 t0 : Int} {S : St} {post : St → Prop} (hL : Lb v) (hp : (p : Int) < v 0 2) (hs : s < 64) (hS : Sv v (cv S 11)) (hP : Pb (cv S 11) p) (e7 : zz S 18 p = a0) (e8 : zz S 19 p = c0) (e10 : zz S 21 p = t0) (ha : 0 ≤ a0 ∧ a0 < v 0 0) (hc : 0 ≤ c0 ∧ c0 ≤ 5) (ht : 0 ≤ t0 ∧ t0 ≤ 100000) (hl0 : l0 = s &&& 2 ^ a0.toNat) (h : ∀ T, (∀ c k, c ≠ 51 → c ≠ 53 → c ≠ 54 → T c k = S c k) → LyD v p s l0 a0 c0 t0 (s + 1) T → post T) : wp_X4_explore (iI p) (iI s) (iI (-1)) S post := by
  obtain ⟨b0, b0', b1, b1', b2, b2', _⟩ := id hL.1
  have xp : ix (iI (p : Int)) = p := by rw [iI_ix (by omega) (by omega)]; simp
  have ip : vp_in (iI (p : Int)) 4 := (iI_in (by omega) (by omega)).mpr ⟨by omega, by omega⟩
  have hsub := set_sub ⟨s, hs⟩ ⟨a0.toNat, by omega⟩
  have hsub1 : l0 ||| s = s := by rw [hl0]; exact hsub.1
  have hsub2 : l0 < 64 := by rw [hl0]; exact hsub.2
  have hl0s : l0 ≤ s := by
    have := Nat.left_le_or (n := l0) (m := s)
    omega
  have eset : iI (s : Int) &&& ((1 : Int32) <<< (iI a0 &&& 31)) = iI (l0 : Int) := by
    have := set_bit ⟨s, hs⟩ ⟨a0.toNat, by omega⟩
    rw [hl0, ← this]
    show _ = iI (s : Int) &&& ((1 : Int32) <<< (iI (a0.toNat : Int) &&& 31))
    rw [Int.toNat_of_nonneg ha.1]
  unfold wp_X4_explore
  intro v1 e1
  have e1 : v1 = iI ((36 * (s + 1) : Nat) : Int) := by
    rw [e1, show (1 : Int32) = iI 1 from rfl, show (36 : Int32) = iI 36 from rfl, iI_add, iI_mul]
    congr 1
    omega
  rw [e1]
  have key : ∀ (d n : Nat) (T : St), n + d = 36 * (s + 1) → (∀ c k, c ≠ 51 → T c k = S c k) → (∀ j, j < n → T 51 j = 1000000000) → L_X4_explore_11 post (d + 1) (iI p) (iI s) (iI (-1)) (iI ((36 * (s + 1) : Nat) : Int)) (iI n) T := by
    intro d
    induction d with
    | zero =>
      intro n T hn o1 o2
      show BD_X4_explore_11 (L_X4_explore_11 post 0) post _ _ _ _ _ _
      unfold BD_X4_explore_11
      rw [iI_le (by omega) (by omega) (by omega) (by omega)]
      refine ⟨fun _ => ?_, fun e => absurd (by omega) e⟩
      unfold B_X4_explore_33
      rw [xp, o1 18 p (by omega), o1 19 p (by omega), o1 21 p (by omega), zz_S S 18 p, zz_S S 19 p, zz_S S 21 p, e7, e8, e10]
      refine ⟨ip, fun v1 e1 v2 e2 => ?_⟩
      rw [e1] at e2 ⊢
      rw [eset] at e2
      rw [e2]
      obtain ⟨i, hi⟩ : ∃ i : Nat, 36 * l0 + (6 * a0.toNat + c0.toNat) = i := ⟨_, rfl⟩
      have ei : iI (l0 : Int) * 36 + iI a0 * 6 + iI c0 = iI (i : Int) := by
        rw [show (36 : Int32) = iI 36 from rfl, show (6 : Int32) = iI 6 from rfl, iI_mul, iI_mul, iI_add, iI_add]
        congr 1
        omega
      have xi : ix (iI (i : Int)) = i := by rw [iI_ix (by omega) (by omega)]; simp
      have ii : vp_in (iI (i : Int)) 2304 := (iI_in (by omega) (by omega)).mpr ⟨by omega, by omega⟩
      rw [ei, xi]
      refine ⟨ip, ip, ii, fun S3 e3 => ⟨(s + 1 - l0) + 1, ?_⟩⟩
      have o3 : ∀ c k, c ≠ 51 → S3 c k = S c k := fun c k hh => by rw [e3, up_ne _ _ (by omega), o1 c k hh]
      have z3 : zz S3 51 i = t0 := zz_iI (by rw [e3, up_at]) (by omega) (by omega)
      have z4 : ∀ j, j < 36 * (s + 1) → j ≠ i → zz S3 51 j = 1000000000 := fun j hj hne => by
        unfold zz
        rw [e3, up_ne _ _ (by omega), o2 j (by omega)]
        decide
      refine s_explore_layers (S := S) hL hp hs hsub1 ha hc ht hS hP h (s + 1 - l0) l0 S3 (by omega) (fun c k a1 _ _ => o3 c k a1) ⟨fun j hj => ?_, fun l' q1 q2 => absurd q2 (by omega), ?_⟩
      · by_cases hji : j = i
        · subst hji
          rw [z3]
          refine Or.inr ⟨by omega, ht.1, by omega, 0, by omega, by omega, by omega, rfl⟩
        · exact Or.inl (z4 j (by omega) hji)
      · rw [hi, z3]
        exact Int.le_refl _
    | succ d ih =>
      intro n T hn o1 o2
      show BD_X4_explore_11 (L_X4_explore_11 post (d + 1)) post _ _ _ _ _ _
      unfold BD_X4_explore_11
      have xn : ix (iI (n : Int)) = n := by rw [iI_ix (by omega) (by omega)]; simp
      have ni : vp_in (iI (n : Int)) 2304 := (iI_in (by omega) (by omega)).mpr ⟨by omega, by omega⟩
      have en : iI (n : Int) + 1 = iI ((n + 1 : Nat) : Int) := by rw [show (1 : Int32) = iI 1 from rfl, iI_add]; rfl
      rw [iI_le (by omega) (by omega) (by omega) (by omega), xn, en]
      refine ⟨fun q => absurd q (by omega), fun _ => ⟨ni, fun S2 e2 => ?_⟩⟩
      refine ih (n + 1) S2 (by omega) (fun c k h1 => by rw [e2, up_ne _ _ (by omega), o1 c k h1]) (fun j hj => ?_)
      by_cases hjn : j = n
      · rw [e2, hjn, up_at]
      · rw [e2, up_ne _ _ (by omega), o2 j (by omega)]
  have := key (36 * (s + 1)) 0 S (by omega) (fun _ _ _ => rfl) (fun j hj => absurd hj (by omega))
  exact ⟨36 * (s + 1) + 1, this⟩
theorem s_X4_soonestWith {v : Vw} {p s l0 : Nat} {a0 c0 t0 : Int} {S : St} {post : Int32 → St → Prop} (hL : Lb v) (hp : (p : Int) < v 0 2) (hs : s < 64) (hl : l0 ||| s = s) (ha : 0 ≤ a0 ∧ a0 < v 0 0) (hc : 0 ≤ c0 ∧ c0 ≤ 5) (ht : 0 ≤ t0 ∧ t0 ≤ 100000) (hD : LyD v p s l0 a0 c0 t0 (s + 1) S) (h : ∀ y, 0 ≤ y → y ≤ 100000000 → RS v p s l0 a0 c0 t0 y → post (iI (if y = 100000000 then -1 else y)) S) : wp_X4_soonestWith (iI s) S post := by
  obtain ⟨b0, b0', b1, b1', b2, b2', _⟩ := id hL.1
  have lab : ∀ j, j < 36 → 0 ≤ zz S 51 (36 * s + j) ∧ zz S 51 (36 * s + j) ≤ 1000000000 := fun j hj => by
    rcases hD.1 (36 * s + j) (by omega) with w | ⟨_, w2, w3, _⟩ <;> omega
  have fin : ∀ x, 0 ≤ x → x ≤ 1000000000 → (x = 1000000000 ∨ ∃ k, k < 36 ∧ x = zz S 51 (36 * s + k)) → (∀ k, k < 36 → x ≤ zz S 51 (36 * s + k)) → B_X4_soonestWith_33 post (iI x) S := by
    intro x x1 x2 h1 h2
    unfold B_X4_soonestWith_33
    rw [show (1000000000 : Int32) = iI 1000000000 from rfl, iI_eq (by omega) (by omega) (by omega) (by omega)]
    refine ⟨fun hne => ?_, fun he => ?_⟩
    · rcases h1 with q | ⟨k, hk, q⟩
      · exact absurd q hne
      · rcases hD.1 (36 * s + k) (by omega) with w | ⟨w1, w2, w3, n, w4⟩
        · omega
        · have hy : RS v p s l0 a0 c0 t0 x := by
            refine Or.inl ⟨x1, by omega, ⟨n, _, _, by rw [q]; rw [show (36 * s + k) / 36 = s from by omega] at w4; exact w4⟩, fun n' a c t hR => ?_⟩
            obtain ⟨C, y1, y2, y3, y4⟩ := LyD_end hL hp hs hl ha hc ht hD n' s a c t hR
            obtain ⟨g1, g2, _⟩ := Rc_in hL hp ha hc n' s a c t hR
            have := h2 (6 * a.toNat + C.toNat) (by omega)
            omega
          have := h x x1 (by omega) hy
          rw [if_neg (by omega)] at this
          exact this
    · have hy : RS v p s l0 a0 c0 t0 100000000 := by
        refine Or.inr ⟨rfl, fun n' a c t hR => ?_⟩
        obtain ⟨C, y1, y2, y3, y4⟩ := LyD_end hL hp hs hl ha hc ht hD n' s a c t hR
        obtain ⟨g1, g2, _⟩ := Rc_in hL hp ha hc n' s a c t hR
        have := h2 (6 * a.toNat + C.toNat) (by omega)
        omega
      have := h 100000000 (by omega) (by omega) hy
      rw [if_pos rfl] at this
      exact this
  have key : ∀ (d n : Nat) (x : Int), n + d = 36 → 0 ≤ x → x ≤ 1000000000 → (x = 1000000000 ∨ ∃ k, k < n ∧ x = zz S 51 (36 * s + k)) → (∀ k, k < n → x ≤ zz S 51 (36 * s + k)) → L_X4_soonestWith_5 post (d + 1) (iI s) (iI x) (iI n) S := by
    intro d
    induction d with
    | zero =>
      intro n x hn x1 x2 h1 h2
      show BD_X4_soonestWith_5 (L_X4_soonestWith_5 post 0) post _ _ _ _
      unfold BD_X4_soonestWith_5
      rw [show (36 : Int32) = iI 36 from rfl, iI_le (by omega) (by omega) (by omega) (by omega)]
      refine ⟨fun _ => fin x x1 x2 ?_ (fun k hk => h2 k (by omega)), fun e => absurd (by omega) e⟩
      rcases h1 with q | ⟨k, hk, q⟩
      · exact Or.inl q
      · exact Or.inr ⟨k, by omega, q⟩
    | succ d ih =>
      intro n x hn x1 x2 h1 h2
      show BD_X4_soonestWith_5 (L_X4_soonestWith_5 post (d + 1)) post _ _ _ _
      unfold BD_X4_soonestWith_5
      have en : iI (n : Int) + 1 = iI ((n + 1 : Nat) : Int) := by rw [show (1 : Int32) = iI 1 from rfl, iI_add]; rfl
      have hj := lab n (by omega)
      have ej : iI (s : Int) * 36 + iI (n : Int) = iI ((36 * s + n : Nat) : Int) := by
        rw [show (36 : Int32) = iI 36 from rfl, iI_mul, iI_add]
        congr 1
        omega
      have xj : ix (iI ((36 * s + n : Nat) : Int)) = 36 * s + n := by rw [iI_ix (by omega) (by omega)]; omega
      have ij : vp_in (iI ((36 * s + n : Nat) : Int)) 2304 := (iI_in (by omega) (by omega)).mpr ⟨by omega, by omega⟩
      rw [en, ej, xj, zz_S S 51 (36 * s + n), show (36 : Int32) = iI 36 from rfl, iI_le (by omega) (by omega) (by omega) (by omega)]
      refine ⟨fun q => absurd q (by omega), fun _ => ⟨ij, fun v2 e2 => ?_⟩⟩
      by_cases hlt : zz S 51 (36 * s + n) < x
      · rw [if_pos ((iI_lt (by omega) (by omega) (by omega) (by omega)).mpr hlt)] at e2
        rw [e2]
        refine ih (n + 1) _ (by omega) hj.1 hj.2 (Or.inr ⟨n, by omega, rfl⟩) (fun k hk => ?_)
        by_cases hkn : k = n
        · rw [hkn]; exact Int.le_refl _
        · have := h2 k (by omega)
          omega
      · rw [if_neg (fun q => hlt ((iI_lt (by omega) (by omega) (by omega) (by omega)).mp q))] at e2
        rw [e2]
        refine ih (n + 1) x (by omega) x1 x2 ?_ (fun k hk => ?_)
        · rcases h1 with h1 | ⟨k, hk, e⟩
          · exact Or.inl h1
          · exact Or.inr ⟨k, by omega, e⟩
        · by_cases hkn : k = n
          · rw [hkn]; omega
          · exact h2 k (by omega)
  exact ⟨36 + 1, key 36 0 1000000000 (by omega) (by omega) (by omega) (Or.inl rfl) (fun k hk => absurd hk (by omega))⟩
