/-! the text: clauses -/
abbrev Out : Type := (Int × Nat) ⊕ (Vw × Nat)
def orb (m a : Int) : Int := (iI m ||| ((1 : Int32) <<< (iI a &&& 31))).toInt
def addP (v : Vw) (b : Int) : Vw := vset (vset v 0 3 (v 0 3 + b * 2 ^ (v 0 0).toNat)) 0 0 (v 0 0 + 1)
def addR (v : Vw) (a b m : Int) : Vw := vset (vset (vset (vset v 1 (v 0 1).toNat a) 2 (v 0 1).toNat b) 3 (v 0 1).toNat m) 0 1 (v 0 1 + 1)
def addM (v : Vw) (a b c d e : Int) : Vw := fun f k => if f = 0 ∧ k = 2 then v 0 2 + 1 else if 4 ≤ f ∧ k = (v 0 2).toNat then (if f = 7 then a else if f = 4 then b else if f = 5 then c else if f = 8 then d else if f = 6 then e else 0) else v f k
def addC (v : Vw) (a : Int) : Vw := vset v 0 4 (orb (v 0 4) a)
def Gd (v : Vw) : Prop := Lb v ∧ Mb v ∧ v 0 3 < 2 ^ (v 0 0).toNat
def Nx (L : Nat → Int) (n : Nat) (lo hi : Int) (x : Nat) (o : Out) (K : Int → Nat → Nat → Prop) : Prop := (∃ c s, NBad L n lo hi x c s ∧ o = Sum.inl (c, s)) ∨ ∃ V e s, NOk L n lo hi x V e s ∧ K V e s
def EndR (L : Nat → Int) (n x : Nat) (v : Vw) (o : Out) : Prop := ∃ s, PbS L n x s ∧ ((s < n ∧ L s = 59 ∧ o = Sum.inr (v, s + 1)) ∨ (¬ (s < n ∧ L s = 59) ∧ o = Sum.inl (1, s)))
def ClP (L : Nat → Int) (n : Nat) (v : Vw) (s : Nat) (o : Out) : Prop := (¬ v 0 0 < 6 ∧ o = Sum.inl (3, s)) ∨ (v 0 0 < 6 ∧ Nx L n 0 1 (s + 1) o (fun b x _ => EndR L n x (addP v b) o))
def ClQ (L : Nat → Int) (n : Nat) (v : Vw) (s : Nat) (o : Out) : Prop := (¬ v 0 1 < 9 ∧ o = Sum.inl (3, s)) ∨ (v 0 1 < 9 ∧ Nx L n 0 (v 0 0 - 1) (s + 1) o (fun a x1 _ => Nx L n 0 (v 0 0 - 1) x1 o (fun b x2 s2 => (a = b ∧ o = Sum.inl (4, s2)) ∨ (a ≠ b ∧ Nx L n 1 20 x2 o (fun m x3 _ => EndR L n x3 (addR v a b m) o)))))
def ClM (L : Nat → Int) (n : Nat) (v : Vw) (s : Nat) (o : Out) : Prop := (¬ v 0 2 < 4 ∧ o = Sum.inl (3, s)) ∨ (v 0 2 < 4 ∧ Nx L n 0 (v 0 0 - 1) (s + 1) o (fun a x1 _ => Nx L n 0 (v 0 0 - 1) x1 o (fun b x2 _ => Nx L n 0 9 x2 o (fun c x3 _ => Nx L n 0 5 x3 o (fun d x4 _ => Nx L n 0 999 x4 o (fun e x5 _ => EndR L n x5 (addM v a b c d e) o))))))
def ClC (L : Nat → Int) (n : Nat) (v : Vw) (s : Nat) (o : Out) : Prop := Nx L n 0 (v 0 0 - 1) (s + 1) o (fun a x s2 => (bt (v 0 4) a = 1 ∧ o = Sum.inl (4, s2)) ∨ (¬ bt (v 0 4) a = 1 ∧ EndR L n x (addC v a) o))
def ClR (L : Nat → Int) (n : Nat) (v : Vw) (s : Nat) (o : Out) : Prop := (L s = 112 ∧ ClP L n v s o) ∨ (L s = 114 ∧ ClQ L n v s o) ∨ (L s = 109 ∧ ClM L n v s o) ∨ (L s = 99 ∧ ClC L n v s o) ∨ (L s ≠ 112 ∧ L s ≠ 114 ∧ L s ≠ 109 ∧ L s ≠ 99 ∧ o = Sum.inl (1, s))
def RunR (L : Nat → Int) (n : Nat) : Nat → Vw → Nat → Out → Prop
  | 0, _, _, _ => False
  | d + 1, v, s, o => (s = n ∧ o = Sum.inr (v, n)) ∨ (s < n ∧ ((∃ c a, ClR L n v s (Sum.inl (c, a)) ∧ o = Sum.inl (c, a)) ∨ ∃ v' x' s', ClR L n v s (Sum.inr (v', x')) ∧ PbS L n x' s' ∧ RunR L n d v' s' o))
theorem plc : ∀ p : Fin 6, ∀ m : Fin 64, m.val < 2 ^ p.val → (iI (m.val : Int) &&& (((1 : Int32) <<< (iI (p.val : Int) &&& 31)) ^^^ (-1)) = iI (m.val : Int)) ∧ (iI (m.val : Int) ||| ((1 : Int32) <<< (iI (p.val : Int) &&& 31)) = iI ((m.val + 2 ^ p.val : Nat) : Int)) ∧ m.val + 2 ^ p.val < 64 ∧ m.val + 2 ^ p.val < 2 ^ (p.val + 1) ∧ m.val < 2 ^ (p.val + 1) ∧ (iI (m.val : Int) ||| (iI 0 <<< (iI (p.val : Int) &&& 31)) = iI (m.val : Int)) := by decide +kernel
/-- what the bits of the inns are, a place more -/
theorem plc' {v : Vw} (h : Gd v) (hp : v 0 0 < 6) : (iI (v 0 3) &&& (((1 : Int32) <<< (iI (v 0 0) &&& 31)) ^^^ (-1)) = iI (v 0 3 + 0 * 2 ^ (v 0 0).toNat)) ∧ (iI (v 0 3) ||| ((1 : Int32) <<< (iI (v 0 0) &&& 31)) = iI (v 0 3 + 1 * 2 ^ (v 0 0).toNat)) ∧ (∀ b : Int, b = 0 ∨ b = 1 → 0 ≤ v 0 3 + b * 2 ^ (v 0 0).toNat ∧ v 0 3 + b * 2 ^ (v 0 0).toNat < 64 ∧ v 0 3 + b * 2 ^ (v 0 0).toNat < 2 ^ ((v 0 0) + 1).toNat) ∧ (iI (v 0 3) ||| (iI 0 <<< (iI (v 0 0) &&& 31)) = iI (v 0 3 + 0 * 2 ^ (v 0 0).toNat)) := by
  obtain ⟨⟨⟨b0, b0', b1, b1', b2, b2', b3, b3', _⟩, _, _⟩, _, hlt⟩ := h
  obtain ⟨p, hpn⟩ : ∃ p : Nat, v 0 0 = (p : Int) := ⟨(v 0 0).toNat, by omega⟩
  obtain ⟨m, hmn⟩ : ∃ m : Nat, v 0 3 = (m : Int) := ⟨(v 0 3).toNat, by omega⟩
  rw [hpn, hmn, Int.toNat_natCast] at hlt
  have hlt2 : m < 2 ^ p := by
    have : ((2 : Int) ^ p) = ((2 ^ p : Nat) : Int) := by rw [Int.natCast_pow]; rfl
    rw [this] at hlt
    omega
  have q := plc ⟨p, by omega⟩ ⟨m, by omega⟩ hlt2
  have q : (iI (m : Int) &&& (((1 : Int32) <<< (iI (p : Int) &&& 31)) ^^^ (-1)) = iI (m : Int)) ∧ (iI (m : Int) ||| ((1 : Int32) <<< (iI (p : Int) &&& 31)) = iI ((m + 2 ^ p : Nat) : Int)) ∧ m + 2 ^ p < 64 ∧ m + 2 ^ p < 2 ^ (p + 1) ∧ m < 2 ^ (p + 1) ∧ (iI (m : Int) ||| (iI 0 <<< (iI (p : Int) &&& 31)) = iI (m : Int)) := q
  have e2 : ((2 : Int) ^ p) = ((2 ^ p : Nat) : Int) := by rw [Int.natCast_pow]; rfl
  have e3 : ((2 : Int) ^ (p + 1)) = ((2 ^ (p + 1) : Nat) : Int) := by rw [Int.natCast_pow]; rfl
  rw [hpn, hmn, Int.toNat_natCast, show ((p : Int) + 1).toNat = p + 1 from by omega, e2, e3]
  obtain ⟨q1, q2, q3, q4, q5, q6⟩ := q
  refine ⟨?_, ?_, fun b hb => ?_, ?_⟩
  · rw [q1]; congr 1; omega
  · rw [q2]; congr 1; omega
  · rcases hb with rfl | rfl <;> omega
  · rw [q6]; congr 1; omega
theorem Gd_P {v : Vw} {b : Int} (h : Gd v) (hp : v 0 0 < 6) (hb : b = 0 ∨ b = 1) : Gd (addP v b) := by
  have q := (plc' h hp).2.2.1 b hb
  obtain ⟨hL, hM, hlt⟩ := id h
  obtain ⟨⟨a1, a2, a3, a4, a5, a6, a7, a8, a9, a10, a11, a12⟩, g1, g2⟩ := id hL
  have e : ∀ f k, ¬ (f = 0 ∧ k = 0) → ¬ (f = 0 ∧ k = 3) → addP v b f k = v f k := fun f k h1 h2 => by unfold addP; rw [vset_ne h1, vset_ne h2]
  have e00 : addP v b 0 0 = v 0 0 + 1 := by unfold addP; rw [vset_at]
  have e03 : addP v b 0 3 = v 0 3 + b * 2 ^ (v 0 0).toNat := by unfold addP; rw [vset_ne (by omega), vset_at]
  refine ⟨⟨?_, fun r hr => ?_, fun p hp => ?_⟩, fun p hp => ?_, by rw [e00, e03]; exact q.2.2⟩
  · unfold Hb
    rw [e00, e03, e 0 1 (by omega) (by omega), e 0 2 (by omega) (by omega), e 0 4 (by omega) (by omega), e 0 5 (by omega) (by omega)]
    exact ⟨by omega, by omega, a3, a4, a5, a6, q.1, q.2.1, a9, a10, a11, a12⟩
  · rw [e 0 1 (by omega) (by omega)] at hr
    obtain ⟨w1, w2, w3, w4, w5, w6, w7⟩ := g1 r hr
    unfold Rb
    rw [e00, e 1 r (by omega) (by omega), e 2 r (by omega) (by omega), e 3 r (by omega) (by omega)]
    exact ⟨w1, by omega, w3, by omega, w5, w6, w7⟩
  · rw [e 0 2 (by omega) (by omega)] at hp
    obtain ⟨w1, w2, w3, w4, w5, w6, w7, w8, w9⟩ := g2 p hp
    unfold Pb
    rw [e00, e 4 p (by omega) (by omega), e 5 p (by omega) (by omega), e 6 p (by omega) (by omega), e 7 p (by omega) (by omega), e 8 p (by omega) (by omega), e 9 p (by omega) (by omega)]
    exact ⟨w1, by omega, w3, w4, w5, w6, w7, by omega, w9⟩
  · rw [e 0 2 (by omega) (by omega)] at hp
    rw [e 10 p (by omega) (by omega)]
    exact hM p hp
theorem Gd_R {v : Vw} {a b m : Int} (h : Gd v) (hr : v 0 1 < 9) (ha : 0 ≤ a ∧ a < v 0 0) (hb : 0 ≤ b ∧ b < v 0 0) (hab : a ≠ b) (hm : 1 ≤ m ∧ m ≤ 20) : Gd (addR v a b m) := by
  obtain ⟨hL, hM, hlt⟩ := id h
  obtain ⟨⟨a1, a2, a3, a4, a5, a6, a7, a8, a9, a10, a11, a12⟩, g1, g2⟩ := id hL
  have e : ∀ f k, ¬ (f = 0 ∧ k = 1) → ¬ ((f = 1 ∨ f = 2 ∨ f = 3) ∧ k = (v 0 1).toNat) → addR v a b m f k = v f k := fun f k h1 h2 => by unfold addR; rw [vset_ne h1, vset_ne (by omega), vset_ne (by omega), vset_ne (by omega)]
  have e01 : addR v a b m 0 1 = v 0 1 + 1 := by unfold addR; rw [vset_at]
  have e1 : addR v a b m 1 (v 0 1).toNat = a := by unfold addR; rw [vset_ne (by omega), vset_ne (by omega), vset_ne (by omega), vset_at]
  have e2 : addR v a b m 2 (v 0 1).toNat = b := by unfold addR; rw [vset_ne (by omega), vset_ne (by omega), vset_at]
  have e3 : addR v a b m 3 (v 0 1).toNat = m := by unfold addR; rw [vset_ne (by omega), vset_at]
  refine ⟨⟨?_, fun r hr => ?_, fun p hp => ?_⟩, fun p hp => ?_, ?_⟩
  · unfold Hb
    rw [e01, e 0 0 (by omega) (by omega), e 0 2 (by omega) (by omega), e 0 3 (by omega) (by omega), e 0 4 (by omega) (by omega), e 0 5 (by omega) (by omega)]
    exact ⟨a1, a2, by omega, by omega, a5, a6, a7, a8, a9, a10, a11, a12⟩
  · rw [e01] at hr
    by_cases q : r = (v 0 1).toNat
    · subst q
      unfold Rb
      rw [e 0 0 (by omega) (by omega), e1, e2, e3]
      exact ⟨ha.1, ha.2, hb.1, hb.2, hab, hm⟩
    · exact Rb_congr (e 0 0 (by omega) (by omega)) ⟨e _ _ (by omega) (by omega), e _ _ (by omega) (by omega), e _ _ (by omega) (by omega)⟩ (g1 r (by omega))
  · rw [e 0 2 (by omega) (by omega)] at hp
    exact Pb_congr (e 0 0 (by omega) (by omega)) ⟨e _ _ (by omega) (by omega), e _ _ (by omega) (by omega), e _ _ (by omega) (by omega), e _ _ (by omega) (by omega), e _ _ (by omega) (by omega), e _ _ (by omega) (by omega)⟩ (g2 p hp)
  · rw [e 0 2 (by omega) (by omega)] at hp
    rw [e 10 p (by omega) (by omega)]
    exact hM p hp
  · rw [e 0 3 (by omega) (by omega), e 0 0 (by omega) (by omega)]; exact hlt
theorem addM_ne {v : Vw} {a b c d e : Int} {f k : Nat} (h1 : ¬ (f = 0 ∧ k = 2)) (h2 : ¬ (4 ≤ f ∧ k = (v 0 2).toNat)) : addM v a b c d e f k = v f k := by unfold addM; rw [if_neg h1, if_neg h2]
theorem addM_02 {v : Vw} {a b c d e : Int} : addM v a b c d e 0 2 = v 0 2 + 1 := by unfold addM; rw [if_pos ⟨rfl, rfl⟩]
theorem addM_at {v : Vw} {a b c d e : Int} {f : Nat} (h : 4 ≤ f) : addM v a b c d e f (v 0 2).toNat = (if f = 7 then a else if f = 4 then b else if f = 5 then c else if f = 8 then d else if f = 6 then e else 0) := by unfold addM; rw [if_neg (by omega), if_pos ⟨h, rfl⟩]
theorem Gd_M {v : Vw} {a b c d e : Int} (h : Gd v) (hr : v 0 2 < 4) (ha : 0 ≤ a ∧ a < v 0 0) (hb : 0 ≤ b ∧ b < v 0 0) (hc : 0 ≤ c ∧ c ≤ 9) (hd : 0 ≤ d ∧ d ≤ 5) (he : 0 ≤ e ∧ e ≤ 999) : Gd (addM v a b c d e) := by
  obtain ⟨hL, hM, hlt⟩ := id h
  obtain ⟨⟨a1, a2, a3, a4, a5, a6, a7, a8, a9, a10, a11, a12⟩, g1, g2⟩ := id hL
  have en : ∀ f k, ¬ (f = 0 ∧ k = 2) → ¬ (4 ≤ f ∧ k = (v 0 2).toNat) → addM v a b c d e f k = v f k := fun f k h1 h2 => addM_ne h1 h2
  have e4 : addM v a b c d e 4 (v 0 2).toNat = b := addM_at (by omega)
  have e5 : addM v a b c d e 5 (v 0 2).toNat = c := addM_at (by omega)
  have e6 : addM v a b c d e 6 (v 0 2).toNat = e := addM_at (by omega)
  have e7 : addM v a b c d e 7 (v 0 2).toNat = a := addM_at (by omega)
  have e8 : addM v a b c d e 8 (v 0 2).toNat = d := addM_at (by omega)
  have e9 : addM v a b c d e 9 (v 0 2).toNat = 0 := addM_at (by omega)
  have e10 : addM v a b c d e 10 (v 0 2).toNat = 0 := addM_at (by omega)
  refine ⟨⟨?_, fun r hr => ?_, fun p hp => ?_⟩, fun p hp => ?_, ?_⟩
  · unfold Hb
    rw [addM_02, en 0 0 (by omega) (by omega), en 0 1 (by omega) (by omega), en 0 3 (by omega) (by omega), en 0 4 (by omega) (by omega), en 0 5 (by omega) (by omega)]
    exact ⟨a1, a2, a3, a4, by omega, by omega, a7, a8, a9, a10, a11, a12⟩
  · rw [en 0 1 (by omega) (by omega)] at hr
    exact Rb_congr (en 0 0 (by omega) (by omega)) ⟨en _ _ (by omega) (by omega), en _ _ (by omega) (by omega), en _ _ (by omega) (by omega)⟩ (g1 r hr)
  · rw [addM_02] at hp
    by_cases q : p = (v 0 2).toNat
    · subst q
      unfold Pb
      rw [en 0 0 (by omega) (by omega), e4, e5, e6, e7, e8, e9]
      omega
    · exact Pb_congr (en 0 0 (by omega) (by omega)) ⟨en _ _ (by omega) (by omega), en _ _ (by omega) (by omega), en _ _ (by omega) (by omega), en _ _ (by omega) (by omega), en _ _ (by omega) (by omega), en _ _ (by omega) (by omega)⟩ (g2 p (by omega))
  · rw [addM_02] at hp
    by_cases q : p = (v 0 2).toNat
    · subst q
      rw [e10]; omega
    · rw [en 10 p (by omega) (by omega)]
      exact hM p (by omega)
  · rw [en 0 3 (by omega) (by omega), en 0 0 (by omega) (by omega)]; exact hlt
theorem orb_b {m a : Int} (h1 : 0 ≤ m) (h2 : m < 64) (h3 : 0 ≤ a) (h4 : a < 6) : 0 ≤ orb m a ∧ orb m a < 64 ∧ iI m ||| ((1 : Int32) <<< (iI a &&& 31)) = iI (orb m a) := by
  obtain ⟨z, z1, z2, z3, _⟩ := bit_or h1 h2 h3 h4
  have : orb m a = z := by unfold orb; rw [z3, iI_toInt (by omega) (by omega)]
  rw [this]
  exact ⟨z1, z2, z3⟩
theorem Gd_C {v : Vw} {a : Int} (h : Gd v) (ha : 0 ≤ a ∧ a < v 0 0) : Gd (addC v a) := by
  obtain ⟨hL, hM, hlt⟩ := id h
  obtain ⟨a1, a2, a3, a4, a5, a6, a7, a8, a9, a10, a11, a12⟩ := id hL.1
  have ob := orb_b (m := v 0 4) (a := a) a9 a10 ha.1 (by omega)
  exact ⟨Lb_bits hL (by omega) ⟨ob.1, ob.2.1⟩, Mb_vset hM (by omega) (by omega), by unfold addC; rw [vset_ne (by omega), vset_ne (by omega)]; exact hlt⟩
