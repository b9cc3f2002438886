theorem iI_neg (a : Int) : -iI a = iI (-a) := (Int32.ofInt_neg a).symm
/-! views of a land, in whole numbers -/
abbrev Vw : Type := Nat → Nat → Int
def cv (S : St) (o : Nat) : Vw := fun f k => zz S (o + f) k
def mz (S : St) (a : Nat) : Vw := fun f k => match f with
  | 0 => (match k with
    | 0 => zz S 71 10
    | 1 => zz S 71 11
    | 2 => zz S 71 12
    | 3 => zz S a 16
    | 4 => zz S a 17
    | _ => zz S a 27)
  | 1 => zz S 73 (3 * k)
  | 2 => zz S 73 (3 * k + 1)
  | 3 => zz S a (18 + k)
  | 4 => zz S 74 (5 * k + 1)
  | 5 => zz S 74 (5 * k + 2)
  | 6 => zz S 74 (5 * k + 4)
  | 7 => zz S a (4 * k)
  | 8 => zz S a (4 * k + 1)
  | 9 => zz S a (4 * k + 2)
  | _ => zz S a (4 * k + 3)
def Rb (v : Vw) (r : Nat) : Prop := 0 ≤ v 1 r ∧ v 1 r < v 0 0 ∧ 0 ≤ v 2 r ∧ v 2 r < v 0 0 ∧ v 1 r ≠ v 2 r ∧ 1 ≤ v 3 r ∧ v 3 r ≤ 20
def Pb (v : Vw) (p : Nat) : Prop := 0 ≤ v 4 p ∧ v 4 p < v 0 0 ∧ 0 ≤ v 5 p ∧ v 5 p ≤ 9 ∧ 0 ≤ v 6 p ∧ v 6 p ≤ 999 ∧ 0 ≤ v 7 p ∧ v 7 p < v 0 0 ∧ 0 ≤ v 8 p ∧ v 8 p ≤ 5 ∧ 0 ≤ v 9 p ∧ v 9 p ≤ 9
def Hb (v : Vw) : Prop := 0 ≤ v 0 0 ∧ v 0 0 ≤ 6 ∧ 0 ≤ v 0 1 ∧ v 0 1 ≤ 9 ∧ 0 ≤ v 0 2 ∧ v 0 2 ≤ 4 ∧ 0 ≤ v 0 3 ∧ v 0 3 < 64 ∧ 0 ≤ v 0 4 ∧ v 0 4 < 64 ∧ 0 ≤ v 0 5 ∧ v 0 5 < 2147483648
def Lb (v : Vw) : Prop := Hb v ∧ (∀ r : Nat, (r : Int) < v 0 1 → Rb v r) ∧ ∀ p : Nat, (p : Int) < v 0 2 → Pb v p
def hur (v : Vw) (p : Nat) (a t : Int) : Int := v 5 p + v 9 p + bt (v 0 4) a + (if v 6 p - t < 10 then 1 else 0) + (if v 6 p - t < 0 then 2 else 0)
def tmh (v : Vw) (r : Nat) (h : Int) : Int := (v 3 r * (2 + h) + 1) / 2
def tme (v : Vw) (p r : Nat) (a t s : Int) : Int := tmh v r (if hur v p a t < s then 0 else hur v p a t - s)
def oth (v : Vw) (r : Nat) (a : Int) : Int := if v 1 r = a then v 2 r else if v 2 r = a then v 1 r else -1
theorem hur_b {v : Vw} {p : Nat} (a t : Int) (hp : Pb v p) : 0 ≤ hur v p a t ∧ hur v p a t ≤ 22 := by
  obtain ⟨_, _, h1, h2, h3, h4, _, _, _, _, h5, h6⟩ := hp
  have h7 := bt_01 (v 0 4) a
  unfold hur
  split <;> split <;> omega
theorem tmh_b {v : Vw} {r : Nat} {h : Int} (hr : Rb v r) (h1 : 0 ≤ h) (h2 : h ≤ 22) : 1 ≤ tmh v r h ∧ tmh v r h ≤ 240 := by
  obtain ⟨_, _, _, _, _, h3, h4⟩ := hr
  unfold tmh
  have h5 : v 3 r * (2 + h) ≤ 20 * 24 := Int.mul_le_mul h4 (by omega) (by omega) (by omega)
  have h6 : 1 * 2 ≤ v 3 r * (2 + h) := Int.mul_le_mul h3 (by omega) (by omega) (by omega)
  omega
theorem tme_b {v : Vw} {p r : Nat} (a t : Int) {s : Int} (hp : Pb v p) (hr : Rb v r) (hs : 0 ≤ s) : 1 ≤ tme v p r a t s ∧ tme v p r a t s ≤ 240 := by
  have := hur_b a t hp
  unfold tme
  apply tmh_b hr
  · split <;> omega
  · split <;> omega
theorem s_X6_hurry {o p : Nat} {a t : Int} {S : St} {post : Int32 → St → Prop} (hH : Hb (cv S o)) (hP : Pb (cv S o) p) (hp : (p : Int) < 4) (ha : 0 ≤ a) (ha2 : a < 6) (ht : -1000000000 ≤ t) (ht2 : t ≤ 1000000000) (h : post (iI (hur (cv S o) p a t)) S) : wp_X6_hurry o (iI p) (iI a) (iI t) S post := by
  obtain ⟨_, _, h1, h2, h3, h4, _, _, _, _, h5, h6⟩ := hP
  obtain ⟨_, _, _, _, _, _, _, _, h7, h8, _, _⟩ := hH
  simp only [cv, Nat.add_zero] at h1 h2 h3 h4 h5 h6 h7 h8
  unfold wp_X6_hurry
  have e4 := bit_get h7 h8 ha ha2
  simp only [zz_S S, e4]
  simp (disch := omega) only [iI_add, iI_sub, iI_mul, iI_le, iI_lt, iI_eq, iI_ix, iI_in, iI_neg, iI_lit]
  refine ⟨by omega, ?_⟩
  rintro v1 rfl
  refine ⟨by omega, by omega, ?_⟩
  rintro v2 rfl
  have h9 := bt_01 (zz S o 4) a
  simp (disch := omega) only [iI_add, iI_sub, iI_mul, iI_le, iI_lt, iI_eq, iI_ix, iI_in, iI_neg, iI_lit, Int.toNat_natCast] at *
  have key : ∀ z : Int, z = hur (cv S o) p a t → post (iI z) S := fun z hz => hz ▸ h
  simp only [hur, cv, Nat.add_zero] at key
  refine ⟨fun q => ⟨fun q2 => ?_, fun q2 => ?_⟩, fun q => ⟨fun q2 => ?_, fun q2 => ?_⟩⟩ <;> apply key <;> (repeat' split) <;> omega
