/-! whole numbers behind Int32 -/
def iI (z : Int) : Int32 := Int32.ofInt z
theorem iI_toInt {z : Int} (h1 : -2147483648 ≤ z) (h2 : z < 2147483648) : (iI z).toInt = z := Int32.toInt_ofInt_of_le (by omega) (by omega)
theorem iI_of (x : Int32) : iI x.toInt = x := Int32.ofInt_toInt x
theorem iI_ex (x : Int32) : ∃ z : Int, -2147483648 ≤ z ∧ z < 2147483648 ∧ x = iI z := ⟨x.toInt, by have := Int32.le_toInt x; omega, by have := Int32.toInt_lt x; omega, (iI_of x).symm⟩
theorem iI_add (a b : Int) : iI a + iI b = iI (a + b) := (Int32.ofInt_add a b).symm
theorem iI_sub (a b : Int) : iI a - iI b = iI (a - b) := (Int32.ofInt_sub a b).symm
theorem iI_mul (a b : Int) : iI a * iI b = iI (a * b) := (Int32.ofInt_mul a b).symm
theorem iI_lit (n : Nat) : (OfNat.ofNat n : Int32) = iI (OfNat.ofNat n : Int) := rfl
theorem iI_le {a b : Int} (a1 : -2147483648 ≤ a) (a2 : a < 2147483648) (b1 : -2147483648 ≤ b) (b2 : b < 2147483648) : iI a ≤ iI b ↔ a ≤ b := by
  rw [Int32.le_iff_toInt_le, iI_toInt a1 a2, iI_toInt b1 b2]
theorem iI_lt {a b : Int} (a1 : -2147483648 ≤ a) (a2 : a < 2147483648) (b1 : -2147483648 ≤ b) (b2 : b < 2147483648) : iI a < iI b ↔ a < b := by
  rw [Int32.lt_iff_toInt_lt, iI_toInt a1 a2, iI_toInt b1 b2]
theorem iI_eq {a b : Int} (a1 : -2147483648 ≤ a) (a2 : a < 2147483648) (b1 : -2147483648 ≤ b) (b2 : b < 2147483648) : iI a = iI b ↔ a = b := by
  rw [← Int32.toInt_inj, iI_toInt a1 a2, iI_toInt b1 b2]
theorem iI_ix {a : Int} (h1 : 0 ≤ a) (h2 : a < 2147483648) : ix (iI a) = a.toNat := by
  show (iI a).toInt.toNat = a.toNat
  rw [iI_toInt (by omega) h2]
theorem iI_in {a : Int} {n : Nat} (h1 : -2147483648 ≤ a) (h2 : a < 2147483648) : vp_in (iI a) n ↔ 0 ≤ a ∧ a < n := by
  rw [vp_in_iff, iI_toInt h1 h2]
theorem iI_m1 : (-1 : Int32) = iI (-1) := by decide
theorem iI_m2 : (-2 : Int32) = iI (-2) := by decide
theorem iI_div {a b : Int} (a1 : 0 ≤ a) (a2 : a < 2147483648) (b1 : 0 < b) (b2 : b < 2147483648) : iI a / iI b = iI (a / b) := by
  rw [← Int32.toInt_inj, Int32.toInt_div_of_ne_right _ _ (fun h => by rw [← Int32.toInt_inj, iI_toInt (by omega) b2] at h; simp at h; omega), iI_toInt (by omega) a2, iI_toInt (by omega) b2]
  have h : 0 ≤ a / b := Int.ediv_nonneg a1 (by omega)
  have h2 : a / b ≤ a := Int.ediv_le_self _ a1
  rw [iI_toInt (by omega) (by omega), Int.tdiv_eq_ediv_of_nonneg a1]
theorem iI_rem {a b : Int} (a1 : 0 ≤ a) (a2 : a < 2147483648) (b1 : 0 < b) (b2 : b < 2147483648) : iI a - iI a / iI b * iI b = iI (a % b) := by
  rw [iI_div a1 a2 b1 b2, iI_mul, iI_sub]
  congr 1
  have := Int.mul_ediv_add_emod a b
  rw [Int.mul_comm] at this
  omega
def zz (S : St) (c k : Nat) : Int := (S c k).toInt
theorem zz_S (S : St) (c k : Nat) : S c k = iI (zz S c k) := (iI_of _).symm
theorem zz_lo (S : St) (c k : Nat) : -2147483648 ≤ zz S c k := by have := Int32.le_toInt (S c k); simp only [zz]; omega
theorem zz_hi (S : St) (c k : Nat) : zz S c k < 2147483648 := by have := Int32.toInt_lt (S c k); simp only [zz]; omega
def bt (m a : Int) : Int := m / 2 ^ a.toNat % 2
theorem bt_01 (m a : Int) : bt m a = 0 ∨ bt m a = 1 := by simp only [bt]; omega
theorem bit_get {m a : Int} (h1 : 0 ≤ m) (h2 : m < 64) (h3 : 0 ≤ a) (h4 : a < 6) : (iI m >>> (iI a &&& 31)) &&& 1 = iI (bt m a) := by
  have key : ∀ m : Fin 64, ∀ a : Fin 6, (iI (m.val : Int) >>> (iI (a.val : Int) &&& 31)) &&& 1 = iI (bt (m.val : Int) (a.val : Int)) := by decide +kernel
  have := key ⟨m.toNat, by omega⟩ ⟨a.toNat, by omega⟩
  simpa [Int.toNat_of_nonneg h1, Int.toNat_of_nonneg h3] using this
theorem bit_or {m a : Int} (h1 : 0 ≤ m) (h2 : m < 64) (h3 : 0 ≤ a) (h4 : a < 6) : ∃ z : Int, 0 ≤ z ∧ z < 64 ∧ iI m ||| ((1 : Int32) <<< (iI a &&& 31)) = iI z ∧ ∀ b : Int, 0 ≤ b → b < 6 → bt z b = if b = a then 1 else bt m b := by
  have key : ∀ m : Fin 64, ∀ a : Fin 6, ∃ z : Fin 64, iI (m.val : Int) ||| ((1 : Int32) <<< (iI (a.val : Int) &&& 31)) = iI (z.val : Int) ∧ ∀ b : Fin 6, bt (z.val : Int) (b.val : Int) = if (b.val : Int) = (a.val : Int) then 1 else bt (m.val : Int) (b.val : Int) := by decide +kernel
  obtain ⟨z, e1, e2⟩ := key ⟨m.toNat, by omega⟩ ⟨a.toNat, by omega⟩
  refine ⟨z.val, by omega, by omega, ?_, fun b hb1 hb2 => ?_⟩
  · simpa [Int.toNat_of_nonneg h1, Int.toNat_of_nonneg h3] using e1
  · have := e2 ⟨b.toNat, by omega⟩
    simpa [Int.toNat_of_nonneg h1, Int.toNat_of_nonneg h3, Int.toNat_of_nonneg hb1] using this
theorem bit_and {m a : Int} (h1 : 0 ≤ m) (h2 : m < 64) (h3 : 0 ≤ a) (h4 : a < 6) : ∃ z : Int, 0 ≤ z ∧ z < 64 ∧ iI m &&& (((1 : Int32) <<< (iI a &&& 31)) ^^^ (-1)) = iI z ∧ ∀ b : Int, 0 ≤ b → b < 6 → bt z b = if b = a then 0 else bt m b := by
  have key : ∀ m : Fin 64, ∀ a : Fin 6, ∃ z : Fin 64, iI (m.val : Int) &&& (((1 : Int32) <<< (iI (a.val : Int) &&& 31)) ^^^ (-1)) = iI (z.val : Int) ∧ ∀ b : Fin 6, bt (z.val : Int) (b.val : Int) = if (b.val : Int) = (a.val : Int) then 0 else bt (m.val : Int) (b.val : Int) := by decide +kernel
  obtain ⟨z, e1, e2⟩ := key ⟨m.toNat, by omega⟩ ⟨a.toNat, by omega⟩
  refine ⟨z.val, by omega, by omega, ?_, fun b hb1 hb2 => ?_⟩
  · simpa [Int.toNat_of_nonneg h1, Int.toNat_of_nonneg h3] using e1
  · have := e2 ⟨b.toNat, by omega⟩
    simpa [Int.toNat_of_nonneg h1, Int.toNat_of_nonneg h3, Int.toNat_of_nonneg hb1] using this
