/-! drift: the draws -/
def dsd (z : Int) : Int := (z * 1103515245 + 12345) % 2147483648
theorem dsd_b (z : Int) : 0 ≤ dsd z ∧ dsd z < 2147483648 := by unfold dsd; omega
theorem and31 (x : Int) : iI x &&& 2147483647 = iI (x % 2147483648) := by
  apply Int32.toBitVec_inj.mp
  apply BitVec.eq_of_toNat_eq
  rw [Int32.toBitVec_and, BitVec.toNat_and]
  unfold iI
  rw [Int32.toBitVec_ofInt, Int32.toBitVec_ofInt, BitVec.toNat_ofInt, BitVec.toNat_ofInt, show (2147483647 : Int32).toBitVec.toNat = 2 ^ 31 - 1 from by decide, Nat.and_two_pow_sub_one_eq_mod]
  omega
theorem mix64 {z : Int} (h1 : 0 ≤ z) (h2 : z < 2147483648) : Int64.toInt32 (((iI z).toInt64 * 1103515245 + 12345) &&& 2147483647) = iI (dsd z) := by
  have e : (iI z).toInt64 = Int64.ofInt z := by
    apply Int64.toInt_inj.mp
    rw [Int32.toInt_toInt64, iI_toInt (by omega) (by omega), Int64.toInt_ofInt]
    simp only [Int.bmod, Int64.size]
    omega
  rw [e, show (1103515245 : Int64) = Int64.ofInt 1103515245 from rfl, show (12345 : Int64) = Int64.ofInt 12345 from rfl, ← Int64.ofInt_mul, ← Int64.ofInt_add]
  apply Int32.toBitVec_inj.mp
  apply BitVec.eq_of_toNat_eq
  unfold iI dsd
  rw [Int64.toBitVec_toInt32, BitVec.signExtend_eq_setWidth_of_le _ (by omega), BitVec.toNat_setWidth, Int64.toBitVec_and, BitVec.toNat_and, Int64.toBitVec_ofInt, Int32.toBitVec_ofInt, BitVec.toNat_ofInt, BitVec.toNat_ofInt, show (2147483647 : Int64).toBitVec.toNat = 2 ^ 31 - 1 from by decide, Nat.and_two_pow_sub_one_eq_mod]
  have hy : 0 ≤ z * 1103515245 + 12345 ∧ z * 1103515245 + 12345 < 4611686018427387904 := by omega
  generalize z * 1103515245 + 12345 = y at hy
  rw [Int.emod_eq_of_lt hy.1 (by omega)]
  obtain ⟨m, rfl⟩ : ∃ m : Nat, y = (m : Int) := ⟨y.toNat, by omega⟩
  rw [Int.toNat_natCast]
  have e1 : (m : Int) % 2147483648 = ((m % 2147483648 : Nat) : Int) := by omega
  rw [e1]
  have e2 : m % 2147483648 < 2147483648 := Nat.mod_lt _ (by omega)
  generalize hk : m % 2147483648 = k at *
  omega
theorem s_X6_draw {o : Nat} {m : Int} {S : St} {post : Int32 → St → Prop} (hs : 0 ≤ zz S o 5) (m1 : 1 ≤ m) (m2 : m ≤ 1000) (h : ∀ S', S' = up S o 5 (iI (dsd (zz S o 5))) → post (iI (dsd (zz S o 5) / 65536 % m)) S') : wp_X6_draw o (iI m) S post := by
  unfold wp_X6_draw
  intro S1 e1
  have hz := zz_hi S o 5
  rw [zz_S S o 5, mix64 hs (by omega)] at e1
  have hb := dsd_b (zz S o 5)
  have e5 : S1 o 5 = iI (dsd (zz S o 5)) := by rw [e1, up_at]
  have hd : 0 ≤ dsd (zz S o 5) / 65536 ∧ dsd (zz S o 5) / 65536 < 32768 := by omega
  have hq : dsd (zz S o 5) / 65536 - dsd (zz S o 5) / 65536 / m * m = dsd (zz S o 5) / 65536 % m := by
    have := Int.emod_add_mul_ediv (dsd (zz S o 5) / 65536) m
    rw [Int.mul_comm] at this
    omega
  rw [e5, show (65536 : Int32) = iI 65536 from rfl, iI_div (by omega) (by omega) (by omega) (by omega), iI_div (by omega) (by omega) (by omega) (by omega), iI_mul, iI_sub, hq, show (1 : Int32) = iI 1 from rfl, show (0 : Int32) = iI 0 from rfl, iI_le (by omega) (by omega) (by omega) (by omega), iI_eq (by omega) (by omega) (by omega) (by omega)]
  exact ⟨fun _ => ⟨by omega, h S1 e1⟩, fun e => absurd m1 e⟩
theorem s_X8_draw {m : Int} {S : St} {post : Int32 → St → Prop} (hs : 0 ≤ zz S 75 27) (m1 : 1 ≤ m) (m2 : m ≤ 1000) (h : ∀ S', S' = up S 75 27 (iI (dsd (zz S 75 27))) → post (iI (dsd (zz S 75 27) / 65536 % m)) S') : wp_X8_draw (iI m) S post := by
  unfold wp_X8_draw
  intro S1 e1
  have hz := zz_hi S 75 27
  rw [zz_S S 75 27, show (1103515245 : Int32) = iI 1103515245 from rfl, show (12345 : Int32) = iI 12345 from rfl, iI_mul, iI_add, and31, show (zz S 75 27 * 1103515245 + 12345) % 2147483648 = dsd (zz S 75 27) from rfl] at e1
  have hb := dsd_b (zz S 75 27)
  have e5 : S1 75 27 = iI (dsd (zz S 75 27)) := by rw [e1, up_at]
  have hd : 0 ≤ dsd (zz S 75 27) / 65536 ∧ dsd (zz S 75 27) / 65536 < 32768 := by omega
  have hq : dsd (zz S 75 27) / 65536 - dsd (zz S 75 27) / 65536 / m * m = dsd (zz S 75 27) / 65536 % m := by
    have := Int.emod_add_mul_ediv (dsd (zz S 75 27) / 65536) m
    rw [Int.mul_comm] at this
    omega
  rw [e5, show (65536 : Int32) = iI 65536 from rfl, iI_div (by omega) (by omega) (by omega) (by omega), iI_div (by omega) (by omega) (by omega) (by omega), iI_mul, iI_sub, hq, show (0 : Int32) = iI 0 from rfl, iI_eq (by omega) (by omega) (by omega) (by omega)]
  exact ⟨by omega, h S1 e1⟩
/-- how many roads lead from a place, of those from the i-th on -/
def wys (v : Vw) (a : Int) : Nat → Nat → Nat
  | 0, _ => 0
  | d + 1, i => (if oth v i a = -1 then 0 else 1) + wys v a d (i + 1)
/-- the k-th of them -/
def rdw (v : Vw) (a : Int) : Nat → Nat → Nat → Int
  | 0, _, _ => -1
  | d + 1, i, k => if oth v i a = -1 then rdw v a d (i + 1) k else (match k with | 0 => (i : Int) | k + 1 => rdw v a d (i + 1) k)
theorem wys_le (v : Vw) (a : Int) : ∀ d i, wys v a d i ≤ d := by
  intro d
  induction d with
  | zero => intro i; exact Nat.le_refl 0
  | succ d ih => intro i; have := ih (i + 1); unfold wys; split <;> omega
theorem wys_up {v w : Vw} (a : Int) : ∀ d i, (∀ j, i ≤ j → j < i + d → oth w j a = oth v j a) → wys w a d i = wys v a d i := by
  intro d
  induction d with
  | zero => intro i _; rfl
  | succ d ih => intro i h; unfold wys; rw [h i (by omega) (by omega), ih (i + 1) (fun j h1 h2 => h j (by omega) (by omega))]
theorem rdw_up {v w : Vw} (a : Int) : ∀ d i k, (∀ j, i ≤ j → j < i + d → oth w j a = oth v j a) → rdw w a d i k = rdw v a d i k := by
  intro d
  induction d with
  | zero => intro i k _; rfl
  | succ d ih =>
    intro i k h
    have ih' := fun k => ih (i + 1) k (fun j h1 h2 => h j (by omega) (by omega))
    unfold rdw
    rw [h i (by omega) (by omega), ih' k]
    cases k with
    | zero => rfl
    | succ k => simp only [ih' k]
theorem rdw_ok (v : Vw) (a : Int) : ∀ d i k, k < wys v a d i → ∃ r : Nat, rdw v a d i k = (r : Int) ∧ i ≤ r ∧ r < i + d ∧ oth v r a ≠ -1 := by
  intro d
  induction d with
  | zero => intro i k h; exact absurd h (by unfold wys; omega)
  | succ d ih =>
    intro i k h
    unfold wys at h
    by_cases ho : oth v i a = -1
    · rw [if_pos ho] at h
      obtain ⟨r, e, h1, h2, h3⟩ := ih (i + 1) k (by omega)
      exact ⟨r, by unfold rdw; rw [if_pos ho, e], by omega, by omega, h3⟩
    · rw [if_neg ho] at h
      cases k with
      | zero => exact ⟨i, by unfold rdw; rw [if_neg ho], by omega, by omega, ho⟩
      | succ k =>
        obtain ⟨r, e, h1, h2, h3⟩ := ih (i + 1) k (by omega)
        exact ⟨r, by unfold rdw; rw [if_neg ho]; exact e, by omega, by omega, h3⟩
