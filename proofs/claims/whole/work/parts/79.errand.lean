/-! how soon at the errand, by the class -/
theorem s_X4_soonestAtErrand {v : Vw} {p : Nat} {a0 c0 t0 : Int} {S : St} {post : Int32 → St → Prop} (hL : Lb v) (hp : (p : Int) < v 0 2) (hS : Sv v (cv S 11)) (hP : Pb (cv S 11) p) (e7 : zz S 18 p = a0) (e8 : zz S 19 p = c0) (e10 : zz S 21 p = t0) (ha : 0 ≤ a0 ∧ a0 < v 0 0) (hc : 0 ≤ c0 ∧ c0 ≤ 5) (ht : 0 ≤ t0 ∧ t0 ≤ 900000) (h : ∀ T y, (∀ c k, c ≠ 51 → c ≠ 53 → c ≠ 54 → T c k = S c k) → 0 ≤ y → y ≤ 100000000 → Soon v p a0 c0 t0 (v 4 p) y → post (iI (if y = 100000000 then -1 else y)) T) : wp_X4_soonestAtErrand (iI p) S post := by
  obtain ⟨b0, b0', b1, b1', b2, b2', _⟩ := id hL.1
  have xp : ix (iI (p : Int)) = p := by rw [iI_ix (by omega) (by omega)]; simp
  have ip : vp_in (iI (p : Int)) 4 := (iI_in (by omega) (by omega)).mpr ⟨by omega, by omega⟩
  have e4 : zz S 15 p = v 4 p := (hS.2.2 p hp).1
  have g4 := hL.2.2 p hp
  have g4 : 0 ≤ v 4 p ∧ v 4 p < v 0 0 := ⟨g4.1, g4.2.1⟩
  unfold wp_X4_soonestAtErrand
  rw [xp, zz_S S 15 p, e4]
  refine ⟨ip, ?_⟩
  refine s_X4_explore hL hp hS hP e7 e8 e10 ha hc ht (by omega) ?_
  intro T Z m oT hF hs
  rw [oT 15 p (by omega) (by omega) (by omega), zz_S S 15 p, e4]
  refine ⟨ip, ?_⟩
  refine s_X4_soonestAt (by omega) (fun k hk => ?_) (fun x x1 x2 h1 h2 => ?_)
  · rcases hF.1 (6 * (v 4 p).toNat + k) (by omega) with w | ⟨_, w2, w3, _⟩ <;> omega
  · rcases Fn_soon hL hp ha hc ht g4 hF hs h1 h2 with ⟨e, hy⟩ | ⟨y1, y2, hy⟩
    · rw [if_pos e]
      have := h T _ oT (by omega) (by omega) hy
      rw [if_pos rfl] at this
      exact this
    · rw [if_neg (by omega)]
      have := h T _ oT (by omega) (by omega) hy
      rw [if_neg (by omega)] at this
      exact this
/-- more calm comes no later: what is reached with less is reached with more, or already is -/
theorem Rc_calm {v : Vw} {p : Nat} {ly : Nat → Int → Nat} {l0 : Nat} {a0 c0 C0 t0 : Int} (hL : Lb v) (h0 : c0 ≤ C0) (h5 : C0 ≤ 5) : ∀ n l a c t, Rc v p ly l0 a0 c0 t0 n l a c t → ∃ n' C T, Rc v p ly l0 a0 C0 t0 n' l a C T ∧ c ≤ C ∧ C ≤ 5 ∧ T ≤ t := by
  intro n
  induction n with
  | zero => rintro l a c t ⟨rfl, rfl, rfl, rfl⟩; exact ⟨0, C0, t, ⟨rfl, rfl, rfl, rfl⟩, h0, h5, Int.le_refl _⟩
  | succ n ih =>
    rintro l a c t ⟨l1, a1, c1, t1, h1, h2⟩
    obtain ⟨n', C, T, g1, g2, g3, g4⟩ := ih _ _ _ _ h1
    rcases Eg_dom hL h2 g2 g3 g4 with ⟨e0, e1, q1, q2⟩ | ⟨C', T', q0, q1, q2, q3⟩
    · rw [e0, e1]
      exact ⟨n', C, T, g1, q1, g3, q2⟩
    · exact ⟨n' + 1, C', T', ⟨l1, a1, C, T, g1, q0⟩, q1, q2, q3⟩
