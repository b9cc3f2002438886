/-! the class's spreading from one state -/
def Ec (v : Vw) (p : Nat) (ly : Nat → Int → Nat) (l i : Nat) (u : Int) (j : Nat) (t : Int) : Prop := Eg v p ly l ((i / 6 : Nat) : Int) ((i % 6 : Nat) : Int) u (j / 36) ((j % 36 / 6 : Nat) : Int) ((j % 36 % 6 : Nat) : Int) t
def Rk (v : Vw) (p : Nat) (ly : Nat → Int → Nat) (l i : Nat) (u : Int) (S T : St) : Prop := (∀ c k, c ≠ 51 → T c k = S c k) ∧ ∀ j, j < 2304 → zz T 51 j ≤ zz S 51 j ∧ (zz T 51 j = zz S 51 j ∨ Ec v p ly l i u j (zz T 51 j))
theorem Rk.rf (v : Vw) (p : Nat) (ly : Nat → Int → Nat) (l i : Nat) (u : Int) (S : St) : Rk v p ly l i u S S := ⟨fun _ _ _ => rfl, fun _ _ => ⟨Int.le_refl _, Or.inl rfl⟩⟩
theorem cv_51 {S T : St} (h : ∀ c k, c ≠ 51 → T c k = S c k) (f k : Nat) (hf : f ≤ 10) : cv T 11 f k = cv S 11 f k := by
  unfold cv zz
  rw [h _ _ (by omega)]
theorem cv_51s {v : Vw} {S T : St} (h : ∀ c k, c ≠ 51 → T c k = S c k) (hS : Sv v (cv S 11)) : Sv v (cv T 11) := by
  refine hS.trans ⟨fun k _ => cv_51 h _ _ (by omega), fun r _ => ⟨cv_51 h _ _ (by omega), cv_51 h _ _ (by omega), cv_51 h _ _ (by omega)⟩, fun q _ => ⟨cv_51 h _ _ (by omega), cv_51 h _ _ (by omega), cv_51 h _ _ (by omega), cv_51 h _ _ (by omega)⟩⟩
theorem s_X4_reach {v : Vw} {p : Nat} {ly : Nat → Int → Nat} {l i l' a' c' : Nat} {u t : Int} {S T : St} {post : St → Prop} (hl : l' < 64) (ha : a' < 6) (hc : c' < 6) (t1 : -2147483648 ≤ t) (t2 : t < 2147483648) (hR : Rk v p ly l i u S T) (hE : Eg v p ly l ((i / 6 : Nat) : Int) ((i % 6 : Nat) : Int) u l' (a' : Int) (c' : Int) t) (h : ∀ T', Rk v p ly l i u S T' → (∀ k, zz T' 51 k ≤ zz T 51 k) → zz T' 51 (36 * l' + 6 * a' + c') ≤ t → post T') : wp_X4_reach (iI l') (iI a') (iI c') (iI t) T post := by
  unfold wp_X4_reach
  intro v1 e1
  obtain ⟨j, hj⟩ : ∃ j : Nat, 36 * l' + 6 * a' + c' = j := ⟨_, rfl⟩
  have e1 : v1 = iI (j : Int) := by
    rw [e1, show (36 : Int32) = iI 36 from rfl, show (6 : Int32) = iI 6 from rfl, iI_mul, iI_mul, iI_add, iI_add]
    congr 1
    omega
  have hj2 : j < 2304 := by omega
  have xj : ix (iI (j : Int)) = j := by rw [iI_ix (by omega) (by omega)]; simp
  have ij : vp_in (iI (j : Int)) 2304 := (iI_in (by omega) (by omega)).mpr ⟨by omega, by omega⟩
  have hEj : Ec v p ly l i u j t := by
    unfold Ec
    rw [show j / 36 = l' from by omega, show j % 36 / 6 = a' from by omega, show j % 36 % 6 = c' from by omega]
    exact hE
  rw [hj] at h
  have l1 := zz_lo T 51 j
  have l2 := zz_hi T 51 j
  rw [e1, xj]
  have hle : T 51 j ≤ iI t ↔ zz T 51 j ≤ t := by
    rw [zz_S T 51 j]
    exact iI_le (by omega) (by omega) t1 t2
  refine ⟨ij, fun e => h T hR (fun _ => Int.le_refl _) (hle.mp e), fun e => ⟨ij, fun S4 e4 => ?_⟩⟩
  have ht : ¬ zz T 51 j ≤ t := fun q => e (hle.mpr q)
  have zj : zz S4 51 j = t := zz_iI (by rw [e4, up_at]) t1 t2
  have zk : ∀ k, k ≠ j → zz S4 51 k = zz T 51 k := fun k hk => by unfold zz; rw [e4, up_ne _ _ (by omega)]
  refine h S4 ⟨fun c k hc => ?_, fun k hk => ?_⟩ (fun k => ?_) (by omega)
  · rw [e4, up_ne _ _ (by omega)]; exact hR.1 c k hc
  · by_cases hkj : k = j
    · rw [hkj, zj]
      have := (hR.2 j hj2).1
      exact ⟨by omega, Or.inr hEj⟩
    · rw [zk k hkj]; exact hR.2 k hk
  · by_cases hkj : k = j
    · rw [hkj, zj]; omega
    · rw [zk k hkj]; exact Int.le_refl _
/-- what the class's spreading rests on; `hs` is the set as it is handed in -/
def Rq (v : Vw) (p : Nat) (ly : Nat → Int → Nat) (hs : Int32) (l i : Nat) (u : Int) (S : St) : Prop := Lb v ∧ (p : Int) < v 0 2 ∧ i < 36 ∧ ((i / 6 : Nat) : Int) < v 0 0 ∧ l < 64 ∧ Sv v (cv S 11) ∧ Pb (cv S 11) p ∧ 0 ≤ u ∧ u ≤ 1000000 ∧ ∀ b : Nat, b < 6 → (iI (l : Int)) ||| (hs &&& ((1 : Int32) <<< ((iI (b : Int)) &&& 31))) = iI (ly l b : Int) ∧ ly l b < 64
theorem s_X4_spread_in {v : Vw} {p : Nat} {ly : Nat → Int → Nat} {hs : Int32} {l i r b : Nat} {u : Int} {S : St} {k78 : Int32 → Int32 → Int32 → Int32 → Int32 → Int32 → Int32 → St → Prop} {post : St → Prop} (hd : Rq v p ly hs l i u S) (hr : (r : Int) < v 0 1) (hb : oth v r ((i / 6 : Nat) : Int) = (b : Int)) : ∀ (d s : Nat) (T : St), s + d = i % 6 + 1 → Rk v p ly l i u S T → (∀ T', Rk v p ly l i u S T' → (∀ k, zz T' 51 k ≤ zz T 51 k) → (∀ s' : Nat, s ≤ s' → s' ≤ i % 6 → (s' : Int) ≤ hur v p ((i / 6 : Nat) : Int) u → zz T' 51 (36 * ly l b + 6 * b + (i % 6 - s')) ≤ u + tme v p r ((i / 6 : Nat) : Int) u s') → k78 hs (iI l) (iI ((i / 6 : Nat) : Int)) (iI ((i % 6 : Nat) : Int)) (iI u) (iI (hur v p ((i / 6 : Nat) : Int) u)) (iI r + 1) T') → L_X4_spread_125 k78 post (d + 1) hs (iI l) (iI ((i / 6 : Nat) : Int)) (iI ((i % 6 : Nat) : Int)) (iI u) (iI (hur v p ((i / 6 : Nat) : Int) u)) (iI r) (iI b) (iI (ly l b : Int)) (iI s) T := by
  obtain ⟨hL, hp, hi, hi2, hl, hS, hP, h1, h2, hly⟩ := id hd
  obtain ⟨b0, b0', b1, b1', b2, b2', _⟩ := id hL.1
  have ob := oth_b ((i / 6 : Nat) : Int) (hL.2.1 r hr) hL.1
  rw [hb] at ob
  have hub := hur_b (v := v) (p := p) ((i / 6 : Nat) : Int) u (hL.2.2 p hp)
  have hlb := (hly b (by omega)).2
  intro d
  induction d with
  | zero =>
    intro s T hs' hR h
    show BD_X4_spread_125 k78 (L_X4_spread_125 k78 post 0) post _ _ _ _ _ _ _ _ _ _ _
    unfold BD_X4_spread_125
    rw [iI_lt (by omega) (by omega) (by omega) (by omega)]
    exact ⟨fun _ => h T hR (fun _ => Int.le_refl _) (fun s' q1 q2 => absurd q1 (by omega)), fun e => absurd (by omega) e⟩
  | succ d ih =>
    intro s T hs' hR h
    show BD_X4_spread_125 k78 (L_X4_spread_125 k78 post (d + 1)) post _ _ _ _ _ _ _ _ _ _ _
    unfold BD_X4_spread_125
    have es : iI (s : Int) + 1 = iI ((s + 1 : Nat) : Int) := by rw [show (1 : Int32) = iI 1 from rfl, iI_add]; rfl
    rw [iI_lt (by omega) (by omega) (by omega) (by omega), es, iI_lt (by omega) (by omega) (by omega) (by omega)]
    refine ⟨fun q => absurd q (by omega), fun _ => ⟨fun q => h T hR (fun _ => Int.le_refl _) (fun s' q1 q2 q3 => absurd q3 (by omega)), fun hne => ?_⟩⟩
    have hS' := cv_51s hR.1 hS
    have rT : Rb (cv T 11) r := Sv_Rb hS' hr (hL.2.1 r hr)
    have tb := tme_b (v := v) (p := p) (r := r) ((i / 6 : Nat) : Int) u (s := s) (hL.2.2 p hp) (hL.2.1 r hr) (by omega)
    rw [iI_sub, iI_sub]
    refine s_X6_lastsHurried (o := 11) (by omega) rT (by omega) (by omega) ?_
    have et : tmh (cv T 11) r (hur v p ((i / 6 : Nat) : Int) u - (s : Int)) = tme v p r ((i / 6 : Nat) : Int) u s := by
      unfold tme tmh
      rw [if_neg hne, (hS'.2.1 r hr).2.2]
    rw [et, iI_add, show ((i % 6 : Nat) : Int) - (s : Int) = ((i % 6 - s : Nat) : Int) from by omega]
    refine s_X4_reach (v := v) (p := p) (ly := ly) (l := l) (i := i) (u := u) (S := S) hlb (by omega) (by omega) (by omega) (by omega) hR ?_ ?_
    · exact Or.inr ⟨r, s, hr, hb, by omega, by omega, by omega, rfl, by omega, rfl⟩
    · intro T1 hR1 le1 lj
      refine ih (s + 1) T1 (by omega) hR1 ?_
      intro T2 hR2 le2 l2
      refine h T2 hR2 (fun k => Int.le_trans (le2 k) (le1 k)) (fun s' q1 q2 q3 => ?_)
      by_cases hss : s' = s
      · rw [hss]
        exact Int.le_trans (le2 _) lj
      · exact l2 s' (by omega) q2 q3
theorem s_X4_spread_mid {v : Vw} {p : Nat} {ly : Nat → Int → Nat} {hs : Int32} {l i : Nat} {u : Int} {S : St} {post : St → Prop} (hd : Rq v p ly hs l i u S) : ∀ (d r : Nat) (T : St), (r : Int) + d = v 0 1 → Rk v p ly l i u S T → (∀ T', Rk v p ly l i u S T' → (∀ k, zz T' 51 k ≤ zz T 51 k) → (∀ r' b : Nat, r ≤ r' → (r' : Int) < v 0 1 → oth v r' ((i / 6 : Nat) : Int) = (b : Int) → ∀ s' : Nat, s' ≤ i % 6 → (s' : Int) ≤ hur v p ((i / 6 : Nat) : Int) u → zz T' 51 (36 * ly l b + 6 * b + (i % 6 - s')) ≤ u + tme v p r' ((i / 6 : Nat) : Int) u s') → post T') → L_X4_spread_78 post (d + 1) hs (iI l) (iI ((i / 6 : Nat) : Int)) (iI ((i % 6 : Nat) : Int)) (iI u) (iI (hur v p ((i / 6 : Nat) : Int) u)) (iI r) T := by
  obtain ⟨hL, hp, hi, hi2, hl, hS, hP, h1, h2, hly⟩ := id hd
  obtain ⟨b0, b0', b1, b1', b2, b2', _⟩ := id hL.1
  have e11 : zz S 11 1 = v 0 1 := hS.1 1 (by omega)
  intro d
  induction d with
  | zero =>
    intro r T hr hR h
    show BD_X4_spread_78 (L_X4_spread_78 post 0) post _ _ _ _ _ _ _ _
    unfold BD_X4_spread_78
    rw [hR.1 11 1 (by omega), zz_S S 11 1, e11, iI_le (by omega) (by omega) (by omega) (by omega)]
    exact ⟨fun _ => h T hR (fun _ => Int.le_refl _) (fun r' b q1 q2 => absurd q2 (by omega)), fun e => absurd (by omega) e⟩
  | succ d ih =>
    intro r T hr hR h
    show BD_X4_spread_78 (L_X4_spread_78 post (d + 1)) post _ _ _ _ _ _ _ _
    unfold BD_X4_spread_78
    have hrv : (r : Int) < v 0 1 := by omega
    have ob := oth_b ((i / 6 : Nat) : Int) (hL.2.1 r hrv) hL.1
    have er : iI (r : Int) + 1 = iI ((r + 1 : Nat) : Int) := by rw [show (1 : Int32) = iI 1 from rfl, iI_add]; rfl
    rw [hR.1 11 1 (by omega), zz_S S 11 1, e11, iI_le (by omega) (by omega) (by omega) (by omega)]
    refine ⟨fun q => absurd q (by omega), fun _ => ?_⟩
    refine s_X6_otherEnd (o := 11) (by omega) (by omega) (by omega) ?_
    rw [oth_Sv (cv_51s hR.1 hS) hrv]
    have em1 : iI (oth v r ((i / 6 : Nat) : Int)) = -1 ↔ oth v r ((i / 6 : Nat) : Int) = -1 := by
      rw [show (-1 : Int32) = iI (-1) from by decide]
      exact iI_eq (by omega) (by omega) (by omega) (by omega)
    rw [em1]
    constructor
    · intro hne v5 e5
      obtain ⟨b, hb⟩ : ∃ b : Nat, oth v r ((i / 6 : Nat) : Int) = (b : Int) := ⟨(oth v r ((i / 6 : Nat) : Int)).toNat, by omega⟩
      rw [hb] at e5 ⊢
      rw [(hly b (by omega)).1] at e5
      rw [e5]
      refine ⟨i % 6 + 1 + 1, ?_⟩
      refine s_X4_spread_in hd hrv hb (i % 6 + 1) 0 T (by omega) hR ?_
      intro T1 hR1 le1 l1
      rw [er]
      refine ih (r + 1) T1 (by omega) hR1 ?_
      intro T2 hR2 le2 l2
      refine h T2 hR2 (fun k => Int.le_trans (le2 k) (le1 k)) (fun r' b' q1 q2 q3 s' q4 q5 => ?_)
      by_cases hrr : r' = r
      · subst hrr
        have : b' = b := by rw [hb] at q3; omega
        subst this
        exact Int.le_trans (le2 _) (l1 s' (by omega) q4 q5)
      · exact l2 r' b' (by omega) q2 q3 s' q4 q5
    · intro heq
      rw [er]
      refine ih (r + 1) T (by omega) hR ?_
      intro T2 hR2 le2 l2
      refine h T2 hR2 le2 (fun r' b' q1 q2 q3 s' q4 q5 => ?_)
      by_cases hrr : r' = r
      · subst hrr
        rw [heq] at q3
        omega
      · exact l2 r' b' (by omega) q2 q3 s' q4 q5
