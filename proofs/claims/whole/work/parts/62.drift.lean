/-! drift: one wander -/
def vup (v : Vw) (f k : Nat) (z : Int) : Vw := fun f' k' => if f' = f ∧ k' = k then z else v f' k'
theorem vup_at (v : Vw) (f k : Nat) (z : Int) : vup v f k z f k = z := if_pos ⟨rfl, rfl⟩
theorem vup_ne (v : Vw) {f k f' k' : Nat} (z : Int) (h : ¬ (f' = f ∧ k' = k)) : vup v f k z f' k' = v f' k' := if_neg h
theorem vup_vup (v : Vw) (f k : Nat) (a b : Int) : vup (vup v f k a) f k b = vup v f k b := by
  funext f' k'
  unfold vup
  split <;> rfl
theorem cv_up {S : St} {f k : Nat} {z : Int} (h1 : -2147483648 ≤ z) (h2 : z < 2147483648) : cv (up S f k (iI z)) 0 = vup (cv S 0) f k z := by
  funext f' k'
  unfold cv vup
  simp only [Nat.zero_add]
  rw [zz_up, iI_toInt h1 h2]
theorem hur_5 (v : Vw) (s : Int) (p : Nat) (a t : Int) : hur (vup v 0 5 s) p a t = hur v p a t := by
  unfold hur
  rw [vup_ne _ _ (by omega), vup_ne _ _ (by omega), vup_ne _ _ (by omega), vup_ne _ _ (by omega)]
theorem tme_5 (v : Vw) (s : Int) (p r : Nat) (a t x : Int) : tme (vup v 0 5 s) p r a t x = tme v p r a t x := by
  unfold tme tmh
  rw [hur_5, vup_ne _ _ (by omega)]
theorem oth_5 (v : Vw) (s : Int) (r : Nat) (a : Int) : oth (vup v 0 5 s) r a = oth v r a := oth_up (vup_ne _ _ (by omega)) (vup_ne _ _ (by omega))
theorem cal_5 (v : Vw) (s a c n : Int) : cal (vup v 0 5 s) a c n = cal v a c n := by unfold cal; rw [vup_ne _ _ (by omega)]
theorem Lb_5 {v : Vw} {s : Int} (h : Lb v) (h1 : 0 ≤ s) (h2 : s < 2147483648) : Lb (vup v 0 5 s) := by
  obtain ⟨⟨a1, a2, a3, a4, a5, a6, a7, a8, a9, a10, a11, a12⟩, hr, hp⟩ := h
  refine ⟨⟨a1, a2, a3, a4, a5, a6, a7, a8, a9, a10, h1, h2⟩, fun r hr' => ?_, fun p hp' => ?_⟩
  · exact Rb_congr (v := v) rfl ⟨vup_ne _ _ (by omega), vup_ne _ _ (by omega), vup_ne _ _ (by omega)⟩ (hr r hr')
  · exact Pb_congr (v := v) rfl ⟨vup_ne _ _ (by omega), vup_ne _ _ (by omega), vup_ne _ _ (by omega), vup_ne _ _ (by omega), vup_ne _ _ (by omega), vup_ne _ _ (by omega)⟩ (hp p hp')
theorem Lb_p {v : Vw} {f q : Nat} {z : Int} (h : Lb v) (hf : (f = 7 ∧ 0 ≤ z ∧ z < v 0 0) ∨ (f = 8 ∧ 0 ≤ z ∧ z ≤ 5) ∨ f = 10) : Lb (vup v f q z) := by
  obtain ⟨hH, hr, hp⟩ := h
  have e0 : ∀ k, vup v f q z 0 k = v 0 k := fun k => vup_ne _ _ (by omega)
  refine ⟨Hb_congr (v := v) (fun k _ => e0 k) hH, fun r hr' => ?_, fun p hp' => ?_⟩
  · rw [e0] at hr'
    exact Rb_congr (v := v) (e0 0) ⟨vup_ne _ _ (by omega), vup_ne _ _ (by omega), vup_ne _ _ (by omega)⟩ (hr r hr')
  · rw [e0] at hp'
    obtain ⟨g1, g2, g3, g4, g5, g6, g7, g8, g9, g10, g11, g12⟩ := hp p hp'
    have c7 : 0 ≤ vup v f q z 7 p ∧ vup v f q z 7 p < v 0 0 := by
      unfold vup
      split <;> omega
    have c8 : 0 ≤ vup v f q z 8 p ∧ vup v f q z 8 p ≤ 5 := by
      unfold vup
      split <;> omega
    unfold Pb
    rw [e0, vup_ne (f := f) _ _ (show ¬ (4 = f ∧ p = q) by omega), vup_ne (f := f) _ _ (show ¬ (5 = f ∧ p = q) by omega), vup_ne (f := f) _ _ (show ¬ (6 = f ∧ p = q) by omega), vup_ne (f := f) _ _ (show ¬ (9 = f ∧ p = q) by omega)]
    exact ⟨g1, g2, g3, g4, g5, g6, c7.1, c7.2, c8.1, c8.2, g11, g12⟩
theorem Ag.get {v w : Vw} (h : Ag v w) {f k : Nat} (hf : f ≤ 10) (h0 : f = 0 → k < 6) (h1 : f = 1 ∨ f = 2 ∨ f = 3 → (k : Int) < v 0 1) (h2 : 4 ≤ f → (k : Int) < v 0 2) : w f k = v f k := by
  obtain ⟨ha, hb, hc⟩ := h
  have : f = 0 ∨ f = 1 ∨ f = 2 ∨ f = 3 ∨ f = 4 ∨ f = 5 ∨ f = 6 ∨ f = 7 ∨ f = 8 ∨ f = 9 ∨ f = 10 := by omega
  rcases this with rfl | rfl | rfl | rfl | rfl | rfl | rfl | rfl | rfl | rfl | rfl
  · exact ha k (h0 rfl)
  · exact (hb k (h1 (by omega))).1
  · exact (hb k (h1 (by omega))).2.1
  · exact (hb k (h1 (by omega))).2.2
  · exact (hc k (h2 (by omega))).1
  · exact (hc k (h2 (by omega))).2.1
  · exact (hc k (h2 (by omega))).2.2.1
  · exact (hc k (h2 (by omega))).2.2.2.1
  · exact (hc k (h2 (by omega))).2.2.2.2.1
  · exact (hc k (h2 (by omega))).2.2.2.2.2.1
  · exact (hc k (h2 (by omega))).2.2.2.2.2.2
theorem Ag_up {v : Vw} {T T' : St} {f k j : Nat} {z : Int} (hv : Hb v) (h : Ag v (mz T 75)) (hc : (f = 0 ∧ k = 5 ∧ j = 27) ∨ (f = 7 ∧ k < 4 ∧ j = 4 * k) ∨ (f = 8 ∧ k < 4 ∧ j = 4 * k + 1) ∨ (f = 10 ∧ k < 4 ∧ j = 4 * k + 3)) (e : T' = up T 75 j (iI z)) (h1 : -2147483648 ≤ z) (h2 : z < 2147483648) : Ag (vup v f k z) (mz T' 75) := by
  obtain ⟨_, _, b1, b1', b2, b2', _⟩ := hv
  have n1 : vup v f k z 0 1 = v 0 1 := vup_ne _ _ (by omega)
  have n2 : vup v f k z 0 2 = v 0 2 := vup_ne _ _ (by omega)
  refine Ag.of ?_
  intro f' k' hf h0 h3 h4
  rw [n1] at h3
  rw [n2] at h4
  have ez : zz T' 75 j = z := zz_iI (by rw [e, up_at]) h1 h2
  by_cases hfk : f' = f ∧ k' = k
  · obtain ⟨rfl, rfl⟩ := hfk
    rw [vup_at]
    rcases hc with ⟨rfl, rfl, rfl⟩ | ⟨rfl, _, rfl⟩ | ⟨rfl, _, rfl⟩ | ⟨rfl, _, rfl⟩ <;> exact ez
  · rw [vup_ne _ _ hfk, ← h.get hf h0 h3 h4]
    have oz : ∀ a b, ¬ (a = 75 ∧ b = j) → zz T' a b = zz T a b := fun a b hh => by unfold zz; rw [e, up_ne _ _ hh]
    have : f' = 0 ∨ f' = 1 ∨ f' = 2 ∨ f' = 3 ∨ f' = 4 ∨ f' = 5 ∨ f' = 6 ∨ f' = 7 ∨ f' = 8 ∨ f' = 9 ∨ f' = 10 := by omega
    rcases this with rfl | rfl | rfl | rfl | rfl | rfl | rfl | rfl | rfl | rfl | rfl
    · have hk := h0 rfl
      have : k' = 0 ∨ k' = 1 ∨ k' = 2 ∨ k' = 3 ∨ k' = 4 ∨ k' = 5 := by omega
      rcases this with rfl | rfl | rfl | rfl | rfl | rfl <;> exact oz _ _ (by omega)
    all_goals exact oz _ _ (by omega)
/-- one wander -/
def Wn (v w : Vw) : Prop := ∃ q : Nat, (q : Int) = dsd (v 0 5) / 65536 % v 0 2 ∧ ((¬ v 10 q ≤ 9000 ∧ w = vup v 0 5 (dsd (v 0 5))) ∨ (v 10 q ≤ 9000 ∧ ∃ k : Nat, (k : Int) = dsd (dsd (v 0 5)) / 65536 % ((wys v (v 7 q) (v 0 1).toNat 0 : Int) + 1) ∧ ((k = wys v (v 7 q) (v 0 1).toNat 0 ∧ w = vup (vup (vup v 0 5 (dsd (dsd (v 0 5)))) 10 q (v 10 q + 1)) 8 q (cal v (v 7 q) (v 8 q) 1)) ∨ (k < wys v (v 7 q) (v 0 1).toNat 0 ∧ ∃ r : Nat, rdw v (v 7 q) (v 0 1).toNat 0 k = (r : Int) ∧ (r : Int) < v 0 1 ∧ oth v r (v 7 q) ≠ -1 ∧ ∃ s : Int, s = dsd (dsd (dsd (v 0 5))) / 65536 % (v 8 q + 1) ∧ w = vup (vup (vup (vup v 0 5 (dsd (dsd (dsd (v 0 5))))) 10 q (v 10 q + tme v q r (v 7 q) (v 10 q) s)) 8 q (v 8 q - s)) 7 q (oth v r (v 7 q))))))
theorem Wn_ok {v w : Vw} (hL : Lb v) (hM : Mb v) (h2 : 1 ≤ v 0 2) (h : Wn v w) : Lb w ∧ Mb w ∧ w 0 0 = v 0 0 ∧ w 0 1 = v 0 1 ∧ w 0 2 = v 0 2 := by
  obtain ⟨q, hq, h⟩ := h
  have hb := dsd_b (v 0 5)
  have hb2 := dsd_b (dsd (v 0 5))
  have hb3 := dsd_b (dsd (dsd (v 0 5)))
  have q2 : (q : Int) < v 0 2 := by rw [hq]; exact Int.emod_lt_of_pos _ (by omega)
  have pb := hL.2.2 q q2
  obtain ⟨_, _, _, _, _, _, p7, p7', p8, p8', _⟩ := id pb
  have m := hM q q2
  rcases h with ⟨c, rfl⟩ | ⟨c, k, hk, ⟨_, rfl⟩ | ⟨hkn, r, hr, r1, ho, s, hs, rfl⟩⟩
  · refine ⟨Lb_5 hL hb.1 hb.2, fun p hp => ?_, rfl, rfl, rfl⟩
    exact hM p hp
  · have cb := cal_b (v := v) (a := v 7 q) (c := v 8 q) (n := 1) (by omega) p8 p8'
    refine ⟨Lb_p (Lb_p (Lb_5 hL hb2.1 hb2.2) (by omega)) (by omega), fun p hp => ?_, rfl, rfl, rfl⟩
    have := hM p hp
    rw [vup_ne _ _ (by omega)]
    by_cases hpq : p = q
    · rw [hpq, vup_at]; omega
    · rw [vup_ne _ _ (by omega), vup_ne _ _ (by omega)]; exact this
  · have s0 : 0 ≤ s ∧ s < v 8 q + 1 := by rw [hs]; exact ⟨Int.emod_nonneg _ (by omega), Int.emod_lt_of_pos _ (by omega)⟩
    have tb := tme_b (v := v) (p := q) (r := r) (v 7 q) (v 10 q) (s := s) pb (hL.2.1 r r1) s0.1
    have ob := oth_b (v 7 q) (hL.2.1 r r1) hL.1
    refine ⟨Lb_p (Lb_p (Lb_p (Lb_5 hL hb3.1 hb3.2) (by omega)) (by omega)) (Or.inl ⟨rfl, by omega, ?_⟩), fun p hp => ?_, rfl, rfl, rfl⟩
    · exact ob.2
    · have := hM p hp
      rw [vup_ne _ _ (by omega), vup_ne _ _ (by omega)]
      by_cases hpq : p = q
      · rw [hpq, vup_at]; omega
      · rw [vup_ne _ _ (by omega), vup_ne _ _ (by omega)]; exact this
