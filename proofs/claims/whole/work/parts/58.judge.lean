/-! judge -/
def Sv (v w : Vw) : Prop := (∀ k : Nat, k < 6 → w 0 k = v 0 k) ∧ (∀ r : Nat, (r : Int) < v 0 1 → w 1 r = v 1 r ∧ w 2 r = v 2 r ∧ w 3 r = v 3 r) ∧ ∀ p : Nat, (p : Int) < v 0 2 → w 4 p = v 4 p ∧ w 5 p = v 5 p ∧ w 6 p = v 6 p ∧ w 9 p = v 9 p
theorem Ag.sv {v w : Vw} (h : Ag v w) : Sv v w := ⟨h.1, h.2.1, fun p hp => by obtain ⟨q1, q2, q3, q4, q5, q6, q7⟩ := h.2.2 p hp; exact ⟨q1, q2, q3, q6⟩⟩
theorem Sv.rf (v : Vw) : Sv v v := ⟨fun _ _ => rfl, fun _ _ => ⟨rfl, rfl, rfl⟩, fun _ _ => ⟨rfl, rfl, rfl, rfl⟩⟩
theorem Sv.trans {u v w : Vw} (h : Sv u v) (h' : Sv v w) : Sv u w := by
  obtain ⟨h0, h1, h2⟩ := h
  obtain ⟨g0, g1, g2⟩ := h'
  refine ⟨fun k hk => (g0 k hk).trans (h0 k hk), fun r hr => ?_, fun p hp => ?_⟩
  · obtain ⟨q1, q2, q3⟩ := h1 r hr
    obtain ⟨p1, p2, p3⟩ := g1 r (by rw [h0 1 (by omega)]; exact hr)
    exact ⟨p1.trans q1, p2.trans q2, p3.trans q3⟩
  · obtain ⟨q1, q2, q3, q4⟩ := h2 p hp
    obtain ⟨p1, p2, p3, p4⟩ := g2 p (by rw [h0 2 (by omega)]; exact hp)
    exact ⟨p1.trans q1, p2.trans q2, p3.trans q3, p4.trans q4⟩
theorem hur_Sv {v w : Vw} (h : Sv v w) {p : Nat} (hp : (p : Int) < v 0 2) (a t : Int) : hur w p a t = hur v p a t := by
  obtain ⟨q1, q2, q3, q4⟩ := h.2.2 p hp
  unfold hur
  rw [q2, q3, q4, h.1 4 (by omega)]
theorem tme_Sv {v w : Vw} (h : Sv v w) {p r : Nat} (hp : (p : Int) < v 0 2) (hr : (r : Int) < v 0 1) (a t s : Int) : tme w p r a t s = tme v p r a t s := by
  unfold tme tmh
  rw [hur_Sv h hp, (h.2.1 r hr).2.2]
theorem oth_Sv {v w : Vw} (h : Sv v w) {r : Nat} (hr : (r : Int) < v 0 1) (a : Int) : oth w r a = oth v r a := oth_up (h.2.1 r hr).1 (h.2.1 r hr).2.1
theorem cal_Sv {v w : Vw} (h : Sv v w) (a c n : Int) : cal w a c n = cal v a c n := by unfold cal; rw [h.1 3 (by omega)]
theorem Sv_Hb {v w : Vw} (h : Sv v w) (hv : Hb v) : Hb w := Hb_congr h.1 hv
theorem Sv_Rb {v w : Vw} (h : Sv v w) {r : Nat} (hr : (r : Int) < v 0 1) (hv : Rb v r) : Rb w r := Rb_congr (h.1 0 (by omega)) (h.2.1 r hr) hv
theorem Sv_Pb {v w : Vw} (h : Sv v w) {p : Nat} (hp : (p : Int) < v 0 2) (hv : Pb v p) (h7 : 0 ≤ w 7 p ∧ w 7 p < v 0 0) (h8 : 0 ≤ w 8 p ∧ w 8 p ≤ 5) : Pb w p := by
  obtain ⟨q1, q2, q3, q4⟩ := h.2.2 p hp
  obtain ⟨g1, g2, g3, g4, g5, g6, _, _, _, _, g11, g12⟩ := hv
  unfold Pb
  rw [q1, q2, q3, q4, h.1 0 (by omega)]
  exact ⟨g1, g2, g3, g4, g5, g6, h7.1, h7.2, h8.1, h8.2, g11, g12⟩
def jdF (v : Vw) (p : Nat) (st : Nat → Int) : Nat → Nat → Int → Int → Int → Int × Int
  | 0, _, _, _, t => (-1, t)
  | d + 1, i, a, c, t => if st i = -2 then jdF v p st d (i + 1) a (cal v a c 1) (t + 1) else if oth v (st i / 10).toNat a ≠ -1 ∧ st i % 10 ≤ c then jdF v p st d (i + 1) (oth v (st i / 10).toNat a) (c - st i % 10) (t + tme v p (st i / 10).toNat a t (st i % 10)) else ((i : Int), t)
theorem jd_w {v : Vw} {p : Nat} {st : Nat → Int} {d i : Nat} {a c t : Int} (h : st i = -2) : jdF v p st (d + 1) i a c t = jdF v p st d (i + 1) a (cal v a c 1) (t + 1) := if_pos h
theorem jd_g {v : Vw} {p : Nat} {st : Nat → Int} {d i : Nat} {a c t : Int} (h : ¬ st i = -2) (h2 : oth v (st i / 10).toNat a ≠ -1 ∧ st i % 10 ≤ c) : jdF v p st (d + 1) i a c t = jdF v p st d (i + 1) (oth v (st i / 10).toNat a) (c - st i % 10) (t + tme v p (st i / 10).toNat a t (st i % 10)) := (if_neg h).trans (if_pos h2)
theorem jd_x {v : Vw} {p : Nat} {st : Nat → Int} {d i : Nat} {a c t : Int} (h : ¬ st i = -2) (h2 : ¬ (oth v (st i / 10).toNat a ≠ -1 ∧ st i % 10 ≤ c)) : jdF v p st (d + 1) i a c t = ((i : Int), t) := (if_neg h).trans (if_neg h2)
/-- what a journey rests on -/
def Jd (v : Vw) (p : Nat) (st : Nat → Int) (n : Nat) : Prop := Lb v ∧ (p : Int) < v 0 2 ∧ n ≤ 30 ∧ ∀ i, i < n → st i = -2 ∨ (0 ≤ st i ∧ st i / 10 < v 0 1 ∧ st i % 10 ≤ 5)
theorem s_X0_follow {v : Vw} {p n : Nat} {st : Nat → Int} {post : Int32 → St → Prop} (hJ : Jd v p st n) : ∀ (d i : Nat) (T : St), i + d = n → T 69 0 = iI (n : Int) → (∀ j, j < n → T 70 j = iI (st j)) → Sv v (cv T 11) → 0 ≤ zz T 18 p ∧ zz T 18 p < v 0 0 → 0 ≤ zz T 19 p ∧ zz T 19 p ≤ 5 → 0 ≤ zz T 21 p ∧ zz T 21 p ≤ 100000 + 300 * i → (∀ T' : St, (∀ c k, ¬ (11 ≤ c ∧ c ≤ 21) → T' c k = T c k) → zz T' 21 p = (jdF v p st d i (zz T 18 p) (zz T 19 p) (zz T 21 p)).2 → post (iI (jdF v p st d i (zz T 18 p) (zz T 19 p) (zz T 21 p)).1) T') → L_X0_follow_2 post (d + 1) (iI p) (iI i) T := by
  obtain ⟨hL, hp, hn, hst⟩ := hJ
  have hb := hL.1
  obtain ⟨b0, b0', b1, b1', b2, b2', _⟩ := id hb
  intro d
  induction d with
  | zero =>
    intro i T hi e69 e70 hS h7 h8 h10 h
    show BD_X0_follow_2 (L_X0_follow_2 post 0) post _ _ _
    unfold BD_X0_follow_2
    rw [e69, iI_le (by omega) (by omega) (by omega) (by omega)]
    exact ⟨fun _ => h T (fun _ _ _ => rfl) rfl, fun e => absurd (by omega) e⟩
  | succ d ih =>
    intro i T hi e69 e70 hS h7 h8 h10 h
    show BD_X0_follow_2 (L_X0_follow_2 post (d + 1)) post _ _ _
    unfold BD_X0_follow_2
    have xi : ix (iI (i : Int)) = i := by rw [iI_ix (by omega) (by omega)]; simp
    have ii : vp_in (iI (i : Int)) 30 := (iI_in (by omega) (by omega)).mpr ⟨by omega, by omega⟩
    rw [e69, iI_le (by omega) (by omega) (by omega) (by omega), xi, e70 i (by omega)]
    refine ⟨fun e => absurd e (by omega), fun _ => ⟨ii, ?_⟩⟩
    rintro v2 rfl
    have hsi := hst i (by omega)
    have hz : -2 ≤ st i ∧ st i ≤ 1000 := by omega
    have g7 : cv T 11 7 p = zz T 18 p := rfl
    have g8 : cv T 11 8 p = zz T 19 p := rfl
    have hH := Sv_Hb hS hb
    have hP : Pb (cv T 11) p := Sv_Pb hS hp (hL.2.2 p hp) (by rw [g7]; exact h7) (by rw [g8]; exact h8)
    rw [show (-2 : Int32) = iI (-2) from by decide, iI_eq (by omega) (by omega) (by omega) (by omega), show (1 : Int32) = iI 1 from rfl, iI_add]
    constructor
    · intro hne
      have hs0 : 0 ≤ st i ∧ st i / 10 < v 0 1 ∧ st i % 10 ≤ 5 := by omega
      obtain ⟨r, hr⟩ : ∃ r : Nat, st i / 10 = (r : Int) := ⟨(st i / 10).toNat, by omega⟩
      have hr2 : (st i / 10).toNat = r := by omega
      have r9 : r < 9 := by omega
      have rv : (r : Int) < v 0 1 := by omega
      have rb : Rb (cv T 11) r := Sv_Rb hS rv (hL.2.1 r rv)
      rw [show (10 : Int32) = iI 10 from rfl, iI_rem (by omega) (by omega) (by omega) (by omega), iI_div (by omega) (by omega) (by omega) (by omega), hr]
      have eo : oth (cv T 11) r (zz T 18 p) = oth v r (zz T 18 p) := oth_Sv hS rv _
      have et : tme (cv T 11) p r (zz T 18 p) (zz T 21 p) (st i % 10) = tme v p r (zz T 18 p) (zz T 21 p) (st i % 10) := tme_Sv hS hp rv _ _ _
      refine s_X6_canMove (o := 11) hP hH (by omega) r9 (by omega) (by omega) rb (fun c1 c2 => ⟨fun e => absurd e (by decide), fun _ => ?_⟩) (fun hc => ⟨fun _ => ?_, fun e => absurd rfl e⟩)
      · have c1 : oth v r (zz T 18 p) ≠ -1 := by rw [← eo]; exact c1
        have c2 : st i % 10 ≤ zz T 19 p := c2
        have tb := tme_b (v := v) (p := p) (r := r) (zz T 18 p) (zz T 21 p) (s := st i % 10) (hL.2.2 p hp) (hL.2.1 r rv) (by omega)
        have ob := oth_b (zz T 18 p) (hL.2.1 r rv) hb
        refine s_X6_move (o := 11) hH hP rb (by omega) r9 (by omega) (by omega) h10.1 (by show zz T 21 p ≤ _; omega) ?_
        intro T' e'
        have e' : T' = up (up (up T 21 p (iI (zz T 21 p + tme (cv T 11) p r (zz T 18 p) (zz T 21 p) (st i % 10)))) 19 p (iI (zz T 19 p - st i % 10))) 18 p (iI (oth (cv T 11) r (zz T 18 p))) := e'
        rw [eo, et] at e'
        have z18 : zz T' 18 p = oth v r (zz T 18 p) := zz_iI (by rw [e', up_at]) (by omega) (by omega)
        have z19 : zz T' 19 p = zz T 19 p - st i % 10 := zz_iI (by rw [e', up_ne _ _ (by omega), up_at]) (by omega) (by omega)
        have z21 : zz T' 21 p = zz T 21 p + tme v p r (zz T 18 p) (zz T 21 p) (st i % 10) := zz_iI (by rw [e', up_ne _ _ (by omega), up_ne _ _ (by omega), up_at]) (by omega) (by omega)
        have oT : ∀ c k, ¬ (k = p ∧ (c = 18 ∨ c = 19 ∨ c = 21)) → T' c k = T c k := fun c k hh => by rw [e', up_ne _ _ (by omega), up_ne _ _ (by omega), up_ne _ _ (by omega)]
        have hS' : Sv v (cv T' 11) := by
          refine hS.trans ⟨fun k _ => ?_, fun r' _ => ⟨?_, ?_, ?_⟩, fun p' _ => ⟨?_, ?_, ?_, ?_⟩⟩ <;> (unfold cv zz; rw [oT _ _ (by omega)])
        refine ih (i + 1) T' (by omega) (by rw [oT _ _ (by omega), e69]) (fun j hj => by rw [oT _ _ (by omega), e70 j hj]) hS' (by rw [z18]; omega) (by rw [z19]; omega) (by rw [z21]; omega) ?_
        intro T'' o2 h2
        have hjd := jd_g (v := v) (p := p) (d := d) (i := i) (a := zz T 18 p) (c := zz T 19 p) (t := zz T 21 p) hne (by rw [hr2]; exact ⟨c1, c2⟩)
        rw [hr2] at hjd
        rw [z18, z19, z21, ← hjd] at h2 ⊢
        exact h T'' (fun c k hh => by rw [o2 c k hh, oT c k (by omega)]) h2
      · have hjd := jd_x (v := v) (p := p) (d := d) (i := i) (a := zz T 18 p) (c := zz T 19 p) (t := zz T 21 p) hne (by rw [hr2, ← eo]; exact hc)
        rw [hjd] at h
        exact h T (fun _ _ _ => rfl) rfl
    · intro heq
      refine s_X6_rest (o := 11) hH hP (by omega) (by omega) (by omega) ?_
      intro T' e'
      have e' : T' = up (up T 21 p (iI (zz T 21 p + 1))) 19 p (iI (cal (cv T 11) (zz T 18 p) (zz T 19 p) 1)) := e'
      rw [cal_Sv hS] at e'
      have cb := cal_b (v := v) (a := zz T 18 p) (c := zz T 19 p) (n := 1) (by omega) h8.1 h8.2
      have z19 : zz T' 19 p = cal v (zz T 18 p) (zz T 19 p) 1 := zz_iI (by rw [e', up_at]) (by omega) (by omega)
      have z21 : zz T' 21 p = zz T 21 p + 1 := zz_iI (by rw [e', up_ne _ _ (by omega), up_at]) (by omega) (by omega)
      have oT : ∀ c k, ¬ (k = p ∧ (c = 19 ∨ c = 21)) → T' c k = T c k := fun c k hh => by rw [e', up_ne _ _ (by omega), up_ne _ _ (by omega)]
      have z18 : zz T' 18 p = zz T 18 p := by unfold zz; rw [oT _ _ (by omega)]
      have hS' : Sv v (cv T' 11) := by
        refine hS.trans ⟨fun k _ => ?_, fun r' _ => ⟨?_, ?_, ?_⟩, fun p' _ => ⟨?_, ?_, ?_, ?_⟩⟩ <;> (unfold cv zz; rw [oT _ _ (by omega)])
      refine ih (i + 1) T' (by omega) (by rw [oT _ _ (by omega), e69]) (fun j hj => by rw [oT _ _ (by omega), e70 j hj]) hS' (by rw [z18]; exact h7) (by rw [z19]; exact cb) (by rw [z21]; omega) ?_
      intro T'' o2 h2
      rw [z18, z19, z21, ← jd_w heq] at h2 ⊢
      exact h T'' (fun c k hh => by rw [o2 c k hh, oT c k (by omega)]) h2
