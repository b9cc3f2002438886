/-! the text: the reference's clauses -/
def Mg (sd : Int) (v : Vw) (T : St) : Prop := (T 71 15 = iI (v 0 0) ∧ T 71 16 = iI (v 0 1) ∧ T 71 17 = iI (v 0 2) ∧ T 71 18 = iI (v 0 3) ∧ T 71 19 = iI (v 0 4)) ∧ (∀ r : Nat, (r : Int) < v 0 1 → T 73 (27 + 3 * r) = iI (v 1 r) ∧ T 73 (27 + 3 * r + 1) = iI (v 2 r) ∧ T 73 (27 + 3 * r + 2) = iI (v 3 r)) ∧ (∀ p : Nat, (p : Int) < v 0 2 → T 74 (20 + 5 * p) = iI (v 7 p) ∧ T 74 (20 + 5 * p + 1) = iI (v 4 p) ∧ T 74 (20 + 5 * p + 2) = iI (v 5 p) ∧ T 74 (20 + 5 * p + 3) = iI (v 8 p) ∧ T 74 (20 + 5 * p + 4) = iI (v 6 p) ∧ v 9 p = 0 ∧ v 10 p = 0) ∧ v 0 5 = sd
def mF (S T : St) : Prop := ∀ c k, ¬ (c = 71 ∧ ((3 ≤ k ∧ k ≤ 9) ∨ (15 ≤ k ∧ k ≤ 19))) → ¬ (c = 73 ∧ 27 ≤ k) → ¬ (c = 74 ∧ 20 ≤ k) → T c k = S c k
theorem Mg_fr {sd : Int} {v : Vw} {S T : St} (h : Mg sd v S) (hT : ∀ c k, ¬ (c = 71 ∧ 3 ≤ k ∧ k ≤ 9) → T c k = S c k) : Mg sd v T := by
  obtain ⟨⟨h1, h2, h3, h4, h5⟩, h6, h7, h8⟩ := h
  refine ⟨⟨by rw [hT _ _ (by omega)]; exact h1, by rw [hT _ _ (by omega)]; exact h2, by rw [hT _ _ (by omega)]; exact h3, by rw [hT _ _ (by omega)]; exact h4, by rw [hT _ _ (by omega)]; exact h5⟩, fun r hr => ?_, fun p hp => ?_, h8⟩
  · rw [hT _ _ (by omega), hT _ _ (by omega), hT _ _ (by omega)]; exact h6 r hr
  · rw [hT _ _ (by omega), hT _ _ (by omega), hT _ _ (by omega), hT _ _ (by omega), hT _ _ (by omega)]; exact h7 p hp
theorem Tx_mF {L : Nat → Int} {n : Nat} {S T : St} (h : Tx L n S) (hT : mF S T) : Tx L n T := Tx_fr h (fun c k a1 a2 => hT c k (by omega) (by omega) (by omega))
def OutM (L : Nat → Int) (n : Nat) (sd : Int) (o : Out) (S0 : St) (post : St → Prop) : Prop := (∀ (T : St) (c : Int) (a : Nat), o = Sum.inl (c, a) → 1 ≤ c → c ≤ 4 → T 71 8 = iI c → T 71 9 = iI (a : Int) → mF S0 T → post T) ∧ ∀ (T : St) (v' : Vw) (x' s' : Nat), o = Sum.inr (v', x') → PbS L n x' s' → Tk L n s' T → Gd v' → T 71 8 = 0 → T 71 9 = -1 → Mg sd v' T → mF S0 T → post T
theorem s_ends_bad {S : St} {post : St → Prop} (h8 : ¬ S 71 8 = 0) (h : post S) : wp_X8_ends S post := by
  unfold wp_X8_ends
  exact ⟨fun _ => s_X8_isWell (fun q => absurd q h8) (fun _ => ⟨fun _ => h, fun q => absurd rfl q⟩), fun _ => s_X8_fails_bad h8 h⟩
theorem s_ends {L : Nat → Int} {n x s : Nat} {sd : Int} {v' : Vw} {o : Out} {S0 S : St} {post : St → Prop} (hE : EndR L n x v' o) (hPb : PbS L n x s) (hTk : Tk L n s S) (hT : Tx L n S) (h8 : S 71 8 = 0) (h9 : S 71 9 = -1) (hG : Gd v') (hM : Mg sd v' S) (hF : mF S0 S) (hO : OutM L n sd o S0 post) : wp_X8_ends S post := by
  obtain ⟨s1, hPb1, hE⟩ := hE
  have := PbS_uniq hPb hPb1
  subst this
  obtain ⟨t5, ts, tc⟩ := id hTk
  have n250 := hT.2.1
  have bad : ¬ (s < n ∧ L s = 59) → wp_X8_fails 1 S (fun S6 => post S6) := by
    intro hno
    have ho : o = Sum.inl (1, s) := by
      rcases hE with ⟨q1, q2, _⟩ | ⟨_, q⟩
      · exact absurd ⟨q1, q2⟩ hno
      · exact q
    exact s_X8_fails h8 t5 (fun T q8 q9 oT => hO.1 T 1 s ho (by omega) (by omega) q8 q9 (fun c k a1 a2 a3 => by rw [oT c k (by omega), hF c k a1 a2 a3]))
  unfold wp_X8_ends
  rcases tc with ⟨q1, q4⟩ | ⟨q1, qf, e, hD, q4, q3, q6, q7⟩ | ⟨q1, qf, q4, q3, q6⟩
  · rw [q4]
    exact ⟨fun q => absurd q (by decide), fun _ => bad (by omega)⟩
  · rw [q4]
    exact ⟨fun q => absurd q (by decide), fun _ => bad (fun q => by unfold fig at qf; omega)⟩
  · have ht : ty (L s) = 3 ↔ L s = 59 := by
      unfold ty
      by_cases q : L s = 59
      · rw [if_pos q]; exact ⟨fun _ => q, fun _ => rfl⟩
      · rw [if_neg q]
        refine ⟨fun w => ?_, fun w => absurd w q⟩
        split at w <;> omega
    have tb : 0 ≤ ty (L s) ∧ ty (L s) ≤ 4 := by
      unfold ty
      split
      · omega
      · split <;> omega
    rw [q4, show (3 : Int32) = iI 3 from rfl, iI_eq (by omega) (by omega) (by omega) (by omega), ht]
    refine ⟨fun q59 => ?_, fun q => bad (fun w => q w.2)⟩
    refine s_X8_isWell (fun _ => ⟨fun q => absurd q (by decide), fun _ => ?_⟩) (fun q => absurd h8 q)
    have ho : o = Sum.inr (v', s + 1) := by
      rcases hE with ⟨_, _, q⟩ | ⟨q, _⟩
      · exact q
      · exact absurd ⟨q1, q59⟩ q
    refine s_X8_advances hT q3 (by omega) ?_
    intro T s' hPb' hTk' hFa
    exact hO.2 T v' (s + 1) s' ho hPb' hTk' hG (by rw [hFa _ _ (by omega)]; exact h8) (by rw [hFa _ _ (by omega)]; exact h9) (Mg_fr hM (fun c k hh => hFa c k (by omega))) (fun c k a1 a2 a3 => by rw [hFa c k (by omega), hF c k a1 a2 a3])
theorem s_numX {L : Nat → Int} {n x s : Nat} {lo hi nt : Int} {bd : Int32} {o : Out} {K : Int → Nat → Nat → Prop} {S : St} {post : Int32 → St → Prop} (hlo : -1000 ≤ lo ∧ lo ≤ 1000) (hhi : -1000 ≤ hi ∧ hi ≤ 1000) (hnt : -1000 ≤ nt ∧ nt ≤ 1000) (hT : Tx L n S) (h8 : S 71 8 = 0) (hPb : PbS L n x s) (hTk : Tk L n s S) (hN : Nx L n lo hi x o K) (hb : ∀ (T : St) (c : Int) (a : Nat), o = Sum.inl (c, a) → 1 ≤ c → c ≤ 4 → T 71 8 = iI c → T 71 9 = iI (a : Int) → (∀ c k, ¬ (c = 71 ∧ (k = 8 ∨ k = 9)) → T c k = S c k) → ∀ r, post r T) (hd : ∀ (T : St) (V : Int) (e : Nat), K V e s → NOk L n lo hi x V e s → (V = nt ∨ ¬ bd = 0) → T 71 8 = iI 4 → T 71 9 = iI (s : Int) → (∀ c k, ¬ (c = 71 ∧ (k = 8 ∨ k = 9)) → T c k = S c k) → ∀ r, post r T) (hk : ∀ (T : St) (V : Int) (e s' : Nat), K V e s → NOk L n lo hi x V e s → V ≠ nt → bd = 0 → PbS L n e s' → Tk L n s' T → aF S T → post (iI V) T) : wp_X8_number (iI lo) (iI hi) (iI nt) bd S post := by
  rcases hN with ⟨c, s1, hB, ho⟩ | ⟨V, e, s1, hOk, hK⟩
  · refine s_X8_number hlo hhi hnt hT h8 hPb hTk (fun T c' hB' hc' q8 q9 oT => ?_) (fun T V e hOk => absurd (NOk_bad hOk hB) id) (fun T V e s' hOk => absurd (NOk_bad hOk hB) id)
    obtain ⟨e1, e2⟩ := NBad_uniq hB hB'
    subst e1 e2
    exact hb T c s1 ho (by omega) (by omega) q8 q9 oT
  · refine s_X8_number hlo hhi hnt hT h8 hPb hTk (fun T c' hB' => absurd (NOk_bad hOk hB') id) (fun T V' e' hOk' hq q8 q9 oT => ?_) (fun T V' e' s' hOk' h1 h2 h3 h4 h5 => ?_)
    · obtain ⟨e1, e2, e3⟩ := NOk_uniq hOk hOk'
      subst e1 e2 e3
      exact hd T V e hK hOk' hq q8 q9 oT
    · obtain ⟨e1, e2, e3⟩ := NOk_uniq hOk hOk'
      subst e1 e2 e3
      exact hk T V e s' hK hOk' h1 h2 h3 h4 h5
theorem s_clP {L : Nat → Int} {n s s1 : Nat} {sd : Int} {v : Vw} {o : Out} {S : St} {post : St → Prop} (hG : Gd v) (hM : Mg sd v S) (hT : Tx L n S) (h8 : S 71 8 = 0) (h9 : S 71 9 = -1) (hPb : PbS L n (s + 1) s1) (hTk : Tk L n s1 S) (hlt : v 0 0 < 6) (hN : Nx L n 0 1 (s + 1) o (fun b x _ => EndR L n x (addP v b) o)) (hO : OutM L n sd o S post) : wp_X8_clause 112 S (fun S11 => wp_X8_ends S11 (fun S12 => post S12)) := by
  obtain ⟨b0, b0', b1, b1', b2, b2', b3, b3', b4, b4', _⟩ := id hG.1.1
  unfold wp_X8_clause
  refine ⟨fun q => absurd rfl q, fun _ => ?_⟩
  rw [show (0 : Int32) = iI 0 from rfl, show (-1 : Int32) = iI (-1) from by decide, show wp_X8_number (iI 0) 1 = wp_X8_number (iI 0) (iI 1) from rfl]
  refine s_numX (by omega) (by omega) (by omega) hT h8 hPb hTk hN (fun T c a ho c1 c4 q8 q9 oT r S45 e45 S46 e46 => ?_) (fun T V e hK hOk hq => ?_) (fun T V e s' hK hOk hne _ hPb' hTk' hFa S45 e45 S46 e46 => ?_)
  · have o46 : ∀ c k, ¬ (c = 71 ∧ (k = 15 ∨ k = 18)) → S46 c k = T c k := fun c k hh => by rw [e46, up_ne _ _ (by omega), e45, up_ne _ _ (by omega)]
    have u8 : S46 71 8 = iI c := by rw [o46 _ _ (by omega)]; exact q8
    exact s_ends_bad (ne03 c1 c4 u8) (hO.1 S46 c a ho c1 c4 u8 (by rw [o46 _ _ (by omega)]; exact q9) (fun c k a1 a2 a3 => by rw [o46 c k (by omega), oT c k (by omega)]))
  · have hV := hOk.2.2.2.2.1
    rcases hq with q | q
    · omega
    · exact absurd rfl q
  · have hV := hOk.2.2.2.2.1
    have p := plc' hG hlt
    obtain ⟨⟨m1, m2, m3, m4, m5⟩, m6, m7, m8⟩ := id hM
    have t15 : T 71 15 = iI (v 0 0) := by rw [hFa _ _ (by omega)]; exact m1
    have pb := p.2.2.1 V (by omega)
    have e45 : S45 = up T 71 18 (iI (v 0 3 + V * 2 ^ (v 0 0).toNat)) := by
      rw [e45, m4, t15]
      congr 1
      rcases (show V = 0 ∨ V = 1 by omega) with rfl | rfl
      · exact p.2.2.2
      · exact p.2.1
    rw [e45, up_ne _ _ (by omega), t15, show (1 : Int32) = iI 1 from rfl, iI_add] at e46
    have o46 : ∀ c k, ¬ (c = 71 ∧ (k = 15 ∨ k = 18)) → S46 c k = T c k := fun c k hh => by rw [e46, up_ne _ _ (by omega), up_ne _ _ (by omega)]
    have oS : ∀ c k, ¬ (c = 71 ∧ (k = 15 ∨ k = 18)) → ¬ (c = 71 ∧ 3 ≤ k ∧ k ≤ 7) → S46 c k = S c k := fun c k g1 g2 => by rw [o46 c k g1, hFa c k g2]
    have en : ∀ f k, ¬ (f = 0 ∧ k = 0) → ¬ (f = 0 ∧ k = 3) → addP v V f k = v f k := fun f k h1 h2 => by unfold addP; rw [vset_ne h1, vset_ne h2]
    refine s_ends (S0 := S) hK hPb' (Tk_fr hTk' (fun k g1 g2 => o46 71 k (by omega))) (Tx_fr hT (fun c k a1 a2 => oS c k (by omega) (by omega))) (by rw [oS _ _ (by omega) (by omega)]; exact h8) (by rw [oS _ _ (by omega) (by omega)]; exact h9) (Gd_P hG hlt (by omega)) ?_ (fun c k a1 a2 a3 => oS c k (by omega) (by omega)) hO
    refine ⟨⟨?_, ?_, ?_, ?_, ?_⟩, fun r hr => ?_, fun q hq => ?_, by rw [en 0 5 (by omega) (by omega)]; exact m8⟩
    · rw [e46, up_at]; congr 1
    · rw [oS _ _ (by omega) (by omega), en 0 1 (by omega) (by omega)]; exact m2
    · rw [oS _ _ (by omega) (by omega), en 0 2 (by omega) (by omega)]; exact m3
    · rw [e46, up_ne _ _ (by omega), up_at]; congr 1
    · rw [oS _ _ (by omega) (by omega), en 0 4 (by omega) (by omega)]; exact m5
    · rw [en 0 1 (by omega) (by omega)] at hr
      rw [oS _ _ (by omega) (by omega), oS _ _ (by omega) (by omega), oS _ _ (by omega) (by omega), en 1 r (by omega) (by omega), en 2 r (by omega) (by omega), en 3 r (by omega) (by omega)]
      exact m6 r hr
    · rw [en 0 2 (by omega) (by omega)] at hq
      rw [oS _ _ (by omega) (by omega), oS _ _ (by omega) (by omega), oS _ _ (by omega) (by omega), oS _ _ (by omega) (by omega), oS _ _ (by omega) (by omega), en 4 q (by omega) (by omega), en 5 q (by omega) (by omega), en 6 q (by omega) (by omega), en 7 q (by omega) (by omega), en 8 q (by omega) (by omega), en 9 q (by omega) (by omega), en 10 q (by omega) (by omega)]
      exact m7 q hq
theorem s_clC {L : Nat → Int} {n s s1 : Nat} {sd : Int} {v : Vw} {o : Out} {S : St} {post : St → Prop} (hG : Gd v) (hM : Mg sd v S) (hT : Tx L n S) (h8 : S 71 8 = 0) (h9 : S 71 9 = -1) (hPb : PbS L n (s + 1) s1) (hTk : Tk L n s1 S) (hN : ClC L n v s o) (hO : OutM L n sd o S post) : wp_X8_clause 99 S (fun S11 => wp_X8_ends S11 (fun S12 => post S12)) := by
  obtain ⟨b0, b0', b1, b1', b2, b2', b3, b3', b4, b4', _⟩ := id hG.1.1
  obtain ⟨⟨m1, m2, m3, m4, m5⟩, m6, m7, m8⟩ := id hM
  have em : S 71 15 - 1 = iI (v 0 0 - 1) := by rw [m1, show (1 : Int32) = iI 1 from rfl, iI_sub]
  have main : ∀ s0 : Int32, (∀ V e, NOk L n 0 (v 0 0 - 1) (s + 1) V e s1 → (¬ s0 = 0 ↔ bt (v 0 4) V = 1)) → B_X8_clause_262 (fun S11 => wp_X8_ends S11 (fun S12 => post S12)) s0 S := by
    intro s0 hs0
    unfold B_X8_clause_262
    rw [em, show wp_X8_number 0 = wp_X8_number (iI 0) from rfl, show (-1 : Int32) = iI (-1) from by decide]
    refine s_numX (by omega) (by omega) (by omega) hT h8 hPb hTk hN (fun T c a ho c1 c4 q8 q9 oT r => ?_) (fun T V e hK hOk hq q8 q9 oT r => ?_) (fun T V e s' hK hOk hne hbd hPb' hTk' hFa => ?_)
    · refine s_X8_isWell (fun q => absurd q (ne03 c1 c4 q8)) (fun _ => ⟨fun _ S6 e6 => ?_, fun q => absurd rfl q⟩)
      have o6 : ∀ c k, ¬ (c = 71 ∧ k = 19) → S6 c k = T c k := fun c k hh => by rw [e6, up_ne _ _ hh]
      have u8 : S6 71 8 = iI c := by rw [o6 _ _ (by omega)]; exact q8
      exact s_ends_bad (ne03 c1 c4 u8) (hO.1 S6 c a ho c1 c4 u8 (by rw [o6 _ _ (by omega)]; exact q9) (fun c k a1 a2 a3 => by rw [o6 c k (by omega), oT c k (by omega)]))
    · have hV := hOk.2.2.2.2.1
      have hb1 : bt (v 0 4) V = 1 := by
        rcases hq with q | q
        · omega
        · exact (hs0 V e hOk).mp q
      have ho : o = Sum.inl (4, s1) := by
        rcases hK with ⟨_, q⟩ | ⟨q, _⟩
        · exact q
        · exact absurd hb1 q
      refine s_X8_isWell (fun q => absurd q (ne03 (c := 4) (by omega) (by omega) q8)) (fun _ => ⟨fun _ S6 e6 => ?_, fun q => absurd rfl q⟩)
      have o6 : ∀ c k, ¬ (c = 71 ∧ k = 19) → S6 c k = T c k := fun c k hh => by rw [e6, up_ne _ _ hh]
      have u8 : S6 71 8 = iI 4 := by rw [o6 _ _ (by omega)]; exact q8
      exact s_ends_bad (ne03 (c := 4) (by omega) (by omega) u8) (hO.1 S6 4 s1 ho (by omega) (by omega) u8 (by rw [o6 _ _ (by omega)]; exact q9) (fun c k a1 a2 a3 => by rw [o6 c k (by omega), oT c k (by omega)]))
    · have hV := hOk.2.2.2.2.1
      have hE : ¬ bt (v 0 4) V = 1 ∧ EndR L n e (addC v V) o := by
        rcases hK with ⟨q, _⟩ | q
        · exact absurd hbd ((hs0 V e hOk).mpr q)
        · exact q
      have t8 : T 71 8 = 0 := by rw [hFa _ _ (by omega)]; exact h8
      have t19 : T 71 19 = iI (v 0 4) := by rw [hFa _ _ (by omega)]; exact m5
      have ob := orb_b (m := v 0 4) (a := V) b4 b4' hV.1 (by omega)
      refine s_X8_isWell (fun _ => ⟨fun q => absurd q (by decide), fun _ S7 e7 => ?_⟩) (fun q => absurd t8 q)
      rw [t19, ob.2.2] at e7
      have o7 : ∀ c k, ¬ (c = 71 ∧ k = 19) → S7 c k = T c k := fun c k hh => by rw [e7, up_ne _ _ hh]
      have oS : ∀ c k, ¬ (c = 71 ∧ k = 19) → ¬ (c = 71 ∧ 3 ≤ k ∧ k ≤ 7) → S7 c k = S c k := fun c k g1 g2 => by rw [o7 c k g1, hFa c k g2]
      have en : ∀ f k, ¬ (f = 0 ∧ k = 4) → addC v V f k = v f k := fun f k h1 => by unfold addC; rw [vset_ne h1]
      refine s_ends (S0 := S) hE.2 hPb' (Tk_fr hTk' (fun k g1 g2 => o7 71 k (by omega))) (Tx_fr hT (fun c k a1 a2 => oS c k (by omega) (by omega))) (by rw [oS _ _ (by omega) (by omega)]; exact h8) (by rw [oS _ _ (by omega) (by omega)]; exact h9) (Gd_C hG (by omega)) ?_ (fun c k a1 a2 a3 => oS c k (by omega) (by omega)) hO
      refine ⟨⟨?_, ?_, ?_, ?_, ?_⟩, fun r hr => ?_, fun q hq => ?_, by rw [en 0 5 (by omega)]; exact m8⟩
      · rw [oS _ _ (by omega) (by omega), en 0 0 (by omega)]; exact m1
      · rw [oS _ _ (by omega) (by omega), en 0 1 (by omega)]; exact m2
      · rw [oS _ _ (by omega) (by omega), en 0 2 (by omega)]; exact m3
      · rw [oS _ _ (by omega) (by omega), en 0 3 (by omega)]; exact m4
      · rw [e7, up_at]; congr 1
      · rw [en 0 1 (by omega)] at hr
        rw [oS _ _ (by omega) (by omega), oS _ _ (by omega) (by omega), oS _ _ (by omega) (by omega), en 1 r (by omega), en 2 r (by omega), en 3 r (by omega)]
        exact m6 r hr
      · rw [en 0 2 (by omega)] at hq
        rw [oS _ _ (by omega) (by omega), oS _ _ (by omega) (by omega), oS _ _ (by omega) (by omega), oS _ _ (by omega) (by omega), oS _ _ (by omega) (by omega), en 4 q (by omega), en 5 q (by omega), en 6 q (by omega), en 7 q (by omega), en 8 q (by omega), en 9 q (by omega), en 10 q (by omega)]
        exact m7 q hq
  obtain ⟨t5, ts, tc⟩ := id hTk
  have n250 := hT.2.1
  unfold wp_X8_clause
  refine ⟨fun _ => ⟨fun _ => ⟨fun _ => ?_, fun q => absurd q (by decide)⟩, fun q => absurd q (by decide)⟩, fun q => absurd q (by decide)⟩
  rcases tc with ⟨q1, q4⟩ | ⟨q1, qf, e, hD, q4, q3, q6, q7⟩ | ⟨q1, qf, q4, q3, q6⟩
  · rw [q4]
    refine ⟨fun _ => main 0 (fun V e hOk => ?_), fun q => absurd q (by decide)⟩
    have g1 := hOk.2.1.1
    have g2 := hOk.2.1.2.1
    have g3 := hOk.2.2.1
    omega
  · have vb := VlF_b (L := L) (s := s1) (e - s1) (fun j g1 g2 => hD.2.2.1 j g1 (by have := hD.1; omega))
    have same : ∀ V e', NOk L n 0 (v 0 0 - 1) (s + 1) V e' s1 → V = VlF L s1 (e - s1) := fun V e' hOk => by
      have := DgS_uniq hD hOk.2.1
      subst this
      exact hOk.2.2.2.2.2
    rw [q4, q6, show (6 : Int32) = iI 6 from rfl, iI_le (by omega) (by omega) (by omega) (by omega), m5]
    refine ⟨fun q => absurd rfl q, fun _ => ⟨fun hge => main 0 (fun V e' hOk => ?_), fun hge => ?_⟩⟩
    · have := same V e' hOk
      have := hOk.2.2.2.2.1
      omega
    · have bb := bt_01 (v 0 4) (VlF L s1 (e - s1))
      have eb : ((iI (v 0 4) >>> (iI (VlF L s1 (e - s1)) &&& 31)) &&& 1) = 1 ↔ bt (v 0 4) (VlF L s1 (e - s1)) = 1 := by
        rw [bit_get b4 b4' vb.1 (by omega), show (1 : Int32) = iI 1 from rfl, iI_eq (by omega) (by omega) (by omega) (by omega)]
      rw [eb]
      refine ⟨fun hne => main 0 (fun V e' hOk => ?_), fun heq => main 1 (fun V e' hOk => ?_)⟩
      · rw [same V e' hOk]
        exact ⟨fun q => absurd rfl q, fun q => absurd q hne⟩
      · rw [same V e' hOk]
        exact ⟨fun _ => heq, fun _ => by decide⟩
  · have tb : ty (L s1) = 3 ∨ ty (L s1) = 1 ∨ ty (L s1) = 4 := by
      unfold ty
      split
      · exact Or.inl rfl
      · split
        · exact Or.inr (Or.inl rfl)
        · exact Or.inr (Or.inr rfl)
    rw [q4, show (2 : Int32) = iI 2 from rfl, iI_eq (by omega) (by omega) (by omega) (by omega)]
    refine ⟨fun _ => main 0 (fun V e hOk => ?_), fun q => absurd q (by omega)⟩
    have g1 := hOk.2.1.1
    have g3 := hOk.2.2.1
    exact absurd (hOk.2.1.2.2.1 s1 (Nat.le_refl _) (by omega)) qf
