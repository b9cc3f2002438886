/-! land: the reference's loop, and how it settles -/
theorem s_isFull {z : Int} {v : Vw} {S : St} {post : Int32 → St → Prop} (hz : 0 ≤ z ∧ z ≤ 255) (hb : (0 ≤ v 0 0 ∧ v 0 0 ≤ 6) ∧ (0 ≤ v 0 1 ∧ v 0 1 ≤ 9) ∧ (0 ≤ v 0 2 ∧ v 0 2 ≤ 4)) (h6 : S 71 6 = iI z) (h15 : S 71 15 = iI (v 0 0)) (h16 : S 71 16 = iI (v 0 1)) (h17 : S 71 17 = iI (v 0 2)) (h1 : ((z = 112 ∧ v 0 0 = 6) ∨ (z = 114 ∧ v 0 1 = 9) ∨ (z = 109 ∧ v 0 2 = 4)) → post 1 S) (h0 : ¬ ((z = 112 ∧ v 0 0 = 6) ∨ (z = 114 ∧ v 0 1 = 9) ∨ (z = 109 ∧ v 0 2 = 4)) → post 0 S) : wp_X8_isFull S post := by
  have b36 : ¬ (z = 112 ∧ v 0 0 = 6) → ¬ (z = 114 ∧ v 0 1 = 9) → B_X8_isFull_36 post S := by
    intro n1 n2
    unfold B_X8_isFull_36
    rw [h6, h17, show (109 : Int32) = iI 109 from rfl, show (4 : Int32) = iI 4 from rfl, iI_eq (by omega) (by omega) (by omega) (by omega), iI_eq (by omega) (by omega) (by omega) (by omega)]
    exact ⟨fun q => h0 (by omega), fun q => ⟨fun q2 => h0 (by omega), fun q2 => h1 (by omega)⟩⟩
  have b18 : ¬ (z = 112 ∧ v 0 0 = 6) → B_X8_isFull_18 post S := by
    intro n1
    unfold B_X8_isFull_18
    rw [h6, h16, show (114 : Int32) = iI 114 from rfl, show (9 : Int32) = iI 9 from rfl, iI_eq (by omega) (by omega) (by omega) (by omega), iI_eq (by omega) (by omega) (by omega) (by omega)]
    exact ⟨fun q => b36 n1 (by omega), fun q => ⟨fun q2 => h1 (by omega), fun q2 => b36 n1 (by omega)⟩⟩
  unfold wp_X8_isFull
  rw [h6, h15, show (112 : Int32) = iI 112 from rfl, show (6 : Int32) = iI 6 from rfl, iI_eq (by omega) (by omega) (by omega) (by omega), iI_eq (by omega) (by omega) (by omega) (by omega)]
  exact ⟨fun q => b18 (by omega), fun q => ⟨fun q2 => h1 (by omega), fun q2 => b18 (by omega)⟩⟩
theorem s_land_49 {L : Nat → Int} {n : Nat} {sd : Int} {o : Out} {S0 : St} {post : Int32 → St → Prop} (hTx : Tx L n S0) (hbad : ∀ T', BdM o S0 T' → B_X8_land_115 post T') (hgood : ∀ T' v', o = Sum.inr (v', n) → T' 71 8 = 0 → T' 71 9 = -1 → Mg sd v' T' → Gd v' → mF S0 T' → B_X8_land_115 post T') : ∀ (d : Nat) (v : Vw) (s : Nat) (T : St), RunR L n d v s o → Tk L n s T → T 71 8 = 0 → T 71 9 = -1 → Mg sd v T → Gd v → mF S0 T → L_X8_land_49 post (d + 1) T := by
  have stop : ∀ (d : Nat) (T : St), BdM o S0 T → L_X8_land_49 post (d + 1) T := by
    intro d T hB
    show BD_X8_land_49 (L_X8_land_49 post d) post T
    unfold BD_X8_land_49
    exact s_X8_isWell (fun q => absurd q (BdM_ne hB)) (fun _ => ⟨fun _ => hbad T hB, fun q => absurd rfl q⟩)
  intro d
  induction d with
  | zero => intro v s T hR; exact absurd hR id
  | succ d ih =>
    intro v s T hR hTk h8 h9 hM hG hF
    show BD_X8_land_49 (L_X8_land_49 post (d + 1)) post T
    unfold BD_X8_land_49
    refine s_X8_isWell (fun _ => ⟨fun q => absurd q (by decide), fun _ => ?_⟩) (fun q => absurd h8 q)
    have hT : Tx L n T := Tx_mF hTx hF
    obtain ⟨t5, ts, tc⟩ := id hTk
    obtain ⟨⟨m1, m2, m3, m4, m5⟩, m6, m7, m8⟩ := id hM
    obtain ⟨b0, b0', b1, b1', b2, b2', b3, b3', b4, b4', _⟩ := id hG.1.1
    rcases hR with ⟨hs, ho⟩ | ⟨hs, hcl⟩
    · rcases tc with ⟨q1, q4⟩ | ⟨q1, _⟩ | ⟨q1, _⟩
      · rw [q4]
        exact ⟨fun _ => hgood T v ho h8 h9 hM hG hF, fun q => absurd rfl q⟩
      · omega
      · omega
    · -- the clause's outcome
      obtain ⟨oc, hoc, hn1, hn2⟩ : ∃ oc : Out, ClR L n v s oc ∧ (∀ c a, oc = Sum.inl (c, a) → o = Sum.inl (c, a)) ∧ (∀ v' x', oc = Sum.inr (v', x') → ∃ s', PbS L n x' s' ∧ RunR L n d v' s' o) := by
        rcases hcl with ⟨c, a, h1, h2⟩ | ⟨v', x', s', h1, h2, h3⟩
        · exact ⟨_, h1, fun c' a' e => by rw [h2]; exact e, fun v' x' e => absurd e (by intro q; cases q)⟩
        · exact ⟨_, h1, fun c' a' e => absurd e (by intro q; cases q), fun v2 x2 e => by
            cases e
            exact ⟨s', h2, h3⟩⟩
      have outM : ∀ T2 : St, mF S0 T2 → OutM L n sd oc T2 (fun U => L_X8_land_49 post (d + 1) U) := by
        intro T2 hF2
        refine ⟨fun U c a e c1 c4 u8 u9 hU => stop d U ⟨c, a, hn1 c a e, c1, c4, u8, u9, fun c k a1 a2 a3 => by rw [hU c k a1 a2 a3, hF2 c k a1 a2 a3]⟩, fun U v' x' s' e hPb hTk' hG' u8 u9 hM' hU => ?_⟩
        obtain ⟨s2, k1, k2⟩ := hn2 v' x' e
        have := PbS_uniq hPb k1
        subst this
        exact ih v' s' U k2 hTk' u8 u9 hM' hG' (fun c k a1 a2 a3 => by rw [hU c k a1 a2 a3, hF2 c k a1 a2 a3])
      have fail : ∀ (c : Int) (c' : Int32), c' = iI c → 1 ≤ c → c ≤ 4 → oc = Sum.inl (c, s) → wp_X8_fails c' T (fun S14 => L_X8_land_49 post (d + 1) S14) := by
        intro c c' hc' c1 c4 e
        refine s_X8_fails h8 t5 (fun U u8 u9 oU => ?_)
        rw [hc'] at u8
        exact (outM T hF).1 U c s e c1 c4 u8 u9 (fun c k a1 a2 a3 => oU c k (by omega))
      rcases tc with ⟨q1, _⟩ | ⟨q1, qf, e, hD, q4, q3, q6, q7⟩ | ⟨q1, qf, q4, q3, q6⟩
      · omega
      · have hL : oc = Sum.inl (1, s) := by
          unfold fig at qf
          rcases hoc with ⟨w, _⟩ | ⟨w, _⟩ | ⟨w, _⟩ | ⟨w, _⟩ | ⟨_, _, _, _, w⟩
          · omega
          · omega
          · omega
          · omega
          · exact w
        rw [q4]
        refine ⟨fun q => absurd q (by decide), fun _ => ⟨fun q => absurd q (by decide), fun _ => fail 1 1 rfl (by omega) (by omega) hL⟩⟩
      · obtain ⟨l1, l2, l3⟩ := hT.2.2 s hs
        have n250 := hT.2.1
        have ety : ty (L s) = if L s = 59 then 3 else if L s = 112 ∨ L s = 114 ∨ L s = 109 ∨ L s = 99 then 1 else 4 := rfl
        by_cases hword : L s = 112 ∨ L s = 114 ∨ L s = 109 ∨ L s = 99
        · have ht1 : ty (L s) = 1 := by rw [ety, if_neg (by omega), if_pos hword]
          rw [q4, ht1]
          refine ⟨fun q => absurd q (by decide), fun _ => ⟨fun _ => ?_, fun q => absurd rfl q⟩⟩
          refine s_isFull (z := L s) (v := v) ⟨l2, l3⟩ ⟨⟨b0, b0'⟩, ⟨b1, b1'⟩, ⟨b2, b2'⟩⟩ q6 m1 m2 m3 (fun hfull => ⟨fun q => absurd q (by decide), fun _ => fail 3 3 rfl (by omega) (by omega) ?_⟩) (fun hfull => ⟨fun _ v9 e9 => ?_, fun q => absurd rfl q⟩)
          · rcases hoc with ⟨w, hc⟩ | ⟨w, hc⟩ | ⟨w, hc⟩ | ⟨w, hc⟩ | ⟨w1, w2, w3, w4, _⟩
            · rcases hc with ⟨_, hc⟩ | ⟨hc, _⟩
              · exact hc
              · omega
            · rcases hc with ⟨_, hc⟩ | ⟨hc, _⟩
              · exact hc
              · omega
            · rcases hc with ⟨_, hc⟩ | ⟨hc, _⟩
              · exact hc
              · omega
            · omega
            · omega
          · rw [q6] at e9
            rw [e9]
            refine s_X8_advances hT q3 (by omega) ?_
            intro T2 s1 hPb2 hTk2 hFa
            have hF2 : mF S0 T2 := fun c k a1 a2 a3 => by rw [hFa c k (by omega), hF c k a1 a2 a3]
            have hM2 : Mg sd v T2 := Mg_fr hM (fun c k hh => hFa c k (by omega))
            have u8 : T2 71 8 = 0 := by rw [hFa _ _ (by omega)]; exact h8
            have u9 : T2 71 9 = -1 := by rw [hFa _ _ (by omega)]; exact h9
            have hT2 : Tx L n T2 := Tx_mF hTx hF2
            rcases hoc with ⟨w, hc⟩ | ⟨w, hc⟩ | ⟨w, hc⟩ | ⟨w, hc⟩ | ⟨w1, w2, w3, w4, _⟩
            · rw [w]
              rcases hc with ⟨hc, _⟩ | ⟨hlt, hc⟩
              · omega
              · exact s_clP hG hM2 hT2 u8 u9 hPb2 hTk2 hlt hc (outM T2 hF2)
            · rw [w]
              rcases hc with ⟨hc, _⟩ | ⟨hlt, hc⟩
              · omega
              · exact s_clQ hG hM2 hT2 u8 u9 hPb2 hTk2 hlt hc (outM T2 hF2)
            · rw [w]
              rcases hc with ⟨hc, _⟩ | ⟨hlt, hc⟩
              · omega
              · exact s_clM hG hM2 hT2 u8 u9 hPb2 hTk2 hlt hc (outM T2 hF2)
            · rw [w]
              exact s_clC hG hM2 hT2 u8 u9 hPb2 hTk2 hc (outM T2 hF2)
            · omega
        · have hL : oc = Sum.inl (1, s) := by
            rcases hoc with ⟨w, _⟩ | ⟨w, _⟩ | ⟨w, _⟩ | ⟨w, _⟩ | ⟨_, _, _, _, w⟩
            · omega
            · omega
            · omega
            · omega
            · exact w
          have ht : ty (L s) = 3 ∨ ty (L s) = 4 := by
            rw [ety, if_neg hword]
            split
            · exact Or.inl rfl
            · exact Or.inr rfl
          rw [q4, show (0 : Int32) = iI 0 from rfl, show wp_X8_fails 1 = wp_X8_fails (iI 1) from rfl, show (1 : Int32) = iI 1 from rfl, iI_eq (by omega) (by omega) (by omega) (by omega), iI_eq (by omega) (by omega) (by omega) (by omega)]
          exact ⟨fun q => absurd q (by omega), fun _ => ⟨fun q => absurd q (by omega), fun _ => fail 1 (iI 1) rfl (by omega) (by omega) hL⟩⟩
theorem s_X8_settles {v : Vw} {sd : Int} {S : St} {post : St → Prop} (hG : Gd v) (hM : Mg sd v S) (h : ∀ T, T 71 10 = iI (v 0 0) → T 71 11 = iI (v 0 1) → T 71 12 = iI (v 0 2) → (∀ r : Nat, (r : Int) < v 0 1 → T 73 (3 * r) = iI (v 1 r) ∧ T 73 (3 * r + 1) = iI (v 2 r) ∧ T 75 (18 + r) = iI (v 3 r)) → (∀ p : Nat, (p : Int) < v 0 2 → T 74 (5 * p + 1) = iI (v 4 p) ∧ T 74 (5 * p + 2) = iI (v 5 p) ∧ T 74 (5 * p + 4) = iI (v 6 p) ∧ T 75 (4 * p) = iI (v 7 p) ∧ T 75 (4 * p + 1) = iI (v 8 p) ∧ T 75 (4 * p + 2) = 0 ∧ T 75 (4 * p + 3) = 0) → T 75 16 = iI (v 0 3) → T 75 17 = iI (v 0 4) → T 75 27 = S 75 27 → T 71 25 = 0 → T 71 27 = 0 → T 78 0 = 0 → T 78 1 = 0 → (∀ c k, ¬ (c = 71 ∧ (k = 10 ∨ k = 11 ∨ k = 12 ∨ k = 25 ∨ k = 27)) → c ≠ 73 → c ≠ 74 → c ≠ 75 → c ≠ 78 → T c k = S c k) → post T) : wp_X8_settles S post := by
  obtain ⟨b0, b0', b1, b1', b2, b2', b3, b3', b4, b4', _⟩ := id hG.1.1
  obtain ⟨⟨m1, m2, m3, m4, m5⟩, m6, m7, m8⟩ := id hM
  unfold wp_X8_settles
  intro S1 e1 S2 e2 S3 e3
  rw [m1] at e1
  rw [e1, up_ne _ _ (by omega), m2] at e2
  rw [e2, up_ne _ _ (by omega), up_ne _ _ (by omega), m3] at e3
  have o3 : ∀ c k, ¬ (c = 71 ∧ (k = 10 ∨ k = 11 ∨ k = 12)) → S3 c k = S c k := fun c k hh => by rw [e3, up_ne _ _ (by omega), up_ne _ _ (by omega), up_ne _ _ (by omega)]
  have f10 : S3 71 10 = iI (v 0 0) := by rw [e3, up_ne _ _ (by omega), up_ne _ _ (by omega), up_at]
  have f11 : S3 71 11 = iI (v 0 1) := by rw [e3, up_ne _ _ (by omega), up_at]
  have f12 : S3 71 12 = iI (v 0 2) := by rw [e3, up_at]
  -- the last: roads' miles, and what is forgotten
  have l180 : ∀ (T0 : St), (∀ c k, c ≠ 73 → c ≠ 74 → c ≠ 75 → T0 c k = S3 c k) → (∀ j, j < 27 → T0 73 j = S 73 (27 + j)) → (∀ j, j < 20 → T0 74 j = S 74 (20 + j)) → (∀ p : Nat, (p : Int) < v 0 2 → T0 75 (4 * p) = iI (v 7 p) ∧ T0 75 (4 * p + 1) = iI (v 8 p) ∧ T0 75 (4 * p + 2) = 0 ∧ T0 75 (4 * p + 3) = 0) → T0 75 16 = iI (v 0 3) → T0 75 17 = iI (v 0 4) → T0 75 27 = S 75 27 → B_X8_settles_180 post 0 T0 := by
    intro T0 o0 k73 k74 k75 k16 k17 k27
    have key : ∀ (d r : Nat) (T : St), (r : Int) + d = v 0 1 → (∀ c k, ¬ (c = 75 ∧ 18 ≤ k ∧ k < 27) → T c k = T0 c k) → (∀ q, q < r → T 75 (18 + q) = iI (v 3 q)) → L_X8_settles_180 post (d + 1) (iI r) T := by
      intro d
      induction d with
      | zero =>
        intro r T hr oT hj
        show BD_X8_settles_180 (L_X8_settles_180 post 0) post _ _
        unfold BD_X8_settles_180
        rw [oT 71 11 (by omega), o0 71 11 (by omega) (by omega) (by omega), f11, iI_le (by omega) (by omega) (by omega) (by omega)]
        refine ⟨fun _ => ?_, fun e => absurd (by omega) e⟩
        unfold B_X8_settles_213
        intro U1 g1 U2 g2 U3 g3 U4 g4
        have oU : ∀ c k, ¬ (c = 71 ∧ (k = 25 ∨ k = 27)) → ¬ (c = 78 ∧ (k = 0 ∨ k = 1)) → U4 c k = T c k := fun c k h1 h2 => by rw [g4, up_ne _ _ (by omega), g3, up_ne _ _ (by omega), g2, up_ne _ _ (by omega), g1, up_ne _ _ (by omega)]
        have oS : ∀ c k, c ≠ 73 → c ≠ 74 → c ≠ 75 → ¬ (c = 71 ∧ (k = 25 ∨ k = 27)) → ¬ (c = 78 ∧ (k = 0 ∨ k = 1)) → U4 c k = S3 c k := fun c k h1 h2 h3 h4 h5 => by rw [oU c k h4 h5, oT c k (by omega), o0 c k h1 h2 h3]
        refine h U4 (by rw [oS _ _ (by omega) (by omega) (by omega) (by omega) (by omega)]; exact f10) (by rw [oS _ _ (by omega) (by omega) (by omega) (by omega) (by omega)]; exact f11) (by rw [oS _ _ (by omega) (by omega) (by omega) (by omega) (by omega)]; exact f12) (fun q hq => ?_) (fun p hp => ?_) (by rw [oU _ _ (by omega) (by omega), oT _ _ (by omega)]; exact k16) (by rw [oU _ _ (by omega) (by omega), oT _ _ (by omega)]; exact k17) (by rw [oU _ _ (by omega) (by omega), oT _ _ (by omega)]; exact k27) (by rw [g4, up_ne _ _ (by omega), g3, up_ne _ _ (by omega), g2, up_ne _ _ (by omega), g1, up_at]) (by rw [g4, up_ne _ _ (by omega), g3, up_ne _ _ (by omega), g2, up_at]) (by rw [g4, up_ne _ _ (by omega), g3, up_at]) (by rw [g4, up_at]) (fun c k h1 h2 h3 h4 h5 => by rw [oS c k h2 h3 h4 (by omega) (by omega), o3 c k (by omega)])
        · have := m6 q hq
          refine ⟨?_, ?_, ?_⟩
          · rw [oU _ _ (by omega) (by omega), oT _ _ (by omega), k73 _ (by omega)]; exact this.1
          · rw [oU _ _ (by omega) (by omega), oT _ _ (by omega), k73 _ (by omega)]; exact this.2.1
          · rw [oU _ _ (by omega) (by omega)]; exact hj q (by omega)
        · have := m7 p hp
          have k5 := k75 p hp
          refine ⟨?_, ?_, ?_, ?_, ?_, ?_, ?_⟩
          · rw [oU _ _ (by omega) (by omega), oT _ _ (by omega), k74 _ (by omega)]; exact this.2.1
          · rw [oU _ _ (by omega) (by omega), oT _ _ (by omega), k74 _ (by omega)]; exact this.2.2.1
          · rw [oU _ _ (by omega) (by omega), oT _ _ (by omega), k74 _ (by omega)]; exact this.2.2.2.2.1
          · rw [oU _ _ (by omega) (by omega), oT _ _ (by omega)]; exact k5.1
          · rw [oU _ _ (by omega) (by omega), oT _ _ (by omega)]; exact k5.2.1
          · rw [oU _ _ (by omega) (by omega), oT _ _ (by omega)]; exact k5.2.2.1
          · rw [oU _ _ (by omega) (by omega), oT _ _ (by omega)]; exact k5.2.2.2
      | succ d ih =>
        intro r T hr oT hj
        show BD_X8_settles_180 (L_X8_settles_180 post (d + 1)) post _ _
        unfold BD_X8_settles_180
        have er : iI (r : Int) + 1 = iI ((r + 1 : Nat) : Int) := by rw [show (1 : Int32) = iI 1 from rfl, iI_add]; rfl
        have x1 : ix ((3 : Int32) * iI (r : Int) + 2) = 3 * r + 2 := by
          simp (disch := omega) only [iI_add, iI_sub, iI_mul, iI_le, iI_lt, iI_eq, iI_ix, iI_in, iI_neg, iI_lit]; omega
        have x2 : ix ((18 : Int32) + iI (r : Int)) = 18 + r := by
          simp (disch := omega) only [iI_add, iI_sub, iI_mul, iI_le, iI_lt, iI_eq, iI_ix, iI_in, iI_neg, iI_lit]; omega
        have i1 : vp_in ((3 : Int32) * iI (r : Int) + 2) 54 := by
          simp (disch := omega) only [iI_add, iI_sub, iI_mul, iI_le, iI_lt, iI_eq, iI_ix, iI_in, iI_neg, iI_lit]; omega
        have i2 : vp_in ((18 : Int32) + iI (r : Int)) 28 := by
          simp (disch := omega) only [iI_add, iI_sub, iI_mul, iI_le, iI_lt, iI_eq, iI_ix, iI_in, iI_neg, iI_lit]; omega
        rw [oT 71 11 (by omega), o0 71 11 (by omega) (by omega) (by omega), f11, iI_le (by omega) (by omega) (by omega) (by omega), x1, x2, er]
        refine ⟨fun e => absurd e (by omega), fun _ => ⟨i1, i2, fun U e => ?_⟩⟩
        refine ih (r + 1) U (by omega) (fun c k hh => by rw [e, up_ne _ _ (by omega), oT c k hh]) (fun q hq => ?_)
        by_cases eq : q = r
        · subst eq
          rw [e, up_at, oT _ _ (by omega), k73 _ (by omega)]
          exact (m6 q (by omega)).2.2
        · rw [e, up_ne _ _ (by omega)]
          exact hj q (by omega)
    have := key (v 0 1).toNat 0 T0 (by omega) (fun _ _ _ => rfl) (fun q hq => absurd hq (by omega))
    exact ⟨(v 0 1).toNat + 1, this⟩
  -- persons
  have l84 : ∀ (T0 : St), (∀ c k, c ≠ 73 → c ≠ 74 → T0 c k = S3 c k) → (∀ j, j < 27 → T0 73 j = S 73 (27 + j)) → (∀ j, j < 20 → T0 74 j = S 74 (20 + j)) → B_X8_settles_84 post 0 T0 := by
    intro T0 o0 k73 k74
    have key : ∀ (d p : Nat) (T : St), (p : Int) + d = v 0 2 → (∀ c k, ¬ (c = 75 ∧ k < 16) → T c k = T0 c k) → (∀ q, q < p → T 75 (4 * q) = iI (v 7 q) ∧ T 75 (4 * q + 1) = iI (v 8 q) ∧ T 75 (4 * q + 2) = 0 ∧ T 75 (4 * q + 3) = 0) → L_X8_settles_84 post (d + 1) (iI p) T := by
      intro d
      induction d with
      | zero =>
        intro p T hp oT hj
        show BD_X8_settles_84 (L_X8_settles_84 post 0) post _ _
        unfold BD_X8_settles_84
        rw [oT 71 12 (by omega), o0 71 12 (by omega) (by omega), f12, iI_le (by omega) (by omega) (by omega) (by omega)]
        refine ⟨fun _ => ?_, fun e => absurd (by omega) e⟩
        unfold B_X8_settles_156
        intro U1 g1 U2 g2
        have t18 : T 71 18 = iI (v 0 3) := by rw [oT _ _ (by omega), o0 _ _ (by omega) (by omega), o3 _ _ (by omega)]; exact m4
        have t19 : T 71 19 = iI (v 0 4) := by rw [oT _ _ (by omega), o0 _ _ (by omega) (by omega), o3 _ _ (by omega)]; exact m5
        rw [t18] at g1
        rw [g1, up_ne _ _ (by omega), t19] at g2
        have oU : ∀ c k, ¬ (c = 75 ∧ (k = 16 ∨ k = 17)) → U2 c k = T c k := fun c k hh => by rw [g2, up_ne _ _ (by omega), up_ne _ _ (by omega)]
        refine l180 U2 (fun c k h1 h2 h3 => by rw [oU c k (by omega), oT c k (by omega), o0 c k h1 h2]) (fun j hj2 => by rw [oU _ _ (by omega), oT _ _ (by omega)]; exact k73 j hj2) (fun j hj2 => by rw [oU _ _ (by omega), oT _ _ (by omega)]; exact k74 j hj2) (fun q hq => ?_) (by rw [g2, up_ne _ _ (by omega), up_at]) (by rw [g2, up_at]) (by rw [oU _ _ (by omega), oT _ _ (by omega), o0 _ _ (by omega) (by omega), o3 _ _ (by omega)])
        rw [oU _ _ (by omega), oU _ _ (by omega), oU _ _ (by omega), oU _ _ (by omega)]
        exact hj q (by omega)
      | succ d ih =>
        intro p T hp oT hj
        show BD_X8_settles_84 (L_X8_settles_84 post (d + 1)) post _ _
        unfold BD_X8_settles_84
        have ep : iI (p : Int) + 1 = iI ((p + 1 : Nat) : Int) := by rw [show (1 : Int32) = iI 1 from rfl, iI_add]; rfl
        have x50 : ix ((5 : Int32) * iI (p : Int)) = 5 * p := by
          simp (disch := omega) only [iI_add, iI_sub, iI_mul, iI_le, iI_lt, iI_eq, iI_ix, iI_in, iI_neg, iI_lit]; omega
        have x53 : ix ((5 : Int32) * iI (p : Int) + 3) = 5 * p + 3 := by
          simp (disch := omega) only [iI_add, iI_sub, iI_mul, iI_le, iI_lt, iI_eq, iI_ix, iI_in, iI_neg, iI_lit]; omega
        have x40 : ix ((4 : Int32) * iI (p : Int)) = 4 * p := by
          simp (disch := omega) only [iI_add, iI_sub, iI_mul, iI_le, iI_lt, iI_eq, iI_ix, iI_in, iI_neg, iI_lit]; omega
        have x41 : ix ((4 : Int32) * iI (p : Int) + 1) = 4 * p + 1 := by
          simp (disch := omega) only [iI_add, iI_sub, iI_mul, iI_le, iI_lt, iI_eq, iI_ix, iI_in, iI_neg, iI_lit]; omega
        have x42 : ix ((4 : Int32) * iI (p : Int) + 2) = 4 * p + 2 := by
          simp (disch := omega) only [iI_add, iI_sub, iI_mul, iI_le, iI_lt, iI_eq, iI_ix, iI_in, iI_neg, iI_lit]; omega
        have x43 : ix ((4 : Int32) * iI (p : Int) + 3) = 4 * p + 3 := by
          simp (disch := omega) only [iI_add, iI_sub, iI_mul, iI_le, iI_lt, iI_eq, iI_ix, iI_in, iI_neg, iI_lit]; omega
        have i50 : vp_in ((5 : Int32) * iI (p : Int)) 40 := by
          simp (disch := omega) only [iI_add, iI_sub, iI_mul, iI_le, iI_lt, iI_eq, iI_ix, iI_in, iI_neg, iI_lit]; omega
        have i53 : vp_in ((5 : Int32) * iI (p : Int) + 3) 40 := by
          simp (disch := omega) only [iI_add, iI_sub, iI_mul, iI_le, iI_lt, iI_eq, iI_ix, iI_in, iI_neg, iI_lit]; omega
        have i40 : vp_in ((4 : Int32) * iI (p : Int)) 28 := by
          simp (disch := omega) only [iI_add, iI_sub, iI_mul, iI_le, iI_lt, iI_eq, iI_ix, iI_in, iI_neg, iI_lit]; omega
        have i41 : vp_in ((4 : Int32) * iI (p : Int) + 1) 28 := by
          simp (disch := omega) only [iI_add, iI_sub, iI_mul, iI_le, iI_lt, iI_eq, iI_ix, iI_in, iI_neg, iI_lit]; omega
        have i42 : vp_in ((4 : Int32) * iI (p : Int) + 2) 28 := by
          simp (disch := omega) only [iI_add, iI_sub, iI_mul, iI_le, iI_lt, iI_eq, iI_ix, iI_in, iI_neg, iI_lit]; omega
        have i43 : vp_in ((4 : Int32) * iI (p : Int) + 3) 28 := by
          simp (disch := omega) only [iI_add, iI_sub, iI_mul, iI_le, iI_lt, iI_eq, iI_ix, iI_in, iI_neg, iI_lit]; omega
        have mp := m7 p (by omega)
        have t50 : T 74 (5 * p) = iI (v 7 p) := by rw [oT _ _ (by omega), k74 _ (by omega)]; exact mp.1
        have t53 : T 74 (5 * p + 3) = iI (v 8 p) := by rw [oT _ _ (by omega), k74 _ (by omega)]; exact mp.2.2.2.1
        rw [oT 71 12 (by omega), o0 71 12 (by omega) (by omega), f12, iI_le (by omega) (by omega) (by omega) (by omega), x50, x53, x40, x41, x42, x43, t50, ep]
        refine ⟨fun e => absurd e (by omega), fun _ => ⟨i50, i40, fun U2 g2 => ⟨i53, i41, fun U4 g4 => ⟨i42, fun U6 g6 => ⟨i43, fun U8 g8 => ?_⟩⟩⟩⟩⟩
        rw [g2, up_ne _ _ (by omega), t53] at g4
        have oU : ∀ c k, ¬ (c = 75 ∧ 4 * p ≤ k ∧ k ≤ 4 * p + 3) → U8 c k = T c k := fun c k hh => by rw [g8, up_ne _ _ (by omega), g6, up_ne _ _ (by omega), g4, up_ne _ _ (by omega), up_ne _ _ (by omega)]
        refine ih (p + 1) U8 (by omega) (fun c k hh => by rw [oU c k (by omega), oT c k hh]) (fun q hq => ?_)
        by_cases eq : q = p
        · subst eq
          refine ⟨?_, ?_, ?_, ?_⟩
          · rw [g8, up_ne _ _ (by omega), g6, up_ne _ _ (by omega), g4, up_ne _ _ (by omega), up_at]
          · rw [g8, up_ne _ _ (by omega), g6, up_ne _ _ (by omega), g4, up_at]
          · rw [g8, up_ne _ _ (by omega), g6, up_at]
          · rw [g8, up_at]
        · rw [oU _ _ (by omega), oU _ _ (by omega), oU _ _ (by omega), oU _ _ (by omega)]
          exact hj q (by omega)
    have := key (v 0 2).toNat 0 T0 (by omega) (fun _ _ _ => rfl) (fun q hq => absurd hq (by omega))
    exact ⟨(v 0 2).toNat + 1, this⟩
  have l55 : ∀ (T0 : St), (∀ c k, c ≠ 73 → T0 c k = S3 c k) → (∀ j, j < 27 → T0 73 j = S 73 (27 + j)) → B_X8_settles_55 post 0 T0 := by
    intro T0 o0 k73
    have key : ∀ (d i : Nat) (T : St), i + d = 20 → (∀ c k, ¬ (c = 74 ∧ k < 20) → T c k = T0 c k) → (∀ j, j < i → T 74 j = S 74 (20 + j)) → L_X8_settles_55 post (d + 1) (iI i) T := by
      intro d
      induction d with
      | zero =>
        intro i T hi oT hj
        show BD_X8_settles_55 (L_X8_settles_55 post 0) post _ _
        unfold BD_X8_settles_55
        have h20 : (20 : Int32) ≤ iI (i : Int) ↔ (20 : Int) ≤ i := by
          rw [show (20 : Int32) = iI 20 from rfl]
          exact iI_le (by omega) (by omega) (by omega) (by omega)
        rw [h20]
        exact ⟨fun _ => l84 T (fun c k h1 h2 => by rw [oT c k (by omega), o0 c k h1]) (fun j hj2 => by rw [oT _ _ (by omega)]; exact k73 j hj2) (fun j hj2 => hj j (by omega)), fun e => absurd (by omega) e⟩
      | succ d ih =>
        intro i T hi oT hj
        show BD_X8_settles_55 (L_X8_settles_55 post (d + 1)) post _ _
        unfold BD_X8_settles_55
        have h20 : (20 : Int32) ≤ iI (i : Int) ↔ (20 : Int) ≤ i := by
          rw [show (20 : Int32) = iI 20 from rfl]
          exact iI_le (by omega) (by omega) (by omega) (by omega)
        have ei : iI (i : Int) + 1 = iI ((i + 1 : Nat) : Int) := by rw [show (1 : Int32) = iI 1 from rfl, iI_add]; rfl
        have xi : ix (iI (i : Int)) = i := by rw [iI_ix (by omega) (by omega)]; simp
        have ii : vp_in (iI (i : Int)) 40 := (iI_in (by omega) (by omega)).mpr ⟨by omega, by omega⟩
        have x2 : ix ((20 : Int32) + iI (i : Int)) = 20 + i := by
          simp (disch := omega) only [iI_add, iI_sub, iI_mul, iI_le, iI_lt, iI_eq, iI_ix, iI_in, iI_neg, iI_lit]; omega
        have i2 : vp_in ((20 : Int32) + iI (i : Int)) 40 := by
          simp (disch := omega) only [iI_add, iI_sub, iI_mul, iI_le, iI_lt, iI_eq, iI_ix, iI_in, iI_neg, iI_lit]; omega
        rw [h20, ei, xi, x2]
        refine ⟨fun e => absurd e (by omega), fun _ => ⟨i2, ii, fun U e => ?_⟩⟩
        refine ih (i + 1) U (by omega) (fun c k hh => by rw [e, up_ne _ _ (by omega), oT c k hh]) (fun j hj2 => ?_)
        by_cases eq : j = i
        · subst eq
          rw [e, up_at, oT _ _ (by omega), o0 _ _ (by omega), o3 _ _ (by omega)]
        · rw [e, up_ne _ _ (by omega)]
          exact hj j (by omega)
    have := key 20 0 T0 (by omega) (fun _ _ _ => rfl) (fun q hq => absurd hq (by omega))
    exact ⟨20 + 1, this⟩
  have key : ∀ (d i : Nat) (T : St), i + d = 27 → (∀ c k, ¬ (c = 73 ∧ k < 27) → T c k = S3 c k) → (∀ j, j < i → T 73 j = S 73 (27 + j)) → L_X8_settles_26 post (d + 1) (iI i) T := by
    intro d
    induction d with
    | zero =>
      intro i T hi oT hj
      show BD_X8_settles_26 (L_X8_settles_26 post 0) post _ _
      unfold BD_X8_settles_26
      have h27 : (27 : Int32) ≤ iI (i : Int) ↔ (27 : Int) ≤ i := by
        rw [show (27 : Int32) = iI 27 from rfl]
        exact iI_le (by omega) (by omega) (by omega) (by omega)
      rw [h27]
      exact ⟨fun _ => l55 T (fun c k h1 => oT c k (by omega)) (fun j hj2 => hj j (by omega)), fun e => absurd (by omega) e⟩
    | succ d ih =>
      intro i T hi oT hj
      show BD_X8_settles_26 (L_X8_settles_26 post (d + 1)) post _ _
      unfold BD_X8_settles_26
      have h27 : (27 : Int32) ≤ iI (i : Int) ↔ (27 : Int) ≤ i := by
        rw [show (27 : Int32) = iI 27 from rfl]
        exact iI_le (by omega) (by omega) (by omega) (by omega)
      have ei : iI (i : Int) + 1 = iI ((i + 1 : Nat) : Int) := by rw [show (1 : Int32) = iI 1 from rfl, iI_add]; rfl
      have xi : ix (iI (i : Int)) = i := by rw [iI_ix (by omega) (by omega)]; simp
      have ii : vp_in (iI (i : Int)) 54 := (iI_in (by omega) (by omega)).mpr ⟨by omega, by omega⟩
      have x2 : ix ((27 : Int32) + iI (i : Int)) = 27 + i := by
        simp (disch := omega) only [iI_add, iI_sub, iI_mul, iI_le, iI_lt, iI_eq, iI_ix, iI_in, iI_neg, iI_lit]; omega
      have i2 : vp_in ((27 : Int32) + iI (i : Int)) 54 := by
        simp (disch := omega) only [iI_add, iI_sub, iI_mul, iI_le, iI_lt, iI_eq, iI_ix, iI_in, iI_neg, iI_lit]; omega
      rw [h27, ei, xi, x2]
      refine ⟨fun e => absurd e (by omega), fun _ => ⟨i2, ii, fun U e => ?_⟩⟩
      refine ih (i + 1) U (by omega) (fun c k hh => by rw [e, up_ne _ _ (by omega), oT c k hh]) (fun j hj2 => ?_)
      by_cases eq : j = i
      · subst eq
        rw [e, up_at, oT _ _ (by omega), o3 _ _ (by omega)]
      · rw [e, up_ne _ _ (by omega)]
        exact hj j (by omega)
  have := key 27 0 S3 (by omega) (fun _ _ _ => rfl) (fun q hq => absurd hq (by omega))
  exact ⟨27 + 1, this⟩
