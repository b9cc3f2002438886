/-! land: the call -/
theorem call_land : CallOk wp_X7_land wp_X8_land := by
  intro S hI G hG P hP
  have hH0 := hI.head
  obtain ⟨b0, b0', b1, b1', b2, b2', _, _, _, _, b5, b5'⟩ := id hH0.1
  simp only [cv, Nat.add_zero] at b0 b0' b1 b1' b2 b2' b5 b5'
  obtain ⟨hL, ⟨t1, t2, t3, t4, t5⟩, hK, hB, hIm⟩ := id hI
  obtain ⟨n, hn⟩ : ∃ n : Nat, zz S 48 1 = (n : Int) := ⟨(zz S 48 1).toNat, by omega⟩
  have n250 : n ≤ 250 := by omega
  obtain ⟨v0, hv0⟩ : ∃ v0 : Vw, v0 = (fun f k => if f = 0 ∧ k = 5 then zz S 0 5 else 0) := ⟨_, rfl⟩
  have z05 : v0 0 5 = zz S 0 5 := by rw [hv0]; exact if_pos ⟨rfl, rfl⟩
  have z0 : ∀ f k, ¬ (f = 0 ∧ k = 5) → v0 f k = 0 := fun f k hh => by rw [hv0]; exact if_neg hh
  have hG0 : Gd v0 := by
    refine ⟨⟨?_, fun r hr => ?_, fun p hp => ?_⟩, fun p hp => ?_, ?_⟩
    · unfold Hb
      rw [z0 0 0 (by omega), z0 0 1 (by omega), z0 0 2 (by omega), z0 0 3 (by omega), z0 0 4 (by omega), z05]
      omega
    · rw [z0 0 1 (by omega)] at hr; omega
    · rw [z0 0 2 (by omega)] at hp; omega
    · rw [z0 0 2 (by omega)] at hp; omega
    · rw [z0 0 3 (by omega), z0 0 0 (by omega)]; decide
  -- the reference's half
  have M : ∀ (T : St) (w : Int32) (o : Out) (s : Nat), PbS (zz S 49) n 0 s → RunR (zz S 49) n 251 v0 s o → (∀ c k, 71 ≤ c → T c k = S c k) → T 48 1 = 0 → (∀ c a, o = Sum.inl (c, a) → 1 ≤ c → c ≤ 4 → (∀ c k, ps c k → c ≠ 48 → T c k = S c k) ∧ T 48 2 = iI (a : Int) ∧ w = (-10 : Int32) - iI c) → (∀ v x, o = Sum.inr (v, x) → Ag v (cv T 0) ∧ T 63 0 = 0 ∧ T 69 0 = 0 ∧ T 46 0 = 0 ∧ T 46 1 = 0 ∧ T 48 2 = -1 ∧ w = iI (v 0 0)) → wp_X8_land T (P w) := by
    intro T w o s hPb hR hT h48 hbad hgood
    unfold wp_X8_land
    intro S1 e1 S2 e2 S3 e3 S4 e4 S5 e5 S6 e6 S7 e7 S8 e8 S9 e9
    have o9 : ∀ c k, ¬ (c = 71 ∧ (k = 0 ∨ k = 3 ∨ k = 8 ∨ k = 9 ∨ (15 ≤ k ∧ k ≤ 19))) → S9 c k = T c k := fun c k hh => by rw [e9, up_ne _ _ (by omega), e8, up_ne _ _ (by omega), e7, up_ne _ _ (by omega), e6, up_ne _ _ (by omega), e5, up_ne _ _ (by omega), e4, up_ne _ _ (by omega), e3, up_ne _ _ (by omega), e2, up_ne _ _ (by omega), e1, up_ne _ _ (by omega)]
    have q8 : S9 71 8 = 0 := by rw [e9, up_ne _ _ (by omega), e8, up_ne _ _ (by omega), e7, up_ne _ _ (by omega), e6, up_ne _ _ (by omega), e5, up_ne _ _ (by omega), e4, up_ne _ _ (by omega), e3, up_ne _ _ (by omega), e2, up_at]
    have q9 : S9 71 9 = -1 := by rw [e9, up_ne _ _ (by omega), e8, up_ne _ _ (by omega), e7, up_ne _ _ (by omega), e6, up_ne _ _ (by omega), e5, up_ne _ _ (by omega), e4, up_ne _ _ (by omega), e3, up_at]
    have q3 : S9 71 3 = iI ((0 : Nat) : Int) := by rw [e9, up_ne _ _ (by omega), e8, up_ne _ _ (by omega), e7, up_ne _ _ (by omega), e6, up_ne _ _ (by omega), e5, up_ne _ _ (by omega), e4, up_at]; rfl
    have q15 : S9 71 15 = iI 0 := by rw [e9, up_ne _ _ (by omega), e8, up_ne _ _ (by omega), e7, up_ne _ _ (by omega), e6, up_ne _ _ (by omega), e5, up_at]; rfl
    have q16 : S9 71 16 = iI 0 := by rw [e9, up_ne _ _ (by omega), e8, up_ne _ _ (by omega), e7, up_ne _ _ (by omega), e6, up_at]; rfl
    have q17 : S9 71 17 = iI 0 := by rw [e9, up_ne _ _ (by omega), e8, up_ne _ _ (by omega), e7, up_at]; rfl
    have q18 : S9 71 18 = iI 0 := by rw [e9, up_ne _ _ (by omega), e8, up_at]; rfl
    have q19 : S9 71 19 = iI 0 := by rw [e9, up_at]; rfl
    have hTx : Tx (zz S 49) n S9 := by
      refine ⟨?_, n250, fun j hj => ?_⟩
      · rw [o9 _ _ (by omega), hT _ _ (by omega), zz_S S 71 2, t1, hn]
      · have := t5 j (by omega)
        rw [o9 _ _ (by omega), hT _ _ (by omega), zz_S S 72 j, this.1]
        exact ⟨rfl, this.2⟩
    have hM0 : Mg (zz S 0 5) v0 S9 := ⟨⟨by rw [z0 0 0 (by omega)]; exact q15, by rw [z0 0 1 (by omega)]; exact q16, by rw [z0 0 2 (by omega)]; exact q17, by rw [z0 0 3 (by omega)]; exact q18, by rw [z0 0 4 (by omega)]; exact q19⟩, fun r hr => by rw [z0 0 1 (by omega)] at hr; omega, fun p hp => by rw [z0 0 2 (by omega)] at hp; omega, z05⟩
    refine s_X8_advances hTx q3 (by omega) ?_
    intro T1 s1 hPb1 hTk1 hF1
    have := PbS_uniq hPb hPb1
    subst this
    have mF1 : mF S9 T1 := fun c k a1 a2 a3 => hF1 c k (by omega)
    refine ⟨251 + 1, s_land_49 (sd := zz S 0 5) (o := o) (S0 := S9) hTx ?_ ?_ 251 v0 s T1 hR hTk1 (by rw [hF1 _ _ (by omega)]; exact q8) (by rw [hF1 _ _ (by omega)]; exact q9) (Mg_fr hM0 (fun c k hh => hF1 c k (by omega))) hG0 mF1⟩
    · intro U hBd
      have n8 := BdM_ne hBd
      obtain ⟨c, a, ho, c1, c4, u8, u9, hFU⟩ := hBd
      obtain ⟨k1, k2, k3⟩ := hbad c a ho c1 c4
      unfold B_X8_land_115
      intro U1 g1
      have oU : ∀ c k, ¬ (c = 71 ∧ k = 2) → U1 c k = U c k := fun c k hh => by rw [g1, up_ne _ _ hh]
      have n8' : ¬ U1 71 8 = 0 := by rw [oU _ _ (by omega)]; exact n8
      have oS : ∀ c k, ¬ (c = 71 ∧ (k = 0 ∨ k = 2 ∨ (3 ≤ k ∧ k ≤ 9) ∨ (15 ≤ k ∧ k ≤ 19))) → ¬ (c = 73 ∧ 27 ≤ k) → ¬ (c = 74 ∧ 20 ≤ k) → U1 c k = T c k := fun c k h1 h2 h3 => by rw [oU c k (by omega), hFU c k (by omega) h2 h3, o9 c k (by omega)]
      refine s_X8_isWell (fun q => absurd q n8') (fun _ => ⟨fun q => absurd rfl q, fun _ => ?_⟩)
      have hI2 : Inv U1 := by
        refine ⟨Inv_L hI (fun c k q => ?_), ?_, Inv_K hI (fun c k q => ?_), Inv_B hI (fun c k q => ?_), Inv_I hI (fun c k q => ?_)⟩
        · rw [oS c k (by omega) (by omega) (by omega)]; exact k1 c k (by unfold ps; omega) (by omega)
        · have w1 : U1 71 2 = 0 := by rw [g1, up_at]
          have w2 : U1 48 1 = 0 := by rw [oS _ _ (by omega) (by omega) (by omega)]; exact h48
          have w3 : U1 71 9 = U1 48 2 := by rw [oU _ _ (by omega), u9, oS _ _ (by omega) (by omega) (by omega), k2]
          unfold InvT
          have z1 : zz U1 71 2 = 0 := by unfold zz; rw [w1]; decide
          have z2 : zz U1 48 1 = 0 := by unfold zz; rw [w2]; decide
          rw [z1, z2]
          refine ⟨rfl, by omega, by omega, ?_, fun k hk => by omega⟩
          unfold zz; rw [w3]
        · rw [oS c k (by omega) (by omega) (by omega)]; exact k1 c k (by unfold ps; omega) (by omega)
        · rw [oS c k (by omega) (by omega) (by omega)]; exact k1 c k (by unfold ps; omega) (by omega)
        · rw [oS c k (by omega) (by omega) (by omega)]; exact k1 c k (by unfold ps; omega) (by omega)
      refine CallOk.fin (S := S) hP hI2 ?_
      rw [k3, oU _ _ (by omega), u8]
    · intro U v ho u8 u9 hMU hGU hFU
      obtain ⟨k1, k2, k3, k4, k5, k6, k7⟩ := hgood v n ho
      unfold B_X8_land_115
      intro U1 g1
      have oU : ∀ c k, ¬ (c = 71 ∧ k = 2) → U1 c k = U c k := fun c k hh => by rw [g1, up_ne _ _ hh]
      refine s_X8_isWell (fun _ => ⟨fun _ => ?_, fun q => absurd q (by decide)⟩) (fun q => absurd (by rw [oU _ _ (by omega)]; exact u8) q)
      have hMU1 : Mg (zz S 0 5) v U1 := by
        obtain ⟨⟨m1, m2, m3, m4, m5⟩, m6, m7, m8⟩ := hMU
        refine ⟨⟨by rw [oU _ _ (by omega)]; exact m1, by rw [oU _ _ (by omega)]; exact m2, by rw [oU _ _ (by omega)]; exact m3, by rw [oU _ _ (by omega)]; exact m4, by rw [oU _ _ (by omega)]; exact m5⟩, fun r hr => ?_, fun p hp => ?_, m8⟩
        · rw [oU _ _ (by omega), oU _ _ (by omega), oU _ _ (by omega)]; exact m6 r hr
        · rw [oU _ _ (by omega), oU _ _ (by omega), oU _ _ (by omega), oU _ _ (by omega), oU _ _ (by omega)]; exact m7 p hp
      obtain ⟨_, _, _, _, _, _, c3, c3', c4, c4', _⟩ := id hGU.1.1
      obtain ⟨d0, d0', d1, d1', d2, d2', _⟩ := id hGU.1.1
      refine s_X8_settles hGU hMU1 ?_
      intro V a10 a11 a12 ar ap a16 a17 a27 a25 ab a780 a781 oV
      have oS : ∀ c k, c < 71 → V c k = T c k := fun c k hc => by rw [oV c k (by omega) (by omega) (by omega) (by omega) (by omega), oU c k (by omega), hFU c k (by omega) (by omega) (by omega), o9 c k (by omega)]
      have v27 : V 75 27 = iI (v 0 5) := by
        rw [a27, oU _ _ (by omega), hFU _ _ (by omega) (by omega) (by omega), o9 _ _ (by omega), hT _ _ (by omega), zz_S S 75 27, hH0.2.2.2.2.2.2.2, hMU1.2.2.2]
      have A1 : Ag v (cv V 0) := k1.trans (Ag.of (fun f k hf _ _ _ => by unfold cv zz; rw [oS _ _ (by omega)]))
      have A2 : Ag v (mz V 75) := by
        refine ⟨fun k hk => ?_, fun r hr => ?_, fun p hp => ?_⟩
        · rcases (show k = 0 ∨ k = 1 ∨ k = 2 ∨ k = 3 ∨ k = 4 ∨ k = 5 by omega) with rfl | rfl | rfl | rfl | rfl | rfl
          · exact zz_iI a10 (by omega) (by omega)
          · exact zz_iI a11 (by omega) (by omega)
          · exact zz_iI a12 (by omega) (by omega)
          · exact zz_iI a16 (by omega) (by omega)
          · exact zz_iI a17 (by omega) (by omega)
          · exact zz_iI v27 (by rw [hMU1.2.2.2]; omega) (by rw [hMU1.2.2.2]; omega)
        · obtain ⟨r1, r2, r3⟩ := ar r hr
          obtain ⟨g1', g2', g3', g4', _, g6', g7'⟩ := hGU.1.2.1 r hr
          exact ⟨zz_iI r1 (by omega) (by omega), zz_iI r2 (by omega) (by omega), zz_iI r3 (by omega) (by omega)⟩
        · obtain ⟨r1, r2, r3, r4, r5, r6, r7⟩ := ap p hp
          obtain ⟨g1', g2', g3', g4', g5', g6', g7', g8', g9', g10', _⟩ := hGU.1.2.2 p hp
          have z910 := (hMU1.2.2.1 p hp).2.2.2.2.2
          refine ⟨zz_iI r1 (by omega) (by omega), zz_iI r2 (by omega) (by omega), zz_iI r3 (by omega) (by omega), zz_iI r4 (by omega) (by omega), zz_iI r5 (by omega) (by omega), ?_, ?_⟩
          · rw [z910.1]; show (V 75 (4 * p + 2)).toInt = 0; rw [r6]; decide
          · rw [z910.2]; show (V 75 (4 * p + 3)).toInt = 0; rw [r7]; decide
      have zero : ∀ c k, V c k = 0 → zz V c k = 0 := fun c k q => by unfold zz; rw [q]; decide
      have hI2 : Inv V := by
        refine ⟨⟨Ag_Lb A1 hGU.1, Ag_Mb A1 hGU.2.1, A1.symm.trans A2⟩, ?_, ?_, ?_, ?_⟩
        · have z1 : zz V 71 2 = 0 := zero _ _ (by rw [oV _ _ (by omega) (by omega) (by omega) (by omega) (by omega), g1, up_at])
          have z2 : zz V 48 1 = 0 := zero _ _ (by rw [oS _ _ (by omega)]; exact h48)
          have w3 : V 71 9 = V 48 2 := by rw [oV _ _ (by omega) (by omega) (by omega) (by omega) (by omega), oU _ _ (by omega), u9, oS _ _ (by omega), k6]
          unfold InvT
          rw [z1, z2]
          refine ⟨rfl, by omega, by omega, ?_, fun k hk => by omega⟩
          unfold zz; rw [w3]
        · have z1 : zz V 71 25 = 0 := zero _ _ a25
          have z2 : zz V 63 0 = 0 := zero _ _ (by rw [oS _ _ (by omega)]; exact k2)
          unfold InvK
          rw [z1, z2]
          exact ⟨rfl, by omega, by omega, fun i hi => by omega⟩
        · have z1 : zz V 71 27 = 0 := zero _ _ ab
          have z2 : zz V 69 0 = 0 := zero _ _ (by rw [oS _ _ (by omega)]; exact k3)
          unfold InvB
          rw [z1, z2]
          exact ⟨rfl, by omega, by omega, fun i hi => by omega⟩
        · intro i hi
          have z1 : zz V 78 i = 0 ∧ zz V 46 i = 0 := by
            rcases (show i = 0 ∨ i = 1 by omega) with rfl | rfl
            · exact ⟨zero _ _ a780, zero _ _ (by rw [oS _ _ (by omega)]; exact k4)⟩
            · exact ⟨zero _ _ a781, zero _ _ (by rw [oS _ _ (by omega)]; exact k5)⟩
          rw [z1.1, z1.2]
          exact ⟨rfl, Or.inl rfl, fun q => by omega⟩
      refine CallOk.fin (S := S) hP hI2 ?_
      rw [k7, a10]
  -- the class's half
  unfold wp_X7_land wp_X6_clear
  intro S1 e1 S2 e2 S3 e3 S4 e4 S5 e5 S7 e7
  have o6 : ∀ c k, ¬ (c = 11 ∧ k ≤ 5) → S5 c k = S c k := fun c k hh => by rw [e5, up_ne _ _ (by omega), e4, up_ne _ _ (by omega), e3, up_ne _ _ (by omega), e2, up_ne _ _ (by omega), e1, up_ne _ _ (by omega)]
  have o7 : ∀ c k, ¬ (c = 11 ∧ k ≤ 5) → S7 c k = S c k := fun c k hh => by rw [e7, up_ne _ _ (by omega), o6 c k hh]
  have z7 : ∀ k, k < 5 → S7 11 k = 0 := fun k hk => by
    rcases (show k = 0 ∨ k = 1 ∨ k = 2 ∨ k = 3 ∨ k = 4 by omega) with rfl | rfl | rfl | rfl | rfl
    · rw [e7, up_ne _ _ (by omega), e5, up_ne _ _ (by omega), e4, up_ne _ _ (by omega), e3, up_ne _ _ (by omega), e2, up_ne _ _ (by omega), e1, up_at]
    · rw [e7, up_ne _ _ (by omega), e5, up_ne _ _ (by omega), e4, up_ne _ _ (by omega), e3, up_ne _ _ (by omega), e2, up_at]
    · rw [e7, up_ne _ _ (by omega), e5, up_ne _ _ (by omega), e4, up_ne _ _ (by omega), e3, up_at]
    · rw [e7, up_ne _ _ (by omega), e5, up_ne _ _ (by omega), e4, up_at]
    · rw [e7, up_ne _ _ (by omega), e5, up_at]
  have z75 : S7 11 5 = S 0 5 := by rw [e7, up_at, o6 _ _ (by omega)]
  have hA : Ag v0 (cv S7 11) := by
    refine Ag.of (fun f k hf h0 h1 h2 => ?_)
    rw [z0 0 1 (by omega)] at h1
    rw [z0 0 2 (by omega)] at h2
    rcases (show f = 0 ∨ (f = 1 ∨ f = 2 ∨ f = 3) ∨ 4 ≤ f by omega) with rfl | q | q
    · have hk := h0 rfl
      by_cases k5 : k = 5
      · subst k5
        rw [z05]
        show (S7 11 5).toInt = (S 0 5).toInt
        rw [z75]
      · rw [z0 0 k (by omega)]
        show (S7 11 k).toInt = 0
        rw [z7 k (by omega)]
        decide
    · have := h1 q
      omega
    · have := h2 q
      omega
  refine s_X5_tell (L := zz S 49) (n := n) (v := v0) hG0 hA (by rw [o7 _ _ (by omega), zz_S S 48 1, hn]) n250 (fun j hj => ?_) ?_
  · rw [o7 _ _ (by omega), ← zz_S]
    have := t5 j (by omega)
    exact ⟨rfl, this.2⟩
  · intro T o s hPb hR hF
    obtain ⟨oT, f1, fo⟩ := hF
    have oTS : ∀ c k, ¬ (c = 48 ∧ 1 ≤ k) → ¬ (11 ≤ c ∧ c ≤ 21) → T c k = S c k := fun c k h1 h2 => by rw [oT c k h1 h2, o7 c k (by omega)]
    match o, fo, hR with
    | Sum.inl (c, a), fo, hR =>
      obtain ⟨c1, c4, u3, u2⟩ := fo
      have n3 := ne03 c1 c4 u3
      refine ⟨fun q => absurd q n3, fun _ => hG _ ?_⟩
      refine M T _ (Sum.inl (c, a)) s hPb hR (fun c k hc => oTS c k (by omega) (by omega)) f1 (fun c' a' e _ _ => ?_) (fun v x e => absurd e (by intro q; cases q))
      cases e
      exact ⟨fun c k hp hne => oTS c k (by omega) (by unfold ps at hp; omega), u2, by rw [u3]⟩
    | Sum.inr (v, x), fo, hR =>
      obtain ⟨hGv, hAv, u3, u2⟩ := fo
      refine ⟨fun _ => ?_, fun q => absurd u3 q⟩
      refine s_X6_become (o := 0) (o2 := 11) (fun f g hf hg => by omega) ?_
      intro T2 b1' b2'
      intro T3 g3 T4 g4
      have A2 : Ag v (cv T2 0) := hAv.trans (by
        have hLT : Lb (cv T 11) := Ag_Lb hAv hGv.1
        exact cv_Ag hLT (fun f k h1 h2 h3 h4 => b1' f k h1 h2 h3 h4))
      refine ⟨3, ?_⟩
      show BD_X7_land_71 (L_X7_land_71 (fun r S1 => G (wp_X8_land S1 (P r))) 2) (fun r S1 => G (wp_X8_land S1 (P r))) _ _
      unfold BD_X7_land_71
      refine ⟨fun q => absurd q (by decide), fun _ => ⟨in_lit (by decide), fun U1 h1 => ?_⟩⟩
      show BD_X7_land_71 (L_X7_land_71 (fun r S1 => G (wp_X8_land S1 (P r))) 1) (fun r S1 => G (wp_X8_land S1 (P r))) _ _
      unfold BD_X7_land_71
      refine ⟨fun q => absurd q (by decide), fun _ => ⟨in_lit (by decide), fun U2 h2 => ?_⟩⟩
      show BD_X7_land_71 (L_X7_land_71 (fun r S1 => G (wp_X8_land S1 (P r))) 0) (fun r S1 => G (wp_X8_land S1 (P r))) _ _
      unfold BD_X7_land_71
      refine ⟨fun _ => ?_, fun q => absurd (by decide) q⟩
      unfold B_X7_land_89
      have x0 : ix (0 : Int32) = 0 := by decide
      have x1 : ix ((0 : Int32) + 1) = 1 := by decide
      rw [x0] at h1
      rw [x1] at h2
      have oU : ∀ c k, ¬ (c = 46 ∧ (k = 0 ∨ k = 1)) → ¬ (c = 63 ∧ k = 0) → ¬ (c = 69 ∧ k = 0) → U2 c k = T2 c k := fun c k q1 q2 q3 => by rw [h2, up_ne _ _ (by omega), h1, up_ne _ _ (by omega), g4, up_ne _ _ (by omega), g3, up_ne _ _ (by omega)]
      have e00 : U2 0 0 = iI (v 0 0) := by
        rw [oU _ _ (by omega) (by omega) (by omega), zz_S T2 0 0]
        congr 1
        exact A2.1 0 (by omega)
      have hAU : Ag v (cv U2 0) := A2.trans (Ag.of (fun f k hf _ _ _ => by unfold cv zz; rw [oU _ _ (by omega) (by omega) (by omega)]))
      rw [e00]
      refine hG _ (M U2 _ (Sum.inr (v, x)) s hPb hR (fun c k hc => by rw [oU c k (by omega) (by omega) (by omega), b2' c k (by omega), oTS c k (by omega) (by omega)]) (by rw [oU _ _ (by omega) (by omega) (by omega), b2' _ _ (by omega)]; exact f1) (fun c' a' e _ _ => absurd e (by intro q; cases q)) (fun v' x' e => ?_))
      cases e
      exact ⟨hAU, by rw [h2, up_ne _ _ (by omega), h1, up_ne _ _ (by omega), g4, up_ne _ _ (by omega), g3, up_at], by rw [h2, up_ne _ _ (by omega), h1, up_ne _ _ (by omega), g4, up_at], by rw [h2, up_ne _ _ (by omega), h1, up_at], by rw [h2, up_at], by rw [oU _ _ (by omega) (by omega) (by omega), b2' _ _ (by omega)]; exact u2, rfl⟩
