/-! the text: the class's clauses -/
def cF (S T : St) : Prop := ∀ c k, ¬ (c = 48 ∧ 2 ≤ k) → ¬ (11 ≤ c ∧ c ≤ 21) → T c k = S c k
def OutC (L : Nat → Int) (n s : Nat) (R : Out → Prop) (S0 : St) (post : St → Prop) : Prop := (∀ (T : St) (c : Int) (a : Nat), R (Sum.inl (c, a)) → 1 ≤ c → c ≤ 4 → T 48 3 = iI c → T 48 2 = iI (a : Int) → (∃ y, Cs L n y T) → cF S0 T → post T) ∧ ∀ (T : St) (v' : Vw) (x' : Nat), R (Sum.inr (v', x')) → s < x' → Gd v' → Ag v' (cv T 11) → T 48 3 = 0 → T 48 2 = -1 → Cs L n x' T → cF S0 T → post T
def Aft (post : St → Prop) : St → Prop := fun S14 => ((¬ (S14 48 3) = 0 → post S14) ∧ ((S14 48 3) = 0 → wp_X5_passEnd S14 (fun S16 => post S16)))
theorem ne03 {c : Int} (h1 : 1 ≤ c) (h2 : c ≤ 4) {x : Int32} (h : x = iI c) : ¬ x = 0 := by
  rw [h, show (0 : Int32) = iI 0 from rfl, iI_eq (by omega) (by omega) (by omega) (by omega)]
  omega
theorem aft_bad {L : Nat → Int} {n s : Nat} {R : Out → Prop} {S0 T : St} {post : St → Prop} {c : Int} {a : Nat} (hO : OutC L n s R S0 post) (hR : R (Sum.inl (c, a))) (h1 : 1 ≤ c) (h2 : c ≤ 4) (h3 : T 48 3 = iI c) (h4 : T 48 2 = iI (a : Int)) (hy : ∃ y, Cs L n y T) (hF : cF S0 T) : Aft post T := ⟨fun _ => hO.1 T c a hR h1 h2 h3 h4 hy hF, fun q => absurd q (ne03 h1 h2 h3)⟩
theorem aft_end {L : Nat → Int} {n s x : Nat} {v' : Vw} {R : Out → Prop} {S0 T : St} {post : St → Prop} (hO : OutC L n s R S0 post) (hE : ∀ o, EndR L n x v' o → R o) (hx : s ≤ x) (hG : Gd v') (hA : Ag v' (cv T 11)) (h3 : T 48 3 = 0) (h4 : T 48 2 = -1) (hC : Cs L n x T) (hF : cF S0 T) : Aft post T := by
  refine ⟨fun q => absurd h3 q, fun _ => ?_⟩
  unfold wp_X5_passEnd
  refine s_X5_passBlanks hC ?_
  intro T1 s1 hPb hC1 o1
  obtain ⟨k1, k2, k3, k3', k5⟩ := id hC1
  have t3 : T1 48 3 = 0 := by rw [o1 _ _ (by omega)]; exact h3
  have bad : ¬ (s1 < n ∧ L s1 = 59) → wp_X5_blame 1 (T1 48 4) T1 (fun S3 => post S3) := by
    intro hno
    refine s_X5_blame (fun _ T2 q3 q2 o2 => ?_) (fun q => absurd t3 q)
    exact hO.1 T2 1 s1 (hE _ ⟨s1, hPb, Or.inr ⟨hno, rfl⟩⟩) (by omega) (by omega) q3 (by rw [q2]; exact k2) ⟨s1, Cs_fr hC1 (fun c k g1 g2 => o2 c k (by omega)) (o2 _ _ (by omega))⟩ (fun c k a1 a2 => by rw [o2 c k (by omega), o1 c k (by omega), hF c k a1 a2])
  have x1 : ix (iI (s1 : Int)) = s1 := by rw [iI_ix (by omega) (by omega)]; simp
  rw [k1, k2, iI_le (by omega) (by omega) (by omega) (by omega), x1]
  rw [k2] at bad
  refine ⟨fun q => bad (by omega), fun q => ⟨(iI_in (by omega) (by omega)).mpr ⟨by omega, by omega⟩, ?_⟩⟩
  obtain ⟨w1, w2, w3⟩ := k5 s1 (by omega)
  rw [w1, show (59 : Int32) = iI 59 from rfl, iI_eq (by omega) (by omega) (by omega) (by omega)]
  refine ⟨fun hne => bad (fun w => hne w.2), fun heq S6 e6 => ?_⟩
  have en : iI (s1 : Int) + 1 = iI ((s1 + 1 : Nat) : Int) := by rw [show (1 : Int32) = iI 1 from rfl, iI_add]; rfl
  rw [en] at e6
  have o6 : ∀ c k, ¬ (c = 48 ∧ k = 4) → S6 c k = T c k := fun c k hh => by rw [e6, up_ne _ _ hh, o1 c k hh]
  have hx1 := hPb.1
  refine hO.2 S6 v' (s1 + 1) (hE _ ⟨s1, hPb, Or.inl ⟨by omega, heq, rfl⟩⟩) (by omega) hG (hA.trans (Ag.of (fun f k hf _ _ _ => by unfold cv zz; rw [o6 _ _ (by omega)]))) (by rw [o6 _ _ (by omega)]; exact h3) (by rw [o6 _ _ (by omega)]; exact h4) ?_ (fun c k a1 a2 => by rw [o6 c k (by omega), hF c k a1 a2])
  exact ⟨by rw [e6, up_ne _ _ (by omega)]; exact k1, by rw [e6, up_at], by omega, k3', fun j hj => by rw [e6, up_ne _ _ (by omega)]; exact k5 j hj⟩
theorem s_X5_tellPlace {L : Nat → Int} {n s : Nat} {v : Vw} {S : St} {post : St → Prop} (hG : Gd v) (hA : Ag v (cv S 11)) (hC : Cs L n (s + 1) S) (h3 : S 48 3 = 0) (h2 : S 48 2 = -1) (hO : OutC L n s (ClP L n v s) S post) : wp_X5_tellPlace (iI (s : Int)) S (Aft post) := by
  obtain ⟨b0, b0', b1, b1', b2, b2', b3, b3', b4, b4', _⟩ := id hG.1.1
  have e0 : S 11 0 = iI (v 0 0) := by rw [zz_S S 11 0]; congr 1; exact hA.1 0 (by omega)
  unfold wp_X5_tellPlace
  rw [e0, show (6 : Int32) = iI 6 from rfl, iI_lt (by omega) (by omega) (by omega) (by omega)]
  refine ⟨fun hlt => ?_, fun hge => ?_⟩
  · unfold B_X5_tellPlace_15
    rw [show (0 : Int32) = iI 0 from rfl, show (1 : Int32) = iI 1 from rfl]
    refine s_X5_number (by omega) (by omega) h3 hC (fun T c s' hN hc q3 q2 hy oT => ?_) (fun T V e s' hN hs' q3 q2 q5 hCT oT => ?_)
    · exact ⟨fun q => absurd q (ne03 (by omega) (by omega) q3), fun _ => aft_bad hO (Or.inr ⟨hlt, Or.inl ⟨c, s', hN, rfl⟩⟩) (by omega) (by omega) q3 q2 hy (fun c k a1 _ => oT c k a1)⟩
    · have hV := hN.2.2.2.2.1
      have hes : s + 1 ≤ e := by have := hN.1.1; have := hN.2.1.1; omega
      refine ⟨fun _ => ?_, fun q => absurd q3 q⟩
      have p := plc' hG hlt
      have t3 : T 11 3 = iI (v 0 3) := by rw [oT _ _ (by omega), zz_S S 11 3]; congr 1; exact hA.1 3 (by omega)
      have t0 : T 11 0 = iI (v 0 0) := by rw [oT _ _ (by omega)]; exact e0
      have go : ∀ (T7 T8 : St), T7 = up T 11 3 (iI (v 0 3 + V * 2 ^ (v 0 0).toNat)) → T8 = up T7 11 0 ((T7 11 0) + 1) → Aft post T8 := by
        intro T7 T8 e7 e8
        rw [e7, up_ne _ _ (by omega), t0, show (1 : Int32) = iI 1 from rfl, iI_add] at e8
        have o8 : ∀ c k, ¬ (c = 11 ∧ (k = 0 ∨ k = 3)) → T8 c k = T c k := fun c k hh => by rw [e8, up_ne _ _ (by omega), up_ne _ _ (by omega)]
        have hb := p.2.2.1 V (by omega)
        refine aft_end hO (fun o hE => Or.inr ⟨hlt, Or.inr ⟨V, e, s', hN, hE⟩⟩) (by omega) (Gd_P hG hlt (by omega)) (Ag.of (fun f k hf g0 g1 g2 => ?_)) (by rw [o8 _ _ (by omega)]; exact q3) (by rw [o8 _ _ (by omega), q2]; exact h2) (Cs_fr hCT (fun c k a1 a2 => o8 c k (by omega)) (o8 _ _ (by omega))) (fun c k a1 a2 => by rw [o8 c k (by omega), oT c k a1])
        have en : ∀ f k, ¬ (f = 0 ∧ k = 0) → ¬ (f = 0 ∧ k = 3) → addP v V f k = v f k := fun f k h1 h2 => by unfold addP; rw [vset_ne h1, vset_ne h2]
        rw [en 0 1 (by omega) (by omega)] at g1
        rw [en 0 2 (by omega) (by omega)] at g2
        by_cases q1 : f = 0 ∧ k = 0
        · obtain ⟨rfl, rfl⟩ := q1
          rw [show addP v V 0 0 = v 0 0 + 1 from by unfold addP; rw [vset_at]]
          exact zz_iI (by rw [e8, up_at]) (by omega) (by omega)
        · by_cases q2 : f = 0 ∧ k = 3
          · obtain ⟨rfl, rfl⟩ := q2
            rw [show addP v V 0 3 = v 0 3 + V * 2 ^ (v 0 0).toNat from by unfold addP; rw [vset_ne (by omega), vset_at]]
            exact zz_iI (by rw [e8, up_ne _ _ (by omega), up_at]) (by omega) (by omega)
          · rw [en f k q1 q2, ← hA.at hf g0 g1 g2]
            unfold cv zz
            rw [o8 _ _ (by omega), oT _ _ (by omega)]
      unfold wp_X7_withBit
      rw [iI_eq (by omega) (by omega) (by omega) (by omega), t3, t0]
      refine ⟨fun hne => ⟨fun _ S7 e7 S8 e8 => go S7 S8 (e7.trans ?_) e8, fun q => absurd rfl q⟩, fun heq => ⟨fun q => absurd q (by decide), fun _ S11 e11 S12 e12 => go S11 S12 (e11.trans ?_) e12⟩⟩
      · rw [show V = 0 from by omega]
        rw [← p.1]
      · rw [heq]
        rw [← p.2.1]
  · refine s_X5_blame (fun _ T q3 q2 oT => ?_) (fun q => absurd h3 q)
    unfold B_X5_tellPlace_15
    have n3 : ¬ T 48 3 = 0 := by rw [q3]; decide
    refine s_X5_number_bad n3 ⟨fun q => absurd q n3, fun _ => aft_bad (c := 3) hO (Or.inl ⟨hge, rfl⟩) (by omega) (by omega) q3 q2 ⟨_, Cs_fr hC (fun c k g1 g2 => oT c k (by omega)) (oT _ _ (by omega))⟩ (fun c k a1 _ => oT c k (by omega))⟩
theorem s_X5_tellRoad {L : Nat → Int} {n s : Nat} {v : Vw} {S : St} {post : St → Prop} (hG : Gd v) (hA : Ag v (cv S 11)) (hC : Cs L n (s + 1) S) (h3 : S 48 3 = 0) (h2 : S 48 2 = -1) (hO : OutC L n s (ClQ L n v s) S post) : wp_X5_tellRoad (iI (s : Int)) S (Aft post) := by
  obtain ⟨b0, b0', b1, b1', b2, b2', b3, b3', b4, b4', _⟩ := id hG.1.1
  have e0 : S 11 0 = iI (v 0 0) := by rw [zz_S S 11 0]; congr 1; exact hA.1 0 (by omega)
  have e1 : S 11 1 = iI (v 0 1) := by rw [zz_S S 11 1]; congr 1; exact hA.1 1 (by omega)
  -- once there is a fault
  have done : ∀ (T : St) (c : Int) (a : Nat) (x y : Int32), ClQ L n v s (Sum.inl (c, a)) → 1 ≤ c → c ≤ 4 → T 48 3 = iI c → T 48 2 = iI (a : Int) → (∃ y, Cs L n y T) → cF S T → B_X5_tellRoad_55 (Aft post) x y T := by
    intro T c a x y hR c1 c4 q3 q2 hy hF
    have n3 := ne03 c1 c4 q3
    unfold B_X5_tellRoad_55
    exact s_X5_number_bad n3 ⟨fun q => absurd q n3, fun _ => aft_bad hO hR c1 c4 q3 q2 hy hF⟩
  have done2 : ∀ (T : St) (c : Int) (a : Nat) (x y : Int32), ClQ L n v s (Sum.inl (c, a)) → 1 ≤ c → c ≤ 4 → T 48 3 = iI c → T 48 2 = iI (a : Int) → (∃ y, Cs L n y T) → cF S T → ((¬ x = y → B_X5_tellRoad_55 (Aft post) x y T) ∧ (x = y → wp_X5_blame 4 (T 48 5) T (fun S6 => B_X5_tellRoad_55 (Aft post) x y S6))) := by
    intro T c a x y hR c1 c4 q3 q2 hy hF
    exact ⟨fun _ => done T c a x y hR c1 c4 q3 q2 hy hF, fun _ => s_X5_blame (fun q => absurd q (ne03 c1 c4 q3)) (fun _ => done T c a x y hR c1 c4 q3 q2 hy hF)⟩
  unfold wp_X5_tellRoad
  rw [e1, show (9 : Int32) = iI 9 from rfl, iI_lt (by omega) (by omega) (by omega) (by omega)]
  refine ⟨fun hlt => ?_, fun hge => ?_⟩
  · unfold B_X5_tellRoad_15
    have em : S 11 0 - 1 = iI (v 0 0 - 1) := by rw [e0, show (1 : Int32) = iI 1 from rfl, iI_sub]
    rw [em, show (0 : Int32) = iI 0 from rfl]
    refine s_X5_number (by omega) (by omega) h3 hC (fun T c s' hN hc q3 q2 hy oT => ?_) (fun T a x1 s1 hN1 _ q3 q2 q5 hCT oT => ?_)
    · have hR : ClQ L n v s (Sum.inl (c, s')) := Or.inr ⟨hlt, Or.inl ⟨c, s', hN, rfl⟩⟩
      exact s_X5_number_bad (ne03 (by omega) (by omega) q3) (done2 T c s' _ _ hR (by omega) (by omega) q3 q2 hy (fun c k a1 _ => oT c k a1))
    · have tm : T 11 0 - 1 = iI (v 0 0 - 1) := by rw [oT _ _ (by omega)]; exact em
      rw [tm]
      refine s_X5_number (by omega) (by omega) q3 hCT (fun T2 c s' hN hc w3 w2 hy oT2 => ?_) (fun T2 b x2 s2 hN2 hs2 w3 w2 w5 hCT2 oT2 => ?_)
      · have hR : ClQ L n v s (Sum.inl (c, s')) := Or.inr ⟨hlt, Or.inr ⟨a, x1, s1, hN1, Or.inl ⟨c, s', hN, rfl⟩⟩⟩
        exact done2 T2 c s' _ _ hR (by omega) (by omega) w3 w2 hy (fun c k a1 _ => by rw [oT2 c k a1, oT c k a1])
      · have ha := hN1.2.2.2.2.1
        have hb := hN2.2.2.2.2.1
        rw [iI_eq (by omega) (by omega) (by omega) (by omega)]
        refine ⟨fun hne => ?_, fun heq => ?_⟩
        · unfold B_X5_tellRoad_55
          rw [show (1 : Int32) = iI 1 from rfl, show (20 : Int32) = iI 20 from rfl]
          refine s_X5_number (by omega) (by omega) w3 hCT2 (fun T3 c s' hN hc y3 y2 hy oT3 => ?_) (fun T3 m x3 s3 hN3 _ y3 y2 y5 hCT3 oT3 => ?_)
          · have hR : ClQ L n v s (Sum.inl (c, s')) := Or.inr ⟨hlt, Or.inr ⟨a, x1, s1, hN1, Or.inr ⟨b, x2, s2, hN2, Or.inr ⟨hne, Or.inl ⟨c, s', hN, rfl⟩⟩⟩⟩⟩
            exact ⟨fun q => absurd q (ne03 (by omega) (by omega) y3), fun _ => aft_bad hO hR (by omega) (by omega) y3 y2 hy (fun c k a1 _ => by rw [oT3 c k a1, oT2 c k a1, oT c k a1])⟩
          · have hm := hN3.2.2.2.2.1
            have oT3S : ∀ c k, ¬ (c = 48 ∧ 2 ≤ k) → T3 c k = S c k := fun c k a1 => by rw [oT3 c k a1, oT2 c k a1, oT c k a1]
            have t1 : T3 11 1 = iI (v 0 1) := by rw [oT3S _ _ (by omega)]; exact e1
            have xr : ix (iI (v 0 1)) = (v 0 1).toNat := by rw [iI_ix (by omega) (by omega)]
            have ir : vp_in (iI (v 0 1)) 9 := (iI_in (by omega) (by omega)).mpr ⟨by omega, by omega⟩
            refine ⟨fun _ => ?_, fun q => absurd y3 q⟩
            rw [t1, xr]
            refine ⟨ir, fun S4 e4 => ?_⟩
            have u4 : S4 11 1 = iI (v 0 1) := by rw [e4, up_ne _ _ (by omega)]; exact t1
            rw [u4, xr]
            refine ⟨ir, fun S6 e6 => ?_⟩
            have u6 : S6 11 1 = iI (v 0 1) := by rw [e6, up_ne _ _ (by omega)]; exact u4
            rw [u6, xr]
            refine ⟨ir, fun S8 e8 S10 e10 => ?_⟩
            have u8 : S8 11 1 = iI (v 0 1) := by rw [e8, up_ne _ _ (by omega)]; exact u6
            rw [u8, iI_add] at e10
            have o10 : ∀ c k, ¬ (c = 11 ∧ k = 1) → ¬ ((c = 12 ∨ c = 13 ∨ c = 14) ∧ k = (v 0 1).toNat) → S10 c k = T3 c k := fun c k g1 g2 => by rw [e10, up_ne _ _ g1, e8, up_ne _ _ (by omega), e6, up_ne _ _ (by omega), e4, up_ne _ _ (by omega)]
            have hes : s ≤ x3 := by
              have := hN1.1.1; have := hN1.2.1.1; have := hN2.1.1; have := hN2.2.1.1; have := hN3.1.1; have := hN3.2.1.1
              omega
            refine aft_end hO (fun o hE => Or.inr ⟨hlt, Or.inr ⟨a, x1, s1, hN1, Or.inr ⟨b, x2, s2, hN2, Or.inr ⟨hne, Or.inr ⟨m, x3, s3, hN3, hE⟩⟩⟩⟩⟩) hes (Gd_R hG hlt (by omega) (by omega) hne (by omega)) (Ag.of (fun f k hf g0 g1 g2 => ?_)) (by rw [o10 _ _ (by omega) (by omega)]; exact y3) (by rw [o10 _ _ (by omega) (by omega), y2, w2, q2]; exact h2) ?_ (fun c k a1 a2 => by rw [o10 c k (by omega) (by omega), oT3S c k a1])
            · have en : ∀ f k, ¬ (f = 0 ∧ k = 1) → ¬ ((f = 1 ∨ f = 2 ∨ f = 3) ∧ k = (v 0 1).toNat) → addR v a b m f k = v f k := fun f k h1 h2 => by unfold addR; rw [vset_ne h1, vset_ne (by omega), vset_ne (by omega), vset_ne (by omega)]
              rw [show addR v a b m 0 1 = v 0 1 + 1 from by unfold addR; rw [vset_at]] at g1
              rw [en 0 2 (by omega) (by omega)] at g2
              by_cases k1 : f = 0 ∧ k = 1
              · obtain ⟨rfl, rfl⟩ := k1
                rw [show addR v a b m 0 1 = v 0 1 + 1 from by unfold addR; rw [vset_at]]
                exact zz_iI (by rw [e10, up_at]) (by omega) (by omega)
              · by_cases k2 : (f = 1 ∨ f = 2 ∨ f = 3) ∧ k = (v 0 1).toNat
                · obtain ⟨k2, rfl⟩ := k2
                  rcases k2 with rfl | rfl | rfl
                  · rw [show addR v a b m 1 (v 0 1).toNat = a from by unfold addR; rw [vset_ne (by omega), vset_ne (by omega), vset_ne (by omega), vset_at]]
                    exact zz_iI (by rw [e10, up_ne _ _ (by omega), e8, up_ne _ _ (by omega), e6, up_ne _ _ (by omega), e4, up_at]) (by omega) (by omega)
                  · rw [show addR v a b m 2 (v 0 1).toNat = b from by unfold addR; rw [vset_ne (by omega), vset_ne (by omega), vset_at]]
                    exact zz_iI (by rw [e10, up_ne _ _ (by omega), e8, up_ne _ _ (by omega), e6, up_at]) (by omega) (by omega)
                  · rw [show addR v a b m 3 (v 0 1).toNat = m from by unfold addR; rw [vset_ne (by omega), vset_at]]
                    exact zz_iI (by rw [e10, up_ne _ _ (by omega), e8, up_at]) (by omega) (by omega)
                · rw [en f k k1 k2, ← hA.at hf g0 (fun q => by have := g1 q; omega) g2]
                  unfold cv zz
                  rw [o10 _ _ (by omega) (by omega), oT3S _ _ (by omega)]
            · obtain ⟨j1, j2, j3, j4, j5⟩ := hCT3
              exact ⟨by rw [o10 _ _ (by omega) (by omega)]; exact j1, by rw [o10 _ _ (by omega) (by omega)]; exact j2, j3, j4, fun j hj => by rw [o10 _ _ (by omega) (by omega)]; exact j5 j hj⟩
        · refine s_X5_blame (fun _ T3 y3 y2 oT3 => ?_) (fun q => absurd w3 q)
          have hR : ClQ L n v s (Sum.inl (4, s2)) := Or.inr ⟨hlt, Or.inr ⟨a, x1, s1, hN1, Or.inr ⟨b, x2, s2, hN2, Or.inl ⟨heq, rfl⟩⟩⟩⟩
          exact done T3 4 s2 _ _ hR (by omega) (by omega) y3 (by rw [y2]; exact w5) ⟨x2, Cs_fr hCT2 (fun c k g1 g2 => oT3 c k (by omega)) (oT3 _ _ (by omega))⟩ (fun c k a1 _ => by rw [oT3 c k (by omega), oT2 c k a1, oT c k a1])
  · refine s_X5_blame (fun _ T q3 q2 oT => ?_) (fun q => absurd h3 q)
    unfold B_X5_tellRoad_15
    have n3 : ¬ T 48 3 = 0 := by rw [q3]; decide
    exact s_X5_number_bad n3 (s_X5_number_bad n3 (done2 T 3 s _ _ (Or.inl ⟨hge, rfl⟩) (by omega) (by omega) q3 q2 ⟨_, Cs_fr hC (fun c k g1 g2 => oT c k (by omega)) (oT _ _ (by omega))⟩ (fun c k a1 _ => oT c k (by omega))))
theorem s_X5_tellClock {L : Nat → Int} {n s : Nat} {v : Vw} {S : St} {post : St → Prop} (hG : Gd v) (hA : Ag v (cv S 11)) (hC : Cs L n (s + 1) S) (h3 : S 48 3 = 0) (h2 : S 48 2 = -1) (hO : OutC L n s (ClC L n v s) S post) : wp_X5_tellClock S (Aft post) := by
  obtain ⟨b0, b0', b1, b1', b2, b2', b3, b3', b4, b4', _⟩ := id hG.1.1
  have e0 : S 11 0 = iI (v 0 0) := by rw [zz_S S 11 0]; congr 1; exact hA.1 0 (by omega)
  have e4 : S 11 4 = iI (v 0 4) := by rw [zz_S S 11 4]; congr 1; exact hA.1 4 (by omega)
  have em : S 11 0 - 1 = iI (v 0 0 - 1) := by rw [e0, show (1 : Int32) = iI 1 from rfl, iI_sub]
  unfold wp_X5_tellClock
  rw [em, show (0 : Int32) = iI 0 from rfl]
  refine s_X5_number (by omega) (by omega) h3 hC (fun T c s' hN hc q3 q2 hy oT => ?_) (fun T a x1 s1 hN1 hs1 q3 q2 q5 hCT oT => ?_)
  · exact ⟨fun q => absurd q (ne03 (by omega) (by omega) q3), fun _ => aft_bad hO (Or.inl ⟨c, s', hN, rfl⟩) (by omega) (by omega) q3 q2 hy (fun c k a1 _ => oT c k a1)⟩
  · have ha := hN1.2.2.2.2.1
    have t4 : T 11 4 = iI (v 0 4) := by rw [oT _ _ (by omega)]; exact e4
    have bb := bt_01 (v 0 4) a
    have ob := orb_b (m := v 0 4) (a := a) b4 b4' ha.1 (by omega)
    have eb : (T 11 4 >>> (iI a &&& 31)) &&& 1 = 1 ↔ bt (v 0 4) a = 1 := by
      rw [t4, bit_get b4 b4' ha.1 (by omega), show (1 : Int32) = iI 1 from rfl, iI_eq (by omega) (by omega) (by omega) (by omega)]
    have hes : s ≤ x1 := by have := hN1.1.1; have := hN1.2.1.1; omega
    refine ⟨fun _ => ?_, fun q => absurd q3 q⟩
    rw [eb]
    refine ⟨fun hne S5 e5 => ?_, fun heq => s_X5_blame (fun _ T6 y3 y2 o6 => ?_) (fun q => absurd q3 q)⟩
    · rw [t4, ob.2.2] at e5
      have o5 : ∀ c k, ¬ (c = 11 ∧ k = 4) → S5 c k = T c k := fun c k hh => by rw [e5, up_ne _ _ hh]
      refine aft_end hO (fun o hE => Or.inr ⟨a, x1, s1, hN1, Or.inr ⟨hne, hE⟩⟩) hes (Gd_C hG (by omega)) ?_ (by rw [o5 _ _ (by omega)]; exact q3) (by rw [o5 _ _ (by omega), q2]; exact h2) (Cs_fr hCT (fun c k a1 a2 => o5 c k (by omega)) (o5 _ _ (by omega))) (fun c k a1 a2 => by rw [o5 c k (by omega), oT c k a1])
      exact cv_vset (T := S) hA (by omega) (zz_iI (by rw [e5, up_at]) (by omega) (by omega)) (fun f k hf hh => by rw [o5 _ _ (by omega), oT _ _ (by omega)])
    · intro S7 e7
      have o7 : ∀ c k, ¬ (c = 11 ∧ k = 4) → S7 c k = T6 c k := fun c k hh => by rw [e7, up_ne _ _ hh]
      exact aft_bad (c := 4) (a := s1) hO (Or.inr ⟨a, x1, s1, hN1, Or.inl ⟨heq, rfl⟩⟩) (by omega) (by omega) (by rw [o7 _ _ (by omega)]; exact y3) (by rw [o7 _ _ (by omega), y2]; exact q5) ⟨x1, Cs_fr hCT (fun c k g1 g2 => by rw [o7 c k (by omega), o6 c k (by omega)]) (by rw [o7 _ _ (by omega), o6 _ _ (by omega)])⟩ (fun c k a1 a2 => by rw [o7 c k (by omega), o6 c k (by omega), oT c k a1])
