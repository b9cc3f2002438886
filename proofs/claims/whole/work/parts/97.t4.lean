/-! the text: the class's telling, whole -/
theorem s_X5_tellPerson {L : Nat → Int} {n s : Nat} {v : Vw} {S : St} {post : St → Prop} (hG : Gd v) (hA : Ag v (cv S 11)) (hC : Cs L n (s + 1) S) (h3 : S 48 3 = 0) (h2 : S 48 2 = -1) (hO : OutC L n s (ClM L n v s) S post) : wp_X5_tellPerson (iI (s : Int)) S (Aft post) := by
  obtain ⟨b0, b0', b1, b1', b2, b2', b3, b3', b4, b4', _⟩ := id hG.1.1
  have e0 : S 11 0 = iI (v 0 0) := by rw [zz_S S 11 0]; congr 1; exact hA.1 0 (by omega)
  have e2 : S 11 2 = iI (v 0 2) := by rw [zz_S S 11 2]; congr 1; exact hA.1 2 (by omega)
  have em : S 11 0 - 1 = iI (v 0 0 - 1) := by rw [e0, show (1 : Int32) = iI 1 from rfl, iI_sub]
  unfold wp_X5_tellPerson
  rw [e2, show (4 : Int32) = iI 4 from rfl, iI_lt (by omega) (by omega) (by omega) (by omega)]
  refine ⟨fun hlt => ?_, fun hge => ?_⟩
  · unfold B_X5_tellPerson_14
    rw [em, show (0 : Int32) = iI 0 from rfl]
    refine s_X5_number (by omega) (by omega) h3 hC (fun T c s' hN hc q3 q2 hy oT => ?_) (fun T1 a x1 s1 hN1 _ q3 q2 _ hC1 o1 => ?_)
    · have n3 := ne03 (c := c) (by omega) (by omega) q3
      exact s_X5_number_bad n3 (s_X5_number_bad n3 (s_X5_number_bad n3 (s_X5_number_bad n3 ⟨fun q => absurd q n3, fun _ => aft_bad hO (Or.inr ⟨hlt, Or.inl ⟨c, s', hN, rfl⟩⟩) (by omega) (by omega) q3 q2 hy (fun c k a1 _ => oT c k a1)⟩)))
    · have tm : T1 11 0 - 1 = iI (v 0 0 - 1) := by rw [o1 _ _ (by omega)]; exact em
      rw [tm]
      refine s_X5_number (by omega) (by omega) q3 hC1 (fun T c s' hN hc w3 w2 hy oT => ?_) (fun T2 b x2 s2 hN2 _ w3 w2 _ hC2 o2 => ?_)
      · have n3 := ne03 (c := c) (by omega) (by omega) w3
        exact s_X5_number_bad n3 (s_X5_number_bad n3 (s_X5_number_bad n3 ⟨fun q => absurd q n3, fun _ => aft_bad hO (Or.inr ⟨hlt, Or.inr ⟨a, x1, s1, hN1, Or.inl ⟨c, s', hN, rfl⟩⟩⟩) (by omega) (by omega) w3 w2 hy (fun c k a1 _ => by rw [oT c k a1, o1 c k a1])⟩))
      · rw [show (9 : Int32) = iI 9 from rfl]
        refine s_X5_number (by omega) (by omega) w3 hC2 (fun T c s' hN hc y3 y2 hy oT => ?_) (fun T3 c x3 s3 hN3 _ y3 y2 _ hC3 o3 => ?_)
        · have n3 := ne03 (c := c) (by omega) (by omega) y3
          exact s_X5_number_bad n3 (s_X5_number_bad n3 ⟨fun q => absurd q n3, fun _ => aft_bad hO (Or.inr ⟨hlt, Or.inr ⟨a, x1, s1, hN1, Or.inr ⟨b, x2, s2, hN2, Or.inl ⟨c, s', hN, rfl⟩⟩⟩⟩) (by omega) (by omega) y3 y2 hy (fun c k a1 _ => by rw [oT c k a1, o2 c k a1, o1 c k a1])⟩)
        · rw [show (5 : Int32) = iI 5 from rfl]
          refine s_X5_number (by omega) (by omega) y3 hC3 (fun T c' s' hN hc z3 z2 hy oT => ?_) (fun T4 d x4 s4 hN4 _ z3 z2 _ hC4 o4 => ?_)
          · have n3 := ne03 (c := c') (by omega) (by omega) z3
            exact s_X5_number_bad n3 ⟨fun q => absurd q n3, fun _ => aft_bad hO (Or.inr ⟨hlt, Or.inr ⟨a, x1, s1, hN1, Or.inr ⟨b, x2, s2, hN2, Or.inr ⟨c, x3, s3, hN3, Or.inl ⟨c', s', hN, rfl⟩⟩⟩⟩⟩) (by omega) (by omega) z3 z2 hy (fun c k a1 _ => by rw [oT c k a1, o3 c k a1, o2 c k a1, o1 c k a1])⟩
          · rw [show (999 : Int32) = iI 999 from rfl]
            refine s_X5_number (by omega) (by omega) z3 hC4 (fun T c' s' hN hc r3 r2 hy oT => ?_) (fun T5 e x5 s5 hN5 _ r3 r2 _ hC5 o5 => ?_)
            · have n3 := ne03 (c := c') (by omega) (by omega) r3
              exact ⟨fun q => absurd q n3, fun _ => aft_bad hO (Or.inr ⟨hlt, Or.inr ⟨a, x1, s1, hN1, Or.inr ⟨b, x2, s2, hN2, Or.inr ⟨c, x3, s3, hN3, Or.inr ⟨d, x4, s4, hN4, Or.inl ⟨c', s', hN, rfl⟩⟩⟩⟩⟩⟩) (by omega) (by omega) r3 r2 hy (fun c k a1 _ => by rw [oT c k a1, o4 c k a1, o3 c k a1, o2 c k a1, o1 c k a1])⟩
            · have ha := hN1.2.2.2.2.1
              have hb := hN2.2.2.2.2.1
              have hc := hN3.2.2.2.2.1
              have hd := hN4.2.2.2.2.1
              have he := hN5.2.2.2.2.1
              have o5S : ∀ c k, ¬ (c = 48 ∧ 2 ≤ k) → T5 c k = S c k := fun c k a1 => by rw [o5 c k a1, o4 c k a1, o3 c k a1, o2 c k a1, o1 c k a1]
              have t2 : T5 11 2 = iI (v 0 2) := by rw [o5S _ _ (by omega)]; exact e2
              have xr : ix (iI (v 0 2)) = (v 0 2).toNat := by rw [iI_ix (by omega) (by omega)]
              have ir : vp_in (iI (v 0 2)) 4 := (iI_in (by omega) (by omega)).mpr ⟨by omega, by omega⟩
              refine ⟨fun _ v12 e12 => ?_, fun q => absurd r3 q⟩
              rw [t2] at e12
              rw [e12, xr]
              refine ⟨ir, fun S13 e13 => ⟨ir, fun S15 e15 => ⟨ir, fun S17 e17 => ⟨ir, fun S19 e19 => ⟨ir, fun S21 e21 => ⟨ir, fun S23 e23 => ⟨ir, fun S25 e25 S27 e27 => ?_⟩⟩⟩⟩⟩⟩⟩
              have u25 : S25 11 2 = iI (v 0 2) := by rw [e25, up_ne _ _ (by omega), e23, up_ne _ _ (by omega), e21, up_ne _ _ (by omega), e19, up_ne _ _ (by omega), e17, up_ne _ _ (by omega), e15, up_ne _ _ (by omega), e13, up_ne _ _ (by omega)]; exact t2
              rw [u25, show (1 : Int32) = iI 1 from rfl, iI_add] at e27
              have oo : ∀ c k, ¬ (c = 11 ∧ k = 2) → ¬ (15 ≤ c ∧ c ≤ 21 ∧ k = (v 0 2).toNat) → S27 c k = T5 c k := fun c k g1 g2 => by rw [e27, up_ne _ _ g1, e25, up_ne _ _ (by omega), e23, up_ne _ _ (by omega), e21, up_ne _ _ (by omega), e19, up_ne _ _ (by omega), e17, up_ne _ _ (by omega), e15, up_ne _ _ (by omega), e13, up_ne _ _ (by omega)]
              have hes : s ≤ x5 := by
                have := hN1.1.1; have := hN1.2.1.1; have := hN2.1.1; have := hN2.2.1.1; have := hN3.1.1; have := hN3.2.1.1; have := hN4.1.1; have := hN4.2.1.1; have := hN5.1.1; have := hN5.2.1.1
                omega
              refine aft_end hO (fun o hE => Or.inr ⟨hlt, Or.inr ⟨a, x1, s1, hN1, Or.inr ⟨b, x2, s2, hN2, Or.inr ⟨c, x3, s3, hN3, Or.inr ⟨d, x4, s4, hN4, Or.inr ⟨e, x5, s5, hN5, hE⟩⟩⟩⟩⟩⟩) hes (Gd_M hG hlt (by omega) (by omega) hc hd he) (Ag.of (fun f k hf g0 g1 g2 => ?_)) (by rw [oo _ _ (by omega) (by omega)]; exact r3) (by rw [oo _ _ (by omega) (by omega), r2, z2, y2, w2, q2]; exact h2) ?_ (fun c k a1 a2 => by rw [oo c k (by omega) (by omega), o5S c k a1])
              · rw [addM_ne (f := 0) (k := 1) (by omega) (by omega)] at g1
                rw [addM_02] at g2
                by_cases k1 : f = 0 ∧ k = 2
                · obtain ⟨rfl, rfl⟩ := k1
                  rw [addM_02]
                  exact zz_iI (by rw [e27, up_at]) (by omega) (by omega)
                · by_cases k2 : 4 ≤ f ∧ k = (v 0 2).toNat
                  · obtain ⟨k2, rfl⟩ := k2
                    rw [addM_at k2]
                    rcases (show f = 4 ∨ f = 5 ∨ f = 6 ∨ f = 7 ∨ f = 8 ∨ f = 9 ∨ f = 10 by omega) with rfl | rfl | rfl | rfl | rfl | rfl | rfl
                    · exact zz_iI (by rw [e27, up_ne _ _ (by omega), e25, up_ne _ _ (by omega), e23, up_ne _ _ (by omega), e21, up_ne _ _ (by omega), e19, up_ne _ _ (by omega), e17, up_ne _ _ (by omega), e15, up_at]; rfl) (by simp; omega) (by simp; omega)
                    · exact zz_iI (by rw [e27, up_ne _ _ (by omega), e25, up_ne _ _ (by omega), e23, up_ne _ _ (by omega), e21, up_ne _ _ (by omega), e19, up_ne _ _ (by omega), e17, up_at]; rfl) (by simp; omega) (by simp; omega)
                    · exact zz_iI (by rw [e27, up_ne _ _ (by omega), e25, up_ne _ _ (by omega), e23, up_ne _ _ (by omega), e21, up_at]; rfl) (by simp; omega) (by simp; omega)
                    · exact zz_iI (by rw [e27, up_ne _ _ (by omega), e25, up_ne _ _ (by omega), e23, up_ne _ _ (by omega), e21, up_ne _ _ (by omega), e19, up_ne _ _ (by omega), e17, up_ne _ _ (by omega), e15, up_ne _ _ (by omega), e13, up_at]; rfl) (by simp; omega) (by simp; omega)
                    · exact zz_iI (by rw [e27, up_ne _ _ (by omega), e25, up_ne _ _ (by omega), e23, up_ne _ _ (by omega), e21, up_ne _ _ (by omega), e19, up_at]; rfl) (by simp; omega) (by simp; omega)
                    · exact zz_iI (by rw [e27, up_ne _ _ (by omega), e25, up_ne _ _ (by omega), e23, up_at]; rfl) (by simp) (by simp)
                    · exact zz_iI (by rw [e27, up_ne _ _ (by omega), e25, up_at]; rfl) (by simp) (by simp)
                  · rw [addM_ne k1 k2, ← hA.at hf g0 g1 (fun q => by have := g2 q; omega)]
                    unfold cv zz
                    rw [oo _ _ (by omega) (by omega), o5S _ _ (by omega)]
              · obtain ⟨j1, j2, j3, j4, j5⟩ := hC5
                exact ⟨by rw [oo _ _ (by omega) (by omega)]; exact j1, by rw [oo _ _ (by omega) (by omega)]; exact j2, j3, j4, fun j hj => by rw [oo _ _ (by omega) (by omega)]; exact j5 j hj⟩
  · refine s_X5_blame (fun _ T q3 q2 oT => ?_) (fun q => absurd h3 q)
    unfold B_X5_tellPerson_14
    have n3 : ¬ T 48 3 = 0 := by rw [q3]; decide
    exact s_X5_number_bad n3 (s_X5_number_bad n3 (s_X5_number_bad n3 (s_X5_number_bad n3 (s_X5_number_bad n3 ⟨fun q => absurd q n3, fun _ => aft_bad (c := 3) hO (Or.inl ⟨hge, rfl⟩) (by omega) (by omega) q3 q2 ⟨_, Cs_fr hC (fun c k g1 g2 => oT c k (by omega)) (oT _ _ (by omega))⟩ (fun c k a1 _ => oT c k (by omega))⟩))))
theorem s_X5_tellClause {L : Nat → Int} {n s : Nat} {v : Vw} {S : St} {post : St → Prop} (hG : Gd v) (hA : Ag v (cv S 11)) (hC : Cs L n s S) (hs : s < n) (h3 : S 48 3 = 0) (h2 : S 48 2 = -1) (hO : OutC L n s (ClR L n v s) S post) : wp_X5_tellClause S post := by
  obtain ⟨k1, k2, k3, k3', k5⟩ := id hC
  obtain ⟨w1, w2, w3⟩ := k5 s hs
  have xs : ix (iI (s : Int)) = s := by rw [iI_ix (by omega) (by omega)]; simp
  have is : vp_in (iI (s : Int)) 250 := (iI_in (by omega) (by omega)).mpr ⟨by omega, by omega⟩
  have en : iI (s : Int) + 1 = iI ((s + 1 : Nat) : Int) := by rw [show (1 : Int32) = iI 1 from rfl, iI_add]; rfl
  unfold wp_X5_tellClause
  rw [k2, xs, w1, en]
  refine ⟨is, fun v1 e1 v2 e2 S3 e3 => ?_⟩
  have o3 : ∀ c k, ¬ (c = 48 ∧ k = 4) → S3 c k = S c k := fun c k hh => by rw [e3, up_ne _ _ hh]
  have c3 : Cs L n (s + 1) S3 := ⟨by rw [o3 _ _ (by omega)]; exact k1, by rw [e3, up_at], by omega, k3', fun j hj => by rw [o3 _ _ (by omega)]; exact k5 j hj⟩
  have a3 : Ag v (cv S3 11) := hA.trans (Ag.of (fun f k hf _ _ _ => by unfold cv zz; rw [o3 _ _ (by omega)]))
  have f3 : S3 48 3 = 0 := by rw [o3 _ _ (by omega)]; exact h3
  have f2 : S3 48 2 = -1 := by rw [o3 _ _ (by omega)]; exact h2
  have lift : ∀ R : Out → Prop, (∀ o, R o → ClR L n v s o) → OutC L n s R S3 post := fun R hR => ⟨fun T c a q c1 c4 q3 q2 hy hF => hO.1 T c a (hR _ q) c1 c4 q3 q2 hy (fun c k a1 a2 => by rw [hF c k a1 a2, o3 c k (by omega)]), fun T v' x' q y1 y2 y3 y4 y5 y6 hF => hO.2 T v' x' (hR _ q) y1 y2 y3 y4 y5 y6 (fun c k a1 a2 => by rw [hF c k a1 a2, o3 c k (by omega)])⟩
  rw [e1, e2, show (99 : Int32) = iI 99 from rfl, show (109 : Int32) = iI 109 from rfl, show (112 : Int32) = iI 112 from rfl, show (114 : Int32) = iI 114 from rfl, iI_eq (by omega) (by omega) (by omega) (by omega), iI_eq (by omega) (by omega) (by omega) (by omega), iI_eq (by omega) (by omega) (by omega) (by omega), iI_eq (by omega) (by omega) (by omega) (by omega)]
  refine ⟨fun q => s_X5_tellClock hG a3 c3 f3 f2 (lift _ (fun o hR => Or.inr (Or.inr (Or.inr (Or.inl ⟨q, hR⟩))))), fun q99 => ⟨fun q => s_X5_tellPerson hG a3 c3 f3 f2 (lift _ (fun o hR => Or.inr (Or.inr (Or.inl ⟨q, hR⟩)))), fun q109 => ⟨fun q => s_X5_tellPlace hG a3 c3 f3 f2 (lift _ (fun o hR => Or.inl ⟨q, hR⟩)), fun q112 => ⟨fun q => s_X5_tellRoad hG a3 c3 f3 f2 (lift _ (fun o hR => Or.inr (Or.inl ⟨q, hR⟩))), fun q114 => ?_⟩⟩⟩⟩
  refine s_X5_blame (fun _ T q3 q2 oT => ?_) (fun q => absurd f3 q)
  have n3 : ¬ T 48 3 = 0 := by rw [q3]; decide
  exact ⟨fun _ => hO.1 T 1 s (Or.inr (Or.inr (Or.inr (Or.inr ⟨q112, q114, q109, q99, rfl⟩)))) (by omega) (by omega) q3 q2 ⟨s + 1, Cs_fr c3 (fun c k g1 g2 => oT c k (by omega)) (oT _ _ (by omega))⟩ (fun c k a1 a2 => by rw [oT c k (by omega), o3 c k (by omega)]), fun q => absurd q n3⟩
/-- what the class's telling ends in -/
def FinC (o : Out) (S0 T : St) : Prop := (∀ c k, ¬ (c = 48 ∧ 1 ≤ k) → ¬ (11 ≤ c ∧ c ≤ 21) → T c k = S0 c k) ∧ T 48 1 = 0 ∧ match o with
  | Sum.inl (c, a) => 1 ≤ c ∧ c ≤ 4 ∧ T 48 3 = iI c ∧ T 48 2 = iI (a : Int)
  | Sum.inr (v, _) => Gd v ∧ Ag v (cv T 11) ∧ T 48 3 = 0 ∧ T 48 2 = -1
theorem s_X5_tell {L : Nat → Int} {n : Nat} {v : Vw} {S : St} {post : Int32 → St → Prop} (hG : Gd v) (hA : Ag v (cv S 11)) (h1 : S 48 1 = iI (n : Int)) (hn : n ≤ 250) (h49 : ∀ j, j < n → S 49 j = iI (L j) ∧ 0 ≤ L j ∧ L j ≤ 255) (h : ∀ T o s, PbS L n 0 s → RunR L n 251 v s o → FinC o S T → post (T 48 3) T) : wp_X5_tell S post := by
  unfold wp_X5_tell
  intro S1 e1 S2 e2 S3 e3
  have o3 : ∀ c k, ¬ (c = 48 ∧ 2 ≤ k) → S3 c k = S c k := fun c k hh => by rw [e3, up_ne _ _ (by omega), e2, up_ne _ _ (by omega), e1, up_ne _ _ (by omega)]
  have f3 : S3 48 3 = 0 := by rw [e3, up_ne _ _ (by omega), e2, up_ne _ _ (by omega), e1, up_at]
  have f2 : S3 48 2 = -1 := by rw [e3, up_ne _ _ (by omega), e2, up_at]
  have c3 : Cs L n 0 S3 := ⟨by rw [o3 _ _ (by omega)]; exact h1, by rw [e3, up_at]; rfl, by omega, hn, fun j hj => by rw [o3 _ _ (by omega)]; exact h49 j hj⟩
  have a3 : Ag v (cv S3 11) := hA.trans (Ag.of (fun f k hf _ _ _ => by unfold cv zz; rw [o3 _ _ (by omega)]))
  have last : ∀ (T : St) (o : Out), cF S T → (match o with
    | Sum.inl (c, a) => 1 ≤ c ∧ c ≤ 4 ∧ T 48 3 = iI c ∧ T 48 2 = iI (a : Int)
    | Sum.inr (v, _) => Gd v ∧ Ag v (cv T 11) ∧ T 48 3 = 0 ∧ T 48 2 = -1) → (∀ T', FinC o S T' → post (T' 48 3) T') → B_X5_tell_61 post T := by
    intro T o hF hm hp
    unfold B_X5_tell_61
    intro T1 e1
    have o1 : ∀ c k, ¬ (c = 48 ∧ k = 1) → T1 c k = T c k := fun c k hh => by rw [e1, up_ne _ _ hh]
    refine hp T1 ⟨fun c k a1 a2 => by rw [o1 c k (by omega), hF c k (by omega) a2], by rw [e1, up_at], ?_⟩
    match o, hm with
    | Sum.inl (c, a), hm => exact ⟨hm.1, hm.2.1, by rw [o1 _ _ (by omega)]; exact hm.2.2.1, by rw [o1 _ _ (by omega)]; exact hm.2.2.2⟩
    | Sum.inr (v, x), hm => exact ⟨hm.1, hm.2.1.trans (Ag.of (fun f k hf _ _ _ => by unfold cv zz; rw [o1 _ _ (by omega)])), by rw [o1 _ _ (by omega)]; exact hm.2.2.1, by rw [o1 _ _ (by omega)]; exact hm.2.2.2⟩
  have loop : ∀ (d i : Nat) (T : St) (v : Vw) (s : Nat), i + d = 250 → i ≤ s → Gd v → Ag v (cv T 11) → Cs L n s T → T 48 3 = 0 → T 48 2 = -1 → cF S T → (∀ T' o, RunR L n (d + 1) v s o → FinC o S T' → post (T' 48 3) T') → L_X5_tell_21 post (d + 1) (iI i) T := by
    intro d
    induction d with
    | zero =>
      intro i T v s hi his hG hA hC q3 q2 hF hp
      show BD_X5_tell_21 (L_X5_tell_21 post 0) post _ _
      unfold BD_X5_tell_21
      have sn : s = n := by have := hC.2.2.1; omega
      rw [show (250 : Int32) = iI 250 from rfl, iI_le (by omega) (by omega) (by omega) (by omega)]
      refine ⟨fun _ => last T (Sum.inr (v, n)) hF ⟨hG, hA, q3, q2⟩ (fun T' hT' => hp T' _ (Or.inl ⟨sn, rfl⟩) hT'), fun e => absurd (by omega) e⟩
    | succ d ih =>
      intro i T v s hi his hG hA hC q3 q2 hF hp
      show BD_X5_tell_21 (L_X5_tell_21 post (d + 1)) post _ _
      unfold BD_X5_tell_21
      have en : iI (i : Int) + 1 = iI ((i + 1 : Nat) : Int) := by rw [show (1 : Int32) = iI 1 from rfl, iI_add]; rfl
      have sn := hC.2.2.1
      rw [show (250 : Int32) = iI 250 from rfl, iI_le (by omega) (by omega) (by omega) (by omega), hC.1, hC.2.1, iI_le (by omega) (by omega) (by omega) (by omega), en]
      refine ⟨fun e => absurd e (by omega), fun _ => ⟨fun q => absurd q3 q, fun _ => ⟨fun hle => last T (Sum.inr (v, n)) hF ⟨hG, hA, q3, q2⟩ (fun T' hT' => hp T' _ (Or.inl ⟨by omega, rfl⟩) hT'), fun hle => ?_⟩⟩⟩
      have hsn : s < n := by omega
      refine s_X5_tellClause hG hA hC hsn q3 q2 ⟨fun T2 c a hR c1 c4 w3 w2 hy hF2 => ?_, fun T2 v' x' hR hx hG' hA' w3 w2 hC' hF2 => ?_⟩
      · obtain ⟨y, hCy⟩ := hy
        refine s_X5_passBlanks hCy ?_
        intro T3 s' hPb hC3 o3'
        have u3 : T3 48 3 = iI c := by rw [o3' _ _ (by omega)]; exact w3
        have u2 : T3 48 2 = iI (a : Int) := by rw [o3' _ _ (by omega)]; exact w2
        have n3 := ne03 c1 c4 u3
        have hst : B_X5_tell_61 post T3 := last T3 (Sum.inl (c, a)) (fun c k a1 a2 => by rw [o3' c k (by omega), hF2 c k a1 a2, hF c k a1 a2]) ⟨c1, c4, u3, u2⟩ (fun T' hT' => hp T' _ (Or.inr ⟨hsn, Or.inl ⟨c, a, hR, rfl⟩⟩) hT')
        show BD_X5_tell_21 (L_X5_tell_21 post d) post _ _
        unfold BD_X5_tell_21
        exact ⟨fun _ => hst, fun _ => ⟨fun _ => hst, fun q => absurd q n3⟩⟩
      · refine s_X5_passBlanks hC' ?_
        intro T3 s' hPb hC3 o3'
        have hx2 := hPb.1
        refine ih (i + 1) T3 v' s' (by omega) (by omega) hG' (hA'.trans (Ag.of (fun f k hf _ _ _ => by unfold cv zz; rw [o3' _ _ (by omega)]))) hC3 (by rw [o3' _ _ (by omega)]; exact w3) (by rw [o3' _ _ (by omega)]; exact w2) (fun c k a1 a2 => by rw [o3' c k (by omega), hF2 c k a1 a2, hF c k a1 a2]) ?_
        intro T' o hR' hT'
        exact hp T' o (Or.inr ⟨hsn, Or.inr ⟨v', x', s', hR, hPb, hR'⟩⟩) hT'
  refine s_X5_passBlanks c3 ?_
  intro T4 s hPb hC4 o4
  refine ⟨250 + 1, ?_⟩
  rw [show (0 : Int32) = iI ((0 : Nat) : Int) from rfl]
  refine loop 250 0 T4 v s (by omega) (by omega) hG (a3.trans (Ag.of (fun f k hf _ _ _ => by unfold cv zz; rw [o4 _ _ (by omega)]))) hC4 (by rw [o4 _ _ (by omega)]; exact f3) (by rw [o4 _ _ (by omega)]; exact f2) (fun c k a1 a2 => by rw [o4 c k (by omega), o3 c k a1]) ?_
  intro T' o hR hT'
  exact h T' o s hPb hR hT'
