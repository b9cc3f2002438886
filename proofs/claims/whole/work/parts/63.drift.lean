/-! drift: the class's wander -/
theorem s_X6_wander {S : St} {post : St → Prop} (hL : Lb (cv S 0)) (hM : Mb (cv S 0)) (h2 : 1 ≤ zz S 0 2) (h : ∀ S', Wn (cv S 0) (cv S' 0) → (∀ c k, 10 < c → S' c k = S c k) → post S') : wp_X6_wander 0 S post := by
  obtain ⟨b0, b0', b1, b1', b2, b2', _, _, _, _, b5, b5'⟩ := id hL.1
  simp only [cv, Nat.add_zero] at b0 b0' b1 b1' b2 b2' b5 b5'
  unfold wp_X6_wander
  rw [zz_S S 0 2]
  refine s_X6_draw (o := 0) b5 h2 (by omega) ?_
  intro S1 e1
  have hb := dsd_b (zz S 0 5)
  have hb2 := dsd_b (dsd (zz S 0 5))
  have hb3 := dsd_b (dsd (dsd (zz S 0 5)))
  obtain ⟨q, hq⟩ : ∃ q : Nat, dsd (zz S 0 5) / 65536 % zz S 0 2 = (q : Int) := ⟨(dsd (zz S 0 5) / 65536 % zz S 0 2).toNat, by have := Int.emod_nonneg (dsd (zz S 0 5) / 65536) (show zz S 0 2 ≠ 0 by omega); omega⟩
  have q2 : (q : Int) < zz S 0 2 := by rw [← hq]; exact Int.emod_lt_of_pos _ (by omega)
  have pb := hL.2.2 q q2
  obtain ⟨_, _, _, _, _, _, p7, p7', p8, p8', _⟩ := id pb
  have m := hM q q2
  rw [hq]
  have o1 : ∀ c k, ¬ (c = 0 ∧ k = 5) → S1 c k = S c k := fun c k hh => by rw [e1, up_ne _ _ hh]
  have z1 : ∀ c k, ¬ (c = 0 ∧ k = 5) → zz S1 c k = zz S c k := fun c k hh => by unfold zz; rw [o1 c k hh]
  have s15 : zz S1 0 5 = dsd (zz S 0 5) := zz_iI (by rw [e1, up_at]) (by omega) (by omega)
  have v1 : cv S1 0 = vup (cv S 0) 0 5 (dsd (zz S 0 5)) := by rw [e1]; exact cv_up (by omega) (by omega)
  have xq : ix (iI (q : Int)) = q := by rw [iI_ix (by omega) (by omega)]; simp
  have iq : vp_in (iI (q : Int)) 4 := (iI_in (by omega) (by omega)).mpr ⟨by omega, by omega⟩
  refine s_X6_hasPerson (o := 0) (by omega) (by omega) (fun _ _ => ⟨fun e => absurd e (by decide), fun _ => ⟨iq, ?_⟩⟩) (fun e => absurd ⟨by omega, by rw [z1 _ _ (by omega)]; exact q2⟩ e)
  rw [xq]
  have m10 : S1 (0 + 10) q = iI (cv S 0 10 q) := by rw [o1 _ _ (by omega)]; exact zz_S S 10 q
  have m7 : S1 (0 + 7) q = iI (cv S 0 7 q) := by rw [o1 _ _ (by omega)]; exact zz_S S 7 q
  rw [m10, m7, show (9000 : Int32) = iI 9000 from rfl, iI_le (by omega) (by omega) (by omega) (by omega)]
  have o1' : ∀ c k, 10 < c → S1 c k = S c k := fun c k hc => o1 c k (by omega)
  refine ⟨fun hm => ⟨iq, ?_⟩, fun hm => h S1 ⟨q, hq.symm, Or.inl ⟨hm, v1⟩⟩ o1'⟩
  have hL1 : Lb (cv S1 0) := by rw [v1]; exact Lb_5 hL hb.1 hb.2
  refine s_X6_waysFrom (o := 0) hL1.1 p7 (by show zz S 7 q < 6; have : zz S 7 q < zz S 0 0 := p7'; omega) ?_
  have ew : wys (cv S1 0) (cv S 0 7 q) (cv S1 0 0 1).toNat 0 = wys (cv S 0) (cv S 0 7 q) (cv S 0 0 1).toNat 0 := by
    rw [v1, vup_ne _ _ (by omega)]
    exact wys_up _ _ _ (fun j _ _ => oth_5 _ _ _ _)
  rw [ew]
  obtain ⟨n, hn⟩ : ∃ n : Nat, wys (cv S 0) (cv S 0 7 q) (cv S 0 0 1).toNat 0 = n := ⟨_, rfl⟩
  have n9 : n ≤ 9 := by
    have := wys_le (cv S 0) (cv S 0 7 q) (cv S 0 0 1).toNat 0
    have e : cv S 0 0 1 = zz S 0 1 := rfl
    rw [hn, e] at this
    omega
  rw [hn, show (1 : Int32) = iI 1 from rfl, iI_add]
  refine s_X6_draw (o := 0) (by rw [s15]; omega) (by omega) (by omega) ?_
  intro S2 e2
  rw [s15] at e2 ⊢
  obtain ⟨k, hk⟩ : ∃ k : Nat, dsd (dsd (zz S 0 5)) / 65536 % ((n : Int) + 1) = (k : Int) := ⟨(dsd (dsd (zz S 0 5)) / 65536 % ((n : Int) + 1)).toNat, by have := Int.emod_nonneg (dsd (dsd (zz S 0 5)) / 65536) (show (n : Int) + 1 ≠ 0 by omega); omega⟩
  have k2 : (k : Int) < (n : Int) + 1 := by rw [← hk]; exact Int.emod_lt_of_pos _ (by omega)
  rw [hk, iI_eq (by omega) (by omega) (by omega) (by omega)]
  have o2 : ∀ c k, ¬ (c = 0 ∧ k = 5) → S2 c k = S c k := fun c k hh => by rw [e2, up_ne _ _ hh, o1 c k hh]
  have z2 : ∀ c k, ¬ (c = 0 ∧ k = 5) → zz S2 c k = zz S c k := fun c k hh => by unfold zz; rw [o2 c k hh]
  have s25 : zz S2 0 5 = dsd (dsd (zz S 0 5)) := zz_iI (by rw [e2, up_at]) (by omega) (by omega)
  have v2 : cv S2 0 = vup (cv S 0) 0 5 (dsd (dsd (zz S 0 5))) := by rw [e2, cv_up (by omega) (by omega), v1, vup_vup]
  have hL2 : Lb (cv S2 0) := by rw [v2]; exact Lb_5 hL hb2.1 hb2.2
  have pb2 : Pb (cv S2 0) q := hL2.2.2 q (by show (q : Int) < zz S2 0 2; rw [z2 _ _ (by omega)]; exact q2)
  have z7 : zz S2 (0 + 7) q = cv S 0 7 q := z2 _ _ (by omega)
  have z8 : zz S2 (0 + 8) q = cv S 0 8 q := z2 _ _ (by omega)
  have z10 : zz S2 (0 + 10) q = cv S 0 10 q := z2 _ _ (by omega)
  constructor
  · intro hkn
    refine ⟨iq, ?_⟩
    have m7 : S2 (0 + 7) q = iI (cv S 0 7 q) := by rw [o2 _ _ (by omega)]; exact zz_S S 7 q
    rw [m7]
    refine s_X6_roadOfWay (o := 0) hL2.1 p7 (by show zz S 7 q < 6; have : zz S 7 q < zz S 0 0 := p7'; omega) (by omega) ?_
    have er : rdw (cv S2 0) (cv S 0 7 q) (cv S2 0 0 1).toNat 0 k = rdw (cv S 0) (cv S 0 7 q) (cv S 0 0 1).toNat 0 k := by
      rw [v2, vup_ne _ _ (by omega)]
      exact rdw_up _ _ _ _ (fun j _ _ => oth_5 _ _ _ _)
    rw [er]
    obtain ⟨r, hr, _, hr2, ho⟩ := rdw_ok (cv S 0) (cv S 0 7 q) (cv S 0 0 1).toNat 0 k (by rw [hn]; omega)
    have r1 : (r : Int) < cv S 0 0 1 := by omega
    have r9 : r < 9 := by have e : cv S 0 0 1 = zz S 0 1 := rfl; omega
    rw [hr, iI_neg, iI_eq (by omega) (by omega) (by omega) (by omega)]
    refine ⟨fun e => absurd e (by omega), fun _ => ⟨iq, ?_⟩⟩
    have m8 : S2 (0 + 8) q = iI (cv S 0 8 q) := by rw [o2 _ _ (by omega)]; exact zz_S S 8 q
    rw [m8, iI_add]
    refine s_X6_draw (o := 0) (by rw [s25]; omega) (by omega) (by omega) ?_
    intro S3 e3
    rw [s25] at e3 ⊢
    obtain ⟨s, hs⟩ : ∃ s : Int, s = dsd (dsd (dsd (zz S 0 5))) / 65536 % (cv S 0 8 q + 1) := ⟨_, rfl⟩
    have s0 : 0 ≤ s ∧ s < cv S 0 8 q + 1 := by rw [hs]; exact ⟨Int.emod_nonneg _ (by omega), Int.emod_lt_of_pos _ (by omega)⟩
    rw [← hs]
    have o3 : ∀ c k, ¬ (c = 0 ∧ k = 5) → S3 c k = S c k := fun c k hh => by rw [e3, up_ne _ _ hh, o2 c k hh]
    have z3 : ∀ c k, ¬ (c = 0 ∧ k = 5) → zz S3 c k = zz S c k := fun c k hh => by unfold zz; rw [o3 c k hh]
    have v3 : cv S3 0 = vup (cv S 0) 0 5 (dsd (dsd (dsd (zz S 0 5)))) := by rw [e3, cv_up (by omega) (by omega), v2, vup_vup]
    have hL3 : Lb (cv S3 0) := by rw [v3]; exact Lb_5 hL hb3.1 hb3.2
    have pb3 : Pb (cv S3 0) q := hL3.2.2 q (by show (q : Int) < zz S3 0 2; rw [z3 _ _ (by omega)]; exact q2)
    have rb3 : Rb (cv S3 0) r := hL3.2.1 r (by show (r : Int) < zz S3 0 1; rw [z3 _ _ (by omega)]; exact r1)
    have z7 : zz S3 (0 + 7) q = cv S 0 7 q := z3 _ _ (by omega)
    have z8 : zz S3 (0 + 8) q = cv S 0 8 q := z3 _ _ (by omega)
    have z10 : zz S3 (0 + 10) q = cv S 0 10 q := z3 _ _ (by omega)
    have tb := tme_b (v := cv S 0) (p := q) (r := r) (cv S 0 7 q) (cv S 0 10 q) (s := s) pb (hL.2.1 r r1) s0.1
    have ob := oth_b (cv S 0 7 q) (hL.2.1 r r1) hL.1
    have g00 : cv S 0 0 0 = zz S 0 0 := rfl
    refine s_X6_move (o := 0) hL3.1 pb3 rb3 (by omega) r9 s0.1 (by omega) (by rw [z10]; omega) (by rw [z10]; omega) ?_
    intro S4 e4
    rw [z7, z8, z10, v3, tme_5, oth_5] at e4
    have v4 : cv S4 0 = vup (vup (vup (vup (cv S 0) 0 5 (dsd (dsd (dsd (zz S 0 5))))) 10 q (cv S 0 10 q + tme (cv S 0) q r (cv S 0 7 q) (cv S 0 10 q) s)) 8 q (cv S 0 8 q - s)) 7 q (oth (cv S 0) r (cv S 0 7 q)) := by
      rw [e4]
      refine (cv_up (f := 7) (by omega) (by omega)).trans ?_
      congr 1
      refine (cv_up (f := 8) (by omega) (by omega)).trans ?_
      congr 1
      refine (cv_up (f := 10) (by omega) (by omega)).trans ?_
      rw [v3]
    refine h S4 ⟨q, hq.symm, Or.inr ⟨hm, k, by rw [hn]; exact hk.symm, Or.inr ⟨by rw [hn]; omega, r, hr, r1, ho, s, hs, v4⟩⟩⟩ (fun c k hc => ?_)
    rw [e4, up_ne _ _ (by omega), up_ne _ _ (by omega), up_ne _ _ (by omega), o3 c k (by omega)]
  · intro hkn
    refine s_X6_rest (o := 0) (n := 1) hL2.1 pb2 (by omega) (by omega) (by omega) ?_
    intro S4 e4
    rw [z7, z8, z10, v2, cal_5] at e4
    have cb := cal_b (v := cv S 0) (a := cv S 0 7 q) (c := cv S 0 8 q) (n := 1) (by omega) p8 p8'
    have v4 : cv S4 0 = vup (vup (vup (cv S 0) 0 5 (dsd (dsd (zz S 0 5)))) 10 q (cv S 0 10 q + 1)) 8 q (cal (cv S 0) (cv S 0 7 q) (cv S 0 8 q) 1) := by
      rw [e4]
      refine (cv_up (f := 8) (by omega) (by omega)).trans ?_
      congr 1
      refine (cv_up (f := 10) (by omega) (by omega)).trans ?_
      rw [v2]
    refine h S4 ⟨q, hq.symm, Or.inr ⟨hm, k, by rw [hn]; exact hk.symm, Or.inl ⟨by rw [hn]; omega, v4⟩⟩⟩ (fun c k hc => ?_)
    rw [e4, up_ne _ _ (by omega), up_ne _ _ (by omega), o2 c k (by omega)]
