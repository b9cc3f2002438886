/-! drift: the reference's wander -/
def W8 (k : St → Prop) (S : St) : Prop := wp_X8_draw (S 71 12) S (fun r3 S2 => vp_in (((4 : Int32) * r3) + 3) 28 ∧ (((9000 < (S2 75 (ix (((4 : Int32) * r3) + 3))) → k S2) ∧ (¬ 9000 < (S2 75 (ix (((4 : Int32) * r3) + 3))) → vp_in ((4 : Int32) * r3) 28 ∧ (wp_X8_roadsFrom (S2 75 (ix ((4 : Int32) * r3))) S2 (fun r6 S5 => wp_X8_draw (r6 + 1) S5 (fun r8 S7 => ((¬ r8 = r6 → vp_in (((4 : Int32) * r3) + 1) 28 ∧ (wp_X8_draw ((S7 75 (ix (((4 : Int32) * r3) + 1))) + 1) S7 (fun r11 S10 => vp_in ((4 : Int32) * r3) 28 ∧ (wp_X8_roadFrom (S10 75 (ix ((4 : Int32) * r3))) r8 S10 (fun r13 S12 => wp_X8_goes 75 r3 r13 r11 S12 (fun S14 => k S14)))))) ∧ (r8 = r6 → wp_X8_waits 75 r3 S7 (fun S15 => k S15))))))))))
theorem W8_BD (k30 : Int32 → Int32 → St → Prop) (post : Int32 → St → Prop) (x1 x2 : Int32) (S : St) : BD_X8_drift_30 k30 post x1 x2 S = ((x1 ≤ x2 → B_X8_drift_151 post S) ∧ (¬ x1 ≤ x2 → W8 (fun S' => k30 x1 (x2 + 1) S') S)) := rfl
theorem s_W8 {v w : Vw} {S : St} {post : St → Prop} (hL : Lb v) (hM : Mb v) (h2 : 1 ≤ v 0 2) (hA : Ag v (mz S 75)) (hW : Wn v w) (h : ∀ S', Ag w (mz S' 75) → (∀ c j, c ≠ 75 → S' c j = S c j) → post S') : W8 post S := by
  obtain ⟨b0, b0', b1, b1', b2, b2', _, _, _, _, b5, b5'⟩ := id hL.1
  obtain ⟨q, hq, hc⟩ := hW
  have a5 : zz S 75 27 = v 0 5 := hA.1 5 (by omega)
  have a2 : zz S 71 12 = v 0 2 := hA.1 2 (by omega)
  have hb := dsd_b (v 0 5)
  have hb2 := dsd_b (dsd (v 0 5))
  have hb3 := dsd_b (dsd (dsd (v 0 5)))
  have q2 : (q : Int) < v 0 2 := by rw [hq]; exact Int.emod_lt_of_pos _ (by omega)
  have q4 : q < 4 := by omega
  have pb := hL.2.2 q q2
  obtain ⟨_, _, _, _, _, _, p7, p7', p8, p8', _⟩ := id pb
  have m := hM q q2
  have c7 : zz S 75 (4 * q) = v 7 q := (hA.2.2 q q2).2.2.2.1
  have c8 : zz S 75 (4 * q + 1) = v 8 q := (hA.2.2 q q2).2.2.2.2.1
  have c10 : zz S 75 (4 * q + 3) = v 10 q := (hA.2.2 q q2).2.2.2.2.2.2
  have x0 : ix ((4 : Int32) * iI q) = 4 * q := by
    simp (disch := omega) only [iI_add, iI_sub, iI_mul, iI_le, iI_lt, iI_eq, iI_ix, iI_in, iI_neg, iI_lit]; omega
  have x1 : ix ((4 : Int32) * iI q + 1) = 4 * q + 1 := by
    simp (disch := omega) only [iI_add, iI_sub, iI_mul, iI_le, iI_lt, iI_eq, iI_ix, iI_in, iI_neg, iI_lit]; omega
  have x3 : ix ((4 : Int32) * iI q + 3) = 4 * q + 3 := by
    simp (disch := omega) only [iI_add, iI_sub, iI_mul, iI_le, iI_lt, iI_eq, iI_ix, iI_in, iI_neg, iI_lit]; omega
  have i0 : vp_in ((4 : Int32) * iI q) 28 := by
    simp (disch := omega) only [iI_add, iI_sub, iI_mul, iI_le, iI_lt, iI_eq, iI_ix, iI_in, iI_neg, iI_lit]; omega
  have i1 : vp_in ((4 : Int32) * iI q + 1) 28 := by
    simp (disch := omega) only [iI_add, iI_sub, iI_mul, iI_le, iI_lt, iI_eq, iI_ix, iI_in, iI_neg, iI_lit]; omega
  have i3 : vp_in ((4 : Int32) * iI q + 3) 28 := by
    simp (disch := omega) only [iI_add, iI_sub, iI_mul, iI_le, iI_lt, iI_eq, iI_ix, iI_in, iI_neg, iI_lit]; omega
  unfold W8
  rw [zz_S S 71 12, a2]
  refine s_X8_draw (by rw [a5]; exact b5) h2 (by omega) ?_
  intro S1 e1
  rw [a5] at e1 ⊢
  rw [← hq, x0, x1, x3]
  have o1 : ∀ c k, ¬ (c = 75 ∧ k = 27) → S1 c k = S c k := fun c k hh => by rw [e1, up_ne _ _ hh]
  have A1 : Ag (vup v 0 5 (dsd (v 0 5))) (mz S1 75) := Ag_up hL.1 hA (by omega) e1 (by omega) (by omega)
  have s15 : zz S1 75 27 = dsd (v 0 5) := zz_iI (by rw [e1, up_at]) (by omega) (by omega)
  have m10 : S1 75 (4 * q + 3) = iI (v 10 q) := by rw [o1 _ _ (by omega), ← c10]; exact zz_S S 75 _
  have m7 : S1 75 (4 * q) = iI (v 7 q) := by rw [o1 _ _ (by omega), ← c7]; exact zz_S S 75 _
  have n1 : ∀ c j, c ≠ 75 → S1 c j = S c j := fun c j hh => o1 c j (by omega)
  refine ⟨i3, ?_⟩
  rw [m10, m7, show (9000 : Int32) = iI 9000 from rfl, iI_lt (by omega) (by omega) (by omega) (by omega)]
  rcases hc with ⟨hm, rfl⟩ | ⟨hm, k, hk, hc⟩
  · exact ⟨fun _ => h S1 A1 n1, fun e => absurd (by omega) e⟩
  refine ⟨fun e => absurd e (by omega), fun _ => ⟨i0, ?_⟩⟩
  have hL1 : Lb (mz S1 75) := Ag_Lb A1 (Lb_5 hL hb.1 hb.2)
  refine s_X8_roadsFrom (a0 := 75) hL1.1 p7 (by omega) ?_
  have e01 : mz S1 75 0 1 = v 0 1 := (A1.1 1 (by omega)).trans (vup_ne _ _ (by omega))
  have ew : wys (mz S1 75) (v 7 q) (mz S1 75 0 1).toNat 0 = wys v (v 7 q) (v 0 1).toNat 0 := by
    rw [e01]
    exact wys_up _ _ _ (fun j _ hj => (oth_Ag A1 (by rw [vup_ne _ _ (by omega)]; omega) _).trans (oth_5 _ _ _ _))
  rw [ew]
  have n9 : wys v (v 7 q) (v 0 1).toNat 0 ≤ 9 := by
    have := wys_le v (v 7 q) (v 0 1).toNat 0
    omega
  obtain ⟨n, hn⟩ : ∃ n : Nat, wys v (v 7 q) (v 0 1).toNat 0 = n := ⟨_, rfl⟩
  rw [hn] at hk hc n9 ⊢
  have k2 : (k : Int) < (n : Int) + 1 := by rw [hk]; exact Int.emod_lt_of_pos _ (by omega)
  have en1 : iI (n : Int) + 1 = iI ((n : Int) + 1) := by rw [show (1 : Int32) = iI 1 from rfl, iI_add]
  rw [en1]
  refine s_X8_draw (by rw [s15]; omega) (by omega) (by omega) ?_
  intro S2 e2
  rw [s15] at e2 ⊢
  rw [← hk, iI_eq (by omega) (by omega) (by omega) (by omega)]
  have o2 : ∀ c k, ¬ (c = 75 ∧ k = 27) → S2 c k = S c k := fun c k hh => by rw [e2, up_ne _ _ hh, o1 c k hh]
  have A2 : Ag (vup v 0 5 (dsd (dsd (v 0 5)))) (mz S2 75) := by
    have := Ag_up (f := 0) (k := 5) (Lb_5 hL hb.1 hb.2).1 A1 (by omega) e2 (by omega) (by omega)
    rw [vup_vup] at this
    exact this
  have s25 : zz S2 75 27 = dsd (dsd (v 0 5)) := zz_iI (by rw [e2, up_at]) (by omega) (by omega)
  have hL2 : Lb (mz S2 75) := Ag_Lb A2 (Lb_5 hL hb2.1 hb2.2)
  have pb2 : Pb (mz S2 75) q := hL2.2.2 q (by rw [A2.1 2 (by omega), vup_ne _ _ (by omega)]; exact q2)
  have d7 : zz S2 75 (4 * q) = v 7 q := by rw [← c7]; unfold zz; rw [o2 _ _ (by omega)]
  have d8 : zz S2 75 (4 * q + 1) = v 8 q := by rw [← c8]; unfold zz; rw [o2 _ _ (by omega)]
  have d10 : zz S2 75 (4 * q + 3) = v 10 q := by rw [← c10]; unfold zz; rw [o2 _ _ (by omega)]
  rcases hc with ⟨hkn, rfl⟩ | ⟨hkn, r, hr, r1, ho, s, hs, rfl⟩
  · refine ⟨fun e => absurd (by omega) e, fun _ => ?_⟩
    refine s_X8_waits (a0 := 75) hL2.1 pb2 q4 ?_
    intro S4 e4
    rw [d7, d8, d10, cal_Ag A2, cal_5] at e4
    have cb := cal_b (v := v) (a := v 7 q) (c := v 8 q) (n := 1) (by omega) p8 p8'
    refine h S4 ?_ (fun c j hh => by rw [e4, up_ne _ _ (by omega), up_ne _ _ (by omega), o2 c j (by omega)])
    have A3 := Ag_up (f := 10) (k := q) (j := 4 * q + 3) (z := v 10 q + 1) (Lb_5 hL hb2.1 hb2.2).1 A2 (by omega) rfl (by omega) (by omega)
    exact Ag_up (f := 8) (k := q) (j := 4 * q + 1) (Lb_p (Lb_5 hL hb2.1 hb2.2) (by omega)).1 A3 (by omega) e4 (by omega) (by omega)
  · refine ⟨fun _ => ⟨i1, ?_⟩, fun e => absurd e (by omega)⟩
    have m8 : S2 75 (4 * q + 1) = iI (v 8 q) := by rw [← d8]; exact zz_S S2 75 _
    have en8 : iI (v 8 q) + 1 = iI (v 8 q + 1) := by rw [show (1 : Int32) = iI 1 from rfl, iI_add]
    rw [m8, en8]
    refine s_X8_draw (by rw [s25]; omega) (by omega) (by omega) ?_
    intro S3 e3
    rw [s25] at e3 ⊢
    have s0 : 0 ≤ s ∧ s < v 8 q + 1 := by rw [hs]; exact ⟨Int.emod_nonneg _ (by omega), Int.emod_lt_of_pos _ (by omega)⟩
    rw [← hs]
    have o3 : ∀ c k, ¬ (c = 75 ∧ k = 27) → S3 c k = S c k := fun c k hh => by rw [e3, up_ne _ _ hh, o2 c k hh]
    have A3 : Ag (vup v 0 5 (dsd (dsd (dsd (v 0 5))))) (mz S3 75) := by
      have := Ag_up (f := 0) (k := 5) (Lb_5 hL hb2.1 hb2.2).1 A2 (by omega) e3 (by omega) (by omega)
      rw [vup_vup] at this
      exact this
    have L3 : Lb (vup v 0 5 (dsd (dsd (dsd (v 0 5))))) := Lb_5 hL hb3.1 hb3.2
    have hL3 : Lb (mz S3 75) := Ag_Lb A3 L3
    have pb3 : Pb (mz S3 75) q := hL3.2.2 q (by rw [A3.1 2 (by omega), vup_ne _ _ (by omega)]; exact q2)
    have e31 : mz S3 75 0 1 = v 0 1 := (A3.1 1 (by omega)).trans (vup_ne _ _ (by omega))
    have rb3 : Rb (mz S3 75) r := hL3.2.1 r (by rw [e31]; exact r1)
    have f7 : zz S3 75 (4 * q) = v 7 q := by rw [← c7]; unfold zz; rw [o3 _ _ (by omega)]
    have f8 : zz S3 75 (4 * q + 1) = v 8 q := by rw [← c8]; unfold zz; rw [o3 _ _ (by omega)]
    have f10 : zz S3 75 (4 * q + 3) = v 10 q := by rw [← c10]; unfold zz; rw [o3 _ _ (by omega)]
    have m7 : S3 75 (4 * q) = iI (v 7 q) := by rw [← f7]; exact zz_S S3 75 _
    refine ⟨i0, ?_⟩
    rw [m7]
    refine s_X8_roadFrom (a0 := 75) hL3.1 p7 (by omega) (by omega) ?_
    have er : rdw (mz S3 75) (v 7 q) (mz S3 75 0 1).toNat 0 k = rdw v (v 7 q) (v 0 1).toNat 0 k := by
      rw [e31]
      exact rdw_up _ _ _ _ (fun j _ hj => (oth_Ag A3 (by rw [vup_ne _ _ (by omega)]; omega) _).trans (oth_5 _ _ _ _))
    rw [er, hr]
    have tb := tme_b (v := v) (p := q) (r := r) (v 7 q) (v 10 q) (s := s) pb (hL.2.1 r r1) s0.1
    have ob := oth_b (v 7 q) (hL.2.1 r r1) hL.1
    refine s_X8_goes (a0 := 75) (by omega) (by omega) hL3.1 pb3 rb3 q4 (by omega) s0.1 (by omega) (by rw [f10]; omega) (by rw [f10]; omega) ?_
    intro S4 e4
    rw [f7, f8, f10, tme_Ag A3 (by rw [vup_ne _ _ (by omega)]; exact q2) (by rw [vup_ne _ _ (by omega)]; exact r1), tme_5, oth_Ag A3 (by rw [vup_ne _ _ (by omega)]; exact r1), oth_5] at e4
    refine h S4 ?_ (fun c j hh => by rw [e4, up_ne _ _ (by omega), up_ne _ _ (by omega), up_ne _ _ (by omega), o3 c j (by omega)])
    have A4 := Ag_up (f := 10) (k := q) (j := 4 * q + 3) (z := v 10 q + tme v q r (v 7 q) (v 10 q) s) L3.1 A3 (by omega) rfl (by omega) (by omega)
    have A5 := Ag_up (f := 8) (k := q) (j := 4 * q + 1) (z := v 8 q - s) (Lb_p L3 (by omega)).1 A4 (by omega) rfl (by omega) (by omega)
    exact Ag_up (f := 7) (k := q) (j := 4 * q) (Lb_p (Lb_p L3 (by omega)) (by omega)).1 A5 (by omega) e4 (by omega) (by omega)
