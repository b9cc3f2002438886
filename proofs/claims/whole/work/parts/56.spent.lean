/-! spent, lie -/
def spF (v : Vw) (p r : Nat) (a m t : Int) : Nat → Int32
  | 0 => 0
  | j + 1 => if tme v p r a m j = t then spF v p r a m t j ||| ((1 : Int32) <<< (iI j &&& 31)) else spF v p r a m t j
theorem spF_1 {v : Vw} {p r : Nat} {a m t : Int} {j : Nat} (h : tme v p r a m j = t) : spF v p r a m t (j + 1) = spF v p r a m t j ||| ((1 : Int32) <<< (iI j &&& 31)) := if_pos h
theorem spF_0 {v : Vw} {p r : Nat} {a m t : Int} {j : Nat} (h : ¬ tme v p r a m j = t) : spF v p r a m t (j + 1) = spF v p r a m t j := if_neg h
theorem spF_Ag {v w : Vw} (h : Ag v w) {p r : Nat} (hp : (p : Int) < v 0 2) (hr : (r : Int) < v 0 1) (a m t : Int) : ∀ j, spF w p r a m t j = spF v p r a m t j := by
  intro j
  induction j with
  | zero => rfl
  | succ j ih =>
    have e := tme_Ag h hp hr a m (j : Int)
    by_cases hc : tme v p r a m j = t
    · rw [spF_1 hc, spF_1 (e.trans hc), ih]
    · rw [spF_0 hc, spF_0 (fun q => hc (e.symm.trans q)), ih]
theorem s_X2_spentIn {i : Nat} {S : St} {post : Int32 → St → Prop} (hI : Inv S) (hi : (i : Int) < zz S 63 0) (h : post (spF (cv S 0) (zz S 64 i).toNat (zz S 65 i).toNat (zz S 66 i) (zz S 67 i) (zz S 68 i) 6) S) : wp_X2_spentIn (iI i) S post := by
  obtain ⟨hL, hT, ⟨t1, t2, t3, t5⟩, hB, hIm⟩ := id hI
  obtain ⟨_, k1, k2, k3, k4, k5, k6, k7, k8, k9, k10⟩ := t5 i hi
  have hH0 := hI.head
  have b0 : zz S 0 0 ≤ 6 := hH0.1.2.1
  obtain ⟨p4, pb, _⟩ := hI.pers (p := (zz S 64 i).toNat) (by omega)
  obtain ⟨r9, rb, _⟩ := hI.road (r := (zz S 65 i).toNat) (by omega)
  have xi : ix (iI (i : Int)) = i := by rw [iI_ix (by omega) (by omega)]; simp
  have ii : vp_in (iI (i : Int)) 20 := (iI_in (by omega) (by omega)).mpr ⟨by omega, by omega⟩
  have e64 : S 64 i = iI ((zz S 64 i).toNat : Int) := by rw [zz_S S 64 i]; congr 1; omega
  have e65 : S 65 i = iI ((zz S 65 i).toNat : Int) := by rw [zz_S S 65 i]; congr 1; omega
  have key : ∀ d j : Nat, j + d = 6 → L_X2_spentIn_5 post (d + 1) (iI i) (spF (cv S 0) (zz S 64 i).toNat (zz S 65 i).toNat (zz S 66 i) (zz S 67 i) (zz S 68 i) j) (iI j) S := by
    intro d
    induction d with
    | zero =>
      intro j hj
      have hj : j = 6 := by omega
      subst hj
      show BD_X2_spentIn_5 (L_X2_spentIn_5 post 0) post _ _ _ _
      unfold BD_X2_spentIn_5
      exact ⟨fun _ => h, fun q => absurd (by decide) q⟩
    | succ d ih =>
      intro j hj
      show BD_X2_spentIn_5 (L_X2_spentIn_5 post (d + 1)) post _ _ _ _
      unfold BD_X2_spentIn_5
      rw [xi]
      have c5 : (5 : Int32) < iI (j : Int) ↔ (5 : Int) < j := by rw [show (5 : Int32) = iI 5 from rfl, iI_lt (by omega) (by omega) (by omega) (by omega)]
      rw [c5]
      refine ⟨fun q => absurd q (by omega), fun _ => ⟨ii, ii, ii, ii, ?_⟩⟩
      have tb := tme_b (v := cv S 0) (p := (zz S 64 i).toNat) (r := (zz S 65 i).toNat) (zz S 66 i) (zz S 67 i) (s := (j : Int)) pb rb (by omega)
      have e66 := zz_S S 66 i
      have e67 := zz_S S 67 i
      rw [e64, e65, e66, e67]
      refine s_X6_lasts hH0.1 pb rb p4 r9 k5 (by omega) (by omega) (by omega) (by omega) (by omega) ⟨ii, ?_⟩
      rw [zz_S S 68 i, iI_eq (by omega) (by omega) (by omega) (by omega), show (1 : Int32) = iI 1 from rfl, iI_add]
      have ihj := ih (j + 1) (by omega)
      constructor
      · intro q
        rw [spF_0 q] at ihj
        exact ihj
      · intro q v5 hv5
        rw [spF_1 q] at ihj
        rw [hv5]
        exact ihj
  exact ⟨7, key 6 0 rfl⟩
theorem s_X8_spentAt {i : Nat} {S : St} {post : Int32 → St → Prop} (hI : Inv S) (hi : (i : Int) < zz S 63 0) (h : post (spF (cv S 0) (zz S 64 i).toNat (zz S 65 i).toNat (zz S 66 i) (zz S 67 i) (zz S 68 i) 6) S) : wp_X8_spentAt (iI i) S post := by
  obtain ⟨hL, hT, ⟨t1, t2, t3, t5⟩, hB, hIm⟩ := id hI
  obtain ⟨⟨q0, q1, q2, q3, q4⟩, k1, k2, k3, k4, k5, k6, k7, k8, k9, k10⟩ := t5 i hi
  have hH0 := hI.head
  have b0 : zz S 0 0 ≤ 6 := hH0.1.2.1
  obtain ⟨p4, pb, pm, _⟩ := hI.pers (p := (zz S 64 i).toNat) (by omega)
  obtain ⟨r9, rb, rm, _⟩ := hI.road (r := (zz S 65 i).toNat) (by omega)
  have e64 : S 79 (5 * i) = iI ((zz S 64 i).toNat : Int) := by rw [zz_inj q0, zz_S S 64 i]; congr 1; omega
  have e65 : S 79 (5 * i + 1) = iI ((zz S 65 i).toNat : Int) := by rw [zz_inj q1, zz_S S 65 i]; congr 1; omega
  have e66 : S 79 (5 * i + 2) = iI (zz S 66 i) := by rw [zz_inj q2, ← zz_S]
  have e67 : S 79 (5 * i + 3) = iI (zz S 67 i) := by rw [zz_inj q3, ← zz_S]
  have e68 : S 79 (5 * i + 4) = iI (zz S 68 i) := by rw [zz_inj q4, ← zz_S]
  have x0 : ix (iI (5 * (i : Int))) = 5 * i := by simp (disch := omega) only [iI_add, iI_sub, iI_mul, iI_le, iI_lt, iI_eq, iI_ix, iI_in, iI_neg, iI_lit]; omega
  have x1 : ix (iI (5 * (i : Int)) + 1) = 5 * i + 1 := by simp (disch := omega) only [iI_add, iI_sub, iI_mul, iI_le, iI_lt, iI_eq, iI_ix, iI_in, iI_neg, iI_lit]; omega
  have x2 : ix (iI (5 * (i : Int)) + 2) = 5 * i + 2 := by simp (disch := omega) only [iI_add, iI_sub, iI_mul, iI_le, iI_lt, iI_eq, iI_ix, iI_in, iI_neg, iI_lit]; omega
  have x3 : ix (iI (5 * (i : Int)) + 3) = 5 * i + 3 := by simp (disch := omega) only [iI_add, iI_sub, iI_mul, iI_le, iI_lt, iI_eq, iI_ix, iI_in, iI_neg, iI_lit]; omega
  have x4 : ix (iI (5 * (i : Int)) + 4) = 5 * i + 4 := by simp (disch := omega) only [iI_add, iI_sub, iI_mul, iI_le, iI_lt, iI_eq, iI_ix, iI_in, iI_neg, iI_lit]; omega
  have i0 : vp_in (iI (5 * (i : Int))) 100 := by simp (disch := omega) only [iI_add, iI_sub, iI_mul, iI_le, iI_lt, iI_eq, iI_ix, iI_in, iI_neg, iI_lit]; omega
  have i1 : vp_in (iI (5 * (i : Int)) + 1) 100 := by simp (disch := omega) only [iI_add, iI_sub, iI_mul, iI_le, iI_lt, iI_eq, iI_ix, iI_in, iI_neg, iI_lit]; omega
  have i2 : vp_in (iI (5 * (i : Int)) + 2) 100 := by simp (disch := omega) only [iI_add, iI_sub, iI_mul, iI_le, iI_lt, iI_eq, iI_ix, iI_in, iI_neg, iI_lit]; omega
  have i3 : vp_in (iI (5 * (i : Int)) + 3) 100 := by simp (disch := omega) only [iI_add, iI_sub, iI_mul, iI_le, iI_lt, iI_eq, iI_ix, iI_in, iI_neg, iI_lit]; omega
  have i4 : vp_in (iI (5 * (i : Int)) + 4) 100 := by simp (disch := omega) only [iI_add, iI_sub, iI_mul, iI_le, iI_lt, iI_eq, iI_ix, iI_in, iI_neg, iI_lit]; omega
  have key : ∀ d j : Nat, j + d = 6 → L_X8_spentAt_9 post (d + 1) (iI (5 * (i : Int))) (spF (cv S 0) (zz S 64 i).toNat (zz S 65 i).toNat (zz S 66 i) (zz S 67 i) (zz S 68 i) j) (iI j) S := by
    intro d
    induction d with
    | zero =>
      intro j hj
      have hj : j = 6 := by omega
      subst hj
      show BD_X8_spentAt_9 (L_X8_spentAt_9 post 0) post _ _ _ _
      unfold BD_X8_spentAt_9
      exact ⟨fun _ => h, fun q => absurd (by decide) q⟩
    | succ d ih =>
      intro j hj
      show BD_X8_spentAt_9 (L_X8_spentAt_9 post (d + 1)) post _ _ _ _
      unfold BD_X8_spentAt_9
      rw [x0, x1, x2, x3, x4]
      have c6 : (6 : Int32) ≤ iI (j : Int) ↔ (6 : Int) ≤ j := by rw [show (6 : Int32) = iI 6 from rfl, iI_le (by omega) (by omega) (by omega) (by omega)]
      rw [c6]
      refine ⟨fun q => absurd q (by omega), fun _ => ⟨i0, i1, i2, i3, ?_⟩⟩
      have et : tme (mz S 75) (zz S 64 i).toNat (zz S 65 i).toNat (zz S 66 i) (zz S 67 i) j = tme (cv S 0) (zz S 64 i).toNat (zz S 65 i).toNat (zz S 66 i) (zz S 67 i) j := tme_Ag hL.2.2 (by show ((zz S 64 i).toNat : Int) < zz S 0 2; omega) (by show ((zz S 65 i).toNat : Int) < zz S 0 1; omega) _ _ _
      have tb := tme_b (v := cv S 0) (p := (zz S 64 i).toNat) (r := (zz S 65 i).toNat) (zz S 66 i) (zz S 67 i) (s := (j : Int)) pb rb (by omega)
      rw [e64, e65, e66, e67]
      refine s_X8_time hH0.2.1 pm rm p4 r9 k5 (by omega) (by omega) (by omega) (by omega) (by omega) ⟨i4, ?_⟩
      rw [et, e68, iI_eq (by omega) (by omega) (by omega) (by omega)]
      have ihj := ih (j + 1) (by omega)
      have e1 : iI (j : Int) + 1 = iI ((j + 1 : Nat) : Int) := by rw [show (1 : Int32) = iI 1 from rfl, iI_add]; rfl
      unfold B_X8_spentAt_72
      rw [e1]
      constructor
      · intro q
        refine ⟨fun _ v2 hv2 => ?_, fun e => absurd rfl e⟩
        rw [spF_0 q] at ihj
        rw [hv2, Int32.or_zero]
        exact ihj
      · intro q
        refine ⟨fun e => absurd e (by decide), fun _ v3 hv3 => ?_⟩
        rw [spF_1 q] at ihj
        rw [hv3]
        exact ihj
  unfold wp_X8_spentAt
  intro v1 hv1
  rw [show (5 : Int32) = iI 5 from rfl, iI_mul] at hv1
  rw [hv1]
  exact ⟨7, key 6 0 rfl⟩
theorem call_spent (x : Int32) : CallOk (wp_X7_spent x) (wp_X8_spent x) := by
  intro S hI G hG P hP
  obtain ⟨z, z1, z2, rfl⟩ := iI_ex x
  obtain ⟨hL, hT, ⟨t1, t2, t3, t5⟩, hB, hIm⟩ := id hI
  have e63 : S 63 0 - 1 = iI (zz S 63 0 - 1) := by rw [zz_S S 63 0, show (1 : Int32) = iI 1 from rfl, iI_sub]
  unfold wp_X7_spent
  rw [e63]
  have M : ∀ q : Int32, (¬ (0 ≤ z ∧ z < zz S 63 0) → q = -1) → ((0 ≤ z ∧ z < zz S 63 0) → q = spF (cv S 0) (zz S 64 z.toNat).toNat (zz S 65 z.toNat).toNat (zz S 66 z.toNat) (zz S 67 z.toNat) (zz S 68 z.toNat) 6) → wp_X8_spent (iI z) S (P q) := by
    intro q q0 q1
    unfold wp_X8_spent
    intro S1 e1
    have hs := sm_thr S
    rw [← e1] at hs
    have hI1 := hI.sm hs
    have e25 : S1 71 25 - 1 = iI (zz S 63 0 - 1) := by rw [hs 71 25 (by unfold ps; omega), zz_inj t1, e63]
    rw [e25]
    refine s_X8_in (a := 0) z1 z2 (by omega) (by omega) (by omega) (by omega) (fun h1 h2 => ⟨fun e => absurd e (by decide), fun _ => ?_⟩) (fun h => ⟨fun _ => CallOk.fin (S := S) hP hI1 (q0 (by omega)), fun e => absurd rfl e⟩)
    have hz : iI z = iI (z.toNat : Int) := by congr 1; omega
    rw [hz]
    refine s_X8_spentAt hI1 (by rw [hh_zz hs (by unfold ps; omega)]; omega) ?_
    refine CallOk.fin (S := S) hP hI1 ?_
    obtain ⟨_, k1, k2, k3, k4, _⟩ := t5 z.toNat (by omega)
    rw [q1 ⟨h1, by omega⟩, hh_zz hs (c := 64) (by unfold ps; omega), hh_zz hs (c := 65) (by unfold ps; omega), hh_zz hs (c := 66) (by unfold ps; omega), hh_zz hs (c := 67) (by unfold ps; omega), hh_zz hs (c := 68) (by unfold ps; omega)]
    refine (spF_Ag (cv_Ag hL.1 (fun f k hf _ _ _ => hs _ _ (by unfold ps; omega))) ?_ ?_ _ _ _ 6).symm
    · show ((zz S 64 z.toNat).toNat : Int) < zz S 0 2; omega
    · show ((zz S 65 z.toNat).toNat : Int) < zz S 0 1; omega
  refine s_X7_outside (a := 0) z1 z2 (by omega) (by omega) (by omega) (by omega) (fun h1 h2 => ⟨fun _ => ?_, fun e => absurd rfl e⟩) (fun h => ⟨fun e => absurd e (by decide), fun _ => hG _ (M _ (fun _ => rfl) (by omega))⟩)
  have hz : iI z = iI (z.toNat : Int) := by congr 1; omega
  generalize hWm : wp_X8_spent (iI z) = Wm at *
  rw [hz]
  exact s_X2_spentIn hI (by omega) (hG _ (M _ (by omega) (fun _ => rfl)))
theorem call_lie : CallOk wp_X7_lie wp_X8_lie := by
  intro S hI G hG P hP
  obtain ⟨hL, hT, ⟨t1, t2, t3, t5⟩, hB, hIm⟩ := id hI
  have hn : ∃ n : Nat, (n : Int) = zz S 63 0 := ⟨(zz S 63 0).toNat, by omega⟩
  obtain ⟨n, hn⟩ := hn
  have e63 : S 63 0 = iI (n : Int) := by rw [zz_S S 63 0, hn]
  generalize hF : (fun i : Nat => spF (cv S 0) (zz S 64 i).toNat (zz S 65 i).toNat (zz S 66 i) (zz S 67 i) (zz S 68 i) 6) = F
  have hFi : ∀ i, spF (cv S 0) (zz S 64 i).toNat (zz S 65 i).toNat (zz S 66 i) (zz S 67 i) (zz S 68 i) 6 = F i := fun i => congrFun hF i
  -- the reference, for any start where nothing before lies
  have M : ∀ q : Int32, ((∀ i, i < n → F i ≠ 0) → q = -1) → (∀ i, i < n → F i = 0 → (∀ j, j < i → F j ≠ 0) → q = iI (i : Int)) → wp_X8_lie S (P q) := by
    intro q q0 q1
    unfold wp_X8_lie
    intro S1 e1
    have hs := sm_thr S
    rw [← e1] at hs
    have hI1 := hI.sm hs
    have e25 : S1 71 25 = iI (n : Int) := by rw [hs 71 25 (by unfold ps; omega), zz_inj t1, e63]
    have hF1 : ∀ i, i < n → spF (cv S1 0) (zz S1 64 i).toNat (zz S1 65 i).toNat (zz S1 66 i) (zz S1 67 i) (zz S1 68 i) 6 = F i := by
      intro i hi
      obtain ⟨_, k1, k2, k3, k4, _⟩ := t5 i (by omega)
      rw [← hFi i, hh_zz hs (c := 64) (by unfold ps; omega), hh_zz hs (c := 65) (by unfold ps; omega), hh_zz hs (c := 66) (by unfold ps; omega), hh_zz hs (c := 67) (by unfold ps; omega), hh_zz hs (c := 68) (by unfold ps; omega)]
      refine spF_Ag (cv_Ag hL.1 (fun f k hf _ _ _ => hs _ _ (by unfold ps; omega))) ?_ ?_ _ _ _ 6
      · show ((zz S 64 i).toNat : Int) < zz S 0 2; omega
      · show ((zz S 65 i).toNat : Int) < zz S 0 1; omega
    have key : ∀ d i : Nat, i + d = n → (∀ j, j < i → F j ≠ 0) → L_X8_lie_7 (P q) (d + 1) (iI (i : Int)) S1 := by
      intro d
      induction d with
      | zero =>
        intro i hi hj
        show BD_X8_lie_7 (L_X8_lie_7 (P q) 0) (P q) _ _
        unfold BD_X8_lie_7
        rw [e25, iI_le (by omega) (by omega) (by omega) (by omega)]
        exact ⟨fun _ => CallOk.fin (S := S) hP hI1 (q0 (fun j h => hj j (by omega))), fun e => absurd (by omega) e⟩
      | succ d ih =>
        intro i hi hj
        show BD_X8_lie_7 (L_X8_lie_7 (P q) (d + 1)) (P q) _ _
        unfold BD_X8_lie_7
        rw [e25, iI_le (by omega) (by omega) (by omega) (by omega)]
        refine ⟨fun e => absurd e (by omega), fun _ => ?_⟩
        refine s_X8_spentAt hI1 (by rw [hh_zz hs (by unfold ps; omega)]; omega) ?_
        rw [hF1 i (by omega), show (1 : Int32) = iI 1 from rfl, iI_add]
        refine ⟨fun e => ih (i + 1) (by omega) (fun j h => ?_), fun e => CallOk.fin (S := S) hP hI1 (q1 i (by omega) e hj)⟩
        by_cases hji : j = i
        · rw [hji]; exact e
        · exact hj j (by omega)
    exact ⟨n + 1, key n 0 (by omega) (fun j h => absurd h (by omega))⟩
  have key : ∀ d i : Nat, i + d = n → (∀ j, j < i → F j ≠ 0) → L_X7_lie_2 (fun r S1 => G (wp_X8_lie S1 (P r))) (d + 1) (iI (i : Int)) S := by
    intro d
    induction d with
    | zero =>
      intro i hi hj
      show BD_X7_lie_2 (L_X7_lie_2 (fun r S1 => G (wp_X8_lie S1 (P r))) 0) (fun r S1 => G (wp_X8_lie S1 (P r))) _ _
      unfold BD_X7_lie_2
      rw [e63, iI_le (by omega) (by omega) (by omega) (by omega)]
      exact ⟨fun _ => hG _ (M _ (fun _ => rfl) (fun j h1 h2 _ => absurd h2 (hj j (by omega)))), fun e => absurd (by omega) e⟩
    | succ d ih =>
      intro i hi hj
      show BD_X7_lie_2 (L_X7_lie_2 (fun r S1 => G (wp_X8_lie S1 (P r))) (d + 1)) (fun r S1 => G (wp_X8_lie S1 (P r))) _ _
      unfold BD_X7_lie_2
      rw [e63, iI_le (by omega) (by omega) (by omega) (by omega)]
      refine ⟨fun e => absurd e (by omega), fun _ => ?_⟩
      refine s_X2_spentIn hI (by omega) ?_
      rw [hFi i, show (1 : Int32) = iI 1 from rfl, iI_add]
      refine ⟨fun e => ih (i + 1) (by omega) (fun j h => ?_), fun e => hG _ (M _ (fun h => absurd e (h i (by omega))) (fun j h1 h2 h3 => ?_))⟩
      · by_cases hji : j = i
        · rw [hji]; exact e
        · exact hj j (by omega)
      · rcases Nat.lt_trichotomy i j with h | h | h
        · exact absurd e (h3 i h)
        · rw [h]
        · exact absurd h2 (hj j h)
  exact ⟨n + 1, key n 0 (by omega) (fun j h => absurd h (by omega))⟩
