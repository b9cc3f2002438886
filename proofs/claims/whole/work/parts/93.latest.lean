/-! latest -/
theorem Soon_Bk {v : Vw} {p : Nat} {e g a c x y : Int} (hg : g < 100000000) (h : Soon v p a c x e y) : Bk v p e g a c x ↔ y ≤ g := by
  rcases h with ⟨_, h1, ⟨n, c', h2⟩, h3⟩ | ⟨h1, h2⟩
  · refine ⟨fun ⟨n, c2, t, k1, k2⟩ => ?_, fun hle => ⟨n, c', y, h2, hle⟩⟩
    have := h3 _ _ _ k1
    omega
  · exact ⟨fun ⟨n, c2, t, k1, k2⟩ => absurd k1 (h2 _ _ _), fun hle => absurd hle (by omega)⟩
theorem s_X8_latest_loop {S T0 : St} {p : Nat} {D : Int} {post : Int32 → St → Prop} (hI : Inv S) (hp : (p : Int) < zz S 0 2) (hA : Ag (cv S 0) (mz T0 76)) (h75 : T0 75 (4 * p + 3) = iI (zz S 10 p)) (hD1 : -1000000000 < D → D ≤ zz S 6 p ∧ Bk (cv S 0) p (zz S 4 p) (zz S 6 p) (zz S 7 p) (zz S 8 p) D) (hD2 : ∀ x, -1000000000 < x → Bk (cv S 0) p (zz S 4 p) (zz S 6 p) (zz S 7 p) (zz S 8 p) x → x ≤ D) (h : ∀ T, (∀ c k, c ≠ 81 → c ≠ 82 → T c k = T0 c k) → post (iI (if zz S 10 p ≤ D then D else -1)) T) : ∀ (d : Nat) (x : Int) (T : St), x < d → -2 ≤ x → x ≤ zz S 6 p → (∀ c k, c ≠ 81 → c ≠ 82 → T c k = T0 c k) → (∀ y, x < y → y ≤ zz S 6 p → ¬ Bk (cv S 0) p (zz S 4 p) (zz S 6 p) (zz S 7 p) (zz S 8 p) y) → L_X8_latest_26 post (d + 1) (iI p) (iI x) T := by
  obtain ⟨hL, _⟩ := id hI
  have hp2 : (p : Int) < cv S 0 0 2 := hp
  obtain ⟨p4, pb, pm, pt, _⟩ := hI.pers hp
  have hH0 := hI.head
  obtain ⟨b0, b0', b1, b1', b2, b2', _⟩ := id hH0.1
  simp only [cv, Nat.add_zero] at b0 b0' b1 b1' b2 b2'
  obtain ⟨r4, r4', _, _, r6, r6', r7, r7', r8, r8', _⟩ := id pb
  have g0 : cv S 0 0 0 = zz S 0 0 := rfl
  have f4 : cv S 0 4 p = zz S 4 p := by unfold cv; rw [Nat.zero_add]
  have f6 : cv S 0 6 p = zz S 6 p := by unfold cv; rw [Nat.zero_add]
  have f7 : cv S 0 7 p = zz S 7 p := by unfold cv; rw [Nat.zero_add]
  have f8 : cv S 0 8 p = zz S 8 p := by unfold cv; rw [Nat.zero_add]
  rw [f4, g0] at r4'
  rw [f4] at r4
  rw [f6] at r6 r6'
  rw [f7] at r7 r7'
  rw [f8] at r8 r8'
  have x0 : ix ((4 : Int32) * iI p) = 4 * p := by
    simp (disch := omega) only [iI_add, iI_sub, iI_mul, iI_le, iI_lt, iI_eq, iI_ix, iI_in, iI_neg, iI_lit]; omega
  have x1 : ix ((4 : Int32) * iI p + 1) = 4 * p + 1 := by
    simp (disch := omega) only [iI_add, iI_sub, iI_mul, iI_le, iI_lt, iI_eq, iI_ix, iI_in, iI_neg, iI_lit]; omega
  have x3 : ix ((4 : Int32) * iI p + 3) = 4 * p + 3 := by
    simp (disch := omega) only [iI_add, iI_sub, iI_mul, iI_le, iI_lt, iI_eq, iI_ix, iI_in, iI_neg, iI_lit]; omega
  have i0 : vp_in ((4 : Int32) * iI p) 28 := by
    simp (disch := omega) only [iI_add, iI_sub, iI_mul, iI_le, iI_lt, iI_eq, iI_ix, iI_in, iI_neg, iI_lit]; omega
  have i1 : vp_in ((4 : Int32) * iI p + 1) 28 := by
    simp (disch := omega) only [iI_add, iI_sub, iI_mul, iI_le, iI_lt, iI_eq, iI_ix, iI_in, iI_neg, iI_lit]; omega
  have i3 : vp_in ((4 : Int32) * iI p + 3) 28 := by
    simp (disch := omega) only [iI_add, iI_sub, iI_mul, iI_le, iI_lt, iI_eq, iI_ix, iI_in, iI_neg, iI_lit]; omega
  have out : ∀ (x : Int) (T : St), (∀ c k, c ≠ 81 → c ≠ 82 → T c k = T0 c k) → (∀ y, x < y → y ≤ zz S 6 p → ¬ Bk (cv S 0) p (zz S 4 p) (zz S 6 p) (zz S 7 p) (zz S 8 p) y) → x < zz S 10 p → post (-1) T := by
    intro x T oT hj hlt
    have := h T oT
    rw [if_neg (fun hle => by
      obtain ⟨q1, q2⟩ := hD1 (by omega)
      exact hj D (by omega) q1 q2)] at this
    exact this
  intro d
  induction d with
  | zero =>
    intro x T hx1 hx2 hx3 oT hj
    show BD_X8_latest_26 (L_X8_latest_26 post 0) post _ _ _
    unfold BD_X8_latest_26
    rw [x3, oT 75 _ (by omega) (by omega), h75, iI_lt (by omega) (by omega) (by omega) (by omega)]
    exact ⟨i3, fun hlt => out x T oT hj hlt, fun e => absurd (by omega) e⟩
  | succ d ih =>
    intro x T hx1 hx2 hx3 oT hj
    show BD_X8_latest_26 (L_X8_latest_26 post (d + 1)) post _ _ _
    unfold BD_X8_latest_26
    have hAT : Ag (cv S 0) (mz T 76) := by rw [mz_fr oT]; exact hA
    have hn3 : (p : Int) < mz T 76 0 2 := by rw [hAT.1 2 (by omega)]; exact hp2
    obtain ⟨w4, _, w6, w7, w8, _, w10⟩ := hAT.2.2 p hp2
    have w4 : zz T 74 (5 * p + 1) = zz S 4 p := w4.trans f4
    have w6 : zz T 74 (5 * p + 4) = zz S 6 p := w6.trans f6
    have w7 : zz T 76 (4 * p) = zz S 7 p := w7.trans f7
    have w8 : zz T 76 (4 * p + 1) = zz S 8 p := w8.trans f8
    rw [x3, oT 75 _ (by omega) (by omega), h75, iI_lt (by omega) (by omega) (by omega) (by omega), x0, x1, zz_S T 76 (4 * p), zz_S T 76 (4 * p + 1), w7, w8]
    refine ⟨i3, fun hlt => out x T oT hj hlt, fun hlt => ⟨i0, i1, ?_⟩⟩
    refine s_X8_spreads hL.1 hp2 ⟨r7, r7'⟩ ⟨r8, r8'⟩ (by omega) hAT.sv ((Ag_Lb hAT hL.1).2.2 p hn3) ?_
    intro T2 o2 hSp
    refine s_X8_errand (by omega) ?_
    rw [o2 74 _ (by omega) (by omega), zz_S T 74 (5 * p + 1), w4]
    refine s_X8_soonestAt hL.1 hp2 ⟨r7, r7'⟩ ⟨r8, r8'⟩ (by omega) (by omega) hSp ?_
    intro y ya yb hy
    have oT2 : ∀ c k, c ≠ 81 → c ≠ 82 → T2 c k = T0 c k := fun c k a1 a2 => by rw [o2 c k a1 a2, oT c k a1 a2]
    have hiff := Soon_Bk (g := zz S 6 p) (by omega) hy
    refine s_X8_due (by omega) ?_
    have em : iI x + (-1) = iI (x - 1) := by rw [show (-1 : Int32) = iI (-1) from by decide, iI_add]; rfl
    rw [o2 74 _ (by omega) (by omega), zz_S T 74 (5 * p + 4), w6, iI_lt (by omega) (by omega) (by omega) (by omega), em]
    refine ⟨fun hl => ?_, fun hl => ?_⟩
    · refine ih (x - 1) T2 (by omega) (by omega) (by omega) oT2 (fun z h1 h2 => ?_)
      by_cases hzx : z = x
      · rw [hzx]
        intro q
        have := hiff.mp q
        omega
      · exact hj z (by omega) h2
    · have hb := hiff.mpr (by omega)
      have q1 := hD2 x (by omega) hb
      have q2 := hD1 (by omega)
      have q3 : D = x := by
        apply Classical.byContradiction
        intro hne
        exact hj D (by omega) q2.1 q2.2
      have := h T2 oT2
      rw [if_pos (by omega), q3] at this
      exact this
theorem call_latest (x1 : Int32) : CallOk (wp_X7_latest x1) (wp_X8_latest x1) := by
  intro S hI G hG P hP
  obtain ⟨p, p1, p2, rfl⟩ := iI_ex x1
  have hH0 := hI.head
  obtain ⟨b0, b0', b1, b1', b2, b2', _⟩ := id hH0.1
  simp only [cv, Nat.add_zero] at b0 b0' b1 b1' b2 b2'
  obtain ⟨hL, _⟩ := id hI
  have hfin : ∀ (T : St), (∀ c k, ¬ (11 ≤ c ∧ c ≤ 21) → ¬ (50 ≤ c ∧ c ≤ 54) → ¬ (c = 71 ∧ k = 0) → c ≠ 76 → c ≠ 81 → c ≠ 82 → T c k = S c k) → Inv T := fun T h => hI.sm (fun c k hc => h c k (by unfold ps at hc; omega) (by unfold ps at hc; omega) (by unfold ps at hc; omega) (by unfold ps at hc; omega) (by unfold ps at hc; omega) (by unfold ps at hc; omega))
  have M : ∀ (T : St) (w : Int32), (∀ c k, ¬ (11 ≤ c ∧ c ≤ 21) → ¬ (50 ≤ c ∧ c ≤ 54) → T c k = S c k) → (¬ (0 ≤ p ∧ p < zz S 0 2) → w = -1000000001) → (0 ≤ p ∧ p < zz S 0 2 → ∃ D, (-1000000000 < D → D ≤ zz S 6 p.toNat ∧ Bk (cv S 0) p.toNat (zz S 4 p.toNat) (zz S 6 p.toNat) (zz S 7 p.toNat) (zz S 8 p.toNat) D) ∧ (∀ x, -1000000000 < x → Bk (cv S 0) p.toNat (zz S 4 p.toNat) (zz S 6 p.toNat) (zz S 7 p.toNat) (zz S 8 p.toNat) x → x ≤ D) ∧ w = iI (if zz S 10 p.toNat ≤ D then D else -1)) → wp_X8_latest (iI p) T (P w) := by
    intro T w hT1 q0 q1
    unfold wp_X8_latest
    intro S1 e1
    have o1 : ∀ c k, ¬ (11 ≤ c ∧ c ≤ 21) → ¬ (50 ≤ c ∧ c ≤ 54) → ¬ (c = 71 ∧ k = 0) → S1 c k = S c k := fun c k h1 h2 h3 => by rw [e1, up_ne _ _ h3, hT1 c k h1 h2]
    have z1' : ∀ c k, ¬ (11 ≤ c ∧ c ≤ 21) → ¬ (50 ≤ c ∧ c ≤ 54) → ¬ (c = 71 ∧ k = 0) → zz S1 c k = zz S c k := fun c k h1 h2 h3 => by unfold zz; rw [o1 c k h1 h2 h3]
    have hI1 : Inv S1 := hfin S1 (fun c k h1 h2 h3 _ _ _ => o1 c k h1 h2 h3)
    have c12 : zz S1 71 12 = zz S 0 2 := (z1' _ _ (by omega) (by omega) (by omega)).trans hH0.2.2.2.2.1
    refine s_X8_isPerson p1 p2 (by omega) (fun h1 h2 => ⟨fun _ => ?_, fun e => absurd e (by decide)⟩) (fun h => ⟨fun e => absurd rfl e, fun _ => CallOk.fin (S := S) hP hI1 (q0 (by omega))⟩)
    obtain ⟨p4, pb, pm, pt, f1, f2, f3, f4, f5, f6, f7⟩ := hI.pers (p := p.toNat) (by omega)
    obtain ⟨D, d1, d2, hw⟩ := q1 (by omega)
    refine s_X8_asNow ?_
    intro T2 hT2
    have o2 : ∀ c k, ¬ (11 ≤ c ∧ c ≤ 21) → ¬ (50 ≤ c ∧ c ≤ 54) → ¬ (c = 71 ∧ k = 0) → c ≠ 76 → T2 c k = S c k := fun c k h1 h2 h3 h4 => by rw [hT2, if_neg (by omega), o1 c k h1 h2 h3]
    have o76 : ∀ k, k < 28 → T2 76 k = S 75 k := fun k hk => by rw [hT2, if_pos ⟨rfl, hk⟩, o1 _ _ (by omega) (by omega) (by omega)]
    have A2 : Ag (cv S 0) (mz T2 76) := now_view hI o76 (fun c k h => o2 c k (by omega) (by omega) (by omega) (by omega))
    have hpp : iI p = iI (p.toNat : Int) := by congr 1; omega
    have r6 : 0 ≤ zz S 6 p.toNat ∧ zz S 6 p.toNat ≤ 999 := by
      have := pb.2.2.2.2
      simp only [cv, Nat.zero_add] at this
      omega
    have w6 : zz T2 74 (5 * p.toNat + 4) = zz S 6 p.toNat := ((A2.2.2 p.toNat (by show _ < zz S 0 2; omega)).2.2.1).trans (by unfold cv; rw [Nat.zero_add])
    have e75 : T2 75 (4 * p.toNat + 3) = iI (zz S 10 p.toNat) := by rw [o2 _ _ (by omega) (by omega) (by omega) (by omega), f7]; exact zz_S S 10 _
    rw [hpp]
    refine s_X8_due (by omega) ?_
    rw [zz_S T2 74 (5 * p.toNat + 4), w6]
    refine ⟨((zz S 6 p.toNat).toNat + 1) + 1, ?_⟩
    refine s_X8_latest_loop hI (by omega) A2 e75 d1 d2 ?_ ((zz S 6 p.toNat).toNat + 1) (zz S 6 p.toNat) T2 (by omega) (by omega) (by omega) (fun _ _ _ _ => rfl) (fun y h1 h2 => absurd h1 (by omega))
    intro T3 o3
    have hI3 : Inv T3 := hfin T3 (fun c k a1 a2 a3 a4 a5 a6 => by rw [o3 c k a5 a6, o2 c k a1 a2 a3 a4])
    exact CallOk.fin (S := S) hP hI3 hw
  unfold wp_X7_latest
  refine s_X6_hasPerson (o := 0) p1 p2 (fun h1 h2 => ⟨fun _ => ?_, fun e => absurd e (by decide)⟩) (fun h => ⟨fun e => absurd rfl e, fun _ => hG _ (M S _ (fun _ _ _ _ => rfl) (fun _ => rfl) (fun e => absurd e h))⟩)
  obtain ⟨p4, pb, pm, pt, _⟩ := hI.pers (p := p.toNat) (by omega)
  obtain ⟨r4, r4', _, _, r6, r6', r7, r7', r8, r8', _⟩ := id pb
  have hp2 : ((p.toNat : Nat) : Int) < cv S 0 0 2 := by show _ < zz S 0 2; omega
  have e4 : cv S 0 4 p.toNat = zz S 4 p.toNat := by unfold cv; rw [Nat.zero_add]
  simp only [cv, Nat.zero_add] at r4 r4' r6 r6' r7 r7' r8 r8'
  have hpp : iI p = iI (p.toNat : Int) := by congr 1; omega
  have xp : ix (iI p) = p.toNat := by rw [iI_ix (by omega) (by omega)]
  have ip : vp_in (iI p) 4 := (iI_in (by omega) (by omega)).mpr ⟨by omega, by omega⟩
  refine s_X6_become (o := 11) (o2 := 0) (fun f g hf hg => by omega) ?_
  intro T hT1 hT2
  have hA : Ag (cv S 0) (cv T 11) := cv_Ag hL.1 (fun f k h1 h2 h3 h4 => hT1 f k h1 h2 h3 h4)
  rw [xp, hT2 6 _ (by omega), zz_S S 6 p.toNat]
  refine ⟨ip, ?_⟩
  rw [hpp]
  refine s_X4_lookBack (v := cv S 0) ⟨hL.1, hp2, hA.sv, (Ag_Lb hA hL.1).2.2 _ (by rw [hA.1 2 (by omega)]; exact hp2)⟩ (by omega) ?_
  intro T2 o2 hLk
  rw [e4] at hLk
  obtain ⟨k1, k2⟩ := hLk (zz S 7 p.toNat) (zz S 8 p.toNat) ⟨r7, r7'⟩ ⟨r8, r8'⟩
  have oT2 : ∀ c k, ¬ (11 ≤ c ∧ c ≤ 21) → ¬ (50 ≤ c ∧ c ≤ 54) → T2 c k = S c k := fun c k a1 a2 => by rw [o2 c k (by omega) (by omega), hT2 c k (by omega)]
  unfold wp_X4_latestAt
  obtain ⟨j, hj⟩ : ∃ j : Nat, 6 * (zz S 7 p.toNat).toNat + (zz S 8 p.toNat).toNat = j := ⟨_, rfl⟩
  have ej : iI (zz S 7 p.toNat) * 6 + iI (zz S 8 p.toNat) = iI (j : Int) := by
    rw [show (6 : Int32) = iI 6 from rfl, iI_mul, iI_add]
    congr 1
    omega
  have j36 : j < 36 := by omega
  have xj : ix (iI (j : Int)) = j := by rw [iI_ix (by omega) (by omega)]; simp
  have ij : vp_in (iI (j : Int)) 36 := (iI_in (by omega) (by omega)).mpr ⟨by omega, by omega⟩
  rw [hj] at k1 k2
  rw [← hpp]
  dsimp only
  rw [oT2 7 _ (by omega) (by omega), oT2 8 _ (by omega) (by omega), oT2 10 _ (by omega) (by omega), zz_S S 7 p.toNat, zz_S S 8 p.toNat, zz_S S 10 p.toNat, ej, xj, zz_S T2 52 j]
  have Db : -1000000000 ≤ zz T2 52 j ∧ zz T2 52 j ≤ 999 := by
    rcases k1 with q | ⟨q1, q2, _⟩ <;> omega
  refine ⟨ip, ip, ij, ip, ?_⟩
  rw [iI_le (by omega) (by omega) (by omega) (by omega)]
  have hd1 : -1000000000 < zz T2 52 j → zz T2 52 j ≤ zz S 6 p.toNat ∧ Bk (cv S 0) p.toNat (zz S 4 p.toNat) (zz S 6 p.toNat) (zz S 7 p.toNat) (zz S 8 p.toNat) (zz T2 52 j) := by
    intro q
    rcases k1 with q' | ⟨q1, q2, q3⟩
    · omega
    · exact ⟨q1, q3⟩
  refine ⟨fun hle => hG _ (M T2 _ oT2 (fun e => absurd ⟨h1, h2⟩ e) (fun _ => ⟨zz T2 52 j, hd1, k2, by rw [if_pos hle]⟩)), fun hle => hG _ (M T2 _ oT2 (fun e => absurd ⟨h1, h2⟩ e) (fun _ => ⟨zz T2 52 j, hd1, k2, by rw [if_neg hle]; decide⟩))⟩
