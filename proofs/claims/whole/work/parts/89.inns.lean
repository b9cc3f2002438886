/-! inns -/
def on6 (m : Int) : Int := bt m 0 + bt m 1 + bt m 2 + bt m 3 + bt m 4 + bt m 5
theorem cnt6 : ∀ m : Fin 64, ∀ (S : St) (post : Int32 → St → Prop), post (iI (on6 (m.val : Int))) S → wp_J6_bitCount_0f7a4 (iI (m.val : Int)) S post := by
  have key : ∀ m : Fin 64, ((((((iI (m.val : Int) - ((iushr (iI (m.val : Int)) 1) &&& 1431655765)) &&& 858993459) + ((iushr (iI (m.val : Int) - ((iushr (iI (m.val : Int)) 1) &&& 1431655765)) 2) &&& 858993459)) + (iushr (((iI (m.val : Int) - ((iushr (iI (m.val : Int)) 1) &&& 1431655765)) &&& 858993459) + ((iushr (iI (m.val : Int) - ((iushr (iI (m.val : Int)) 1) &&& 1431655765)) 2) &&& 858993459)) 4)) &&& 252645135)) = iI (on6 (m.val : Int)) := by decide +kernel
  have key2 : ∀ m : Fin 64, iI (on6 (m.val : Int)) + iushr (iI (on6 (m.val : Int))) 8 = iI (on6 (m.val : Int)) := by decide +kernel
  have key3 : ∀ m : Fin 64, (iI (on6 (m.val : Int)) + iushr (iI (on6 (m.val : Int))) 16) &&& 63 = iI (on6 (m.val : Int)) := by decide +kernel
  intro m S post h
  unfold wp_J6_bitCount_0f7a4
  intro v1 e1 v2 e2 v3 e3 v4 e4 v5 e5
  rw [e1] at e2
  rw [e2, key m] at e3
  rw [e3, key2 m] at e4
  rw [e4] at e5
  rw [e5, key3 m]
  exact h
theorem s_bitCount {m : Int} {S : St} {post : Int32 → St → Prop} (h0 : 0 ≤ m) (h1 : m < 64) (h : post (iI (on6 m)) S) : wp_J6_bitCount_0f7a4 (iI m) S post := by
  have := cnt6 ⟨m.toNat, by omega⟩ S post (by show post (iI (on6 (m.toNat : Int))) S; rw [Int.toNat_of_nonneg h0]; exact h)
  have e : ((⟨m.toNat, by omega⟩ : Fin 64).val : Int) = m := Int.toNat_of_nonneg h0
  rw [e] at this
  exact this
theorem s_ones {m : Int} {S : St} {post : Int32 → St → Prop} (h0 : 0 ≤ m) (h1 : m < 64) (h : post (iI (on6 m)) S) : wp_X8_ones (iI m) S post := by
  have st : ∀ (d i : Nat) (x : Int), i + d = 6 → 0 ≤ x → x ≤ i → (∀ y, y = x + (if i ≤ 0 then bt m 0 else 0) + (if i ≤ 1 then bt m 1 else 0) + (if i ≤ 2 then bt m 2 else 0) + (if i ≤ 3 then bt m 3 else 0) + (if i ≤ 4 then bt m 4 else 0) + (if i ≤ 5 then bt m 5 else 0) → post (iI y) S) → L_X8_ones_4 post (d + 1) (iI m) (iI x) (iI i) S := by
    intro d
    induction d with
    | zero =>
      intro i x hi x1 x2 hh
      show BD_X8_ones_4 (L_X8_ones_4 post 0) post _ _ _ _
      unfold BD_X8_ones_4
      rw [show (6 : Int32) = iI 6 from rfl, iI_le (by omega) (by omega) (by omega) (by omega)]
      refine ⟨fun _ => hh x ?_, fun e => absurd (by omega) e⟩
      rw [if_neg (by omega), if_neg (by omega), if_neg (by omega), if_neg (by omega), if_neg (by omega), if_neg (by omega)]
      omega
    | succ d ih =>
      intro i x hi x1 x2 hh
      show BD_X8_ones_4 (L_X8_ones_4 post (d + 1)) post _ _ _ _
      unfold BD_X8_ones_4
      have en : iI (i : Int) + 1 = iI ((i + 1 : Nat) : Int) := by rw [show (1 : Int32) = iI 1 from rfl, iI_add]; rfl
      have eb := bit_get (m := m) (a := (i : Int)) h0 h1 (by omega) (by omega)
      have bb := bt_01 m (i : Int)
      rw [en, eb, show (6 : Int32) = iI 6 from rfl, iI_le (by omega) (by omega) (by omega) (by omega)]
      refine ⟨fun e => absurd e (by omega), fun _ v2 e2 => ?_⟩
      rw [e2, iI_add]
      refine ih (i + 1) _ (by omega) (by omega) (by omega) (fun y hy => hh y ?_)
      rw [hy]
      rcases (show i = 0 ∨ i = 1 ∨ i = 2 ∨ i = 3 ∨ i = 4 ∨ i = 5 by omega) with rfl | rfl | rfl | rfl | rfl | rfl <;> simp <;> omega
  refine ⟨6 + 1, st 6 0 0 (by omega) (by omega) (by omega) (fun y hy => ?_)⟩
  have : y = on6 m := by rw [hy]; unfold on6; simp
  rw [this]
  exact h
theorem on6_le : ∀ n : Fin 7, ∀ m : Fin 64, m.val < 2 ^ n.val → on6 (m.val : Int) ≤ (n.val : Int) := by decide +kernel
theorem on6_b {m : Int} : 0 ≤ on6 m ∧ on6 m ≤ 6 := by
  have a0 := bt_01 m 0; have a1 := bt_01 m 1; have a2 := bt_01 m 2; have a3 := bt_01 m 3; have a4 := bt_01 m 4; have a5 := bt_01 m 5
  unfold on6
  omega
/-- with the inns m all are in time -/
def InT (v : Vw) (m : Int) : Prop := ∀ p : Nat, (p : Int) < v 0 2 → ∃ y, Sn (vset v 0 3 m) p y ∧ y ≤ v 6 p
def Sub (m m' : Int) : Prop := ∀ a : Int, 0 ≤ a → a < 6 → bt m a = 1 → bt m' a = 1
theorem Rc_sub {v : Vw} {p : Nat} {ly : Nat → Int → Nat} {l0 : Nat} {a0 c0 t0 m m' : Int} (hL : Lb v) (hp : (p : Int) < v 0 2) (hm : 0 ≤ m ∧ m < 64) (ha : 0 ≤ a0 ∧ a0 < v 0 0) (hc : 0 ≤ c0 ∧ c0 ≤ 5) (hs : Sub m m') : ∀ n l a c t, Rc (vset v 0 3 m) p ly l0 a0 c0 t0 n l a c t → Rc (vset v 0 3 m') p ly l0 a0 c0 t0 n l a c t := by
  have hLm := Lb_bits (k0 := 3) hL (by omega) hm
  have hb := hL.1.2.1
  have e0 : vset v 0 3 m 0 0 = v 0 0 := vset_ne (by omega)
  intro n
  induction n with
  | zero => intro l a c t h; exact h
  | succ n ih =>
    rintro l a c t ⟨l1, a1, c1, t1, h1, h2⟩
    obtain ⟨g1, g2, _⟩ := Rc_in hLm (by rw [vset_ne (by omega)]; exact hp) (by rw [e0]; exact ha) hc n _ _ _ _ h1
    rw [e0] at g1
    refine ⟨l1, a1, c1, t1, ih _ _ _ _ h1, ?_⟩
    rcases h2 with ⟨k1, k2⟩ | ⟨r, s, k1, e1, k3, k2, k4, e5, e2, e3⟩
    · rw [vset_at] at k1
      exact Or.inl ⟨by rw [vset_at]; exact hs a1 g1.1 (by omega) k1, k2⟩
    · refine Or.inr ⟨r, s, by rw [vset_ne (by omega)] at k1 ⊢; exact k1, ?_, k3, k2, k4, e5, e2, ?_⟩
      · rw [← e1]
        exact oth_up (by rw [vset_ne (by omega), vset_ne (by omega)]) (by rw [vset_ne (by omega), vset_ne (by omega)])
      · rw [e3]
        unfold tme tmh hur
        rw [vset_ne (by omega), vset_ne (by omega), vset_ne (by omega), vset_ne (by omega), vset_ne (by omega), vset_ne (by omega), vset_ne (by omega), vset_ne (by omega), vset_ne (by omega), vset_ne (by omega)]
def OutT (v : Vw) (m : Int) : Prop := ∃ (p : Nat) (y : Int), (p : Int) < v 0 2 ∧ Sn (vset v 0 3 m) p y ∧ ¬ y ≤ v 6 p
theorem InT_sub {v : Vw} {m m' : Int} (hL : Lb v) (hm : 0 ≤ m ∧ m < 64) (hs : Sub m m') (ho : OutT v m') : ¬ InT v m := by
  intro h
  obtain ⟨p, y', hp, k1, k2⟩ := ho
  obtain ⟨y, h1, h2⟩ := h p hp
  obtain ⟨_, _, _, _, _, g6, r7, r7', r8, r8', _⟩ := hL.2.2 p hp
  rcases h1 with ⟨_, q1, ⟨n, c, q2⟩, q3⟩ | ⟨q1, _⟩
  · rw [vset_ne (by omega), vset_ne (by omega), vset_ne (by omega), vset_ne (by omega)] at q2
    have := Rc_sub hL hp hm ⟨r7, r7'⟩ ⟨r8, r8'⟩ hs _ _ _ _ _ q2
    unfold Sn at k1
    rw [vset_ne (by omega), vset_ne (by omega), vset_ne (by omega), vset_ne (by omega)] at k1
    rcases k1 with ⟨_, f1, _, f2⟩ | ⟨f1, f2⟩
    · have := f2 _ _ _ this
      omega
    · exact absurd this (f2 _ _ _)
  · omega
theorem OutT_In {v : Vw} {m : Int} (h : OutT v m) : ¬ InT v m := by
  intro hin
  obtain ⟨p, y, hp, h1, h2⟩ := h
  obtain ⟨y', q1, q2⟩ := hin p hp
  rw [Soon_uniq q1 h1] at q2
  exact h2 q2
theorem sub_all : ∀ n : Fin 7, ∀ m : Fin 64, m.val < 2 ^ n.val → ∀ a : Fin 6, bt (m.val : Int) (a.val : Int) = 1 → bt ((2 ^ n.val - 1 : Nat) : Int) (a.val : Int) = 1 := by decide +kernel
theorem shl_n : ∀ n : Fin 7, ((1 : Int32) <<< (iI (n.val : Int) &&& 31)) = iI ((2 ^ n.val : Nat) : Int) := by decide +kernel
theorem pow_b : ∀ n : Fin 7, 1 ≤ 2 ^ n.val ∧ 2 ^ n.val ≤ 64 := by decide +kernel
/-- the answer -/
def Fw (v : Vw) (N : Nat) (r : Int) : Prop := (r = -1 ∧ ∀ m : Int, 0 ≤ m → m < N → ¬ InT v m) ∨ (0 ≤ r ∧ r < N ∧ InT v r ∧ ∀ m : Int, 0 ≤ m → m < N → InT v m → on6 r < on6 m ∨ (on6 r = on6 m ∧ r ≤ m))
theorem Fw_uniq {v : Vw} {N : Nat} {r r' : Int} (h : Fw v N r) (h' : Fw v N r') : r = r' := by
  rcases h with ⟨e, h⟩ | ⟨h1, h2, h3, h4⟩ <;> rcases h' with ⟨e', h'⟩ | ⟨k1, k2, k3, k4⟩
  · omega
  · exact absurd k3 (h _ k1 k2)
  · exact absurd h3 (h' _ h1 h2)
  · have := h4 _ k1 k2 k3
    have := k4 _ h1 h2 h3
    omega
theorem s_X7_allInTimeWith {S S0 : St} {m : Int} {post : Int32 → St → Prop} (hI : Inv S0) (hm : 0 ≤ m ∧ m < 64) (hA : Ag (vset (cv S0 0) 0 3 m) (cv (up S 11 3 (iI m)) 11)) (o0 : ∀ c k, ¬ (11 ≤ c ∧ c ≤ 21) → ¬ (50 ≤ c ∧ c ≤ 54) → S c k = S0 c k) (h1 : ∀ T, (∀ c k, ¬ (c = 11 ∧ k = 3) → c ≠ 51 → c ≠ 53 → c ≠ 54 → T c k = S c k) → InT (cv S0 0) m → post 1 T) (h0 : ∀ T, (∀ c k, ¬ (c = 11 ∧ k = 3) → c ≠ 51 → c ≠ 53 → c ≠ 54 → T c k = S c k) → OutT (cv S0 0) m → post 0 T) : wp_X7_allInTimeWith (iI m) S post := by
  have hH0 := hI.head
  obtain ⟨b0, b0', b1, b1', b2, b2', _⟩ := id hH0.1
  simp only [cv, Nat.add_zero] at b0 b0' b1 b1' b2 b2'
  obtain ⟨hL, _⟩ := id hI
  have hLm := Lb_bits (k0 := 3) hL.1 (by omega) hm
  have hMm : Mb (vset (cv S0 0) 0 3 m) := Mb_vset hL.2.1 (by omega) (by omega)
  unfold wp_X7_allInTimeWith
  intro S1 e1
  rw [← e1] at hA
  have o1 : ∀ c k, ¬ (c = 11 ∧ k = 3) → S1 c k = S c k := fun c k h => by rw [e1, up_ne _ _ h]
  have key : ∀ (d n : Nat) (T : St), n + d = (zz S0 0 2).toNat → (∀ c k, c ≠ 51 → c ≠ 53 → c ≠ 54 → T c k = S1 c k) → (∀ p : Nat, p < n → ∃ y, Sn (vset (cv S0 0) 0 3 m) p y ∧ y ≤ cv S0 0 6 p) → L_X7_allInTimeWith_10 post (d + 1) (iI n) T := by
    intro d
    induction d with
    | zero =>
      intro n T hn oT hj
      show BD_X7_allInTimeWith_10 (L_X7_allInTimeWith_10 post 0) post _ _
      unfold BD_X7_allInTimeWith_10
      rw [oT 0 2 (by omega) (by omega) (by omega), o1 0 2 (by omega), o0 0 2 (by omega) (by omega), zz_S S0 0 2, iI_le (by omega) (by omega) (by omega) (by omega)]
      refine ⟨fun _ => h1 T (fun c k a1 a2 a3 a4 => by rw [oT c k a2 a3 a4, o1 c k a1]) (fun p hp => hj p ?_), fun e => absurd (by omega) e⟩
      have : (p : Int) < zz S0 0 2 := hp
      omega
    | succ d ih =>
      intro n T hn oT hj
      show BD_X7_allInTimeWith_10 (L_X7_allInTimeWith_10 post (d + 1)) post _ _
      unfold BD_X7_allInTimeWith_10
      have hn2 : (n : Int) < cv S0 0 0 2 := by show _ < zz S0 0 2; omega
      have hn3 : (n : Int) < vset (cv S0 0) 0 3 m 0 2 := by rw [vset_ne (by omega)]; exact hn2
      obtain ⟨r4, r4', _, _, r6, r6', r7, r7', r8, r8', _⟩ := hLm.2.2 n hn3
      have e4 : vset (cv S0 0) 0 3 m 4 n = zz S0 4 n := by rw [vset_ne (by omega)]; unfold cv; rw [Nat.zero_add]
      have e6 : vset (cv S0 0) 0 3 m 6 n = zz S0 6 n := by rw [vset_ne (by omega)]; unfold cv; rw [Nat.zero_add]
      have e00 : vset (cv S0 0) 0 3 m 0 0 = zz S0 0 0 := by rw [vset_ne (by omega)]; rfl
      rw [e6] at r6 r6'
      have mb := hMm n hn3
      have xn : ix (iI (n : Int)) = n := by rw [iI_ix (by omega) (by omega)]; simp
      have ni : vp_in (iI (n : Int)) 4 := (iI_in (by omega) (by omega)).mpr ⟨by omega, by omega⟩
      have en : iI (n : Int) + 1 = iI ((n + 1 : Nat) : Int) := by rw [show (1 : Int32) = iI 1 from rfl, iI_add]; rfl
      have hAT : Ag (vset (cv S0 0) 0 3 m) (cv T 11) := cv_fr51 hA oT
      obtain ⟨_, _, _, w7, w8, _, w10⟩ := hAT.2.2 n hn3
      have oTS : ∀ c k, ¬ (11 ≤ c ∧ c ≤ 21) → ¬ (50 ≤ c ∧ c ≤ 54) → T c k = S0 c k := fun c k a1 a2 => by rw [oT c k (by omega) (by omega) (by omega), o1 c k (by omega), o0 c k a1 a2]
      rw [oTS 0 2 (by omega) (by omega), zz_S S0 0 2, iI_le (by omega) (by omega) (by omega) (by omega), xn, oTS 4 n (by omega) (by omega), zz_S S0 4 n, en]
      refine ⟨fun e => absurd e (by omega), fun _ => ⟨ni, ?_⟩⟩
      rw [e4] at r4 r4'
      refine s_X4_explore (v := vset (cv S0 0) 0 3 m) (a0 := vset (cv S0 0) 0 3 m 7 n) (c0 := vset (cv S0 0) 0 3 m 8 n) (t0 := vset (cv S0 0) 0 3 m 10 n) hLm hn3 hAT.sv ((Ag_Lb hAT hLm).2.2 n (by rw [hAT.1 2 (by omega)]; exact hn3)) w7 w8 w10 ⟨r7, r7'⟩ ⟨r8, r8'⟩ (by omega) (by omega) ?_
      intro T2 Z mm oT2 hF hs
      have oT2S : ∀ c k, ¬ (11 ≤ c ∧ c ≤ 21) → ¬ (50 ≤ c ∧ c ≤ 54) → T2 c k = S0 c k := fun c k a1 a2 => by rw [oT2 c k (by omega) (by omega) (by omega), oTS c k a1 a2]
      have oT2c : ∀ c k, c ≠ 51 → c ≠ 53 → c ≠ 54 → T2 c k = S1 c k := fun c k a1 a2 a3 => by rw [oT2 c k a1 a2 a3, oT c k a1 a2 a3]
      rw [oT2S 4 n (by omega) (by omega), zz_S S0 4 n]
      refine ⟨ni, ?_⟩
      have fin : ∀ y, Sn (vset (cv S0 0) 0 3 m) n y → 0 ≤ y → y ≤ 100000000 → ((iI (if y = 100000000 then -1 else y) = (-1) → post 0 T2) ∧ (¬ iI (if y = 100000000 then -1 else y) = (-1) → vp_in (iI (n : Int)) 4 ∧ (((iI (if y = 100000000 then -1 else y) ≤ (T2 6 n) → L_X7_allInTimeWith_10 post (d + 1) (iI ((n + 1 : Nat) : Int)) T2) ∧ (¬ iI (if y = 100000000 then -1 else y) ≤ (T2 6 n) → post 0 T2))))) := by
        intro y hy ya yb
        have bad : ¬ y ≤ zz S0 6 n → post 0 T2 := fun hle => h0 T2 (fun c k a1 a2 a3 a4 => by rw [oT2c c k a2 a3 a4, o1 c k a1]) ⟨n, y, hn2, hy, by rw [show cv S0 0 6 n = zz S0 6 n from by unfold cv; rw [Nat.zero_add]]; exact hle⟩
        by_cases hyn : y = 100000000
        · rw [if_pos hyn]
          exact ⟨fun _ => bad (by omega), fun e => absurd (by decide) e⟩
        · rw [if_neg hyn, oT2S 6 n (by omega) (by omega), zz_S S0 6 n, show (-1 : Int32) = iI (-1) from by decide, iI_eq (by omega) (by omega) (by omega) (by omega), iI_le (by omega) (by omega) (by omega) (by omega)]
          refine ⟨fun e => absurd e (by omega), fun _ => ⟨ni, fun hle => ?_, bad⟩⟩
          refine ih (n + 1) T2 (by omega) oT2c (fun p hp => ?_)
          by_cases hpn : p = n
          · rw [hpn]
            exact ⟨y, hy, by rw [show cv S0 0 6 n = zz S0 6 n from by unfold cv; rw [Nat.zero_add]]; exact hle⟩
          · exact hj p (by omega)
      refine s_X4_soonestAt (by omega) (fun k hk => ?_) (fun x x1 x2 h1 h2 => ?_)
      · rcases hF.1 (6 * (zz S0 4 n).toNat + k) (by omega) with w | ⟨_, w2, w3, _⟩ <;> omega
      · have e4' : vset (cv S0 0) 0 3 m 4 n = zz S0 4 n := e4
        rcases Fn_soon hLm hn3 ⟨r7, r7'⟩ ⟨r8, r8'⟩ (by omega) (show 0 ≤ zz S0 4 n ∧ zz S0 4 n < vset (cv S0 0) 0 3 m 0 0 from ⟨r4, r4'⟩) hF hs h1 h2 with ⟨e, hy⟩ | ⟨y1, y2, hy⟩
        · rw [if_pos e]
          have := fin 100000000 (by unfold Sn; rw [e4']; exact hy) (by omega) (by omega)
          rw [if_pos rfl] at this
          exact this
        · rw [if_neg (by omega)]
          have := fin x (by unfold Sn; rw [e4']; exact hy) (by omega) (by omega)
          rw [if_neg (by omega)] at this
          exact this
  exact ⟨(zz S0 0 2).toNat + 1, key (zz S0 0 2).toNat 0 S1 (by omega) (fun _ _ _ _ _ => rfl) (fun p hp => absurd hp (by omega))⟩
theorem s_X8_areInTime {S0 S : St} {m : Int} {post : Int32 → St → Prop} (hI : Inv S0) (hm : 0 ≤ m ∧ m < 64) (hA : Ag (vset (cv S0 0) 0 3 m) (mz S 76)) (h : ∀ T x, (∀ c k, c ≠ 81 → c ≠ 82 → T c k = S c k) → (x = 0 ∧ ¬ InT (cv S0 0) m) ∨ (x = 1 ∧ InT (cv S0 0) m) → post x T) : wp_X8_areInTime S post := by
  have hH0 := hI.head
  obtain ⟨b0, b0', b1, b1', b2, b2', _⟩ := id hH0.1
  simp only [cv, Nat.add_zero] at b0 b0' b1 b1' b2 b2'
  obtain ⟨hL, _⟩ := id hI
  have hLm := Lb_bits (k0 := 3) hL.1 (by omega) hm
  have hMm : Mb (vset (cv S0 0) 0 3 m) := Mb_vset hL.2.1 (by omega) (by omega)
  have key : ∀ (d n : Nat) (T : St) (x : Int32), n + d = (zz S0 0 2).toNat → (∀ c k, c ≠ 81 → c ≠ 82 → T c k = S c k) → (x = 0 ∧ ¬ InT (cv S0 0) m) ∨ (x = 1 ∧ ∀ p : Nat, p < n → ∃ y, Sn (vset (cv S0 0) 0 3 m) p y ∧ y ≤ cv S0 0 6 p) → L_X8_areInTime_4 post (d + 1) x (iI n) T := by
    intro d
    induction d with
    | zero =>
      intro n T x hn oT hx
      show BD_X8_areInTime_4 (L_X8_areInTime_4 post 0) post _ _ _
      unfold BD_X8_areInTime_4
      have e12 : T 71 12 = iI (zz S0 0 2) := by
        rw [oT _ _ (by omega) (by omega), zz_S S 71 12]
        congr 1
        have := hA.1 2 (by omega)
        rw [vset_ne (by omega)] at this
        exact this
      rw [e12, iI_le (by omega) (by omega) (by omega) (by omega)]
      refine ⟨fun _ => ⟨?_, h T x oT ?_⟩, fun e => absurd (by omega) e⟩
      · rcases hx with ⟨e, _⟩ | ⟨e, _⟩
        · exact Or.inl e
        · exact Or.inr e
      · rcases hx with q | ⟨e, q⟩
        · exact Or.inl q
        · refine Or.inr ⟨e, fun p hp => q p ?_⟩
          have : (p : Int) < zz S0 0 2 := hp
          omega
    | succ d ih =>
      intro n T x hn oT hx
      show BD_X8_areInTime_4 (L_X8_areInTime_4 post (d + 1)) post _ _ _
      unfold BD_X8_areInTime_4
      have e12 : T 71 12 = iI (zz S0 0 2) := by
        rw [oT _ _ (by omega) (by omega), zz_S S 71 12]
        congr 1
        have := hA.1 2 (by omega)
        rw [vset_ne (by omega)] at this
        exact this
      have hn2 : (n : Int) < cv S0 0 0 2 := by show _ < zz S0 0 2; omega
      have hn3 : (n : Int) < vset (cv S0 0) 0 3 m 0 2 := by rw [vset_ne (by omega)]; exact hn2
      obtain ⟨r4, r4', _, _, r6, r6', r7, r7', r8, r8', _⟩ := hLm.2.2 n hn3
      have e00 : vset (cv S0 0) 0 3 m 0 0 = zz S0 0 0 := by rw [vset_ne (by omega)]; rfl
      have mb := hMm n hn3
      have en : iI (n : Int) + 1 = iI ((n + 1 : Nat) : Int) := by rw [show (1 : Int32) = iI 1 from rfl, iI_add]; rfl
      have hAT : Ag (vset (cv S0 0) 0 3 m) (mz T 76) := by rw [mz_fr oT]; exact hA
      obtain ⟨w4, _, w6, w7, w8, _, w10⟩ := hAT.2.2 n hn3
      have w4 : zz T 74 (5 * n + 1) = vset (cv S0 0) 0 3 m 4 n := w4
      have w6 : zz T 74 (5 * n + 4) = vset (cv S0 0) 0 3 m 6 n := w6
      have w7 : zz T 76 (4 * n) = vset (cv S0 0) 0 3 m 7 n := w7
      have w8 : zz T 76 (4 * n + 1) = vset (cv S0 0) 0 3 m 8 n := w8
      have w10 : zz T 76 (4 * n + 3) = vset (cv S0 0) 0 3 m 10 n := w10
      rw [e12, iI_le (by omega) (by omega) (by omega) (by omega), en]
      refine ⟨fun e => absurd e (by omega), fun _ => ⟨fun ex => ⟨Or.inl ex, ?_⟩, fun ex => ?_⟩⟩
      · refine h T x oT ?_
        rcases hx with q | ⟨e, q⟩
        · exact Or.inl q
        · rw [ex] at e
          exact absurd e (by decide)
      · have hx1 : x = 1 ∧ ∀ p : Nat, p < n → ∃ y, Sn (vset (cv S0 0) 0 3 m) p y ∧ y ≤ cv S0 0 6 p := by
          rcases hx with q | q
          · exact absurd q.1 ex
          · exact q
        refine s_X8_errand (by omega) ?_
        rw [zz_S T 74 (5 * n + 1), w4]
        refine s_X8_soonestOf hLm hn3 hAT.sv ((Ag_Lb hAT hLm).2.2 n (by rw [hAT.1 2 (by omega)]; exact hn3)) (by rw [w10]; omega) (by omega) ?_
        rw [w7, w8, w10]
        intro T2 y o2 ya yb hy
        have oT2 : ∀ c k, c ≠ 81 → c ≠ 82 → T2 c k = S c k := fun c k h1 h2 => by rw [o2 c k h1 h2, oT c k h1 h2]
        refine s_X8_due (by omega) ?_
        rw [o2 74 _ (by omega) (by omega), zz_S T 74 (5 * n + 4), w6, iI_lt (by omega) (by omega) (by omega) (by omega)]
        refine ⟨fun hlt => ?_, fun hlt => ?_⟩
        · refine ih (n + 1) T2 0 (by omega) oT2 (Or.inl ⟨rfl, fun hin => ?_⟩)
          obtain ⟨y', q1, q2⟩ := hin n hn2
          rw [Soon_uniq q1 hy] at q2
          rw [vset_ne (by omega)] at hlt
          omega
        · refine ih (n + 1) T2 1 (by omega) oT2 (Or.inr ⟨rfl, fun p hp => ?_⟩)
          by_cases hpn : p = n
          · rw [hpn]
            rw [vset_ne (by omega)] at hlt
            exact ⟨y, hy, by omega⟩
          · exact hx1.2 p (by omega)
  exact ⟨(zz S0 0 2).toNat + 1, key (zz S0 0 2).toNat 0 S 1 (by omega) (fun _ _ _ _ => rfl) (Or.inr ⟨rfl, fun p hp => absurd hp (by omega)⟩)⟩
