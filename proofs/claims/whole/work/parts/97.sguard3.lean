/-! guard: the class -/
def NrK (v : Vw) (r a b : Nat) : Prop := a = b ∨ ∃ r' : Nat, r' < r ∧ ((v 1 r' = (a : Int) ∧ v 2 r' = (b : Int)) ∨ (v 2 r' = (a : Int) ∧ v 1 r' = (b : Int)))
theorem NrK_Nr {v : Vw} {a b : Nat} (hL : Lb v) : NrK v (v 0 1).toNat a b ↔ Nr v a b := by
  have b1 := hL.1.2.2.1
  refine ⟨fun h => ?_, fun h => ?_⟩
  · rcases h with h | ⟨r, hr, h⟩
    · exact Or.inl h
    · have hrv : (r : Int) < v 0 1 := by omega
      have h5 := (hL.2.1 r hrv).2.2.2.2.1
      refine Or.inr ⟨r, hrv, ?_⟩
      rcases h with ⟨h1, h2⟩ | ⟨h1, h2⟩
      · rw [oth_1 h1, h2]
      · rw [oth_2 (by omega) h1, h2]
  · rcases h with h | ⟨r, hr, h⟩
    · exact Or.inl h
    · refine Or.inr ⟨r, by omega, ?_⟩
      by_cases q : v 1 r = (a : Int)
      · rw [oth_1 q] at h
        exact Or.inl ⟨q, h⟩
      · by_cases q2 : v 2 r = (a : Int)
        · rw [oth_2 q q2] at h
          exact Or.inr ⟨q2, h⟩
        · rw [oth_3 q q2] at h
          omega
theorem s_X1_begin {v : Vw} {S : St} {post : St → Prop} (hL : Lb v) (h1 : ∀ r : Nat, (r : Int) < v 0 1 → zz S 1 r = v 1 r ∧ zz S 2 r = v 2 r) (h01 : S 0 1 = iI (v 0 1)) (h : ∀ T, (∀ c k, c ≠ 60 → c ≠ 61 → T c k = S c k) → (∀ a, a < 6 → BS (T 60 a) (fun b => Nr v a b)) → (∀ a, a < 6 → BS (T 61 a) (fun b => b = a)) → post T) : wp_X1_begin S post := by
  obtain ⟨b0, b0', b1, b1', b2, b2', _⟩ := id hL.1
  have roads : ∀ (d r : Nat) (T : St), (r : Int) + d = v 0 1 → (∀ c k, c ≠ 60 → c ≠ 61 → T c k = S c k) → (∀ a, a < 6 → BS (T 60 a) (fun b => NrK v r a b)) → (∀ a, a < 6 → BS (T 61 a) (fun b => b = a)) → L_X1_begin_34 post (d + 1) (iI r) T := by
    intro d
    induction d with
    | zero =>
      intro r T hr oT h60 h61
      show BD_X1_begin_34 (L_X1_begin_34 post 0) post _ _
      unfold BD_X1_begin_34
      rw [oT 0 1 (by omega) (by omega), h01, iI_le (by omega) (by omega) (by omega) (by omega)]
      refine ⟨fun _ => h T oT (fun a ha => BS_congr (h60 a ha) (fun b _ => ?_)) h61, fun e => absurd (by omega) e⟩
      rw [← NrK_Nr hL, show (v 0 1).toNat = r from by omega]
    | succ d ih =>
      intro r T hr oT h60 h61
      show BD_X1_begin_34 (L_X1_begin_34 post (d + 1)) post _ _
      unfold BD_X1_begin_34
      have er : iI (r : Int) + 1 = iI ((r + 1 : Nat) : Int) := by rw [show (1 : Int32) = iI 1 from rfl, iI_add]; rfl
      have xr : ix (iI (r : Int)) = r := by rw [iI_ix (by omega) (by omega)]; simp
      have ir : vp_in (iI (r : Int)) 9 := (iI_in (by omega) (by omega)).mpr ⟨by omega, by omega⟩
      have hrv : (r : Int) < v 0 1 := by omega
      obtain ⟨q1, q2, q3, q4, q5, _⟩ := hL.2.1 r hrv
      obtain ⟨a, ha⟩ : ∃ a : Nat, v 1 r = (a : Int) := ⟨(v 1 r).toNat, by omega⟩
      obtain ⟨b, hb⟩ : ∃ b : Nat, v 2 r = (b : Int) := ⟨(v 2 r).toNat, by omega⟩
      have s1 : ∀ U : St, (∀ c k, c ≠ 60 → c ≠ 61 → U c k = S c k) → U 1 r = iI (a : Int) ∧ U 2 r = iI (b : Int) := fun U oU => by
        rw [oU _ _ (by omega) (by omega), oU _ _ (by omega) (by omega), zz_S S 1 r, zz_S S 2 r, (h1 r hrv).1, (h1 r hrv).2, ha, hb]
        exact ⟨rfl, rfl⟩
      have xa : ix (iI (a : Int)) = a := by rw [iI_ix (by omega) (by omega)]; simp
      have ia : vp_in (iI (a : Int)) 6 := (iI_in (by omega) (by omega)).mpr ⟨by omega, by omega⟩
      have xb : ix (iI (b : Int)) = b := by rw [iI_ix (by omega) (by omega)]; simp
      have ib : vp_in (iI (b : Int)) 6 := (iI_in (by omega) (by omega)).mpr ⟨by omega, by omega⟩
      rw [oT 0 1 (by omega) (by omega), h01, iI_le (by omega) (by omega) (by omega) (by omega), xr, (s1 T oT).1, (s1 T oT).2, xa, er]
      refine ⟨fun e => absurd e (by omega), fun _ => ⟨ir, ia, ir, ia, fun S2 e2 => ?_⟩⟩
      have o2 : ∀ c k, ¬ (c = 60 ∧ k = a) → S2 c k = T c k := fun c k hh => by rw [e2, up_ne _ _ hh]
      have oS2 : ∀ c k, c ≠ 60 → c ≠ 61 → S2 c k = S c k := fun c k a1 a2 => by rw [o2 c k (by omega), oT c k a1 a2]
      rw [(s1 S2 oS2).1, (s1 S2 oS2).2, xb]
      refine ⟨ir, ib, ir, ib, fun S4 e4 => ?_⟩
      have o4 : ∀ c k, ¬ (c = 60 ∧ k = b) → S4 c k = S2 c k := fun c k hh => by rw [e4, up_ne _ _ hh]
      have hab : a ≠ b := by omega
      refine ih (r + 1) S4 (by omega) (fun c k a1 a2 => by rw [o4 c k (by omega), oS2 c k a1 a2]) (fun x hx => ?_) (fun x hx => by rw [o4 _ _ (by omega), o2 _ _ (by omega)]; exact h61 x hx)
      by_cases ex : x = b
      · subst ex
        rw [e4, up_at, o2 _ _ (by omega)]
        refine BS_congr (BS_or (h60 x hx) (BS_1 (a := a) (by omega))) (fun y _ => ?_)
        refine ⟨fun q => ?_, fun q => ?_⟩
        · rcases q with (q | ⟨r', w1, w2⟩) | q
          · exact Or.inl q
          · exact Or.inr ⟨r', by omega, w2⟩
          · exact Or.inr ⟨r, by omega, Or.inr ⟨hb, by rw [ha, q]⟩⟩
        · rcases q with q | ⟨r', w1, w2⟩
          · exact Or.inl (Or.inl q)
          · by_cases e : r' = r
            · subst e
              rcases w2 with ⟨w2, w3⟩ | ⟨w2, w3⟩
              · omega
              · exact Or.inr (by omega)
            · exact Or.inl (Or.inr ⟨r', by omega, w2⟩)
      · rw [o4 _ _ (by omega)]
        by_cases ex2 : x = a
        · subst ex2
          rw [e2, up_at]
          refine BS_congr (BS_or (h60 x hx) (BS_1 (a := b) (by omega))) (fun y _ => ?_)
          refine ⟨fun q => ?_, fun q => ?_⟩
          · rcases q with (q | ⟨r', w1, w2⟩) | q
            · exact Or.inl q
            · exact Or.inr ⟨r', by omega, w2⟩
            · exact Or.inr ⟨r, by omega, Or.inl ⟨ha, by rw [hb, q]⟩⟩
          · rcases q with q | ⟨r', w1, w2⟩
            · exact Or.inl (Or.inl q)
            · by_cases e : r' = r
              · subst e
                rcases w2 with ⟨w2, w3⟩ | ⟨w2, w3⟩
                · exact Or.inr (by omega)
                · omega
              · exact Or.inl (Or.inr ⟨r', by omega, w2⟩)
        · rw [o2 _ _ (by omega)]
          refine BS_congr (h60 x hx) (fun y _ => ?_)
          refine ⟨fun q => ?_, fun q => ?_⟩
          · rcases q with q | ⟨r', w1, w2⟩
            · exact Or.inl q
            · exact Or.inr ⟨r', by omega, w2⟩
          · rcases q with q | ⟨r', w1, w2⟩
            · exact Or.inl q
            · by_cases e : r' = r
              · subst e
                rcases w2 with ⟨w2, w3⟩ | ⟨w2, w3⟩ <;> omega
              · exact Or.inr ⟨r', by omega, w2⟩
  have fill : ∀ (d i : Nat) (T : St), i + d = 6 → (∀ c k, c ≠ 60 → c ≠ 61 → T c k = S c k) → (∀ a, a < i → BS (T 60 a) (fun b => b = a) ∧ BS (T 61 a) (fun b => b = a)) → L_X1_begin_2 post (d + 1) (iI i) T := by
    intro d
    induction d with
    | zero =>
      intro i T hi oT hj
      show BD_X1_begin_2 (L_X1_begin_2 post 0) post _ _
      unfold BD_X1_begin_2
      have h6 : (6 : Int32) ≤ iI (i : Int) ↔ (6 : Int) ≤ i := by
        rw [show (6 : Int32) = iI 6 from rfl]
        exact iI_le (by omega) (by omega) (by omega) (by omega)
      rw [h6]
      refine ⟨fun _ => ⟨(v 0 1).toNat + 1, ?_⟩, fun e => absurd (by omega) e⟩
      have := roads (v 0 1).toNat 0 T (by omega) oT (fun a ha => BS_congr (hj a (by omega)).1 (fun b _ => ⟨fun q => Or.inl q.symm, fun q => ?_⟩)) (fun a ha => (hj a (by omega)).2)
      · exact this
      · rcases q with q | ⟨r', w1, _⟩
        · exact q.symm
        · omega
    | succ d ih =>
      intro i T hi oT hj
      show BD_X1_begin_2 (L_X1_begin_2 post (d + 1)) post _ _
      unfold BD_X1_begin_2
      have xn : ix (iI (i : Int)) = i := by rw [iI_ix (by omega) (by omega)]; simp
      have ni : vp_in (iI (i : Int)) 6 := (iI_in (by omega) (by omega)).mpr ⟨by omega, by omega⟩
      have en : iI (i : Int) + 1 = iI ((i + 1 : Nat) : Int) := by rw [show (1 : Int32) = iI 1 from rfl, iI_add]; rfl
      have h6 : (6 : Int32) ≤ iI (i : Int) ↔ (6 : Int) ≤ i := by
        rw [show (6 : Int32) = iI 6 from rfl]
        exact iI_le (by omega) (by omega) (by omega) (by omega)
      rw [h6, xn, en]
      refine ⟨fun q => absurd q (by omega), fun _ => ⟨ni, fun S2 e2 => ⟨ni, fun S4 e4 => ?_⟩⟩⟩
      refine ih (i + 1) S4 (by omega) (fun c k a1 a2 => by rw [e4, up_ne _ _ (by omega), e2, up_ne _ _ (by omega), oT c k a1 a2]) (fun a ha => ?_)
      by_cases e : a = i
      · subst e
        refine ⟨?_, ?_⟩
        · rw [e4, up_ne _ _ (by omega), e2, up_at]; exact BS_1 (by omega)
        · rw [e4, up_at]; exact BS_1 (by omega)
      · refine ⟨?_, ?_⟩
        · rw [e4, up_ne _ _ (by omega), e2, up_ne _ _ (by omega)]; exact (hj a (by omega)).1
        · rw [e4, up_ne _ _ (by omega), e2, up_ne _ _ (by omega)]; exact (hj a (by omega)).2
  have := fill 6 0 S (by omega) (fun _ _ _ _ => rfl) (fun a ha => absurd ha (by omega))
  exact ⟨6 + 1, this⟩
def CC (v : Vw) (n k : Nat) (T : St) : Prop := ∀ t, t < n → BS (T 61 t) (fun g => g < n ∧ Cgt v n k t g)
theorem s_X1_lookOn {v : Vw} {n k : Nat} {S : St} {post : St → Prop} (hn : n ≤ 6) (h60 : ∀ a, a < 6 → BS (S 60 a) (fun b => Nr v a b)) (hC : CC v n k S) (h : ∀ T, (∀ c k, c ≠ 61 → c ≠ 62 → T c k = S c k) → CC v n (k + 1) T → post T) : wp_X1_lookOn (iI n) S post := by
  -- the thief's turn
  have thief : ∀ (T0 : St), (∀ c k, c ≠ 62 → T0 c k = S c k) → (∀ t, t < n → BS (T0 62 t) (fun g => g < n ∧ Hgt v n k t g)) → B_X1_lookOn_63 post (iI n) 0 T0 := by
    intro T0 o0 h62
    have outer : ∀ (d t : Nat) (T : St), t + d = n → (∀ c k, c ≠ 61 → T c k = T0 c k) → (∀ t', t' < n → BS (T 61 t') (fun g => g < n ∧ Cgt v n (if t' < t then k + 1 else k) t' g)) → L_X1_lookOn_63 post (d + 1) (iI n) (iI t) T := by
      intro d
      induction d with
      | zero =>
        intro t T ht oT hj
        show BD_X1_lookOn_63 (L_X1_lookOn_63 post 0) post _ _ _
        unfold BD_X1_lookOn_63
        rw [iI_le (by omega) (by omega) (by omega) (by omega)]
        refine ⟨fun _ => h T (fun c k a1 a2 => by rw [oT c k a1, o0 c k a2]) (fun t' ht' => ?_), fun e => absurd (by omega) e⟩
        have := hj t' ht'
        rw [if_pos (by omega)] at this
        exact this
      | succ d ih =>
        intro t T ht oT hj
        show BD_X1_lookOn_63 (L_X1_lookOn_63 post (d + 1)) post _ _ _
        unfold BD_X1_lookOn_63
        rw [iI_le (by omega) (by omega) (by omega) (by omega)]
        refine ⟨fun e => absurd e (by omega), fun _ v2 e2 => ?_⟩
        have et : iI (t : Int) + 1 = iI ((t + 1 : Nat) : Int) := by rw [show (1 : Int32) = iI 1 from rfl, iI_add]; rfl
        have xt : ix (iI (t : Int)) = t := by rw [iI_ix (by omega) (by omega)]; simp
        have it : vp_in (iI (t : Int)) 6 := (iI_in (by omega) (by omega)).mpr ⟨by omega, by omega⟩
        have inner : ∀ (d' i : Nat) (x : Int32), i + d' = n → BS x (fun g => g < n ∧ ∀ to, to < i → Nr v t to → Hgt v n k to g) → L_X1_lookOn_77 (L_X1_lookOn_63 post (d + 1)) post (d' + 1) (iI n) (iI t) x (iI i) T := by
          intro d'
          induction d' with
          | zero =>
            intro i x hi hx
            show BD_X1_lookOn_77 (L_X1_lookOn_63 post (d + 1)) (L_X1_lookOn_77 (L_X1_lookOn_63 post (d + 1)) post 0) post _ _ _ _ _
            unfold BD_X1_lookOn_77
            rw [iI_le (by omega) (by omega) (by omega) (by omega)]
            refine ⟨fun _ => ?_, fun e => absurd (by omega) e⟩
            unfold B_X1_lookOn_114
            rw [xt, et]
            refine ⟨it, it, fun S1 e1 => ?_⟩
            refine ih (t + 1) S1 (by omega) (fun c k a1 => by rw [e1, up_ne _ _ (by omega), oT c k a1]) (fun t' ht' => ?_)
            by_cases e : t' = t
            · subst e
              rw [e1, up_at, if_pos (by omega)]
              have h61 := hj t' ht'
              rw [if_neg (by omega)] at h61
              refine BS_congr (BS_or h61 hx) (fun g _ => ?_)
              rw [show i = n from by omega]
              refine ⟨fun q => ?_, fun q => ?_⟩
              · rcases q with q | q
                · exact ⟨q.1, Or.inl q.2⟩
                · exact ⟨q.1, Or.inr q.2⟩
              · rcases q.2 with w | w
                · exact Or.inl ⟨q.1, w⟩
                · exact Or.inr ⟨q.1, w⟩
            · rw [e1, up_ne _ _ (by omega)]
              have := hj t' ht'
              by_cases e2 : t' < t
              · rw [if_pos e2] at this; rw [if_pos (by omega)]; exact this
              · rw [if_neg e2] at this; rw [if_neg (by omega)]; exact this
          | succ d' ih' =>
            intro i x hi hx
            show BD_X1_lookOn_77 (L_X1_lookOn_63 post (d + 1)) (L_X1_lookOn_77 (L_X1_lookOn_63 post (d + 1)) post (d' + 1)) post _ _ _ _ _
            unfold BD_X1_lookOn_77
            have ei : iI (i : Int) + 1 = iI ((i + 1 : Nat) : Int) := by rw [show (1 : Int32) = iI 1 from rfl, iI_add]; rfl
            have xi : ix (iI (i : Int)) = i := by rw [iI_ix (by omega) (by omega)]; simp
            have ii : vp_in (iI (i : Int)) 6 := (iI_in (by omega) (by omega)).mpr ⟨by omega, by omega⟩
            have hnb := BS_bit (h60 t (by omega)) (show i < 6 by omega)
            rw [iI_le (by omega) (by omega) (by omega) (by omega), xt, xi, ei, oT 60 t (by omega), o0 60 t (by omega), oT 62 i (by omega), hnb]
            refine ⟨fun e => absurd e (by omega), fun _ => ⟨it, fun hno => ih' (i + 1) x (by omega) (BS_congr hx (fun g _ => ?_)), fun hyes => ⟨ii, fun v3 e3 => ?_⟩⟩⟩
            · refine ⟨fun q => ⟨q.1, fun to h1 h2 => ?_⟩, fun q => ⟨q.1, fun to h1 h2 => q.2 to (by omega) h2⟩⟩
              by_cases e : to = i
              · subst e; exact absurd h2 hno
              · exact q.2 to (by omega) h2
            · rw [e3]
              refine ih' (i + 1) _ (by omega) (BS_congr (BS_and hx (h62 i (by omega))) (fun g _ => ?_))
              refine ⟨fun q => ⟨q.1.1, fun to h1 h2 => ?_⟩, fun q => ⟨⟨q.1, fun to h1 h2 => q.2 to (by omega) h2⟩, q.1, q.2 i (by omega) hyes⟩⟩
              by_cases e : to = i
              · subst e; exact q.2.2
              · exact q.1.2 to (by omega) h2
        rw [e2]
        have := inner n 0 _ (by omega) (BS_congr (BS_all hn) (fun g _ => ⟨fun q => ⟨q, fun to h1 => absurd h1 (by omega)⟩, fun q => q.1⟩))
        exact ⟨n + 1, this⟩
    have := outer n 0 T0 (by omega) (fun _ _ _ => rfl) (fun t' ht' => by
      rw [if_neg (by omega), o0 _ _ (by omega)]
      exact hC t' ht')
    exact ⟨n + 1, this⟩
  -- the guard's turn
  have outer : ∀ (d t : Nat) (T : St), t + d = n → (∀ c k, c ≠ 62 → T c k = S c k) → (∀ t', t' < t → BS (T 62 t') (fun g => g < n ∧ Hgt v n k t' g)) → L_X1_lookOn_2 post (d + 1) (iI n) (iI t) T := by
    intro d
    induction d with
    | zero =>
      intro t T ht oT hj
      show BD_X1_lookOn_2 (L_X1_lookOn_2 post 0) post _ _ _
      unfold BD_X1_lookOn_2
      rw [iI_le (by omega) (by omega) (by omega) (by omega)]
      exact ⟨fun _ => thief T oT (fun t' ht' => hj t' (by omega)), fun e => absurd (by omega) e⟩
    | succ d ih =>
      intro t T ht oT hj
      show BD_X1_lookOn_2 (L_X1_lookOn_2 post (d + 1)) post _ _ _
      unfold BD_X1_lookOn_2
      have et : iI (t : Int) + 1 = iI ((t + 1 : Nat) : Int) := by rw [show (1 : Int32) = iI 1 from rfl, iI_add]; rfl
      have xt : ix (iI (t : Int)) = t := by rw [iI_ix (by omega) (by omega)]; simp
      have it : vp_in (iI (t : Int)) 6 := (iI_in (by omega) (by omega)).mpr ⟨by omega, by omega⟩
      have inner : ∀ (d' i : Nat) (T' : St), i + d' = n → (∀ c k, ¬ (c = 62 ∧ k = t) → T' c k = T c k) → BS (T' 62 t) (fun g => g < i ∧ Hgt v n k t g) → L_X1_lookOn_16 (L_X1_lookOn_2 post (d + 1)) post (d' + 1) (iI n) (iI t) (iI i) T' := by
        intro d'
        induction d' with
        | zero =>
          intro i T' hi oT' hx
          show BD_X1_lookOn_16 (L_X1_lookOn_2 post (d + 1)) (L_X1_lookOn_16 (L_X1_lookOn_2 post (d + 1)) post 0) post _ _ _ _
          unfold BD_X1_lookOn_16
          rw [iI_le (by omega) (by omega) (by omega) (by omega), et]
          refine ⟨fun _ => ih (t + 1) T' (by omega) (fun c k a1 => by rw [oT' c k (by omega), oT c k a1]) (fun t' ht' => ?_), fun e => absurd (by omega) e⟩
          by_cases e : t' = t
          · subst e
            rw [show i = n from by omega] at hx
            exact hx
          · rw [oT' _ _ (by omega)]; exact hj t' (by omega)
        | succ d' ih' =>
          intro i T' hi oT' hx
          show BD_X1_lookOn_16 (L_X1_lookOn_2 post (d + 1)) (L_X1_lookOn_16 (L_X1_lookOn_2 post (d + 1)) post (d' + 1)) post _ _ _ _
          unfold BD_X1_lookOn_16
          have ei : iI (i : Int) + 1 = iI ((i + 1 : Nat) : Int) := by rw [show (1 : Int32) = iI 1 from rfl, iI_add]; rfl
          have xi : ix (iI (i : Int)) = i := by rw [iI_ix (by omega) (by omega)]; simp
          have ii : vp_in (iI (i : Int)) 6 := (iI_in (by omega) (by omega)).mpr ⟨by omega, by omega⟩
          have hz := BS_zero (BS_and (h60 i (by omega)) (hC t (by omega)))
          have hh : (∀ b, b < 6 → ¬ (Nr v i b ∧ b < n ∧ Cgt v n k t b)) ↔ ¬ Hgt v n k t i := by
            refine ⟨fun q ⟨go, w1, w2, w3⟩ => q go (by omega) ⟨w2, w1, w3⟩, fun q b _ w => q ⟨b, w.2.1, w.1, w.2.2⟩⟩
          rw [iI_le (by omega) (by omega) (by omega) (by omega), xt, xi, ei, oT' 60 i (by omega), oT 60 i (by omega), oT' 61 t (by omega), oT 61 t (by omega), hz, hh]
          refine ⟨fun e => absurd e (by omega), fun _ => ⟨ii, it, fun hno => ih' (i + 1) T' (by omega) oT' (BS_congr hx (fun g _ => ?_)), fun hyes => ⟨it, it, fun S3 e3 => ?_⟩⟩⟩
          · refine ⟨fun q => ⟨by omega, q.2⟩, fun q => ⟨?_, q.2⟩⟩
            have : g ≠ i := fun e => by rw [e] at q; exact hno q.2
            have := q.1
            omega
          · refine ih' (i + 1) S3 (by omega) (fun c k hh => by rw [e3, up_ne _ _ hh, oT' c k hh]) ?_
            rw [e3, up_at]
            refine BS_congr (BS_or hx (BS_1 (a := i) (by omega))) (fun g _ => ?_)
            refine ⟨fun q => ?_, fun q => ?_⟩
            · rcases q with q | q
              · exact ⟨by omega, q.2⟩
              · rw [q]; exact ⟨by omega, Classical.byContradiction hyes⟩
            · by_cases e : g = i
              · exact Or.inr e
              · exact Or.inl ⟨by omega, q.2⟩
      rw [iI_le (by omega) (by omega) (by omega) (by omega), xt]
      refine ⟨fun e => absurd e (by omega), fun _ => ⟨it, fun S2 e2 => ?_⟩⟩
      exact ⟨n + 1, inner n 0 S2 (by omega) (fun c k hh => by rw [e2, up_ne _ _ hh]) (by rw [e2, up_at]; exact BS_congr BS_0 (fun g _ => ⟨fun q => absurd q id, fun q => absurd q.1 (by omega)⟩))⟩
  exact ⟨n + 1, outer n 0 S (by omega) (fun _ _ _ => rfl) (fun t' ht' => absurd ht' (by omega))⟩
/-- the answer -/
def GA (v : Vw) (n t g : Nat) (x : Int) : Prop := (x = -1 ∧ ¬ Cgt v n 36 t g) ∨ ∃ k : Nat, x = (k : Int) ∧ k ≤ 36 ∧ Cgt v n k t g ∧ ∀ j, j < k → ¬ Cgt v n j t g
theorem GA_VS {v : Vw} {n t g : Nat} {x y : Int} (hn : n ≤ 6) (ht : t < n) (hg : g < n) (h : GA v n t g x) (hy : VS v n 40 t g y) : x = if y = 100000000 then -1 else y := by
  obtain ⟨h1, h2⟩ := hy
  rcases h with ⟨e, h⟩ | ⟨k, e, hk, h3, h4⟩
  · have : ¬ y ≤ ((40 : Nat) : Int) := fun q => h (Cgt_36 hn ht hg ((h2 40 (by omega)).mp q))
    rw [if_pos (by omega), e]
  · have a := (h2 k (by omega)).mpr h3
    have b : ¬ y < k := fun q => by
      have := (h2 y.toNat (by omega)).mp (by omega)
      exact h4 y.toNat (by omega) this
    rw [if_neg (by omega), e]
    omega
theorem s_X1_turns {v : Vw} {n t g : Nat} {S : St} {post : Int32 → St → Prop} (hL : Lb v) (hn : v 0 0 = (n : Int)) (h1 : ∀ r : Nat, (r : Int) < v 0 1 → zz S 1 r = v 1 r ∧ zz S 2 r = v 2 r) (h01 : S 0 1 = iI (v 0 1)) (h00 : S 0 0 = iI (n : Int)) (ht : t < n) (hg : g < n) (h : ∀ T x, (∀ c k, c ≠ 60 → c ≠ 61 → c ≠ 62 → T c k = S c k) → GA v n t g x → post (iI x) T) : wp_X1_turns (iI t) (iI g) S post := by
  obtain ⟨b0, b0', b1, b1', b2, b2', _⟩ := id hL.1
  have xt : ix (iI (t : Int)) = t := by rw [iI_ix (by omega) (by omega)]; simp
  have it : vp_in (iI (t : Int)) 6 := (iI_in (by omega) (by omega)).mpr ⟨by omega, by omega⟩
  have loop : ∀ (d k : Nat) (T : St), k + d = 36 → (∀ c k, c ≠ 60 → c ≠ 61 → c ≠ 62 → T c k = S c k) → (∀ a, a < 6 → BS (T 60 a) (fun b => Nr v a b)) → CC v n k T → (∀ j, j ≤ k → ¬ Cgt v n j t g) → L_X1_turns_15 post (d + 1) (iI t) (iI g) (iI ((k + 1 : Nat) : Int)) T := by
    intro d
    induction d with
    | zero =>
      intro k T hk oT h60 hC hno
      show BD_X1_turns_15 (L_X1_turns_15 post 0) post _ _ _ _
      unfold BD_X1_turns_15
      rw [show (36 : Int32) = iI 36 from rfl, iI_lt (by omega) (by omega) (by omega) (by omega)]
      exact ⟨fun _ => h T (-1) oT (Or.inl ⟨rfl, hno 36 (by omega)⟩), fun e => absurd (by omega) e⟩
    | succ d ih =>
      intro k T hk oT h60 hC hno
      show BD_X1_turns_15 (L_X1_turns_15 post (d + 1)) post _ _ _ _
      unfold BD_X1_turns_15
      have ek : iI ((k + 1 : Nat) : Int) + 1 = iI ((k + 1 + 1 : Nat) : Int) := by rw [show (1 : Int32) = iI 1 from rfl, iI_add]; rfl
      rw [show (36 : Int32) = iI 36 from rfl, iI_lt (by omega) (by omega) (by omega) (by omega), oT 0 0 (by omega) (by omega) (by omega), h00, ek]
      refine ⟨fun e => absurd e (by omega), fun _ => ?_⟩
      refine s_X1_lookOn (by omega) h60 hC ?_
      intro T2 o2 hC2
      have hb := BS_bit (hC2 t ht) (show g < 6 by omega)
      rw [xt, hb]
      have oT2 : ∀ c k, c ≠ 60 → c ≠ 61 → c ≠ 62 → T2 c k = S c k := fun c k a1 a2 a3 => by rw [o2 c k a2 a3, oT c k a1 a2 a3]
      refine ⟨it, fun hq => ih (k + 1) T2 (by omega) oT2 (fun a ha => by rw [o2 _ _ (by omega) (by omega)]; exact h60 a ha) hC2 (fun j hj => ?_), fun hq => h T2 _ oT2 (Or.inr ⟨k + 1, rfl, by omega, hq.2, fun j hj => hno j (by omega)⟩)⟩
      by_cases e : j = k + 1
      · rw [e]; exact fun q => hq ⟨hg, q⟩
      · exact hno j (by omega)
  unfold wp_X1_turns
  refine s_X1_begin hL h1 h01 ?_
  intro T oT h60 h61
  rw [iI_eq (by omega) (by omega) (by omega) (by omega)]
  refine ⟨fun hne => ⟨36 + 1, ?_⟩, fun heq => ?_⟩
  · have hC0 : CC v n 0 T := fun t' ht' => BS_congr (h61 t' (by omega)) (fun b _ => ⟨fun q => ⟨by omega, q.symm⟩, fun q => q.2.symm⟩)
    have := loop 36 0 T (by omega) (fun c k a1 a2 _ => oT c k a1 a2) h60 hC0 (fun j hj => by
      have : j = 0 := by omega
      rw [this]
      intro q
      have q : t = g := q
      omega)
    exact this
  · have e : t = g := by omega
    have := h T 0 (fun c k a1 a2 _ => oT c k a1 a2) (Or.inr ⟨0, rfl, by omega, e, fun j hj => absurd hj (by omega)⟩)
    exact this
theorem call_guard (x1 x2 : Int32) : CallOk (wp_X7_guard x1 x2) (wp_X8_guard x1 x2) := by
  intro S hI G hG P hP
  obtain ⟨p, p1, p2, rfl⟩ := iI_ex x1
  obtain ⟨q, q1, q2, rfl⟩ := iI_ex x2
  have hH0 := hI.head
  obtain ⟨b0, b0', b1, b1', b2, b2', _⟩ := id hH0.1
  simp only [cv, Nat.add_zero] at b0 b0' b1 b1' b2 b2'
  obtain ⟨hL, _⟩ := id hI
  obtain ⟨n, hn⟩ : ∃ n : Nat, zz S 0 0 = (n : Int) := ⟨(zz S 0 0).toNat, by omega⟩
  have hn' : cv S 0 0 0 = (n : Int) := hn
  have hfin : ∀ (T : St), (∀ c k, ¬ (60 ≤ c ∧ c ≤ 62) → ¬ (c = 71 ∧ k = 0) → c ≠ 90 → c ≠ 91 → T c k = S c k) → Inv T := fun T h => hI.sm (fun c k hc => h c k (by unfold ps at hc; omega) (by unfold ps at hc; omega) (by unfold ps at hc; omega) (by unfold ps at hc; omega))
  have M : ∀ (T : St) (w : Int32), (∀ c k, ¬ (60 ≤ c ∧ c ≤ 62) → T c k = S c k) → (¬ ((0 ≤ p ∧ p < zz S 0 0) ∧ (0 ≤ q ∧ q < zz S 0 0)) → w = -1000000001) → ((0 ≤ p ∧ p < zz S 0 0) ∧ (0 ≤ q ∧ q < zz S 0 0) → ∃ x, GA (cv S 0) n p.toNat q.toNat x ∧ w = iI x) → wp_X8_guard (iI p) (iI q) T (P w) := by
    intro T w hT1 k0 k1
    unfold wp_X8_guard
    intro S1 e1
    have o1 : ∀ c k, ¬ (60 ≤ c ∧ c ≤ 62) → ¬ (c = 71 ∧ k = 0) → S1 c k = S c k := fun c k h2 h3 => by rw [e1, up_ne _ _ h3, hT1 c k h2]
    have z1' : ∀ c k, ¬ (60 ≤ c ∧ c ≤ 62) → ¬ (c = 71 ∧ k = 0) → zz S1 c k = zz S c k := fun c k h2 h3 => by unfold zz; rw [o1 c k h2 h3]
    have hI1 : Inv S1 := hfin S1 (fun c k h2 h3 _ _ => o1 c k h2 h3)
    have c10 : zz S1 71 10 = zz S 0 0 := (z1' _ _ (by omega) (by omega)).trans hH0.2.2.1
    refine s_X8_isPlace p1 p2 (by omega) (fun h1 h2 => ⟨fun e => absurd e (by decide), fun _ => ?_⟩) (fun h => ⟨fun _ => CallOk.fin (S := S) hP hI1 (k0 (by omega)), fun e => absurd rfl e⟩)
    refine s_X8_isPlace q1 q2 (by omega) (fun h3 h4 => ⟨fun _ => ?_, fun e => absurd e (by decide)⟩) (fun h => ⟨fun e => absurd rfl e, fun _ => CallOk.fin (S := S) hP hI1 (k0 (by omega))⟩)
    obtain ⟨x, hx, hw⟩ := k1 (by omega)
    have hpp : iI p = iI (p.toNat : Int) := by congr 1; omega
    have hqq : iI q = iI (q.toNat : Int) := by congr 1; omega
    rw [hpp, hqq]
    refine s_guard_26 (v := cv S 0) hL.1 hn' (fun r hr => ?_) ?_ ?_ (by omega) (by omega) ?_
    · have := hL.2.2.2.1 r hr
      rw [z1' _ _ (by omega) (by omega), z1' _ _ (by omega) (by omega)]
      exact ⟨this.1, this.2.1⟩
    · rw [zz_S S1 71 11, z1' _ _ (by omega) (by omega)]
      congr 1
      exact hH0.2.2.2.1
    · rw [zz_S S1 71 10, c10, hn]
    · intro T2 y o2 hy
      have hI2 : Inv T2 := hfin T2 (fun c k a1 a2 a3 a4 => by rw [o2 c k a3 a4, o1 c k a1 a2])
      exact CallOk.fin (S := S) hP hI2 (by rw [hw, GA_VS (by omega) (by omega) (by omega) hx hy])
  unfold wp_X7_guard
  refine s_X6_hasPlace (o := 0) p1 p2 (fun h1 h2 => ⟨fun e => absurd e (by decide), fun _ => ?_⟩) (fun h => ⟨fun _ => hG _ (M S _ (fun _ _ _ => rfl) (fun _ => rfl) (fun e => absurd e.1 h)), fun e => absurd rfl e⟩)
  refine s_X6_hasPlace (o := 0) q1 q2 (fun h3 h4 => ⟨fun _ => ?_, fun e => absurd e (by decide)⟩) (fun h => ⟨fun e => absurd rfl e, fun _ => hG _ (M S _ (fun _ _ _ => rfl) (fun _ => rfl) (fun e => absurd e.2 h))⟩)
  have hpp : iI p = iI (p.toNat : Int) := by congr 1; omega
  have hqq : iI q = iI (q.toNat : Int) := by congr 1; omega
  have key := s_X1_turns (v := cv S 0) (n := n) (t := p.toNat) (g := q.toNat) (S := S) (post := fun r8 S7 => G (wp_X8_guard (iI p) (iI q) S7 (P r8))) hL.1 hn' (fun r _ => ⟨rfl, rfl⟩) (zz_S S 0 1) (by rw [zz_S S 0 0, hn]) (by omega) (by omega)
  rw [← hpp, ← hqq] at key
  refine key ?_
  intro T x oT hx
  exact hG _ (M T _ (fun c k a1 => oT c k (by omega) (by omega) (by omega)) (fun e => absurd ⟨⟨h1, h2⟩, h3, h4⟩ e) (fun _ => ⟨x, hx, rfl⟩))
