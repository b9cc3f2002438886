/-! the text: blanks, figures, numbers -/
def PbS (L : Nat → Int) (n x s : Nat) : Prop := x ≤ s ∧ s ≤ n ∧ (∀ j, x ≤ j → j < s → L j = 32) ∧ (s < n → L s ≠ 32)
theorem PbS_uniq {L : Nat → Int} {n x s s' : Nat} (h : PbS L n x s) (h' : PbS L n x s') : s = s' := by
  obtain ⟨h1, h2, h3, h4⟩ := h
  obtain ⟨k1, k2, k3, k4⟩ := h'
  rcases (show s < s' ∨ s' < s ∨ s = s' by omega) with q | q | q
  · exact absurd (k3 s h1 q) (h4 (by omega))
  · exact absurd (h3 s' k1 q) (k4 (by omega))
  · exact q
def fig (z : Int) : Prop := 48 ≤ z ∧ z ≤ 57
def DgS (L : Nat → Int) (n s e : Nat) : Prop := s ≤ e ∧ e ≤ n ∧ (∀ j, s ≤ j → j < e → fig (L j)) ∧ (e < n → ¬ fig (L e))
theorem DgS_uniq {L : Nat → Int} {n s e e' : Nat} (h : DgS L n s e) (h' : DgS L n s e') : e = e' := by
  obtain ⟨h1, h2, h3, h4⟩ := h
  obtain ⟨k1, k2, k3, k4⟩ := h'
  rcases (show e < e' ∨ e' < e ∨ e = e' by omega) with q | q | q
  · exact absurd (k3 e h1 q) (h4 (by omega))
  · exact absurd (h3 e' k1 q) (k4 (by omega))
  · exact q
def VlF (L : Nat → Int) (s : Nat) : Nat → Int
  | 0 => 0
  | k + 1 => if k < 3 then VlF L s k * 10 + L (s + k) - 48 else VlF L s k
theorem VlF_b {L : Nat → Int} {s : Nat} : ∀ k, (∀ j, s ≤ j → j < s + k → fig (L j)) → 0 ≤ VlF L s k ∧ VlF L s k ≤ 999 ∧ (k = 0 → VlF L s k ≤ 0) ∧ (k = 1 → VlF L s k ≤ 9) ∧ (k = 2 → VlF L s k ≤ 99) := by
  intro k
  induction k with
  | zero => intro _; unfold VlF; omega
  | succ k ih =>
    intro h
    have h1 := ih (fun j q1 q2 => h j q1 (by omega))
    have h2 := h (s + k) (by omega) (by omega)
    unfold fig at h2
    unfold VlF
    by_cases q : k < 3
    · rw [if_pos q]
      rcases (show k = 0 ∨ k = 1 ∨ k = 2 by omega) with e | e | e
      · have := h1.2.2.1 e; omega
      · have := h1.2.2.2.1 e; omega
      · have := h1.2.2.2.2 e; omega
    · rw [if_neg q]; omega
def NBad (L : Nat → Int) (n : Nat) (lo hi : Int) (x : Nat) (c : Int) (s : Nat) : Prop := ∃ e, PbS L n x s ∧ DgS L n s e ∧ ((e = s ∧ c = 1) ∨ (e ≠ s ∧ (3 < e - s ∨ ¬ (lo ≤ VlF L s (e - s) ∧ VlF L s (e - s) ≤ hi)) ∧ c = 2))
def NOk (L : Nat → Int) (n : Nat) (lo hi : Int) (x : Nat) (V : Int) (e s : Nat) : Prop := PbS L n x s ∧ DgS L n s e ∧ e ≠ s ∧ ¬ 3 < e - s ∧ (lo ≤ V ∧ V ≤ hi) ∧ V = VlF L s (e - s)
theorem NBad_uniq {L : Nat → Int} {n : Nat} {lo hi : Int} {x : Nat} {c c' : Int} {s s' : Nat} (h : NBad L n lo hi x c s) (h' : NBad L n lo hi x c' s') : c = c' ∧ s = s' := by
  obtain ⟨e, h1, h2, h3⟩ := h
  obtain ⟨e', k1, k2, k3⟩ := h'
  have := PbS_uniq h1 k1
  subst this
  have := DgS_uniq h2 k2
  subst this
  refine ⟨?_, rfl⟩
  rcases h3 with ⟨q1, q2⟩ | ⟨q1, _, q2⟩ <;> rcases k3 with ⟨w1, w2⟩ | ⟨w1, _, w2⟩
  · omega
  · exact absurd q1 w1
  · exact absurd w1 q1
  · omega
theorem NOk_uniq {L : Nat → Int} {n : Nat} {lo hi : Int} {x : Nat} {V V' : Int} {e e' s s' : Nat} (h : NOk L n lo hi x V e s) (h' : NOk L n lo hi x V' e' s') : V = V' ∧ e = e' ∧ s = s' := by
  obtain ⟨h1, h2, _, _, _, h3⟩ := h
  obtain ⟨k1, k2, _, _, _, k3⟩ := h'
  have := PbS_uniq h1 k1
  subst this
  have := DgS_uniq h2 k2
  subst this
  exact ⟨by rw [h3, k3], rfl, rfl⟩
theorem NOk_bad {L : Nat → Int} {n : Nat} {lo hi : Int} {x : Nat} {V c : Int} {e s s' : Nat} (h : NOk L n lo hi x V e s) (h' : NBad L n lo hi x c s') : False := by
  obtain ⟨h1, h2, h3, h4, h5, h6⟩ := h
  obtain ⟨e', k1, k2, k3⟩ := h'
  have := PbS_uniq h1 k1
  subst this
  have := DgS_uniq h2 k2
  subst this
  rcases k3 with ⟨q1, q2⟩ | ⟨q1, q2, _⟩
  · exact h3 q1
  · rcases q2 with q | q
    · exact h4 q
    · rw [← h6] at q; exact q h5
/-- the text that lies in the class -/
def Cs (L : Nat → Int) (n x : Nat) (T : St) : Prop := T 48 1 = iI (n : Int) ∧ T 48 4 = iI (x : Int) ∧ x ≤ n ∧ n ≤ 250 ∧ ∀ j, j < n → T 49 j = iI (L j) ∧ 0 ≤ L j ∧ L j ≤ 255
theorem Cs_fr {L : Nat → Int} {n x : Nat} {S T : St} (h : Cs L n x S) (hT : ∀ c k, ¬ (c = 48 ∧ 2 ≤ k) → c ≠ 11 → T c k = S c k) (h4 : T 48 4 = S 48 4) : Cs L n x T := by
  obtain ⟨h1, h2, h3, h3', h5⟩ := h
  exact ⟨by rw [hT _ _ (by omega) (by omega)]; exact h1, by rw [h4]; exact h2, h3, h3', fun j hj => by rw [hT _ _ (by omega) (by omega)]; exact h5 j hj⟩
theorem s_X5_passBlanks {L : Nat → Int} {n x : Nat} {S : St} {post : St → Prop} (hC : Cs L n x S) (h : ∀ T s, PbS L n x s → Cs L n s T → (∀ c k, ¬ (c = 48 ∧ k = 4) → T c k = S c k) → post T) : wp_X5_passBlanks S post := by
  obtain ⟨h1, h2, h3, h3', h5⟩ := id hC
  have key : ∀ (d y : Nat) (T : St), y + d = n → Cs L n y T → (∀ c k, ¬ (c = 48 ∧ k = 4) → T c k = S c k) → x ≤ y → (∀ j, x ≤ j → j < y → L j = 32) → L_X5_passBlanks_0 post (d + 1) T := by
    intro d
    induction d with
    | zero =>
      intro y T hy hCT oT hxy hj
      obtain ⟨k1, k2, k3, k3', k5⟩ := id hCT
      show BD_X5_passBlanks_0 (L_X5_passBlanks_0 post 0) post _
      unfold BD_X5_passBlanks_0
      rw [k1, k2, iI_le (by omega) (by omega) (by omega) (by omega)]
      exact ⟨fun _ => h T y ⟨hxy, k3, hj, fun q => absurd q (by omega)⟩ hCT oT, fun e => absurd (by omega) e⟩
    | succ d ih =>
      intro y T hy hCT oT hxy hj
      obtain ⟨k1, k2, k3, k3', k5⟩ := id hCT
      show BD_X5_passBlanks_0 (L_X5_passBlanks_0 post (d + 1)) post _
      unfold BD_X5_passBlanks_0
      have xy : ix (iI (y : Int)) = y := by rw [iI_ix (by omega) (by omega)]; simp
      have iy : vp_in (iI (y : Int)) 250 := (iI_in (by omega) (by omega)).mpr ⟨by omega, by omega⟩
      have en : iI (y : Int) + 1 = iI ((y + 1 : Nat) : Int) := by rw [show (1 : Int32) = iI 1 from rfl, iI_add]; rfl
      obtain ⟨w1, w2, w3⟩ := k5 y (by omega)
      rw [k1, k2, iI_le (by omega) (by omega) (by omega) (by omega), xy, w1, en, show (32 : Int32) = iI 32 from rfl, iI_eq (by omega) (by omega) (by omega) (by omega)]
      refine ⟨fun e => absurd e (by omega), fun _ => ⟨iy, fun hne => h T y ⟨hxy, k3, hj, fun _ => hne⟩ hCT oT, fun heq S3 e3 => ?_⟩⟩
      refine ih (y + 1) S3 (by omega) ⟨by rw [e3, up_ne _ _ (by omega)]; exact k1, by rw [e3, up_at], by omega, k3', fun j hj2 => by rw [e3, up_ne _ _ (by omega)]; exact k5 j hj2⟩ (fun c k hh => by rw [e3, up_ne _ _ hh, oT c k hh]) (by omega) (fun j q1 q2 => ?_)
      by_cases e : j = y
      · rw [e]; exact heq
      · exact hj j q1 (by omega)
  exact ⟨(n - x) + 1, key (n - x) x S (by omega) hC (fun _ _ _ => rfl) (Nat.le_refl _) (fun j q1 q2 => absurd q2 (by omega))⟩
theorem s_X5_blame {c a : Int32} {S : St} {post : St → Prop} (h0 : S 48 3 = 0 → ∀ T, T 48 3 = c → T 48 2 = a → (∀ c k, ¬ (c = 48 ∧ (k = 2 ∨ k = 3)) → T c k = S c k) → post T) (h1 : ¬ S 48 3 = 0 → post S) : wp_X5_blame c a S post := by
  unfold wp_X5_blame
  exact ⟨fun e S2 e2 S3 e3 => h0 e S3 (by rw [e3, up_ne _ _ (by omega), e2, up_at]) (by rw [e3, up_at]) (fun c k hh => by rw [e3, up_ne _ _ (by omega), e2, up_ne _ _ (by omega)]), h1⟩
theorem s_X5_number_bad {lo hi : Int32} {S : St} {post : Int32 → St → Prop} (hb : ¬ S 48 3 = 0) (h : post 0 S) : wp_X5_number lo hi S post := by
  unfold wp_X5_number
  exact ⟨fun e => absurd e hb, fun _ => h⟩
/-- the class reads a number: it goes on, or stands with a fault -/
theorem s_X5_number {L : Nat → Int} {n x : Nat} {lo hi : Int} {S : St} {post : Int32 → St → Prop} (hlo : -1000 ≤ lo ∧ lo ≤ 1000) (hhi : -1000 ≤ hi ∧ hi ≤ 1000) (hf : S 48 3 = 0) (hC : Cs L n x S) (hbad : ∀ T c s, NBad L n lo hi x c s → (c = 1 ∨ c = 2) → T 48 3 = iI c → T 48 2 = iI (s : Int) → (∃ y, Cs L n y T) → (∀ c k, ¬ (c = 48 ∧ 2 ≤ k) → T c k = S c k) → post 0 T) (hok : ∀ T V e s, NOk L n lo hi x V e s → s ≤ 250 → T 48 3 = 0 → T 48 2 = S 48 2 → T 48 5 = iI (s : Int) → Cs L n e T → (∀ c k, ¬ (c = 48 ∧ 2 ≤ k) → T c k = S c k) → post (iI V) T) : wp_X5_number (iI lo) (iI hi) S post := by
  unfold wp_X5_number
  refine ⟨fun _ => ?_, fun e => absurd hf e⟩
  refine s_X5_passBlanks hC ?_
  intro T2 s hPb hC2 o2
  intro S3 e3
  have o3 : ∀ c k, ¬ (c = 48 ∧ k = 5) → S3 c k = T2 c k := fun c k hh => by rw [e3, up_ne _ _ hh]
  have s2 := hPb.2.1
  have n250 := hC.2.2.2.1
  have c3 : Cs L n s S3 := Cs_fr hC2 (fun c k q1 q2 => o3 c k (by omega)) (o3 _ _ (by omega))
  have h35 : S3 48 5 = iI (s : Int) := by rw [e3, up_at]; exact hC2.2.1
  have f3 : S3 48 3 = 0 := by rw [o3 _ _ (by omega), o2 _ _ (by omega)]; exact hf
  have g3 : S3 48 2 = S 48 2 := by rw [o3 _ _ (by omega), o2 _ _ (by omega)]
  have oS3 : ∀ c k, ¬ (c = 48 ∧ 2 ≤ k) → S3 c k = S c k := fun c k hh => by rw [o3 c k (by omega), o2 c k (by omega)]
  -- the end of the figures
  have fin : ∀ (T : St) (e : Nat), DgS L n s e → Cs L n e T → (∀ c k, ¬ (c = 48 ∧ k = 4) → T c k = S3 c k) → B_X5_number_93 post (iI lo) (iI hi) (iI (VlF L s (e - s))) T := by
    intro T e hD hCT oT
    obtain ⟨d1, d2, d3, d4⟩ := id hD
    have vb := VlF_b (L := L) (s := s) (e - s) (fun j q1 q2 => d3 j q1 (by omega))
    have t3 : T 48 3 = 0 := by rw [oT _ _ (by omega)]; exact f3
    have t5 : T 48 5 = iI (s : Int) := by rw [oT _ _ (by omega)]; exact h35
    have oTS : ∀ c k, ¬ (c = 48 ∧ 2 ≤ k) → T c k = S c k := fun c k hh => by rw [oT c k (by omega), oS3 c k hh]
    unfold B_X5_number_93
    rw [hCT.2.1, t5, iI_sub]
    intro v1 e1
    have e1 : v1 = iI ((e - s : Nat) : Int) := by rw [e1]; congr 1; omega
    rw [e1, show (0 : Int32) = iI 0 from rfl, iI_eq (by omega) (by omega) (by omega) (by omega)]
    refine ⟨fun hne => ?_, fun heq => ?_⟩
    · have hes : e ≠ s := by omega
      have two : (3 < e - s ∨ ¬ (lo ≤ VlF L s (e - s) ∧ VlF L s (e - s) ≤ hi)) → B_X5_number_133 post (iI (VlF L s (e - s))) T := by
        intro hq
        unfold B_X5_number_133
        rw [t5]
        refine s_X5_blame (fun _ T4 q3 q2 o4 => ?_) (fun q => absurd t3 q)
        rw [q3]
        refine ⟨fun _ => hbad T4 2 s ⟨e, hPb, hD, Or.inr ⟨hes, hq, rfl⟩⟩ (Or.inr rfl) q3 q2 ⟨e, Cs_fr hCT (fun c k q1 q2 => o4 c k (by omega)) (o4 _ _ (by omega))⟩ (fun c k hh => by rw [o4 c k (by omega), oTS c k hh]), fun q => absurd q (by decide)⟩
      unfold B_X5_number_118
      rw [show (3 : Int32) = iI 3 from rfl, iI_lt (by omega) (by omega) (by omega) (by omega)]
      refine ⟨fun h3 => two (Or.inl (by omega)), fun h3 => ?_⟩
      refine s_X7_outside (by omega) (by omega) (by omega) (by omega) (by omega) (by omega) (fun q1 q2 => ⟨fun _ => ⟨fun q => absurd t3 q, fun _ => ?_⟩, fun q => absurd rfl q⟩) (fun hq => ⟨fun q => absurd q (by decide), fun _ => two (Or.inr hq)⟩)
      exact hok T _ e s ⟨hPb, hD, hes, by omega, ⟨q1, q2⟩, rfl⟩ (by omega) t3 (by rw [oT _ _ (by omega)]; exact g3) t5 hCT oTS
    · have hes : e = s := by omega
      refine s_X5_blame (fun _ T4 q3 q2 o4 => ?_) (fun q => absurd t3 q)
      have done : post 0 T4 := hbad T4 1 s ⟨e, hPb, hD, Or.inl ⟨hes, rfl⟩⟩ (Or.inl rfl) q3 q2 ⟨e, Cs_fr hCT (fun c k q1 q2 => o4 c k (by omega)) (o4 _ _ (by omega))⟩ (fun c k hh => by rw [o4 c k (by omega), oTS c k hh])
      have n3 : ¬ T4 48 3 = 0 := by rw [q3]; decide
      have two : B_X5_number_133 post (iI (VlF L s (e - s))) T4 := by
        unfold B_X5_number_133
        exact s_X5_blame (fun q => absurd q n3) (fun _ => ⟨fun _ => done, fun q => absurd q n3⟩)
      unfold B_X5_number_118
      refine ⟨fun _ => two, fun _ => ?_⟩
      exact s_X7_outside (by omega) (by omega) (by omega) (by omega) (by omega) (by omega) (fun q1 q2 => ⟨fun _ => ⟨fun _ => done, fun q => absurd q n3⟩, fun q => absurd rfl q⟩) (fun hq => ⟨fun q => absurd q (by decide), fun _ => two⟩)
  have key : ∀ (d y : Nat) (T : St), y + d = n → s ≤ y → Cs L n y T → (∀ c k, ¬ (c = 48 ∧ k = 4) → T c k = S3 c k) → (∀ j, s ≤ j → j < y → fig (L j)) → L_X5_number_23 post (d + 1) (iI lo) (iI hi) (iI (VlF L s (y - s))) T := by
    intro d
    induction d with
    | zero =>
      intro y T hy hsy hCT oT hj
      obtain ⟨k1, k2, k3, k3', k5⟩ := id hCT
      show BD_X5_number_23 (L_X5_number_23 post 0) post _ _ _ _
      unfold BD_X5_number_23
      rw [k1, k2, iI_le (by omega) (by omega) (by omega) (by omega)]
      exact ⟨fun _ => fin T y ⟨hsy, k3, hj, fun q => absurd q (by omega)⟩ hCT oT, fun e => absurd (by omega) e⟩
    | succ d ih =>
      intro y T hy hsy hCT oT hj
      obtain ⟨k1, k2, k3, k3', k5⟩ := id hCT
      show BD_X5_number_23 (L_X5_number_23 post (d + 1)) post _ _ _ _
      unfold BD_X5_number_23
      have xy : ix (iI (y : Int)) = y := by rw [iI_ix (by omega) (by omega)]; simp
      have iy : vp_in (iI (y : Int)) 250 := (iI_in (by omega) (by omega)).mpr ⟨by omega, by omega⟩
      have en : iI (y : Int) + 1 = iI ((y + 1 : Nat) : Int) := by rw [show (1 : Int32) = iI 1 from rfl, iI_add]; rfl
      have t5 : T 48 5 = iI (s : Int) := by rw [oT _ _ (by omega)]; exact h35
      obtain ⟨w1, w2, w3⟩ := k5 y (by omega)
      have vb := VlF_b (L := L) (s := s) (y - s) (fun j q1 q2 => hj j q1 (by omega))
      rw [k1, k2, iI_le (by omega) (by omega) (by omega) (by omega), xy, w1]
      refine ⟨fun e => absurd e (by omega), fun _ => ⟨iy, ?_⟩⟩
      unfold wp_X5_isFigure
      rw [show (48 : Int32) = iI 48 from rfl, show (57 : Int32) = iI 57 from rfl, iI_lt (by omega) (by omega) (by omega) (by omega), iI_lt (by omega) (by omega) (by omega) (by omega)]
      have stop : ¬ fig (L y) → B_X5_number_93 post (iI lo) (iI hi) (iI (VlF L s (y - s))) T := fun hq => fin T y ⟨hsy, k3, hj, fun _ => hq⟩ hCT oT
      refine ⟨fun q => ⟨fun _ => stop (fun w => by unfold fig at w; omega), fun w => absurd rfl w⟩, fun q => ⟨fun q2 => ⟨fun _ => stop (fun w => by unfold fig at w; omega), fun w => absurd rfl w⟩, fun q2 => ⟨fun w => absurd w (by decide), fun _ => ?_⟩⟩⟩
      have hfy : fig (L y) := by unfold fig; omega
      have hj' : ∀ j, s ≤ j → j < y + 1 → fig (L j) := fun j q1 q2 => by
        by_cases e : j = y
        · rw [e]; exact hfy
        · exact hj j q1 (by omega)
      have goOn : ∀ (T6 : St) (u : Int), T6 = up T 48 4 (iI ((y + 1 : Nat) : Int)) → u = VlF L s (y + 1 - s) → L_X5_number_23 post (d + 1) (iI lo) (iI hi) (iI u) T6 := by
        intro T6 u e6 hu
        rw [hu]
        exact ih (y + 1) T6 (by omega) (by omega) ⟨by rw [e6, up_ne _ _ (by omega)]; exact k1, by rw [e6, up_at], by omega, k3', fun j hj2 => by rw [e6, up_ne _ _ (by omega)]; exact k5 j hj2⟩ (fun c k hh => by rw [e6, up_ne _ _ hh, oT c k hh]) hj'
      have es : y + 1 - s = (y - s) + 1 := by omega
      rw [k2, t5, xy, w1, en, iI_sub, show (3 : Int32) = iI 3 from rfl, iI_le (by omega) (by omega) (by omega) (by omega)]
      refine ⟨fun h3 S6 e6 => goOn S6 _ e6 ?_, fun h3 => ⟨iy, fun v7 e7 S8 e8 => ?_⟩⟩
      · rw [es]
        show _ = (if y - s < 3 then VlF L s (y - s) * 10 + L (s + (y - s)) - 48 else VlF L s (y - s))
        rw [if_neg (by omega)]
      · rw [show (10 : Int32) = iI 10 from rfl, iI_mul, iI_add, iI_sub] at e7
        rw [e7]
        refine goOn S8 _ e8 ?_
        rw [es]
        show _ = (if y - s < 3 then VlF L s (y - s) * 10 + L (s + (y - s)) - 48 else VlF L s (y - s))
        rw [if_pos (by omega), show s + (y - s) = y from by omega]
  have := key (n - s) s S3 (by omega) (Nat.le_refl _) c3 (fun _ _ _ => rfl) (fun j q1 q2 => absurd q2 (by omega))
  rw [show s - s = 0 from by omega] at this
  exact ⟨(n - s) + 1, this⟩
