/-! the text: roads and persons, by the reference -/
def BdM (o : Out) (S T : St) : Prop := ∃ (c : Int) (a : Nat), o = Sum.inl (c, a) ∧ 1 ≤ c ∧ c ≤ 4 ∧ T 71 8 = iI c ∧ T 71 9 = iI (a : Int) ∧ mF S T
theorem BdM_ne {o : Out} {S T : St} (h : BdM o S T) : ¬ T 71 8 = 0 := by
  obtain ⟨c, a, _, h1, h2, h3, _⟩ := h
  exact ne03 h1 h2 h3
theorem BdM_fr {o : Out} {S T U : St} (h : BdM o S T) (hU : ∀ c k, ¬ (c = 71 ∧ 15 ≤ k ∧ k ≤ 19) → ¬ (c = 73 ∧ 27 ≤ k) → ¬ (c = 74 ∧ 20 ≤ k) → U c k = T c k) : BdM o S U := by
  obtain ⟨c, a, h0, h1, h2, h3, h4, h5⟩ := h
  exact ⟨c, a, h0, h1, h2, by rw [hU _ _ (by omega) (by omega) (by omega)]; exact h3, by rw [hU _ _ (by omega) (by omega) (by omega)]; exact h4, fun c k a1 a2 a3 => by rw [hU c k (by omega) a2 a3, h5 c k a1 a2 a3]⟩
theorem BdM_end {L : Nat → Int} {n : Nat} {sd : Int} {o : Out} {S T : St} {post : St → Prop} (h : BdM o S T) (hO : OutM L n sd o S post) : wp_X8_ends T (fun S12 => post S12) := by
  have n8 := BdM_ne h
  obtain ⟨c, a, h0, h1, h2, h3, h4, h5⟩ := h
  exact s_ends_bad n8 (hO.1 T c a h0 h1 h2 h3 h4 h5)
theorem s_clQ {L : Nat → Int} {n s s1 : Nat} {sd : Int} {v : Vw} {o : Out} {S : St} {post : St → Prop} (hG : Gd v) (hM : Mg sd v S) (hT : Tx L n S) (h8 : S 71 8 = 0) (h9 : S 71 9 = -1) (hPb : PbS L n (s + 1) s1) (hTk : Tk L n s1 S) (hlt : v 0 1 < 9) (hN : Nx L n 0 (v 0 0 - 1) (s + 1) o (fun a x1 _ => Nx L n 0 (v 0 0 - 1) x1 o (fun b x2 s2 => (a = b ∧ o = Sum.inl (4, s2)) ∨ (a ≠ b ∧ Nx L n 1 20 x2 o (fun m x3 _ => EndR L n x3 (addR v a b m) o))))) (hO : OutM L n sd o S post) : wp_X8_clause 114 S (fun S11 => wp_X8_ends S11 (fun S12 => post S12)) := by
  obtain ⟨b0, b0', b1, b1', b2, b2', b3, b3', b4, b4', _⟩ := id hG.1.1
  obtain ⟨⟨m1, m2, m3, m4, m5⟩, m6, m7, m8⟩ := id hM
  obtain ⟨w, hw⟩ : ∃ w : Nat, v 0 1 = (w : Int) := ⟨(v 0 1).toNat, by omega⟩
  have wt : (v 0 1).toNat = w := by omega
  have em : S 71 15 - 1 = iI (v 0 0 - 1) := by rw [m1, show (1 : Int32) = iI 1 from rfl, iI_sub]
  have ev : ∀ v29 : Int32, v29 = (27 : Int32) + (3 : Int32) * S 71 16 → v29 = iI ((27 + 3 * w : Nat) : Int) := fun v29 e => by
    rw [e, m2, hw, show (27 : Int32) = iI 27 from rfl, show (3 : Int32) = iI 3 from rfl, iI_mul, iI_add]
    rfl
  have x0 : ix (iI ((27 + 3 * w : Nat) : Int)) = 27 + 3 * w := by rw [iI_ix (by omega) (by omega)]; omega
  have i0 : vp_in (iI ((27 + 3 * w : Nat) : Int)) 54 := (iI_in (by omega) (by omega)).mpr ⟨by omega, by omega⟩
  have a1 : iI ((27 + 3 * w : Nat) : Int) + 1 = iI ((27 + 3 * w + 1 : Nat) : Int) := by rw [show (1 : Int32) = iI 1 from rfl, iI_add]; rfl
  have a2 : iI ((27 + 3 * w : Nat) : Int) + 2 = iI ((27 + 3 * w + 2 : Nat) : Int) := by rw [show (2 : Int32) = iI 2 from rfl, iI_add]; rfl
  have x1 : ix (iI ((27 + 3 * w + 1 : Nat) : Int)) = 27 + 3 * w + 1 := by rw [iI_ix (by omega) (by omega)]; omega
  have i1 : vp_in (iI ((27 + 3 * w + 1 : Nat) : Int)) 54 := (iI_in (by omega) (by omega)).mpr ⟨by omega, by omega⟩
  have x2 : ix (iI ((27 + 3 * w + 2 : Nat) : Int)) = 27 + 3 * w + 2 := by rw [iI_ix (by omega) (by omega)]; omega
  have i2 : vp_in (iI ((27 + 3 * w + 2 : Nat) : Int)) 54 := (iI_in (by omega) (by omega)).mpr ⟨by omega, by omega⟩
  -- after a fault
  have c3 : ∀ (T : St) (r : Int32), BdM o S T → (vp_in (iI ((27 + 3 * w + 2 : Nat) : Int)) 54 ∧ (∀ S40 : St, S40 = up T 73 (27 + 3 * w + 2) r → ∀ S42 : St, S42 = up S40 71 16 ((S40 71 16) + 1) → wp_X8_ends S42 (fun S12 => post S12))) := by
    intro T r hB
    refine ⟨i2, fun S40 e40 S42 e42 => ?_⟩
    exact BdM_end (BdM_fr hB (fun c k g1 g2 g3 => by rw [e42, up_ne _ _ (by omega), e40, up_ne _ _ (by omega)])) hO
  have c2 : ∀ (T : St) (r : Int32), BdM o S T → (vp_in (iI ((27 + 3 * w + 1 : Nat) : Int)) 54 ∧ (∀ S36 : St, S36 = up T 73 (27 + 3 * w + 1) r → wp_X8_number 1 20 (-1) 0 S36 (fun r39 S38 => vp_in (iI ((27 + 3 * w + 2 : Nat) : Int)) 54 ∧ (∀ S40 : St, S40 = up S38 73 (27 + 3 * w + 2) r39 → ∀ S42 : St, S42 = up S40 71 16 ((S40 71 16) + 1) → wp_X8_ends S42 (fun S12 => post S12))))) := by
    intro T r hB
    refine ⟨i1, fun S36 e36 => ?_⟩
    have hB2 : BdM o S S36 := BdM_fr hB (fun c k g1 g2 g3 => by rw [e36, up_ne _ _ (by omega)])
    exact s_X8_number_bad (BdM_ne hB2) (fun r => c3 S36 r hB2)
  unfold wp_X8_clause
  refine ⟨fun _ => ⟨fun q => absurd rfl q, fun _ v29 e29 => ?_⟩, fun q => absurd q (by decide)⟩
  rw [ev v29 e29, x0, a1, a2, x1, x2]
  unfold wp_X8_spot
  rw [em, show wp_X8_number 0 = wp_X8_number (iI 0) from rfl, show wp_X8_number (iI 0) (iI (v 0 0 - 1)) (-1) = wp_X8_number (iI 0) (iI (v 0 0 - 1)) (iI (-1)) from rfl]
  refine s_numX (by omega) (by omega) (by omega) hT h8 hPb hTk hN (fun T c a ho c1 c4 q8 q9 oT r => ?_) (fun T V e hK hOk hq => ?_) (fun T a xa sa hKa hOa hne _ hPa hTa hFa => ?_)
  · have hB : BdM o S T := ⟨c, a, ho, c1, c4, q8, q9, fun c k g1 g2 g3 => oT c k (by omega)⟩
    refine ⟨i0, fun S32 e32 => ⟨i0, ?_⟩⟩
    have hB2 : BdM o S S32 := BdM_fr hB (fun c k g1 g2 g3 => by rw [e32, up_ne _ _ (by omega)])
    exact s_X8_number_bad (BdM_ne hB2) (fun r => c2 S32 r hB2)
  · have hV := hOk.2.2.2.2.1
    rcases hq with q | q
    · omega
    · exact absurd rfl q
  · have hVa := hOa.2.2.2.2.1
    refine ⟨i0, fun S32 e32 => ⟨i0, ?_⟩⟩
    have o32 : ∀ c k, ¬ (c = 73 ∧ k = 27 + 3 * w) → ¬ (c = 71 ∧ 3 ≤ k ∧ k ≤ 7) → S32 c k = S c k := fun c k g1 g2 => by rw [e32, up_ne _ _ g1, hFa c k g2]
    have t32 : S32 73 (27 + 3 * w) = iI a := by rw [e32, up_at]
    have em2 : S32 71 15 - 1 = iI (v 0 0 - 1) := by rw [o32 _ _ (by omega) (by omega)]; exact em
    rw [em2, t32]
    refine s_numX (by omega) (by omega) (by omega) (Tx_fr hT (fun c k g1 g2 => o32 c k (by omega) (by omega))) (by rw [o32 _ _ (by omega) (by omega)]; exact h8) hPa (Tk_fr hTa (fun k g1 g2 => by rw [e32, up_ne _ _ (by omega)])) hKa (fun T2 c a' ho c1 c4 q8 q9 oT r => ?_) (fun T2 b xb hKb hOb hq q8 q9 oT r => ?_) (fun T2 b xb sb hKb hOb hne2 _ hPb2 hTb hFb => ?_)
    · exact c2 T2 r ⟨c, a', ho, c1, c4, q8, q9, fun c k g1 g2 g3 => by rw [oT c k (by omega), o32 c k (by omega) (by omega)]⟩
    · have hab : a = b := by
        rcases hq with q | q
        · exact q.symm
        · exact absurd rfl q
      have ho : o = Sum.inl (4, sa) := by
        rcases hKb with ⟨_, q⟩ | ⟨q, _⟩
        · exact q
        · exact absurd hab q
      exact c2 T2 r ⟨4, sa, ho, by omega, by omega, q8, q9, fun c k g1 g2 g3 => by rw [oT c k (by omega), o32 c k (by omega) (by omega)]⟩
    · have hVb := hOb.2.2.2.2.1
      have hKm : a ≠ b ∧ Nx L n 1 20 xb o (fun m x3 _ => EndR L n x3 (addR v a b m) o) := by
        rcases hKb with ⟨q, _⟩ | q
        · exact absurd q.symm hne2
        · exact q
      refine ⟨i1, fun S36 e36 => ?_⟩
      have o36 : ∀ c k, ¬ (c = 73 ∧ (k = 27 + 3 * w ∨ k = 27 + 3 * w + 1)) → ¬ (c = 71 ∧ 3 ≤ k ∧ k ≤ 7) → S36 c k = S c k := fun c k g1 g2 => by rw [e36, up_ne _ _ (by omega), hFb c k g2, o32 c k (by omega) g2]
      rw [show wp_X8_number 1 20 (-1) = wp_X8_number (iI 1) (iI 20) (iI (-1)) from rfl]
      refine s_numX (by omega) (by omega) (by omega) (Tx_fr hT (fun c k g1 g2 => o36 c k (by omega) (by omega))) (by rw [o36 _ _ (by omega) (by omega)]; exact h8) hPb2 (Tk_fr hTb (fun k g1 g2 => by rw [e36, up_ne _ _ (by omega)])) hKm.2 (fun T3 c a' ho c1 c4 q8 q9 oT r => ?_) (fun T3 m xm hKm' hOm hq => ?_) (fun T3 m xm sm hKm' hOm _ _ hPm hTm hFm => ?_)
      · exact c3 T3 r ⟨c, a', ho, c1, c4, q8, q9, fun c k g1 g2 g3 => by rw [oT c k (by omega), o36 c k (by omega) (by omega)]⟩
      · have hV := hOm.2.2.2.2.1
        rcases hq with q | q
        · omega
        · exact absurd rfl q
      · have hVm := hOm.2.2.2.2.1
        refine ⟨i2, fun S40 e40 S42 e42 => ?_⟩
        have t16 : S40 71 16 = iI (v 0 1) := by rw [e40, up_ne _ _ (by omega), hFm _ _ (by omega), o36 _ _ (by omega) (by omega)]; exact m2
        rw [t16, show (1 : Int32) = iI 1 from rfl, iI_add] at e42
        have oS : ∀ c k, ¬ (c = 71 ∧ k = 16) → ¬ (c = 73 ∧ 27 + 3 * w ≤ k) → ¬ (c = 71 ∧ 3 ≤ k ∧ k ≤ 7) → S42 c k = S c k := fun c k g1 g2 g3 => by rw [e42, up_ne _ _ g1, e40, up_ne _ _ (by omega), hFm c k g3, o36 c k (by omega) g3]
        have oT : ∀ k, 3 ≤ k → k ≤ 7 → S42 71 k = T3 71 k := fun k g1 g2 => by rw [e42, up_ne _ _ (by omega), e40, up_ne _ _ (by omega)]
        have en : ∀ f k, ¬ (f = 0 ∧ k = 1) → ¬ ((f = 1 ∨ f = 2 ∨ f = 3) ∧ k = (v 0 1).toNat) → addR v a b m f k = v f k := fun f k h1 h2 => by unfold addR; rw [vset_ne h1, vset_ne (by omega), vset_ne (by omega), vset_ne (by omega)]
        have k0 : S42 73 (27 + 3 * w) = iI a := by rw [e42, up_ne _ _ (by omega), e40, up_ne _ _ (by omega), hFm _ _ (by omega), e36, up_ne _ _ (by omega), hFb _ _ (by omega)]; exact t32
        have k1 : S42 73 (27 + 3 * w + 1) = iI b := by rw [e42, up_ne _ _ (by omega), e40, up_ne _ _ (by omega), hFm _ _ (by omega), e36, up_at]
        have k2 : S42 73 (27 + 3 * w + 2) = iI m := by rw [e42, up_ne _ _ (by omega), e40, up_at]
        refine s_ends (S0 := S) hKm' hPm (Tk_fr hTm oT) (Tx_fr hT (fun c k g1 g2 => oS c k (by omega) (by omega) (by omega))) (by rw [oS _ _ (by omega) (by omega) (by omega)]; exact h8) (by rw [oS _ _ (by omega) (by omega) (by omega)]; exact h9) (Gd_R hG hlt (by omega) (by omega) hKm.1 hVm) ?_ (fun c k g1 g2 g3 => oS c k (by omega) (by omega) (by omega)) hO
        refine ⟨⟨?_, ?_, ?_, ?_, ?_⟩, fun r hr => ?_, fun q hq => ?_, by rw [en 0 5 (by omega) (by omega)]; exact m8⟩
        · rw [oS _ _ (by omega) (by omega) (by omega), en 0 0 (by omega) (by omega)]; exact m1
        · rw [e42, up_at]; congr 1
        · rw [oS _ _ (by omega) (by omega) (by omega), en 0 2 (by omega) (by omega)]; exact m3
        · rw [oS _ _ (by omega) (by omega) (by omega), en 0 3 (by omega) (by omega)]; exact m4
        · rw [oS _ _ (by omega) (by omega) (by omega), en 0 4 (by omega) (by omega)]; exact m5
        · rw [show addR v a b m 0 1 = v 0 1 + 1 from by unfold addR; rw [vset_at]] at hr
          by_cases er : r = w
          · subst er
            rw [← wt]
            rw [show addR v a b m 1 (v 0 1).toNat = a from by unfold addR; rw [vset_ne (by omega), vset_ne (by omega), vset_ne (by omega), vset_at], show addR v a b m 2 (v 0 1).toNat = b from by unfold addR; rw [vset_ne (by omega), vset_ne (by omega), vset_at], show addR v a b m 3 (v 0 1).toNat = m from by unfold addR; rw [vset_ne (by omega), vset_at], wt]
            exact ⟨k0, k1, k2⟩
          · rw [oS _ _ (by omega) (by omega) (by omega), oS _ _ (by omega) (by omega) (by omega), oS _ _ (by omega) (by omega) (by omega), en 1 r (by omega) (by omega), en 2 r (by omega) (by omega), en 3 r (by omega) (by omega)]
            exact m6 r (by omega)
        · rw [en 0 2 (by omega) (by omega)] at hq
          rw [oS _ _ (by omega) (by omega) (by omega), oS _ _ (by omega) (by omega) (by omega), oS _ _ (by omega) (by omega) (by omega), oS _ _ (by omega) (by omega) (by omega), oS _ _ (by omega) (by omega) (by omega), en 4 q (by omega) (by omega), en 5 q (by omega) (by omega), en 6 q (by omega) (by omega), en 7 q (by omega) (by omega), en 8 q (by omega) (by omega), en 9 q (by omega) (by omega), en 10 q (by omega) (by omega)]
          exact m7 q hq
theorem s_clM {L : Nat → Int} {n s s1 : Nat} {sd : Int} {v : Vw} {o : Out} {S : St} {post : St → Prop} (hG : Gd v) (hM : Mg sd v S) (hT : Tx L n S) (h8 : S 71 8 = 0) (h9 : S 71 9 = -1) (hPb : PbS L n (s + 1) s1) (hTk : Tk L n s1 S) (hlt : v 0 2 < 4) (hN : Nx L n 0 (v 0 0 - 1) (s + 1) o (fun a x1 _ => Nx L n 0 (v 0 0 - 1) x1 o (fun b x2 _ => Nx L n 0 9 x2 o (fun c x3 _ => Nx L n 0 5 x3 o (fun d x4 _ => Nx L n 0 999 x4 o (fun e x5 _ => EndR L n x5 (addM v a b c d e) o)))))) (hO : OutM L n sd o S post) : wp_X8_clause 109 S (fun S11 => wp_X8_ends S11 (fun S12 => post S12)) := by
  obtain ⟨b0, b0', b1, b1', b2, b2', b3, b3', b4, b4', _⟩ := id hG.1.1
  obtain ⟨⟨m1, m2, m3, m4, m5⟩, m6, m7, m8⟩ := id hM
  obtain ⟨w, hw⟩ : ∃ w : Nat, v 0 2 = (w : Int) := ⟨(v 0 2).toNat, by omega⟩
  have wt : (v 0 2).toNat = w := by omega
  have em : S 71 15 - 1 = iI (v 0 0 - 1) := by rw [m1, show (1 : Int32) = iI 1 from rfl, iI_sub]
  have ev : ∀ v7 : Int32, v7 = (20 : Int32) + (5 : Int32) * S 71 17 → v7 = iI ((20 + 5 * w : Nat) : Int) := fun v7 e => by
    rw [e, m3, hw, show (20 : Int32) = iI 20 from rfl, show (5 : Int32) = iI 5 from rfl, iI_mul, iI_add]
    rfl
  have xk : ∀ k : Nat, k ≤ 4 → ix (iI ((20 + 5 * w + k : Nat) : Int)) = 20 + 5 * w + k := fun k hk => by rw [iI_ix (by omega) (by omega)]; omega
  have ik : ∀ k : Nat, k ≤ 4 → vp_in (iI ((20 + 5 * w + k : Nat) : Int)) 40 := fun k hk => (iI_in (by omega) (by omega)).mpr ⟨by omega, by omega⟩
  have a1 : iI ((20 + 5 * w : Nat) : Int) + 1 = iI ((20 + 5 * w + 1 : Nat) : Int) := by rw [show (1 : Int32) = iI 1 from rfl, iI_add]; rfl
  have a2 : iI ((20 + 5 * w : Nat) : Int) + 2 = iI ((20 + 5 * w + 2 : Nat) : Int) := by rw [show (2 : Int32) = iI 2 from rfl, iI_add]; rfl
  have a3 : iI ((20 + 5 * w : Nat) : Int) + 3 = iI ((20 + 5 * w + 3 : Nat) : Int) := by rw [show (3 : Int32) = iI 3 from rfl, iI_add]; rfl
  have a4 : iI ((20 + 5 * w : Nat) : Int) + 4 = iI ((20 + 5 * w + 4 : Nat) : Int) := by rw [show (4 : Int32) = iI 4 from rfl, iI_add]; rfl
  have x0 : ix (iI ((20 + 5 * w : Nat) : Int)) = 20 + 5 * w := xk 0 (by omega)
  have i0 : vp_in (iI ((20 + 5 * w : Nat) : Int)) 40 := ik 0 (by omega)
  have c5 : ∀ (T : St) (r : Int32), BdM o S T → (vp_in (iI ((20 + 5 * w + 4 : Nat) : Int)) 40 ∧ (∀ S26 : St, S26 = up T 74 (20 + 5 * w + 4) r → ∀ S28 : St, S28 = up S26 71 17 ((S26 71 17) + 1) → wp_X8_ends S28 (fun S12 => post S12))) := by
    intro T r hB
    refine ⟨ik 4 (by omega), fun S26 e26 S28 e28 => ?_⟩
    exact BdM_end (BdM_fr hB (fun c k g1 g2 g3 => by rw [e28, up_ne _ _ (by omega), e26, up_ne _ _ (by omega)])) hO
  have c4 : ∀ (T : St) (r : Int32), BdM o S T → (vp_in (iI ((20 + 5 * w + 3 : Nat) : Int)) 40 ∧ (∀ S22 : St, S22 = up T 74 (20 + 5 * w + 3) r → wp_X8_number 0 999 (-1) 0 S22 (fun r25 S24 => vp_in (iI ((20 + 5 * w + 4 : Nat) : Int)) 40 ∧ (∀ S26 : St, S26 = up S24 74 (20 + 5 * w + 4) r25 → ∀ S28 : St, S28 = up S26 71 17 ((S26 71 17) + 1) → wp_X8_ends S28 (fun S12 => post S12))))) := by
    intro T r hB
    refine ⟨ik 3 (by omega), fun S22 e22 => ?_⟩
    have hB2 : BdM o S S22 := BdM_fr hB (fun c k g1 g2 g3 => by rw [e22, up_ne _ _ (by omega)])
    exact s_X8_number_bad (BdM_ne hB2) (fun r => c5 S22 r hB2)
  have c3 : ∀ (T : St) (r : Int32), BdM o S T → (vp_in (iI ((20 + 5 * w + 2 : Nat) : Int)) 40 ∧ (∀ S18 : St, S18 = up T 74 (20 + 5 * w + 2) r → wp_X8_number 0 5 (-1) 0 S18 (fun r21 S20 => vp_in (iI ((20 + 5 * w + 3 : Nat) : Int)) 40 ∧ (∀ S22 : St, S22 = up S20 74 (20 + 5 * w + 3) r21 → wp_X8_number 0 999 (-1) 0 S22 (fun r25 S24 => vp_in (iI ((20 + 5 * w + 4 : Nat) : Int)) 40 ∧ (∀ S26 : St, S26 = up S24 74 (20 + 5 * w + 4) r25 → ∀ S28 : St, S28 = up S26 71 17 ((S26 71 17) + 1) → wp_X8_ends S28 (fun S12 => post S12))))))) := by
    intro T r hB
    refine ⟨ik 2 (by omega), fun S18 e18 => ?_⟩
    have hB2 : BdM o S S18 := BdM_fr hB (fun c k g1 g2 g3 => by rw [e18, up_ne _ _ (by omega)])
    exact s_X8_number_bad (BdM_ne hB2) (fun r => c4 S18 r hB2)
  have c2 : ∀ (T : St) (r : Int32), BdM o S T → (vp_in (iI ((20 + 5 * w + 1 : Nat) : Int)) 40 ∧ (∀ S14 : St, S14 = up T 74 (20 + 5 * w + 1) r → wp_X8_number 0 9 (-1) 0 S14 (fun r17 S16 => vp_in (iI ((20 + 5 * w + 2 : Nat) : Int)) 40 ∧ (∀ S18 : St, S18 = up S16 74 (20 + 5 * w + 2) r17 → wp_X8_number 0 5 (-1) 0 S18 (fun r21 S20 => vp_in (iI ((20 + 5 * w + 3 : Nat) : Int)) 40 ∧ (∀ S22 : St, S22 = up S20 74 (20 + 5 * w + 3) r21 → wp_X8_number 0 999 (-1) 0 S22 (fun r25 S24 => vp_in (iI ((20 + 5 * w + 4 : Nat) : Int)) 40 ∧ (∀ S26 : St, S26 = up S24 74 (20 + 5 * w + 4) r25 → ∀ S28 : St, S28 = up S26 71 17 ((S26 71 17) + 1) → wp_X8_ends S28 (fun S12 => post S12))))))))) := by
    intro T r hB
    refine ⟨ik 1 (by omega), fun S14 e14 => ?_⟩
    have hB2 : BdM o S S14 := BdM_fr hB (fun c k g1 g2 g3 => by rw [e14, up_ne _ _ (by omega)])
    exact s_X8_number_bad (BdM_ne hB2) (fun r => c3 S14 r hB2)
  have noDup : ∀ {V : Int} {lo hi : Int} {x e s' : Nat}, NOk L n lo hi x V e s' → 0 ≤ lo → (V = -1 ∨ ¬ (0 : Int32) = 0) → False := fun hOk hlo hq => by
    have hV := hOk.2.2.2.2.1
    rcases hq with q | q
    · omega
    · exact q rfl
  unfold wp_X8_clause
  refine ⟨fun _ => ⟨fun _ => ⟨fun q => absurd rfl q, fun _ v7 e7 => ?_⟩, fun q => absurd q (by decide)⟩, fun q => absurd q (by decide)⟩
  rw [ev v7 e7, x0, a1, a2, a3, a4, xk 1 (by omega), xk 2 (by omega), xk 3 (by omega), xk 4 (by omega)]
  unfold wp_X8_spot
  rw [em, show wp_X8_number 0 = wp_X8_number (iI 0) from rfl, show wp_X8_number (iI 0) (iI (v 0 0 - 1)) (-1) = wp_X8_number (iI 0) (iI (v 0 0 - 1)) (iI (-1)) from rfl]
  refine s_numX (by omega) (by omega) (by omega) hT h8 hPb hTk hN (fun T c a ho y1 y4 q8 q9 oT r => ?_) (fun T V e hK hOk hq => absurd (noDup hOk (by omega) hq) id) (fun T a xa sa hKa hOa _ _ hPa hTa hFa => ?_)
  · have hB : BdM o S T := ⟨c, a, ho, y1, y4, q8, q9, fun c k g1 g2 g3 => oT c k (by omega)⟩
    refine ⟨i0, fun S10 e10 => ?_⟩
    have hB2 : BdM o S S10 := BdM_fr hB (fun c k g1 g2 g3 => by rw [e10, up_ne _ _ (by omega)])
    exact s_X8_number_bad (BdM_ne hB2) (fun r => c2 S10 r hB2)
  have hVa := hOa.2.2.2.2.1
  refine ⟨i0, fun S10 e10 => ?_⟩
  have o10 : ∀ c k, ¬ (c = 74 ∧ 20 + 5 * w ≤ k) → ¬ (c = 71 ∧ 3 ≤ k ∧ k ≤ 7) → S10 c k = S c k := fun c k g1 g2 => by rw [e10, up_ne _ _ (by omega), hFa c k g2]
  have em2 : S10 71 15 - 1 = iI (v 0 0 - 1) := by rw [o10 _ _ (by omega) (by omega)]; exact em
  rw [em2, show wp_X8_number (iI 0) (iI (v 0 0 - 1)) (-1) = wp_X8_number (iI 0) (iI (v 0 0 - 1)) (iI (-1)) from rfl]
  refine s_numX (by omega) (by omega) (by omega) (Tx_fr hT (fun c k g1 g2 => o10 c k (by omega) (by omega))) (by rw [o10 _ _ (by omega) (by omega)]; exact h8) hPa (Tk_fr hTa (fun k g1 g2 => by rw [e10, up_ne _ _ (by omega)])) hKa (fun T2 c a' ho y1 y4 q8 q9 oT r => ?_) (fun T V e hK hOk hq => absurd (noDup hOk (by omega) hq) id) (fun T2 b xb sb hKb hOb _ _ hPb2 hTb hFb => ?_)
  · exact c2 T2 r ⟨c, a', ho, y1, y4, q8, q9, fun c k g1 g2 g3 => by rw [oT c k (by omega), o10 c k (by omega) (by omega)]⟩
  have hVb := hOb.2.2.2.2.1
  refine ⟨ik 1 (by omega), fun S14 e14 => ?_⟩
  have o14 : ∀ c k, ¬ (c = 74 ∧ 20 + 5 * w ≤ k) → ¬ (c = 71 ∧ 3 ≤ k ∧ k ≤ 7) → S14 c k = S c k := fun c k g1 g2 => by rw [e14, up_ne _ _ (by omega), hFb c k g2, o10 c k g1 g2]
  rw [show wp_X8_number (iI 0) 9 (-1) = wp_X8_number (iI 0) (iI 9) (iI (-1)) from rfl]
  refine s_numX (by omega) (by omega) (by omega) (Tx_fr hT (fun c k g1 g2 => o14 c k (by omega) (by omega))) (by rw [o14 _ _ (by omega) (by omega)]; exact h8) hPb2 (Tk_fr hTb (fun k g1 g2 => by rw [e14, up_ne _ _ (by omega)])) hKb (fun T3 c a' ho y1 y4 q8 q9 oT r => ?_) (fun T V e hK hOk hq => absurd (noDup hOk (by omega) hq) id) (fun T3 c xc sc hKc hOc _ _ hPc hTc hFc => ?_)
  · exact c3 T3 r ⟨c, a', ho, y1, y4, q8, q9, fun c k g1 g2 g3 => by rw [oT c k (by omega), o14 c k (by omega) (by omega)]⟩
  have hVc := hOc.2.2.2.2.1
  refine ⟨ik 2 (by omega), fun S18 e18 => ?_⟩
  have o18 : ∀ c k, ¬ (c = 74 ∧ 20 + 5 * w ≤ k) → ¬ (c = 71 ∧ 3 ≤ k ∧ k ≤ 7) → S18 c k = S c k := fun c k g1 g2 => by rw [e18, up_ne _ _ (by omega), hFc c k g2, o14 c k g1 g2]
  rw [show wp_X8_number (iI 0) 5 (-1) = wp_X8_number (iI 0) (iI 5) (iI (-1)) from rfl]
  refine s_numX (by omega) (by omega) (by omega) (Tx_fr hT (fun c k g1 g2 => o18 c k (by omega) (by omega))) (by rw [o18 _ _ (by omega) (by omega)]; exact h8) hPc (Tk_fr hTc (fun k g1 g2 => by rw [e18, up_ne _ _ (by omega)])) hKc (fun T4 c' a' ho y1 y4 q8 q9 oT r => ?_) (fun T V e hK hOk hq => absurd (noDup hOk (by omega) hq) id) (fun T4 d xd sd' hKd hOd _ _ hPd hTd hFd => ?_)
  · exact c4 T4 r ⟨c', a', ho, y1, y4, q8, q9, fun c k g1 g2 g3 => by rw [oT c k (by omega), o18 c k (by omega) (by omega)]⟩
  have hVd := hOd.2.2.2.2.1
  refine ⟨ik 3 (by omega), fun S22 e22 => ?_⟩
  have o22 : ∀ c k, ¬ (c = 74 ∧ 20 + 5 * w ≤ k) → ¬ (c = 71 ∧ 3 ≤ k ∧ k ≤ 7) → S22 c k = S c k := fun c k g1 g2 => by rw [e22, up_ne _ _ (by omega), hFd c k g2, o18 c k g1 g2]
  rw [show wp_X8_number (iI 0) 999 (-1) = wp_X8_number (iI 0) (iI 999) (iI (-1)) from rfl]
  refine s_numX (by omega) (by omega) (by omega) (Tx_fr hT (fun c k g1 g2 => o22 c k (by omega) (by omega))) (by rw [o22 _ _ (by omega) (by omega)]; exact h8) hPd (Tk_fr hTd (fun k g1 g2 => by rw [e22, up_ne _ _ (by omega)])) hKd (fun T5 c' a' ho y1 y4 q8 q9 oT r => ?_) (fun T V e hK hOk hq => absurd (noDup hOk (by omega) hq) id) (fun T5 e xe se hKe hOe _ _ hPe hTe hFe => ?_)
  · exact c5 T5 r ⟨c', a', ho, y1, y4, q8, q9, fun c k g1 g2 g3 => by rw [oT c k (by omega), o22 c k (by omega) (by omega)]⟩
  have hVe := hOe.2.2.2.2.1
  refine ⟨ik 4 (by omega), fun S26 e26 S28 e28 => ?_⟩
  have t17 : S26 71 17 = iI (v 0 2) := by rw [e26, up_ne _ _ (by omega), hFe _ _ (by omega), o22 _ _ (by omega) (by omega)]; exact m3
  rw [t17, show (1 : Int32) = iI 1 from rfl, iI_add] at e28
  have oS : ∀ c k, ¬ (c = 71 ∧ k = 17) → ¬ (c = 74 ∧ 20 + 5 * w ≤ k) → ¬ (c = 71 ∧ 3 ≤ k ∧ k ≤ 7) → S28 c k = S c k := fun c k g1 g2 g3 => by rw [e28, up_ne _ _ g1, e26, up_ne _ _ (by omega), hFe c k g3, o22 c k g2 g3]
  have oT : ∀ k, 3 ≤ k → k ≤ 7 → S28 71 k = T5 71 k := fun k g1 g2 => by rw [e28, up_ne _ _ (by omega), e26, up_ne _ _ (by omega)]
  have k0 : S28 74 (20 + 5 * w) = iI a := by rw [e28, up_ne _ _ (by omega), e26, up_ne _ _ (by omega), hFe _ _ (by omega), e22, up_ne _ _ (by omega), hFd _ _ (by omega), e18, up_ne _ _ (by omega), hFc _ _ (by omega), e14, up_ne _ _ (by omega), hFb _ _ (by omega), e10, up_at]
  have k1 : S28 74 (20 + 5 * w + 1) = iI b := by rw [e28, up_ne _ _ (by omega), e26, up_ne _ _ (by omega), hFe _ _ (by omega), e22, up_ne _ _ (by omega), hFd _ _ (by omega), e18, up_ne _ _ (by omega), hFc _ _ (by omega), e14, up_at]
  have k2 : S28 74 (20 + 5 * w + 2) = iI c := by rw [e28, up_ne _ _ (by omega), e26, up_ne _ _ (by omega), hFe _ _ (by omega), e22, up_ne _ _ (by omega), hFd _ _ (by omega), e18, up_at]
  have k3 : S28 74 (20 + 5 * w + 3) = iI d := by rw [e28, up_ne _ _ (by omega), e26, up_ne _ _ (by omega), hFe _ _ (by omega), e22, up_at]
  have k4 : S28 74 (20 + 5 * w + 4) = iI e := by rw [e28, up_ne _ _ (by omega), e26, up_at]
  refine s_ends (S0 := S) hKe hPe (Tk_fr hTe oT) (Tx_fr hT (fun c k g1 g2 => oS c k (by omega) (by omega) (by omega))) (by rw [oS _ _ (by omega) (by omega) (by omega)]; exact h8) (by rw [oS _ _ (by omega) (by omega) (by omega)]; exact h9) (Gd_M hG hlt (by omega) (by omega) hVc hVd hVe) ?_ (fun c k g1 g2 g3 => oS c k (by omega) (by omega) (by omega)) hO
  refine ⟨⟨?_, ?_, ?_, ?_, ?_⟩, fun r hr => ?_, fun q hq => ?_, by rw [addM_ne (by omega) (by omega)]; exact m8⟩
  · rw [oS _ _ (by omega) (by omega) (by omega), addM_ne (by omega) (by omega)]; exact m1
  · rw [oS _ _ (by omega) (by omega) (by omega), addM_ne (by omega) (by omega)]; exact m2
  · rw [e28, up_at, addM_02]
  · rw [oS _ _ (by omega) (by omega) (by omega), addM_ne (by omega) (by omega)]; exact m4
  · rw [oS _ _ (by omega) (by omega) (by omega), addM_ne (by omega) (by omega)]; exact m5
  · rw [addM_ne (by omega) (by omega)] at hr
    rw [oS _ _ (by omega) (by omega) (by omega), oS _ _ (by omega) (by omega) (by omega), oS _ _ (by omega) (by omega) (by omega), addM_ne (by omega) (by omega), addM_ne (by omega) (by omega), addM_ne (by omega) (by omega)]
    exact m6 r hr
  · rw [addM_02] at hq
    by_cases eq : q = w
    · subst eq
      rw [← wt]
      rw [show addM v a b c d e 7 (v 0 2).toNat = a from addM_at (by omega), show addM v a b c d e 4 (v 0 2).toNat = b from addM_at (by omega), show addM v a b c d e 5 (v 0 2).toNat = c from addM_at (by omega), show addM v a b c d e 8 (v 0 2).toNat = d from addM_at (by omega), show addM v a b c d e 6 (v 0 2).toNat = e from addM_at (by omega), show addM v a b c d e 9 (v 0 2).toNat = 0 from addM_at (by omega), show addM v a b c d e 10 (v 0 2).toNat = 0 from addM_at (by omega), wt]
      exact ⟨k0, k1, k2, k3, k4, rfl, rfl⟩
    · have q2 : ¬ q = (v 0 2).toNat := by omega
      rw [oS _ _ (by omega) (by omega) (by omega), oS _ _ (by omega) (by omega) (by omega), oS _ _ (by omega) (by omega) (by omega), oS _ _ (by omega) (by omega) (by omega), oS _ _ (by omega) (by omega) (by omega), addM_ne (f := 7) (by omega) (by omega), addM_ne (f := 4) (by omega) (by omega), addM_ne (f := 5) (by omega) (by omega), addM_ne (f := 8) (by omega) (by omega), addM_ne (f := 6) (by omega) (by omega), addM_ne (f := 9) (by omega) (by omega), addM_ne (f := 10) (by omega) (by omega)]
      exact m7 q (by omega)
