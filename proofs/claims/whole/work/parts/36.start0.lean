theorem vx_cl7 : Cond.classLink RL 7 RX7 ∈ gtbl := gm 84 (by decide +kernel) (by decide +kernel)
theorem vx_cl8 : Cond.classLink RL 10 RX8 ∈ gtbl := gm 812 (by decide +kernel) (by decide +kernel)
theorem vx_ins0 : Cond.instantiable RX0 2 ∈ gtbl := gm 311 (by decide +kernel) (by decide +kernel)
theorem vx_ins1 : Cond.instantiable RX1 3 ∈ gtbl := gm 269 (by decide +kernel) (by decide +kernel)
theorem vx_ins2 : Cond.instantiable RX2 6 ∈ gtbl := gm 285 (by decide +kernel) (by decide +kernel)
theorem vx_ins3 : Cond.instantiable RX3 5 ∈ gtbl := gm 247 (by decide +kernel) (by decide +kernel)
theorem vx_ins4 : Cond.instantiable RX4 5 ∈ gtbl := gm 225 (by decide +kernel) (by decide +kernel)
theorem vx_ins5 : Cond.instantiable RX5 6 ∈ gtbl := gm 197 (by decide +kernel) (by decide +kernel)
theorem vx_ins6 : Cond.instantiable RX6 16 ∈ gtbl := gm 93 (by decide +kernel) (by decide +kernel)
theorem vx_ins7 : Cond.instantiable RX7 11 ∈ gtbl := gm 85 (by decide +kernel) (by decide +kernel)
theorem vx_ins8 : Cond.instantiable RX8 39 ∈ gtbl := gm 813 (by decide +kernel) (by decide +kernel)
theorem vx_in7 : Cond.initialized RX7 ∈ gtbl := gm 72 (by decide +kernel) (by decide +kernel)
theorem vx_in8 : Cond.initialized RX8 ∈ gtbl := gm 80 (by decide +kernel) (by decide +kernel)
theorem vx_im7 : Cond.instanceMethod yX7_init ∈ gtbl := gm 87 (by decide +kernel) (by decide +kernel)
theorem vx_co7 : Cond.code yX7_init cX7_init 1 none ∈ gtbl := gm 88 (by decide +kernel) (by decide +kernel)
theorem vx_ml7 : Cond.methodLink RL 9 yX7_init ∈ gtbl := gm 86 (by decide +kernel) (by decide +kernel)
theorem vx_im8 : Cond.instanceMethod yX8_init ∈ gtbl := gm 815 (by decide +kernel) (by decide +kernel)
theorem vx_co8 : Cond.code yX8_init cX8_init 1 none ∈ gtbl := gm 816 (by decide +kernel) (by decide +kernel)
theorem vx_ml8 : Cond.methodLink RL 12 yX8_init ∈ gtbl := gm 814 (by decide +kernel) (by decide +kernel)
section QRows2
variable {X : Qx} {cc : ByteArray} {nL pc fr lo mc ms cells slots : Nat} {own : String} {L : List (Nat × Value)} {st : List Value} {ws : va_W}
theorem q_astore_n {kf : Fin 4} {x : Nat} (ok : Okq X cc nL own fr lo mc ms) (d : decode cc pc = .ok (.astore_n kf, 1)) (hn : (kf : Nat) < nL) (L' : List (Nat × Value)) (ks : List Nat) (hl' : lv_pick (((kf : Nat), Value.ref x) :: L.filter (fun q => !(q.1 == (kf : Nat)) && !(q.1 + 1 == (kf : Nat) && q.2.category == 2))) ks = L') (k : Wq X nL (pc + 1) L' st ws cells slots) : Wq X nL pc L (.ref x :: st) ws cells slots :=
  fun H locs _ hl hP hD hS => lv_astore_n ok.1 ok.2.1 d rfl hl hn rfl (fun ls' h' => k H locs ls' (lv_sub h' ks hl') hP hD hS)
theorem q_istore_n {kf : Fin 4} {x : Int32} (ok : Okq X cc nL own fr lo mc ms) (d : decode cc pc = .ok (.istore_n kf, 1)) (hn : (kf : Nat) < nL) (L' : List (Nat × Value)) (ks : List Nat) (hl' : lv_pick (((kf : Nat), Value.int x) :: L.filter (fun q => !(q.1 == (kf : Nat)) && !(q.1 + 1 == (kf : Nat) && q.2.category == 2))) ks = L') (k : Wq X nL (pc + 1) L' st ws cells slots) : Wq X nL pc L (.int x :: st) ws cells slots :=
  fun H locs _ hl hP hD hS => lv_istore_n ok.1 ok.2.1 d rfl hl hn rfl (fun ls' h' => k H locs ls' (lv_sub h' ks hl') hP hD hS)
end QRows2
def S0 : St := fun c => if c = 48 then (fun k => if k = 2 then -1 else 0) else if c = 71 then (fun k => if k = 9 then -1 else 0) else (fun _ => 0)
def adL (q q2 : Nat) (u u2 : (Nat → Nat) × ClassId) (c : Nat) : Nat := if c = 44 then q else if c = 71 then q2 else if c < 71 then u.1 c else u2.1 (c - 72)
theorem vp_cell_W {cA : ClassId} {f g : Nat → Option Nat} (h0 : f 0 = g 0) (h1 : f 1 = g 1) : vp_cell cA (2, .inr (.inr (.inr (.inr f)))) = vp_cell cA (2, .inr (.inr (.inr (.inr g)))) := by
  rw [vp_cell_q, vp_cell_q]
  have e : ∀ j : Fin 2, va_rf (f j.val) = va_rf (g j.val) := fun j => by
    match j with
    | ⟨0, _⟩ => rw [h0]
    | ⟨1, _⟩ => rw [h1]
  simp only [arrV]
  exact congrArg (fun z => ({ cls := cA, slots := Array.ofFn z, vm := .none } : Cell)) (funext e)
section Start
variable {D : va_G} {cI cZ : ClassId} {q q2 : Nat} {u u2 : (Nat → Nat) × ClassId} {H : Heap}
abbrev wlS (cI cZ : ClassId) (q q2 : Nat) (u u2 : (Nat → Nat) × ClassId) : va_W := bX7 (cI, cZ) q u ++ bX8 (cI, cZ) q2 u2
set_option maxRecDepth 20000 in
set_option maxHeartbeats 4000000 in
theorem wlS_ad : ∀ c, c < 92 → ∃ e, (wlS cI cZ q q2 u u2)[c]? = some (adL q q2 u u2 c, e) := by
  intro c hc
  rcases (show c = 0 ∨ c = 1 ∨ c = 2 ∨ c = 3 ∨ c = 4 ∨ c = 5 ∨ c = 6 ∨ c = 7 ∨ c = 8 ∨ c = 9 ∨ c = 10 ∨ c = 11 ∨ c = 12 ∨ c = 13 ∨ c = 14 ∨ c = 15 ∨ c = 16 ∨ c = 17 ∨ c = 18 ∨ c = 19 ∨ c = 20 ∨ c = 21 ∨ c = 22 ∨ c = 23 ∨ c = 24 ∨ c = 25 ∨ c = 26 ∨ c = 27 ∨ c = 28 ∨ c = 29 ∨ c = 30 ∨ c = 31 ∨ c = 32 ∨ c = 33 ∨ c = 34 ∨ c = 35 ∨ c = 36 ∨ c = 37 ∨ c = 38 ∨ c = 39 ∨ c = 40 ∨ c = 41 ∨ c = 42 ∨ c = 43 ∨ c = 44 ∨ c = 45 ∨ c = 46 ∨ c = 47 ∨ c = 48 ∨ c = 49 ∨ c = 50 ∨ c = 51 ∨ c = 52 ∨ c = 53 ∨ c = 54 ∨ c = 55 ∨ c = 56 ∨ c = 57 ∨ c = 58 ∨ c = 59 ∨ c = 60 ∨ c = 61 ∨ c = 62 ∨ c = 63 ∨ c = 64 ∨ c = 65 ∨ c = 66 ∨ c = 67 ∨ c = 68 ∨ c = 69 ∨ c = 70 ∨ c = 71 ∨ c = 72 ∨ c = 73 ∨ c = 74 ∨ c = 75 ∨ c = 76 ∨ c = 77 ∨ c = 78 ∨ c = 79 ∨ c = 80 ∨ c = 81 ∨ c = 82 ∨ c = 83 ∨ c = 84 ∨ c = 85 ∨ c = 86 ∨ c = 87 ∨ c = 88 ∨ c = 89 ∨ c = 90 ∨ c = 91 by omega) with rfl | rfl | rfl | rfl | rfl | rfl | rfl | rfl | rfl | rfl | rfl | rfl | rfl | rfl | rfl | rfl | rfl | rfl | rfl | rfl | rfl | rfl | rfl | rfl | rfl | rfl | rfl | rfl | rfl | rfl | rfl | rfl | rfl | rfl | rfl | rfl | rfl | rfl | rfl | rfl | rfl | rfl | rfl | rfl | rfl | rfl | rfl | rfl | rfl | rfl | rfl | rfl | rfl | rfl | rfl | rfl | rfl | rfl | rfl | rfl | rfl | rfl | rfl | rfl | rfl | rfl | rfl | rfl | rfl | rfl | rfl | rfl | rfl | rfl | rfl | rfl | rfl | rfl | rfl | rfl | rfl | rfl | rfl | rfl | rfl | rfl | rfl | rfl | rfl | rfl | rfl | rfl
  · exact ⟨_, rfl⟩
  · exact ⟨_, rfl⟩
  · exact ⟨_, rfl⟩
  · exact ⟨_, rfl⟩
  · exact ⟨_, rfl⟩
  · exact ⟨_, rfl⟩
  · exact ⟨_, rfl⟩
  · exact ⟨_, rfl⟩
  · exact ⟨_, rfl⟩
  · exact ⟨_, rfl⟩
  · exact ⟨_, rfl⟩
  · exact ⟨_, rfl⟩
  · exact ⟨_, rfl⟩
  · exact ⟨_, rfl⟩
  · exact ⟨_, rfl⟩
  · exact ⟨_, rfl⟩
  · exact ⟨_, rfl⟩
  · exact ⟨_, rfl⟩
  · exact ⟨_, rfl⟩
  · exact ⟨_, rfl⟩
  · exact ⟨_, rfl⟩
  · exact ⟨_, rfl⟩
  · exact ⟨_, rfl⟩
  · exact ⟨_, rfl⟩
  · exact ⟨_, rfl⟩
  · exact ⟨_, rfl⟩
  · exact ⟨_, rfl⟩
  · exact ⟨_, rfl⟩
  · exact ⟨_, rfl⟩
  · exact ⟨_, rfl⟩
  · exact ⟨_, rfl⟩
  · exact ⟨_, rfl⟩
  · exact ⟨_, rfl⟩
  · exact ⟨_, rfl⟩
  · exact ⟨_, rfl⟩
  · exact ⟨_, rfl⟩
  · exact ⟨_, rfl⟩
  · exact ⟨_, rfl⟩
  · exact ⟨_, rfl⟩
  · exact ⟨_, rfl⟩
  · exact ⟨_, rfl⟩
  · exact ⟨_, rfl⟩
  · exact ⟨_, rfl⟩
  · exact ⟨_, rfl⟩
  · exact ⟨_, rfl⟩
  · exact ⟨_, rfl⟩
  · exact ⟨_, rfl⟩
  · exact ⟨_, rfl⟩
  · exact ⟨_, rfl⟩
  · exact ⟨_, rfl⟩
  · exact ⟨_, rfl⟩
  · exact ⟨_, rfl⟩
  · exact ⟨_, rfl⟩
  · exact ⟨_, rfl⟩
  · exact ⟨_, rfl⟩
  · exact ⟨_, rfl⟩
  · exact ⟨_, rfl⟩
  · exact ⟨_, rfl⟩
  · exact ⟨_, rfl⟩
  · exact ⟨_, rfl⟩
  · exact ⟨_, rfl⟩
  · exact ⟨_, rfl⟩
  · exact ⟨_, rfl⟩
  · exact ⟨_, rfl⟩
  · exact ⟨_, rfl⟩
  · exact ⟨_, rfl⟩
  · exact ⟨_, rfl⟩
  · exact ⟨_, rfl⟩
  · exact ⟨_, rfl⟩
  · exact ⟨_, rfl⟩
  · exact ⟨_, rfl⟩
  · exact ⟨_, rfl⟩
  · exact ⟨_, rfl⟩
  · exact ⟨_, rfl⟩
  · exact ⟨_, rfl⟩
  · exact ⟨_, rfl⟩
  · exact ⟨_, rfl⟩
  · exact ⟨_, rfl⟩
  · exact ⟨_, rfl⟩
  · exact ⟨_, rfl⟩
  · exact ⟨_, rfl⟩
  · exact ⟨_, rfl⟩
  · exact ⟨_, rfl⟩
  · exact ⟨_, rfl⟩
  · exact ⟨_, rfl⟩
  · exact ⟨_, rfl⟩
  · exact ⟨_, rfl⟩
  · exact ⟨_, rfl⟩
  · exact ⟨_, rfl⟩
  · exact ⟨_, rfl⟩
  · exact ⟨_, rfl⟩
  · exact ⟨_, rfl⟩
set_option maxRecDepth 20000 in
set_option maxHeartbeats 4000000 in
theorem wlS_P (hP : va_P D vwCl (wlS cI cZ q q2 u u2) H) : WP (D, (cI, cZ, u.2), adL q q2 u u2) S0 H := by
  intro c x hx
  have hc : c < 92 := by
    have := (List.getElem?_eq_some_iff.mp hx).1
    simpa [wl] using this
  rw [wl_at _ _ _ hc] at hx
  cases hx
  rcases (show c = 0 ∨ c = 1 ∨ c = 2 ∨ c = 3 ∨ c = 4 ∨ c = 5 ∨ c = 6 ∨ c = 7 ∨ c = 8 ∨ c = 9 ∨ c = 10 ∨ c = 11 ∨ c = 12 ∨ c = 13 ∨ c = 14 ∨ c = 15 ∨ c = 16 ∨ c = 17 ∨ c = 18 ∨ c = 19 ∨ c = 20 ∨ c = 21 ∨ c = 22 ∨ c = 23 ∨ c = 24 ∨ c = 25 ∨ c = 26 ∨ c = 27 ∨ c = 28 ∨ c = 29 ∨ c = 30 ∨ c = 31 ∨ c = 32 ∨ c = 33 ∨ c = 34 ∨ c = 35 ∨ c = 36 ∨ c = 37 ∨ c = 38 ∨ c = 39 ∨ c = 40 ∨ c = 41 ∨ c = 42 ∨ c = 43 ∨ c = 44 ∨ c = 45 ∨ c = 46 ∨ c = 47 ∨ c = 48 ∨ c = 49 ∨ c = 50 ∨ c = 51 ∨ c = 52 ∨ c = 53 ∨ c = 54 ∨ c = 55 ∨ c = 56 ∨ c = 57 ∨ c = 58 ∨ c = 59 ∨ c = 60 ∨ c = 61 ∨ c = 62 ∨ c = 63 ∨ c = 64 ∨ c = 65 ∨ c = 66 ∨ c = 67 ∨ c = 68 ∨ c = 69 ∨ c = 70 ∨ c = 71 ∨ c = 72 ∨ c = 73 ∨ c = 74 ∨ c = 75 ∨ c = 76 ∨ c = 77 ∨ c = 78 ∨ c = 79 ∨ c = 80 ∨ c = 81 ∨ c = 82 ∨ c = 83 ∨ c = 84 ∨ c = 85 ∨ c = 86 ∨ c = 87 ∨ c = 88 ∨ c = 89 ∨ c = 90 ∨ c = 91 by omega) with rfl | rfl | rfl | rfl | rfl | rfl | rfl | rfl | rfl | rfl | rfl | rfl | rfl | rfl | rfl | rfl | rfl | rfl | rfl | rfl | rfl | rfl | rfl | rfl | rfl | rfl | rfl | rfl | rfl | rfl | rfl | rfl | rfl | rfl | rfl | rfl | rfl | rfl | rfl | rfl | rfl | rfl | rfl | rfl | rfl | rfl | rfl | rfl | rfl | rfl | rfl | rfl | rfl | rfl | rfl | rfl | rfl | rfl | rfl | rfl | rfl | rfl | rfl | rfl | rfl | rfl | rfl | rfl | rfl | rfl | rfl | rfl | rfl | rfl | rfl | rfl | rfl | rfl | rfl | rfl | rfl | rfl | rfl | rfl | rfl | rfl | rfl | rfl | rfl | rfl | rfl | rfl
  · exact hP 0 _ rfl
  · exact hP 1 _ rfl
  · exact hP 2 _ rfl
  · exact hP 3 _ rfl
  · exact hP 4 _ rfl
  · exact hP 5 _ rfl
  · exact hP 6 _ rfl
  · exact hP 7 _ rfl
  · exact hP 8 _ rfl
  · exact hP 9 _ rfl
  · exact hP 10 _ rfl
  · exact hP 11 _ rfl
  · exact hP 12 _ rfl
  · exact hP 13 _ rfl
  · exact hP 14 _ rfl
  · exact hP 15 _ rfl
  · exact hP 16 _ rfl
  · exact hP 17 _ rfl
  · exact hP 18 _ rfl
  · exact hP 19 _ rfl
  · exact hP 20 _ rfl
  · exact hP 21 _ rfl
  · exact hP 22 _ rfl
  · exact hP 23 _ rfl
  · exact hP 24 _ rfl
  · exact hP 25 _ rfl
  · exact hP 26 _ rfl
  · exact hP 27 _ rfl
  · exact hP 28 _ rfl
  · exact hP 29 _ rfl
  · exact hP 30 _ rfl
  · exact hP 31 _ rfl
  · exact hP 32 _ rfl
  · exact hP 33 _ rfl
  · exact hP 34 _ rfl
  · exact hP 35 _ rfl
  · exact hP 36 _ rfl
  · exact hP 37 _ rfl
  · exact hP 38 _ rfl
  · exact hP 39 _ rfl
  · exact hP 40 _ rfl
  · exact hP 41 _ rfl
  · exact hP 42 _ rfl
  · exact hP 43 _ rfl
  · exact hP 44 _ rfl
  · have h1 := hP 45 _ rfl
    have h2 : H[u.1 45]? = some (vp_cell u.2 (2, .inr (.inr (.inr (.inr (va_up (va_up (fun _ => none) 0 (some (u.1 22))) 1 (some (u.1 33)))))))) := h1
    show H[u.1 45]? = some (vp_cell u.2 (2, .inr (.inr (.inr (.inr (fun i => some (adL q q2 u u2 (22 + 11 * i))))))))
    rw [h2]
    exact congrArg some (vp_cell_W rfl rfl)
  · exact hP 46 _ rfl
  · exact hP 47 _ rfl
  · exact hP 48 _ rfl
  · exact hP 49 _ rfl
  · exact hP 50 _ rfl
  · exact hP 51 _ rfl
  · exact hP 52 _ rfl
  · exact hP 53 _ rfl
  · exact hP 54 _ rfl
  · exact hP 55 _ rfl
  · exact hP 56 _ rfl
  · exact hP 57 _ rfl
  · exact hP 58 _ rfl
  · exact hP 59 _ rfl
  · exact hP 60 _ rfl
  · exact hP 61 _ rfl
  · exact hP 62 _ rfl
  · exact hP 63 _ rfl
  · exact hP 64 _ rfl
  · exact hP 65 _ rfl
  · exact hP 66 _ rfl
  · exact hP 67 _ rfl
  · exact hP 68 _ rfl
  · exact hP 69 _ rfl
  · exact hP 70 _ rfl
  · exact hP 71 _ rfl
  · exact hP 72 _ rfl
  · exact hP 73 _ rfl
  · exact hP 74 _ rfl
  · exact hP 75 _ rfl
  · exact hP 76 _ rfl
  · exact hP 77 _ rfl
  · exact hP 78 _ rfl
  · exact hP 79 _ rfl
  · exact hP 80 _ rfl
  · exact hP 81 _ rfl
  · exact hP 82 _ rfl
  · exact hP 83 _ rfl
  · exact hP 84 _ rfl
  · exact hP 85 _ rfl
  · exact hP 86 _ rfl
  · exact hP 87 _ rfl
  · exact hP 88 _ rfl
  · exact hP 89 _ rfl
  · exact hP 90 _ rfl
  · exact hP 91 _ rfl
end Start
