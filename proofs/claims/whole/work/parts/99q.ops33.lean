-- street
theorem C_st_l : ∀ (r k n : Nat) (S : St), k + r = 2 → r < n → (∀ j, j < k → S 186 j = 0) → ∃ S' : St, f_X6_street_75 n (nI k) S = some (S' 130 0, S') ∧ (∀ j, j ≠ 186 → S' j = S j) ∧ ∀ j, j < 2 → S' 186 j = 0 := by
  have nb : vp_nar .boolean (0 : Int32) = 0 := by decide +kernel
  intro r
  induction r with
  | zero =>
    intro k n S h1 h2 h3
    obtain ⟨n, rfl⟩ : ∃ z, n = z + 1 := ⟨n - 1, by omega⟩
    have q : (2 : Int32) ≤ nI k := nI_le (a := 2) (by omega) (by omega)
    exact ⟨S, by rw [f_X6_street_75_s, if_pos q], fun _ _ => rfl, fun j hj => h3 j (by omega)⟩
  | succ r ih =>
    intro k n S h1 h2 h3
    obtain ⟨n, rfl⟩ : ∃ z, n = z + 1 := ⟨n - 1, by omega⟩
    have q : ¬ (2 : Int32) ≤ nI k := nI_ge (b := 2) (by omega) (by omega)
    rw [f_X6_street_75_s, if_neg q, ix_in (by omega) (by omega), tN_nI (by omega), p1, nb]
    obtain ⟨S', k1, k2, k3⟩ := ih (k + 1) n (st 186 (upd (S 186) k 0) S) (by omega) (by omega) (fun j hj => by
      rw [st_eq]
      by_cases z : j = k
      · rw [z, upd_eq]
      · rw [upd_ne z]
        exact h3 j (by omega))
    exact ⟨S', k1, fun j hj => by rw [k2 j hj, st_ne hj], k3⟩
theorem op_street : Op_street Rel := by
  intro G M hR
  obtain ⟨H0, hH, ⟨P0, V0, B0, hT⟩, hI, ⟨L, hL, g1, m9, hA⟩, hW, hSe, hSh, hN⟩ := id hR
  have hb := hT.1
  obtain ⟨n1, n2, n3, n4⟩ := id hN
  unfold f_X6_street
  generalize hS0 : jn 16 (sb 128 G) (sb 32 G) = S0
  have s0 : S0 0 = G 128 := by rw [← hS0]; rfl
  have s1 : S0 1 0 = nI L := by rw [← hS0]; exact g1
  have htp : mTp M (G 128) L := ⟨m9, fun j hj => ⟨(hA j hj).1.symm, by rw [(hA j hj).1]; exact (hA j hj).2⟩⟩
  rcases tell_l hL s0 s1 htp n3 n4 with ⟨S', M', c, r, a1, a2, a3, a4, a5, a6, a7, a8⟩ | ⟨S', M1, H, P, V, B, x, a1, a2, a3, a4, a5, a6, a7, a8⟩
  · rw [a1, bd_s, if_pos rfl, a2]
    refine ⟨_, _, _, rfl, by rw [a3], ?_⟩
    have kG : ∀ k, k < 32 ∨ (64 ≤ k ∧ k < 128) ∨ (144 ≤ k ∧ k ≠ 184) → (st 184 (fun _ => S' 3 0) (st 129 (fun _ => (0 : Int32)) (pt 32 32 (sb 16 S') (pt 128 16 S' G)))) k = G k := by
      intro k hk
      rw [st_ne (by omega), st_ne (by omega), pt_out (by omega), pt_out (by omega)]
    refine ⟨H0, by rw [a8 1 (by omega)]; exact hH, ⟨P0, V0, B0, hT.cg (fun k hk => kG k (by omega)) (fun k hk => by rw [a8 0 (by omega)])⟩, fun k hk => (hI k hk).cg hk (fun j q1 q2 => kG j (by omega)) (by rw [kG 186 (by omega)]) (by rw [a8 33 (by omega)]) (fun j q1 q2 => by rw [a8 0 (by omega)]), ⟨0, by omega, rfl, a7, fun j hj => by omega⟩, hW.cg (fun j q1 q2 => kG j (by omega)) (a8 23 (by omega)) (a8 24 (by omega)), hSe.cg (fun j q1 q2 => kG j (by omega)) (a8 31 (by omega)) (a8 32 (by omega)), fun k hk => (hSh k hk).cg hk (fun j q1 q2 => kG j (by omega)) (a8 34 (by omega)) (a8 35 (by omega)) (a8 36 (by omega)), ?_, ?_, ?_, ?_⟩
    · show S' 3 0 = M' 10 0
      rw [a5, a6]
    · rw [kG 185 (by omega), a8 37 (by omega)]
      exact n2
    · rw [a8 17 (by omega)]
      exact n3
    · rw [a8 18 (by omega)]
      exact n4
  · rw [a1, bd_s, if_neg (show ¬ (1 : Int32) = 0 by decide), a2]
    dsimp only
    generalize hX : st 184 (fun _ => S' 3 0) (st 129 (fun _ => (0 : Int32)) (pt 32 32 (sb 16 S') (pt 128 16 S' G))) = X
    have kX : ∀ k, k < 32 ∨ (64 ≤ k ∧ k < 128) ∨ (144 ≤ k ∧ k ≠ 184) → X k = G k := by
      intro k hk
      rw [← hX, st_ne (by omega), st_ne (by omega), pt_out (by omega), pt_out (by omega)]
    have x32 : ∀ k, k < 16 → sb 32 X k = sb 16 S' k := by
      intro k hk
      show X (32 + k) = S' (16 + k)
      rw [← hX, st_ne (by omega), st_ne (by omega), pt_in (by omega) (by omega)]
      exact congrArg (fun z => S' (16 + z)) (by omega)
    have x130 : X 130 0 = x := by
      rw [← a4, ← hX, st_ne (by omega), st_ne (by omega), pt_out (by omega), pt_in (by omega) (by omega)]
    have x184 : X 184 0 = 0 := by
      rw [← hX, st_eq]
      exact a5
    have x129 : X 129 0 = 0 := by
      rw [← hX, st_ne (by omega), st_eq]
    rw [sb0]
    obtain ⟨U, u1, u2, u3, u4, u5, u6, u7⟩ := C_copyOf X (sb 32 X)
    rw [u1, bd_s]
    have hU : RT U (M1 2) H P V B := (a6.cg x32 (fun _ _ => rfl)).copy u4 u5 u6 u7 (fun _ _ => rfl)
    generalize hY : st 156 (fun _ => (0 : Int32)) (st 148 (fun _ => (0 : Int32)) (pt 32 32 (sb 32 U) (pt 0 32 U X))) = Y
    have kY : ∀ k, 32 ≤ k → k ≠ 148 → k ≠ 156 → Y k = X k := by
      intro k q1 q2 q3
      rw [← hY, st_ne q3, st_ne q2]
      by_cases z : k < 64
      · rw [pt_in (by omega) (by omega)]
        show U (32 + (k - 32)) = X k
        rw [u2]
        exact congrArg X (by omega)
      · rw [pt_out (by omega), pt_out (by omega)]
    have yU : ∀ k, k < 16 → Y k = U k := by
      intro k hk
      rw [← hY, st_ne (by omega), st_ne (by omega), pt_out (by omega), pt_in (by omega) (by omega)]
      rfl
    obtain ⟨Z, z1, z2, z3⟩ := C_st_l 2 0 1000 Y (by omega) (by omega) (fun j hj => by omega)
    have z1' : f_X6_street_75 1000 0 Y = some (Z 130 0, Z) := z1
    obtain ⟨M2, c1, c2, c3, c4⟩ := M_cpy_l (st 10 (fun _ => M1 11 0) (st 9 (fun _ => (0 : Int32)) M1)) 92 0 1000 x _ (by omega) (by omega) (fun _ _ => rfl) (fun j hj => by omega) (fun _ _ => rfl)
    have c1' : f_X7_street_154 1000 x 0 (st 10 (fun _ => M1 11 0) (st 9 (fun _ => (0 : Int32)) M1)) = f_X7_street_178 x M2 := c1
    have nb : vp_nar .boolean (0 : Int32) = 0 := by decide +kernel
    have t1c : Int32.toNatClampNeg 1 = 1 := rfl
    rw [z1', c1']
    unfold f_X7_street_178
    rw [ix0 (by omega) (by omega), ix1 (by omega) (by omega), nb]
    have zr : Z 130 0 = x := by
      rw [z2 130 (by omega), kY 130 (by omega) (by omega) (by omega)]
      exact x130
    rw [zr]
    refine ⟨_, _, _, rfl, rfl, ?_⟩
    have kZ : ∀ k, (64 ≤ k ∧ k < 128) ∨ (144 ≤ k ∧ k ≠ 184 ∧ k ≠ 148 ∧ k ≠ 156 ∧ k ≠ 186) → Z k = G k := by
      intro k hk
      rw [z2 k (by omega), kY k (by omega) (by omega) (by omega), kX k (by omega)]
    have mk : ∀ k, (k = 8 ∨ 16 < k) → M2 k = M k := by
      intro k hk
      rw [c2 k (by omega), st_ne (by omega), st_ne (by omega), a8 k (by omega)]
    have m3 : M2 3 0 = nI H := by
      rw [c2 3 (by omega), st_ne (by omega), st_ne (by omega)]
      exact a7
    have hRT : RT Z (M2 0) H P V B := hU.cg (fun k hk => by rw [z2 k (by omega), yU k hk]) (fun k hk => by
      rw [c3 k hk, st_ne (by omega), st_ne (by omega)])
    have f0 : ∀ (f g h i j : Nat → Int32), st 33 f (st 33 g (st 32 h (st 24 i (st 1 j M2)))) 0 = M2 0 := fun f g h i j => by rw [st_ne (by omega), st_ne (by omega), st_ne (by omega), st_ne (by omega), st_ne (by omega)]
    have ff : ∀ (f g h i j : Nat → Int32) (k : Nat), k ≠ 33 → k ≠ 32 → k ≠ 24 → k ≠ 1 → st 33 f (st 33 g (st 32 h (st 24 i (st 1 j M2)))) k = M2 k := fun f g h i j k q1 q2 q3 q4 => by rw [st_ne q1, st_ne q1, st_ne q2, st_ne q3, st_ne q4]
    refine ⟨H, ?_, ⟨P, V, B, ?_⟩, fun k hk => ⟨?_, Or.inl ?_⟩, ⟨0, by omega, ?_, ?_, fun j hj => by omega⟩, ⟨?_, 0, by omega, ?_, rfl, fun i hi => by omega⟩, ⟨?_, 0, by omega, ?_, rfl, fun i hi => by omega⟩, fun k hk => ?_, ?_, ?_, ?_, ?_⟩
    · exact m3
    · rw [f0]
      exact hRT
    · rw [z3 k hk, st_eq]
      rcases (show k = 0 ∨ k = 1 by omega) with rfl | rfl
      · rfl
      · rfl
    · rw [st_eq]
      rcases (show k = 0 ∨ k = 1 by omega) with rfl | rfl
      · rfl
      · rfl
    · rw [z2 129 (by omega), kY 129 (by omega) (by omega) (by omega)]
      exact x129
    · rw [ff _ _ _ _ _ 9 (by omega) (by omega) (by omega) (by omega), c2 9 (by omega), st_ne (by omega), st_eq]
      rfl
    · rw [kZ 144 (by omega)]
      exact hW.1
    · rw [z2 148 (by omega), ← hY, st_ne (by omega), st_eq]
      rfl
    · rw [kZ 152 (by omega)]
      exact hSe.1
    · rw [z2 156 (by omega), ← hY, st_eq]
      rfl
    · refine (hSh k hk).cg hk (fun j q1 q2 => kZ j (by omega)) ?_ ?_ ?_
      · rw [ff _ _ _ _ _ 34 (by omega) (by omega) (by omega) (by omega), mk 34 (by omega)]
      · rw [ff _ _ _ _ _ 35 (by omega) (by omega) (by omega) (by omega), mk 35 (by omega)]
      · rw [ff _ _ _ _ _ 36 (by omega) (by omega) (by omega) (by omega), mk 36 (by omega)]
    · rw [ff _ _ _ _ _ 10 (by omega) (by omega) (by omega) (by omega), c2 10 (by omega), st_eq, z2 184 (by omega), kY 184 (by omega) (by omega) (by omega), a3]
      exact x184
    · rw [ff _ _ _ _ _ 37 (by omega) (by omega) (by omega) (by omega), mk 37 (by omega), kZ 185 (by omega)]
      exact n2
    · rw [ff _ _ _ _ _ 17 (by omega) (by omega) (by omega) (by omega), mk 17 (by omega)]
      exact n3
    · rw [ff _ _ _ _ _ 18 (by omega) (by omega) (by omega) (by omega), mk 18 (by omega)]
      exact n4
