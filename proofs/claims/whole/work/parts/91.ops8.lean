-- images, sheets
theorem M_cp (M0 : St) (a b : Nat) (ha : a ≤ 276) (hb : b ≤ 276) (hab : a + 92 ≤ b ∨ b + 92 ≤ a) : ∀ (n k : Nat) (M : St), k + n > 92 → k ≤ 92 → (∀ j, 0 < j → M j = M0 j) → (∀ j, j < k → M 0 (b + j) = M0 0 (a + j)) → (∀ j, j < b ∨ b + k ≤ j → M 0 j = M0 0 j) → ∃ M' : St, f_X7_copies_2 n (nI a) (nI b) (nI k) M = some M' ∧ (∀ j, 0 < j → M' j = M0 j) ∧ (∀ j, j < 92 → M' 0 (b + j) = M0 0 (a + j)) ∧ (∀ j, j < b ∨ b + 92 ≤ j → M' 0 j = M0 0 j) := by
  intro n
  induction n with
  | zero => intro k M h1 h2; omega
  | succ n ih =>
    intro k M h1 h2 h3 h4 h5
    rw [f_X7_copies_2_s, i92]
    by_cases hk : k = 92
    · subst hk
      rw [if_pos (nI_le (Nat.le_refl 92) (by omega))]
      exact ⟨M, rfl, h3, h4, h5⟩
    · rw [if_neg (nI_ge (by omega) (by omega)), nI_add, nI_add, p1, ix_in (by omega) (by omega), ix_in (by omega) (by omega), tN_nI (by omega), tN_nI (by omega)]
      refine ih (k + 1) _ (by omega) (by omega) (fun j hj => ?_) (fun j hj => ?_) (fun j hj => ?_)
      · rw [st_ne (by omega)]
        exact h3 j hj
      · rw [st_eq]
        by_cases c : j = k
        · subst c
          rw [upd_eq, h5 (a + j) (by omega)]
        · rw [upd_ne (by omega)]
          exact h4 j (by omega)
      · rw [st_eq, upd_ne (by omega)]
        exact h5 j (by omega)
theorem M_copies (M : St) (a b : Nat) (ha : a ≤ 276) (hb : b ≤ 276) (hab : a + 92 ≤ b ∨ b + 92 ≤ a) : ∃ M' : St, f_X7_copies (nI a) (nI b) M = some M' ∧ (∀ j, 0 < j → M' j = M j) ∧ (∀ j, j < 92 → M' 0 (b + j) = M 0 (a + j)) ∧ (∀ j, j < b ∨ b + 92 ≤ j → M' 0 j = M 0 j) :=
  M_cp M a b ha hb hab 1000 0 M (by omega) (by omega) (fun _ _ => rfl) (fun j hj => by omega) (fun _ _ => rfl)
theorem cpy_in {f g : Nat → Int32} {n k : Nat} (h : k < n) : va_cpy f g (Int32.toNatClampNeg 0) (Int32.toNatClampNeg 0) n k = f k := by
  unfold va_cpy
  rw [z0, if_pos (by omega)]
  exact congrArg f (by omega)
theorem jn_lo {w k : Nat} {f g : St} (h : k < w) : jn w f g k = f k := if_pos h
theorem jn_hi {w k : Nat} {f g : St} (h : w ≤ k) : jn w f g k = g (k - w) := if_neg (by omega)
theorem t4c : Int32.toNatClampNeg 4 = 4 := rfl
theorem t12c : Int32.toNatClampNeg 12 = 12 := rfl
theorem t14c : Int32.toNatClampNeg 14 = 14 := rfl
/-- a town copied into another: the second one is left, the first one is as the second -/
theorem C_copyOf (A T : St) : ∃ U : St, f_X5_copyOf (jn 32 A T) = some U ∧ (∀ k, U (32 + k) = T k) ∧ (∀ k, 15 ≤ k → k < 32 → U k = A k) ∧ (∀ k, k = 0 ∨ k = 1 ∨ k = 2 ∨ k = 7 ∨ k = 11 → U k 0 = T k 0) ∧ (∀ k p, 3 ≤ k → k < 7 → p < 14 → U k p = T k p) ∧ (∀ k p, 8 ≤ k → k < 11 → p < 12 → U k p = T k p) ∧ (∀ k p, 12 ≤ k → k < 15 → p < 4 → U k p = T k p) := by
  refine ⟨_, rfl, fun k => ?_, fun k h1 h2 => ?_, fun k hk => ?_, fun k p h1 h2 hp => ?_, fun k p h1 h2 hp => ?_, fun k p h1 h2 hp => ?_⟩
  · rw [st_ne (by omega), st_ne (by omega), st_ne (by omega), st_ne (by omega), st_ne (by omega), st_ne (by omega), st_ne (by omega), st_ne (by omega), st_ne (by omega), st_ne (by omega), st_ne (by omega), st_ne (by omega), st_ne (by omega), st_ne (by omega), st_ne (by omega), jn_hi (by omega)]
    exact congrArg T (by omega)
  · rw [st_ne (by omega), st_ne (by omega), st_ne (by omega), st_ne (by omega), st_ne (by omega), st_ne (by omega), st_ne (by omega), st_ne (by omega), st_ne (by omega), st_ne (by omega), st_ne (by omega), st_ne (by omega), st_ne (by omega), st_ne (by omega), st_ne (by omega), jn_lo (by omega)]
  · rcases hk with rfl | rfl | rfl | rfl | rfl <;> rfl
  · rcases (show k = 3 ∨ k = 4 ∨ k = 5 ∨ k = 6 by omega) with rfl | rfl | rfl | rfl <;> exact cpy_in (by rw [t14c]; exact hp)
  · rcases (show k = 8 ∨ k = 9 ∨ k = 10 by omega) with rfl | rfl | rfl <;> exact cpy_in (by rw [t12c]; exact hp)
  · rcases (show k = 12 ∨ k = 13 ∨ k = 14 by omega) with rfl | rfl | rfl <;> exact cpy_in (by rw [t4c]; exact hp)
theorem RT.copy {T U : St} {g g2 : Nat → Int32} {H P V B : Nat} (h : RT T g H P V B) (h3 : ∀ k, k = 0 ∨ k = 1 ∨ k = 2 ∨ k = 7 ∨ k = 11 → U k 0 = T k 0) (h4 : ∀ k p, 3 ≤ k → k < 7 → p < 14 → U k p = T k p) (h5 : ∀ k p, 8 ≤ k → k < 11 → p < 12 → U k p = T k p) (h6 : ∀ k p, 12 ≤ k → k < 15 → p < 4 → U k p = T k p) (hg : ∀ j, j < 92 → g2 j = g j) : RT U g2 H P V B := by
  obtain ⟨w, ⟨t0, t2, g88, t7, g89, t11, g90, t1, g91⟩, c1, c2, c3⟩ := h.un
  refine RT.mk w ⟨?_, ?_, ?_, ?_, ?_, ?_, ?_, ?_, ?_⟩ (c1.cg (fun p hp => ⟨h4 3 p (by omega) (by omega) (by omega), h4 4 p (by omega) (by omega) (by omega), h4 5 p (by omega) (by omega) (by omega), h4 6 p (by omega) (by omega) (by omega)⟩) (fun j hj => hg j (by omega))) (c2.cg (Nat.le_refl P) (fun p hp => ⟨h5 8 p (by omega) (by omega) (by omega), h5 9 p (by omega) (by omega) (by omega), h5 10 p (by omega) (by omega) (by omega)⟩) (fun j h1 h2 => hg j (by omega))) (c3.cg (fun p hp => ⟨h6 12 p (by omega) (by omega) (by omega), h6 13 p (by omega) (by omega) (by omega), h6 14 p (by omega) (by omega) (by omega)⟩) (fun j h1 h2 => hg j (by omega)))
  · rw [h3 0 (by omega)]; exact t0
  · rw [h3 2 (by omega)]; exact t2
  · rw [hg 88 (by omega)]; exact g88
  · rw [h3 7 (by omega)]; exact t7
  · rw [hg 89 (by omega)]; exact g89
  · rw [h3 11 (by omega)]; exact t11
  · rw [hg 90 (by omega)]; exact g90
  · rw [h3 1 (by omega), hg 91 (by omega)]; exact t1
  · rw [hg 91 (by omega)]; exact g91
theorem op_keep : Op_keep Rel := by
  intro x1 G M hR
  obtain ⟨H, hH, ⟨P, V, B, hT⟩, hI, hA, hW, hS, hQ, hN⟩ := id hR
  have hb := hT.1
  unfold f_X6_keep f_X7_keep
  rw [C_isImage, M_in x1 (n := 2) (by decide) (by decide)]
  rcases tf (vd 2 x1) with v1 | v1
  · rw [vb_t v1, vb_t v1]
    obtain ⟨k, hk, rfl⟩ := vd_t v1
    have e92 : (92 : Int32) * (nI k + 1) = nI (92 * (k + 1)) := by rw [p1, i92, nI_mul]
    obtain ⟨M', m1, m2, m3, m4⟩ := M_copies M 0 (92 * (k + 1)) (by omega) (by omega) (by omega)
    have m1' : f_X7_copies 0 (nI (92 * (k + 1))) M = some M' := m1
    have nar : vp_nar .boolean (1 : Int32) = 1 := rfl
    rw [e92, m1', bd_s, ix_in (by omega) (by omega), ix_in (by omega) (by omega), tN_nI (by omega), m2 33 (by omega), (hI k hk).1]
    obtain ⟨U, u1, u2, u3, u4, u5, u6, u7⟩ := C_copyOf (sb (64 + 32 * k) G) G
    have key : ∀ y : Int32, ∃ G' M2 : St, f_X6_keep_23 (nI k) y G = some (y, G') ∧ f_X7_keep_37 (nI k) y M' = some (y, M2) ∧ Rel G' M2 := by
      intro y
      unfold f_X6_keep_23 f_X7_keep_37
      rw [sb0, nar, ix_in (by omega) (by omega), tN_nI (by omega)]
      have hC : ∃ G' : St, (if nI k = 0 then (f_X5_copyOf (jn 32 (sb 64 G) G)).bind (fun q2 => ix (nI k) 2 (some (y, st 186 (upd (G 186) k 1) (pt 0 32 (sb 32 q2) (pt 64 32 q2 G))))) else if nI k = 1 then (f_X5_copyOf (jn 32 (sb 96 G) G)).bind (fun q1 => ix (nI k) 2 (some (y, st 186 (upd (G 186) k 1) (pt 0 32 (sb 32 q1) (pt 96 32 q1 G))))) else none) = some (y, G') ∧ (∀ j, j < 64 + 32 * k → G' j = G j) ∧ (∀ j, j < 32 → G' (64 + 32 * k + j) = U j) ∧ (∀ j, 96 + 32 * k ≤ j → j ≠ 186 → G' j = G j) ∧ G' 186 = upd (G 186) k 1 := by
        have hsb : sb 32 U = G := funext fun j => u2 j
        rcases (show k = 0 ∨ k = 1 by omega) with rfl | rfl
        · have u1' : f_X5_copyOf (jn 32 (sb 64 G) G) = some U := u1
          refine ⟨_, by rw [if_pos n0, u1', bd_s, ix_in (by omega) (by omega)], ?_, ?_, ?_, ?_⟩
          · intro j hj
            rw [st_ne (by omega), hsb]
            by_cases c : j < 32
            · rw [pt_in (by omega) (by omega)]
              rfl
            · rw [pt_out (by omega), pt_out (by omega)]
          · intro j hj
            rw [st_ne (by omega), pt_out (by omega), pt_in (by omega) (by omega)]
            exact congrArg U (by omega)
          · intro j hj hj2
            rw [st_ne (by omega), pt_out (by omega), pt_out (by omega)]
          · rw [st_eq]
        · have u1' : f_X5_copyOf (jn 32 (sb 96 G) G) = some U := u1
          refine ⟨_, by rw [if_neg (by decide), if_pos n1, u1', bd_s, ix_in (by omega) (by omega)], ?_, ?_, ?_, ?_⟩
          · intro j hj
            rw [st_ne (by omega), hsb]
            by_cases c : j < 32
            · rw [pt_in (by omega) (by omega)]
              rfl
            · rw [pt_out (by omega), pt_out (by omega)]
          · intro j hj
            rw [st_ne (by omega), pt_out (by omega), pt_in (by omega) (by omega)]
            exact congrArg U (by omega)
          · intro j hj hj2
            rw [st_ne (by omega), pt_out (by omega), pt_out (by omega)]
          · rw [st_eq]
      obtain ⟨G', c1, c2, c3, c4, c5⟩ := hC
      refine ⟨G', _, c1, rfl, H, ?_, ⟨P, V, B, ?_⟩, ?_, ?_, ?_, ?_, ?_, ?_⟩
      · rw [st_ne (by omega), m2 1 (by omega)]
        exact hH
      · exact hT.cg (fun j hj => c2 j (by omega)) (fun j hj => by rw [st_ne (by omega)]; exact m4 j (by omega))
      · intro i hi
        by_cases c : i = k
        · subst c
          refine ⟨?_, Or.inr ⟨?_, P, V, B, ?_⟩⟩
          · rw [c5, st_eq, upd_eq, upd_eq]
          · rw [st_eq, upd_eq]
          · exact (hT.copy u4 u5 u6 u7 (g2 := M 0) (fun _ _ => rfl)).cg (fun j hj => c3 j (by omega)) (fun j hj => by show st 33 (upd (M' 33) i 1) M' 0 (92 * (i + 1) + j) = M 0 j; rw [st_ne (by omega), m3 j (by omega), Nat.zero_add])
        · obtain ⟨h1, h2⟩ := hI i hi
          have e186 : G' 186 i = G 186 i := by rw [c5, upd_ne c]
          have e33 : st 33 (upd (M' 33) k 1) M' 33 i = M 33 i := by rw [st_eq, upd_ne c, m2 33 (by omega)]
          refine ⟨by rw [e186, e33]; exact h1, ?_⟩
          rcases h2 with h2 | ⟨h2, P2, V2, B2, h3⟩
          · exact Or.inl (by rw [e33]; exact h2)
          · refine Or.inr ⟨by rw [e33]; exact h2, P2, V2, B2, h3.cg (fun j hj => ?_) (fun j hj => ?_)⟩
            · show G' (64 + 32 * i + j) = G (64 + 32 * i + j)
              by_cases z : i < k
              · exact c2 _ (by omega)
              · exact c4 _ (by omega) (by omega)
            · show st 33 (upd (M' 33) k 1) M' 0 (92 * (i + 1) + j) = M 0 (92 * (i + 1) + j)
              rw [st_ne (by omega)]
              exact m4 _ (by omega)
      · exact hA.cg (c4 128 (by omega) (by omega)) (c4 129 (by omega) (by omega)) (by rw [st_ne (by omega), m2 9 (by omega)]) (by rw [st_ne (by omega), m2 8 (by omega)])
      · exact hW.cg (fun j a b => c4 j (by omega) (by omega)) (by rw [st_ne (by omega), m2 23 (by omega)]) (by rw [st_ne (by omega), m2 24 (by omega)])
      · exact hS.cg (fun j a b => c4 j (by omega) (by omega)) (by rw [st_ne (by omega), m2 31 (by omega)]) (by rw [st_ne (by omega), m2 32 (by omega)])
      · exact fun i hi => (hQ i hi).cg hi (fun j a b => c4 j (by omega) (by omega)) (by rw [st_ne (by omega), m2 34 (by omega)]) (by rw [st_ne (by omega), m2 35 (by omega)]) (by rw [st_ne (by omega), m2 36 (by omega)])
      · exact hN.cg (c4 184 (by omega) (by omega)) (c4 185 (by omega) (by omega)) (by rw [st_ne (by omega), m2 10 (by omega)]) (by rw [st_ne (by omega), m2 37 (by omega)]) (by rw [st_ne (by omega), m2 17 (by omega)]) (by rw [st_ne (by omega), m2 18 (by omega)])
    by_cases q : M 33 k = 0
    · rw [if_pos q, if_pos q]
      obtain ⟨G', M2, a, b, c⟩ := key 0
      exact ⟨0, G', M2, a, b, c⟩
    · rw [if_neg q, if_neg q]
      obtain ⟨G', M2, a, b, c⟩ := key 1
      exact ⟨1, G', M2, a, b, c⟩
  · rw [vb_f v1, vb_f v1]
    exact ⟨_, _, _, rfl, rfl, hR⟩
theorem op_back : Op_back Rel := by
  intro x1 G M hR
  obtain ⟨H, hH, ⟨P, V, B, hT⟩, hI, hA, hW, hS, hQ, hN⟩ := id hR
  have hb := hT.1
  unfold f_X6_back f_X7_back
  rw [C_isImage, M_in x1 (n := 2) (by decide) (by decide)]
  rcases tf (vd 2 x1) with v1 | v1
  · rw [vb_t v1, vb_t v1]
    obtain ⟨k, hk, rfl⟩ := vd_t v1
    obtain ⟨h1, h2⟩ := hI k hk
    rw [ix_in (by omega) (by omega), ix_in (by omega) (by omega), tN_nI (by omega), h1]
    by_cases q : M 33 k = 0
    · rw [if_pos q, if_pos q]
      exact ⟨_, _, _, rfl, rfl, hR⟩
    · rw [if_neg q, if_neg q]
      rcases h2 with h2 | ⟨h2, P2, V2, B2, h3⟩
      · exact absurd h2 q
      have e92 : (92 : Int32) * (nI k + 1) = nI (92 * (k + 1)) := by rw [p1, i92, nI_mul]
      obtain ⟨M', m1, m2, m3, m4⟩ := M_copies M (92 * (k + 1)) 0 (by omega) (by omega) (by omega)
      have m1' : f_X7_copies (nI (92 * (k + 1))) 0 M = some M' := m1
      obtain ⟨U, u1, u2, u3, u4, u5, u6, u7⟩ := C_copyOf G (sb (64 + 32 * k) G)
      have hT2 : RT U (M' 0) H P2 V2 B2 := h3.copy u4 u5 u6 u7 (fun j hj => by have := m3 j hj; rw [Nat.zero_add] at this; exact this)
      obtain ⟨w, ⟨t0, t2, g88, t7, g89, t11, g90, t1, g91⟩, c1, c2, c3⟩ := hT2.un
      rw [e92, m1', bd_s, M_people g88, bd_s, sb0]
      have hC : ∃ G' : St, (if nI k = 0 then (f_X5_copyOf (jn 32 G (sb 64 G))).bind (fun q3 => some (q3 2 0, pt 64 32 (sb 32 q3) (pt 0 32 q3 G))) else if nI k = 1 then (f_X5_copyOf (jn 32 G (sb 96 G))).bind (fun q2 => some (q2 2 0, pt 96 32 (sb 32 q2) (pt 0 32 q2 G))) else none) = some (nI P2, G') ∧ (∀ j, j < 32 → G' j = U j) ∧ (∀ j, 32 ≤ j → G' j = G j) := by
        rcases (show k = 0 ∨ k = 1 by omega) with rfl | rfl
        · have u1' : f_X5_copyOf (jn 32 G (sb 64 G)) = some U := u1
          refine ⟨_, by rw [if_pos n0, u1', bd_s, t2], ?_, ?_⟩
          · intro j hj
            rw [pt_out (by omega), pt_in (by omega) (by omega)]
            rfl
          · intro j hj
            by_cases c : 64 ≤ j ∧ j < 96
            · rw [pt_in (by omega) (by omega)]
              show U (32 + (j - 64)) = G j
              rw [u2]
              exact congrArg G (by omega)
            · rw [pt_out (by omega), pt_out (by omega)]
        · have u1' : f_X5_copyOf (jn 32 G (sb 96 G)) = some U := u1
          refine ⟨_, by rw [if_neg (by decide), if_pos n1, u1', bd_s, t2], ?_, ?_⟩
          · intro j hj
            rw [pt_out (by omega), pt_in (by omega) (by omega)]
            rfl
          · intro j hj
            by_cases c : 96 ≤ j ∧ j < 128
            · rw [pt_in (by omega) (by omega)]
              show U (32 + (j - 96)) = G j
              rw [u2]
              exact congrArg G (by omega)
            · rw [pt_out (by omega), pt_out (by omega)]
      obtain ⟨G', a1, a2, a3⟩ := hC
      exact ⟨_, G', M', a1, rfl, hR.town hH (hT2.cg (fun j hj => a2 j (by omega)) (fun _ _ => rfl)) (fun j hj => a3 j (by omega)) m2 (fun j b1 b2 => m4 j (by omega))⟩
  · rw [vb_f v1, vb_f v1]
    exact ⟨_, _, _, rfl, rfl, hR⟩
theorem C_isSheet (x : Int32) (S : St) : f_X1_isSheet x S = some (if vd 4 x = true then 1 else 0) := vd_c (n := 4) (by omega)
theorem C_isLane (x : Int32) (S : St) : f_X1_isLane x S = some (if vd 3 x = true then 1 else 0) := vd_c (n := 3) (by omega)
theorem C_rn (k : Nat) (hk : k < 4) (n : Nat) (x : Int32) (S : St) : f_X1_renew_17 (n + 1) (nI k) x S = if (40 : Int32) ≤ x then some S else ix x 40 (f_X1_renew_17 n (nI k) (x + 1) (st k (upd (S k) (Int32.toNatClampNeg x) 0) S)) := by
  rw [f_X1_renew_17_s]
  rcases (show k = 0 ∨ k = 1 ∨ k = 2 ∨ k = 3 by omega) with rfl | rfl | rfl | rfl
  · rw [if_pos n0]
  · rw [if_neg (show ¬ nI 1 = 0 by decide), if_pos n1]
  · rw [if_neg (show ¬ nI 2 = 0 by decide), if_neg (show ¬ nI 2 = 1 by decide), if_pos n2]
  · rw [if_neg (show ¬ nI 3 = 0 by decide), if_neg (show ¬ nI 3 = 1 by decide), if_neg (show ¬ nI 3 = 2 by decide), if_pos n3]
theorem C_rn_l (S0 : St) (k : Nat) (hk : k < 4) : ∀ (n i : Nat) (S : St), i + n > 40 → i ≤ 40 → (∀ j, j ≠ k → S j = S0 j) → (∀ j, j < i → S k j = 0) → ∃ S' : St, f_X1_renew_17 n (nI k) (nI i) S = some S' ∧ (∀ j, j ≠ k → S' j = S0 j) ∧ ∀ j, j < 40 → S' k j = 0 := by
  intro n
  induction n with
  | zero => intro i S h1 h2; omega
  | succ n ih =>
    intro i S h1 h2 h3 h4
    rw [C_rn k hk, i40]
    by_cases hi : i = 40
    · subst hi
      rw [if_pos (nI_le (Nat.le_refl 40) (by omega))]
      exact ⟨S, rfl, h3, h4⟩
    · rw [if_neg (nI_ge (by omega) (by omega)), ix_in (by omega) (by omega), tN_nI (by omega), p1]
      refine ih (i + 1) _ (by omega) (by omega) (fun j hj => ?_) (fun j hj => ?_)
      · rw [st_ne hj]
        exact h3 j hj
      · rw [st_eq]
        by_cases c : j = i
        · rw [c, upd_eq]
        · rw [upd_ne c]
          exact h4 j (by omega)
theorem M_sh_l (M0 : St) (k : Nat) (hk : k < 4) : ∀ (n i : Nat) (M : St), i + n > 40 → i ≤ 40 → (∀ j, j ≠ 36 → M j = M0 j) → (∀ j, j < i → M 36 (40 * k + j) = 0) → (∀ j, j < 40 * k ∨ 40 * k + 40 ≤ j → M 36 j = M0 36 j) → ∃ M' : St, f_X7_sheet_56 n (nI k) (nI i) M = some (1, M') ∧ (∀ j, j ≠ 36 → M' j = M0 j) ∧ (∀ j, j < 40 → M' 36 (40 * k + j) = 0) ∧ (∀ j, j < 40 * k ∨ 40 * k + 40 ≤ j → M' 36 j = M0 36 j) := by
  intro n
  induction n with
  | zero => intro i S h1 h2; omega
  | succ n ih =>
    intro i S h1 h2 h3 h4 h5
    rw [f_X7_sheet_56_s, i40]
    by_cases hi : i = 40
    · subst hi
      rw [if_pos (nI_le (Nat.le_refl 40) (by omega))]
      exact ⟨S, rfl, h3, h4, h5⟩
    · rw [if_neg (nI_ge (by omega) (by omega)), nI_mul, nI_add, ix_in (by omega) (by omega), tN_nI (by omega), p1]
      refine ih (i + 1) _ (by omega) (by omega) (fun j hj => ?_) (fun j hj => ?_) (fun j hj => ?_)
      · rw [st_ne hj]
        exact h3 j hj
      · rw [st_eq]
        by_cases c : j = i
        · rw [c, upd_eq]
        · rw [upd_ne (by omega)]
          exact h4 j (by omega)
      · rw [st_eq, upd_ne (by omega)]
        exact h5 j hj
theorem op_sheet : Op_sheet Rel := by
  intro x1 x2 x3 G M hR
  obtain ⟨H, hH, ⟨P, V, B, hT⟩, hI, hA, hW, hS, hQ, hN⟩ := id hR
  have hb := hT.1
  unfold f_X6_sheet f_X7_sheet f_X1_renew
  rw [C_isSheet, C_isLane, M_in x1 (n := 4) (by decide) (by decide), M_in x2 (n := 3) (by decide) (by decide)]
  rcases tf (vd 4 x1) with v1 | v1
  · rw [vb_t v1, vb_t v1]
    rcases tf (vd 3 x2) with v2 | v2
    · rw [vb_t v2, vb_t v2]
      obtain ⟨k, hk, rfl⟩ := vd_t v1
      obtain ⟨l, hl, rfl⟩ := vd_t v2
      by_cases q1 : x3 ≤ 40
      · rw [if_pos q1, if_pos q1]
        by_cases q2 : 0 ≤ x3
        · rw [if_pos q2, if_pos q2]
          obtain ⟨n, hn, rfl⟩ := nI_of (Int32.not_lt.mpr q2)
          have hn2 : n ≤ 40 := (nI_leI hn (by omega)).mp q1
          rw [ix_in (by omega) (by omega), ix_in (by omega) (by omega), ix_in (by omega) (by omega), ix_in (by omega) (by omega), tN_nI (by omega)]
          obtain ⟨S', s1, s2, s3⟩ := C_rn_l (st 5 (upd (sb 176 G 5) k (nI n)) (st 4 (upd (sb 176 G 4) k (nI l)) (sb 176 G))) k hk 1000 0 _ (by omega) (by omega) (fun _ _ => rfl) (fun j hj => by omega)
          obtain ⟨M', m1, m2, m3, m4⟩ := M_sh_l (st 35 (upd (M 35) k (nI n)) (st 34 (upd (M 34) k (nI l)) M)) k hk 1000 0 _ (by omega) (by omega) (fun _ _ => rfl) (fun j hj => by omega) (fun _ _ => rfl)
          have s1' : f_X1_renew_17 1000 (nI k) 0 (st 5 (upd (sb 176 G 5) k (nI n)) (st 4 (upd (sb 176 G 4) k (nI l)) (sb 176 G))) = some S' := s1
          have m1' : f_X7_sheet_56 1000 (nI k) 0 (st 35 (upd (M 35) k (nI n)) (st 34 (upd (M 34) k (nI l)) M)) = some (1, M') := m1
          rw [s1', bd_s, m1']
          have g4 : pt 176 8 S' G 180 = upd (G 180) k (nI l) := by
            rw [pt_in (by omega) (by omega)]
            exact (s2 4 (by omega)).trans rfl
          have g5 : pt 176 8 S' G 181 = upd (G 181) k (nI n) := by
            rw [pt_in (by omega) (by omega)]
            exact (s2 5 (by omega)).trans rfl
          have e34 : M' 34 = upd (M 34) k (nI l) := (m2 34 (by omega)).trans rfl
          have e35 : M' 35 = upd (M 35) k (nI n) := (m2 35 (by omega)).trans rfl
          refine ⟨_, _, _, rfl, rfl, hR.sheet hH (by omega) (fun j hj => ?_) (fun j hj => ?_) (fun i hi => ?_)⟩
          · by_cases c : j < 176 ∨ 184 ≤ j
            · exact pt_out c
            · rw [pt_in (by omega) (by omega), s2 (j - 176) (by omega), st_ne (by omega), st_ne (by omega)]
              exact congrArg G (by omega)
          · rw [m2 j (by omega), st_ne (by omega), st_ne (by omega)]
          · by_cases c : i = k
            · subst c
              refine Or.inr ⟨n, l, hn2, hl, by rw [g5, upd_eq], by rw [e35, upd_eq], by rw [g4, upd_eq], by rw [e34, upd_eq], fun j hj => ?_⟩
              rw [pt_in (by omega) (by omega), show 176 + i - 176 = i by omega, s3 j (by omega), m3 j (by omega)]
            · have gi : pt 176 8 S' G (176 + i) = G (176 + i) := by
                rw [pt_in (by omega) (by omega), s2 (176 + i - 176) (by omega), st_ne (by omega), st_ne (by omega)]
                exact congrArg G (by omega)
              unfold RSheet
              rw [g4, g5, e34, e35, gi, upd_ne c, upd_ne c, upd_ne c, upd_ne c]
              rcases hQ i hi with z | ⟨n2, l2, z1, z2, z3, z4, z5, z6, z7⟩
              · exact Or.inl z
              · refine Or.inr ⟨n2, l2, z1, z2, z3, z4, z5, z6, fun j hj => ?_⟩
                rw [z7 j hj, m4 (40 * i + j) (by omega), st_ne (by omega), st_ne (by omega)]
        · rw [if_neg q2, if_neg q2]
          exact ⟨_, _, _, rfl, rfl, hR⟩
      · rw [if_neg q1, if_neg q1]
        exact ⟨_, _, _, rfl, rfl, hR⟩
    · rw [vb_f v2, vb_f v2]
      exact ⟨_, _, _, rfl, rfl, hR⟩
  · rw [vb_f v1, vb_f v1]
    exact ⟨_, _, _, rfl, rfl, hR⟩
