-- moves, births, wants, what was seen
theorem mv_step {T M : St} {H P V B : Nat} (hT : RT T (M 0) H P V B) (hH : M 1 0 = nI H) (x1 x2 x3 : Int32) : (∃ r, (r = -1 ∨ r = -3) ∧ f_X5_addMove x1 x2 x3 T = some (r, T) ∧ f_X7_moves x1 x2 x3 M = some (r, M)) ∨ (∃ U M2, f_X5_addMove x1 x2 x3 T = some (nI (V + 1), U) ∧ f_X7_moves x1 x2 x3 M = some (nI (V + 1), M2) ∧ RT U (M2 0) H P (V + 1) B ∧ (∀ k, k ≠ 7 → k ≠ 8 → k ≠ 9 → k ≠ 10 → U k = T k) ∧ (∀ k, 0 < k → M2 k = M k) ∧ ∀ j, 92 ≤ j → M2 0 j = M 0 j) := by
  obtain ⟨hb, ⟨t0, t2, g88, t7, g89, t11, g90, t1, g91⟩, c1, c2, c3⟩ := hT.un
  unfold f_X5_addMove f_X7_moves
  rw [C_isDay, M_isDay, C_isHouse t0 (by omega), M_isHouse hH (by omega), C_isOne t2 (by omega), M_isOne g88 (by omega), i89, ix_in (by omega) (by omega), tN_nI (by omega), g89]
  rcases tf (vd 36000 x1) with v1 | v1
  · rw [vb_t v1, vb_t v1]
    rcases tf (vd P x2) with v2 | v2
    · rw [vb_t v2, vb_t v2]
      rcases tf (vd H x3) with v3 | v3
      · rw [vb_t v3, vb_t v3]
        obtain ⟨d, hd, rfl⟩ := vd_t v1
        obtain ⟨p, hp, rfl⟩ := vd_t v2
        obtain ⟨h, hh, rfl⟩ := vd_t v3
        have key : (∃ r, (r = -1 ∨ r = -3) ∧ (if T 7 0 < 12 then (f_X5_putMove (nI d) (nI p) (nI h) T).bind (fun q5 => (some ((q5 7 0), q5))) else some ((-3 : Int32), T)) = some (r, T) ∧ f_X7_moves_57 (nI d) (nI p) (nI h) (nI V) M = some (r, M)) ∨ (∃ U M2, (if T 7 0 < 12 then (f_X5_putMove (nI d) (nI p) (nI h) T).bind (fun q5 => (some ((q5 7 0), q5))) else some ((-3 : Int32), T)) = some (nI (V + 1), U) ∧ f_X7_moves_57 (nI d) (nI p) (nI h) (nI V) M = some (nI (V + 1), M2) ∧ RT U (M2 0) H P (V + 1) B ∧ (∀ k, k ≠ 7 → k ≠ 8 → k ≠ 9 → k ≠ 10 → U k = T k) ∧ (∀ k, 0 < k → M2 k = M k) ∧ ∀ j, 92 ≤ j → M2 0 j = M 0 j) := by
          unfold f_X7_moves_57
          rw [t7, i12]
          by_cases q : V = 12
          · subst q
            rw [if_pos rfl, if_neg (nI_nlt (by omega) (by omega))]
            exact Or.inl ⟨_, Or.inr rfl, rfl, rfl⟩
          · rw [if_neg (fun e => q ((nI_eq (by omega) (by omega)).mp e)), if_pos (nI_lt (by omega) (by omega))]
            obtain ⟨U, u1, u2, u3, u4, u5, u6⟩ := C_putMove (T := T) (nI d) (nI p) (nI h) t7 (by omega)
            rw [u1, bd_s, u3]
            simp (disch := omega) only [ix_in, tN_nI, i40, ad3, p1, p2, i89]
            refine Or.inr ⟨_, _, rfl, rfl, hT.putMove (by omega) u2 u3 u4 u5 u6 ?_ ⟨?_, ?_, ?_, ?_⟩ ⟨d, hd, rfl⟩ ⟨p, hp, rfl⟩ ⟨h, hh, rfl⟩, u2, ?_, ?_⟩
            · intro j hj
              rw [st_eq, upd_ne (by omega), upd_ne (by omega), upd_ne (by omega), upd_ne (by omega)]
            · rw [st_eq, upd_ne (by omega), upd_ne (by omega), upd_ne (by omega), upd_eq]
            · rw [st_eq, upd_ne (by omega), upd_ne (by omega), upd_eq]
            · rw [st_eq, upd_ne (by omega), upd_eq]
            · rw [st_eq, upd_eq, upd_ne (by omega), upd_ne (by omega), upd_ne (by omega), g89, p1]
            · intro k hk
              rw [st_ne (by omega), st_ne (by omega), st_ne (by omega), st_ne (by omega)]
            · intro j h1
              rw [st_eq, upd_ne (by omega), upd_ne (by omega), upd_ne (by omega), upd_ne (by omega)]
        unfold f_X5_isTooEarly
        rw [t7] at key ⊢
        by_cases q : V = 0
        · subst q
          rw [if_pos (by decide), if_pos (by decide), bd_s, if_pos rfl]
          exact key
        · obtain ⟨W, rfl⟩ : ∃ W, V = W + 1 := ⟨V - 1, by omega⟩
          have e : (40 : Int32) + (3 : Int32) * nI (W + 1) - (3 : Int32) = nI (40 + 3 * W) := by
            rw [i40, ad3, i3, nI_sub (by omega)]
            exact congrArg nI (by omega)
          have w0 : ¬ nI (W + 1) ≤ (0 : Int32) := nI_ge (b := W + 1) (a := 0) (by omega) (by omega)
          rw [if_neg w0, if_neg w0, nI_pred, e, ix_in (by omega) (by omega), ix_in (by omega) (by omega), tN_nI (by omega), tN_nI (by omega), (c2 W (by omega)).1]
          by_cases z : M 0 (40 + 3 * W) ≤ nI d
          · rw [if_pos z, if_pos z, bd_s, if_pos rfl]
            exact key
          · rw [if_neg z, if_neg z, bd_s, if_neg (by decide)]
            exact Or.inl ⟨_, Or.inl rfl, rfl, rfl⟩
      · rw [vb_f v3, vb_f v3]
        exact Or.inl ⟨_, Or.inl rfl, rfl, rfl⟩
    · rw [vb_f v2, vb_f v2]
      exact Or.inl ⟨_, Or.inl rfl, rfl, rfl⟩
  · rw [vb_f v1, vb_f v1]
    exact Or.inl ⟨_, Or.inl rfl, rfl, rfl⟩
theorem op_move : Op_move Rel := by
  intro x1 x2 x3 G M hR
  obtain ⟨H, hH, ⟨P, V, B, hT⟩, -⟩ := id hR
  unfold f_X6_move f_X7_move
  rw [sb0]
  rcases mv_step hT hH x1 x2 x3 with ⟨r, -, e1, e2⟩ | ⟨U, M2, e1, e2, e3, e4, e5, e6⟩
  · rw [e1, e2]
    refine ⟨r, pt 0 32 G G, M, rfl, rfl, hR.cg (fun k hk => ?_) FM.rf⟩
    by_cases c : k < 32
    · rw [pt_in (by omega) (by omega)]
      rfl
    · exact pt_out (by omega)
  · rw [e1, e2]
    exact ⟨_, _, _, rfl, rfl, hR.town hH (RT.pt e3) (fun k hk => pt_o (by omega)) e5 (fun j h1 h2 => e6 j h1)⟩
theorem M_inD (x : Int32) {a : Nat} (ha : a < 36000) : f_X7_in (Int32.toInt64 x) (Int32.toInt64 (nI a)) 35999 = some (if decide (nI a ≤ x) = true ∧ vd 36000 x = true then 1 else 0) := by
  rw [M_in0]
  have e : (Int32.toInt64 x).toInt = x.toInt := Int32.toInt_toInt64 x
  have e2 : (Int32.toInt64 (nI a)).toInt = a := by rw [Int32.toInt_toInt64, nI_toInt (by omega)]
  have e3 : (35999 : Int64).toInt = 35999 := by decide
  have k : (Int32.toInt64 (nI a) ≤ Int32.toInt64 x ∧ Int32.toInt64 x ≤ 35999) ↔ (decide (nI a ≤ x) = true ∧ vd 36000 x = true) := by
    unfold vd
    rw [Int64.le_iff_toInt_le, Int64.le_iff_toInt_le, e, e2, e3, decide_eq_true_iff, decide_eq_true_iff, Int32.le_iff_toInt_le, nI_toInt (by omega)]
    omega
  simp only [k]
theorem op_expect : Op_expect Rel := by
  intro x1 x2 x3 G M hR
  obtain ⟨H, hH, ⟨P, V, B, hT⟩, -⟩ := id hR
  obtain ⟨hb, ⟨t0, t2, g88, t7, g89, t11, g90, t1, g91⟩, c1, c2, c3⟩ := hT.un
  unfold f_X6_expect f_X7_expect
  rw [sb0, C_isDay, M_isDay, C_isDay, C_isHouse t0 (by omega), M_isHouse hH (by omega)]
  rcases tf (vd H x1) with v1 | v1
  · rw [vb_t v1, vb_t v1]
    rcases tf (vd 36000 x2) with v2 | v2
    · rw [vb_t v2, vb_t v2]
      obtain ⟨h, hh, rfl⟩ := vd_t v1
      obtain ⟨a, ha, rfl⟩ := vd_t v2
      rw [M_inD x3 ha]
      rcases tf (vd 36000 x3) with v3 | v3
      · rw [vb_t v3]
        by_cases c : nI a ≤ x3
        · have hq : decide (nI a ≤ x3) = true ∧ vd 36000 x3 = true := ⟨decide_eq_true c, v3⟩
          rw [if_pos c, if_pos hq, bd_s, if_neg (show ¬ (1 : Int32) = 0 by decide), i90, ix_in (by omega) (by omega), tN_nI (by omega), g90, t11, i4]
          obtain ⟨b, hb2, rfl⟩ := vd_t v3
          have hab : a ≤ b := (nI_leI (by omega) (by omega)).mp c
          by_cases q : B = 4
          · subst q
            rw [if_pos rfl, if_neg (nI_nlt (by omega) (by omega))]
            exact ⟨_, _, _, rfl, rfl, hR⟩
          · rw [if_neg (fun e => q ((nI_eq (by omega) (by omega)).mp e)), if_pos (nI_lt (by omega) (by omega))]
            obtain ⟨U, u1, u2, u3, u4, u5, u6⟩ := C_addBirth (T := G) (nI h) (nI a) (nI b) t11 (by omega)
            rw [u1, bd_s, u3]
            simp (disch := omega) only [ix_in, tN_nI, i76, ad3, p1, p2]
            refine ⟨_, _, _, rfl, rfl, hR.town hH (P := P) (V := V) (B := B + 1) (RT.pt (hT.addBirth (by omega) u2 u3 u4 u5 u6 ?_ ⟨?_, ?_, ?_, ?_⟩ ⟨h, hh, rfl⟩ hab hb2)) (fun k hk => pt_o (by omega)) ?_ ?_⟩
            · intro j hj
              rw [st_eq, upd_ne (by omega), upd_ne (by omega), upd_ne (by omega), upd_ne (by omega)]
            · rw [st_eq, upd_ne (by omega), upd_ne (by omega), upd_ne (by omega), upd_eq]
            · rw [st_eq, upd_ne (by omega), upd_ne (by omega), upd_eq]
            · rw [st_eq, upd_ne (by omega), upd_eq]
            · rw [st_eq, upd_eq, upd_ne (by omega), upd_ne (by omega), upd_ne (by omega), g90, p1]
            · intro k hk
              rw [st_ne (by omega), st_ne (by omega), st_ne (by omega), st_ne (by omega)]
            · intro j h1 h2
              rw [st_eq, upd_ne (by omega), upd_ne (by omega), upd_ne (by omega), upd_ne (by omega)]
        · rw [if_neg c, if_neg (fun q => c (of_decide_eq_true q.1)), bd_s, if_pos rfl]
          exact ⟨_, _, _, rfl, rfl, hR⟩
      · rw [vb_f v3, if_neg (fun q => by rw [v3] at q; exact Bool.noConfusion q.2), bd_s, if_pos rfl]
        exact ⟨_, _, _, rfl, rfl, hR⟩
    · rw [vb_f v2, vb_f v2]
      exact ⟨_, _, _, rfl, rfl, hR⟩
  · rw [vb_f v1, vb_f v1]
    exact ⟨_, _, _, rfl, rfl, hR⟩
