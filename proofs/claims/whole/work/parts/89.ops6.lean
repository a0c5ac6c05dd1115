-- the state but for one piece
theorem Rel.want {G G2 M M2 : St} {H : Nat} (h : Rel G M) (hH : M 1 0 = nI H) (hHb : H < 2 ^ 31) (hG : ∀ k, k < 144 ∨ 152 ≤ k → G2 k = G k) (hM : ∀ k, k ≠ 23 ∧ k ≠ 24 → M2 k = M k) (hx : RWant G2 M2 H) : Rel G2 M2 := by
  obtain ⟨H2, hH2, ⟨P, V, B, hT⟩, hI, hA, hW, hS, hQ, hN⟩ := h
  have e : H2 = H := by
    rw [hH] at hH2
    have := hT.1
    have hb : H < 2 ^ 31 := hHb
    exact ((nI_eq (by omega) (by omega)).mp hH2).symm
  subst e
  exact ⟨H2, by rw [hM 1 (by omega)]; exact hH, ⟨P, V, B, hT.cg (fun k hk => hG k (by omega)) (fun k hk => by rw [hM 0 (by omega)])⟩, fun k hk => (hI k hk).cg hk (fun j a b => hG j (by omega)) (by rw [hG 186 (by omega)]) (by rw [hM 33 (by omega)]) (fun j a b => by rw [hM 0 (by omega)]), hA.cg (hG 128 (by omega)) (hG 129 (by omega)) (hM 9 (by omega)) (hM 8 (by omega)), hx, hS.cg (fun j a b => hG j (by omega)) (hM 31 (by omega)) (hM 32 (by omega)), fun k hk => (hQ k hk).cg hk (fun j a b => hG j (by omega)) (hM 34 (by omega)) (hM 35 (by omega)) (hM 36 (by omega)), hN.cg (hG 184 (by omega)) (hG 185 (by omega)) (hM 10 (by omega)) (hM 37 (by omega)) (hM 17 (by omega)) (hM 18 (by omega))⟩
theorem Rel.seen {G G2 M M2 : St} {H : Nat} (h : Rel G M) (hH : M 1 0 = nI H) (hHb : H < 2 ^ 31) (hG : ∀ k, k < 152 ∨ 160 ≤ k → G2 k = G k) (hM : ∀ k, k ≠ 31 ∧ k ≠ 32 → M2 k = M k) (hx : RSeen G2 M2 H) : Rel G2 M2 := by
  obtain ⟨H2, hH2, ⟨P, V, B, hT⟩, hI, hA, hW, hS, hQ, hN⟩ := h
  have e : H2 = H := by
    rw [hH] at hH2
    have := hT.1
    have hb : H < 2 ^ 31 := hHb
    exact ((nI_eq (by omega) (by omega)).mp hH2).symm
  subst e
  exact ⟨H2, by rw [hM 1 (by omega)]; exact hH, ⟨P, V, B, hT.cg (fun k hk => hG k (by omega)) (fun k hk => by rw [hM 0 (by omega)])⟩, fun k hk => (hI k hk).cg hk (fun j a b => hG j (by omega)) (by rw [hG 186 (by omega)]) (by rw [hM 33 (by omega)]) (fun j a b => by rw [hM 0 (by omega)]), hA.cg (hG 128 (by omega)) (hG 129 (by omega)) (hM 9 (by omega)) (hM 8 (by omega)), hW.cg (fun j a b => hG j (by omega)) (hM 23 (by omega)) (hM 24 (by omega)), hx, fun k hk => (hQ k hk).cg hk (fun j a b => hG j (by omega)) (hM 34 (by omega)) (hM 35 (by omega)) (hM 36 (by omega)), hN.cg (hG 184 (by omega)) (hG 185 (by omega)) (hM 10 (by omega)) (hM 37 (by omega)) (hM 17 (by omega)) (hM 18 (by omega))⟩
theorem Rel.tape {G G2 M M2 : St} {H : Nat} (h : Rel G M) (hH : M 1 0 = nI H) (hHb : H < 2 ^ 31) (hG : ∀ k, k < 128 ∨ 144 ≤ k → G2 k = G k) (hM : ∀ k, k ≠ 8 ∧ k ≠ 9 → M2 k = M k) (hx : RTape G2 M2) : Rel G2 M2 := by
  obtain ⟨H2, hH2, ⟨P, V, B, hT⟩, hI, hA, hW, hS, hQ, hN⟩ := h
  have e : H2 = H := by
    rw [hH] at hH2
    have := hT.1
    have hb : H < 2 ^ 31 := hHb
    exact ((nI_eq (by omega) (by omega)).mp hH2).symm
  subst e
  exact ⟨H2, by rw [hM 1 (by omega)]; exact hH, ⟨P, V, B, hT.cg (fun k hk => hG k (by omega)) (fun k hk => by rw [hM 0 (by omega)])⟩, fun k hk => (hI k hk).cg hk (fun j a b => hG j (by omega)) (by rw [hG 186 (by omega)]) (by rw [hM 33 (by omega)]) (fun j a b => by rw [hM 0 (by omega)]), hx, hW.cg (fun j a b => hG j (by omega)) (hM 23 (by omega)) (hM 24 (by omega)), hS.cg (fun j a b => hG j (by omega)) (hM 31 (by omega)) (hM 32 (by omega)), fun k hk => (hQ k hk).cg hk (fun j a b => hG j (by omega)) (hM 34 (by omega)) (hM 35 (by omega)) (hM 36 (by omega)), hN.cg (hG 184 (by omega)) (hG 185 (by omega)) (hM 10 (by omega)) (hM 37 (by omega)) (hM 17 (by omega)) (hM 18 (by omega))⟩
theorem Rel.sheet {G G2 M M2 : St} {H : Nat} (h : Rel G M) (hH : M 1 0 = nI H) (hHb : H < 2 ^ 31) (hG : ∀ k, k < 176 ∨ 182 ≤ k → G2 k = G k) (hM : ∀ k, k ≠ 34 ∧ k ≠ 35 ∧ k ≠ 36 → M2 k = M k) (hx : ∀ k, k < 4 → RSheet G2 M2 k) : Rel G2 M2 := by
  obtain ⟨H2, hH2, ⟨P, V, B, hT⟩, hI, hA, hW, hS, hQ, hN⟩ := h
  have e : H2 = H := by
    rw [hH] at hH2
    have := hT.1
    have hb : H < 2 ^ 31 := hHb
    exact ((nI_eq (by omega) (by omega)).mp hH2).symm
  subst e
  exact ⟨H2, by rw [hM 1 (by omega)]; exact hH, ⟨P, V, B, hT.cg (fun k hk => hG k (by omega)) (fun k hk => by rw [hM 0 (by omega)])⟩, fun k hk => (hI k hk).cg hk (fun j a b => hG j (by omega)) (by rw [hG 186 (by omega)]) (by rw [hM 33 (by omega)]) (fun j a b => by rw [hM 0 (by omega)]), hA.cg (hG 128 (by omega)) (hG 129 (by omega)) (hM 9 (by omega)) (hM 8 (by omega)), hW.cg (fun j a b => hG j (by omega)) (hM 23 (by omega)) (hM 24 (by omega)), hS.cg (fun j a b => hG j (by omega)) (hM 31 (by omega)) (hM 32 (by omega)), hx, hN.cg (hG 184 (by omega)) (hG 185 (by omega)) (hM 10 (by omega)) (hM 37 (by omega)) (hM 17 (by omega)) (hM 18 (by omega))⟩
theorem Rel.num {G G2 M M2 : St} {H : Nat} (h : Rel G M) (hH : M 1 0 = nI H) (hHb : H < 2 ^ 31) (hG : ∀ k, k ≠ 184 ∧ k ≠ 185 → G2 k = G k) (hM : ∀ k, k ≠ 10 ∧ k ≠ 37 → M2 k = M k) (hx : RNum G2 M2) : Rel G2 M2 := by
  obtain ⟨H2, hH2, ⟨P, V, B, hT⟩, hI, hA, hW, hS, hQ, hN⟩ := h
  have e : H2 = H := by
    rw [hH] at hH2
    have := hT.1
    have hb : H < 2 ^ 31 := hHb
    exact ((nI_eq (by omega) (by omega)).mp hH2).symm
  subst e
  exact ⟨H2, by rw [hM 1 (by omega)]; exact hH, ⟨P, V, B, hT.cg (fun k hk => hG k (by omega)) (fun k hk => by rw [hM 0 (by omega)])⟩, fun k hk => (hI k hk).cg hk (fun j a b => hG j (by omega)) (by rw [hG 186 (by omega)]) (by rw [hM 33 (by omega)]) (fun j a b => by rw [hM 0 (by omega)]), hA.cg (hG 128 (by omega)) (hG 129 (by omega)) (hM 9 (by omega)) (hM 8 (by omega)), hW.cg (fun j a b => hG j (by omega)) (hM 23 (by omega)) (hM 24 (by omega)), hS.cg (fun j a b => hG j (by omega)) (hM 31 (by omega)) (hM 32 (by omega)), fun k hk => (hQ k hk).cg hk (fun j a b => hG j (by omega)) (hM 34 (by omega)) (hM 35 (by omega)) (hM 36 (by omega)), hx⟩
theorem op_content : Op_content Rel := by
  intro G M hR
  obtain ⟨H, hH, ⟨P, V, B, hT⟩, -, -, ⟨w0, w, hw, hw2, hw3, hw4⟩, -⟩ := id hR
  have hb := hT.1
  refine ⟨_, _, _, rfl, by unfold f_X7_content; rw [hw3, ← hw2], hR.want hH (by omega) (fun k hk => st_ne (by omega)) (fun k hk => st_ne (by omega)) ⟨w0, 0, by omega, rfl, rfl, fun i hi => by omega⟩⟩
theorem op_forget : Op_forget Rel := by
  intro x1 G M hR
  obtain ⟨H, hH, ⟨P, V, B, hT⟩, -, -, -, ⟨w0, w, hw, hw2, hw3, hw4⟩, -⟩ := id hR
  have hb := hT.1
  unfold f_X6_forget f_X7_forget
  rw [hw2, hw3, M_inN x1 (by omega), vd_le (by omega)]
  rcases tf (vd (w + 1) x1) with v1 | v1
  · rw [if_pos v1, vb_t v1]
    obtain ⟨j, hj, rfl⟩ := vd_t v1
    exact ⟨_, _, _, rfl, rfl, hR.seen hH (by omega) (fun k hk => st_ne (by omega)) (fun k hk => st_ne (by omega)) ⟨w0, j, by omega, rfl, rfl, fun i hi => hw4 i (by omega)⟩⟩
  · rw [vb_f v1, if_neg (by rw [v1]; decide)]
    exact ⟨_, _, _, rfl, rfl, hR⟩
theorem op_end : Op_end Rel := by
  intro x1 G M hR
  obtain ⟨H, hH, ⟨P, V, B, hT⟩, -, ⟨w, hw, hw2, hw3, hw4⟩, -⟩ := id hR
  have hb := hT.1
  unfold f_X6_end f_X7_end
  rw [hw2, hw3, M_inN x1 (by omega), vd_le (by omega)]
  rcases tf (vd (w + 1) x1) with v1 | v1
  · rw [if_pos v1, vb_t v1]
    obtain ⟨j, hj, rfl⟩ := vd_t v1
    exact ⟨_, _, _, rfl, rfl, hR.tape hH (by omega) (fun k hk => st_ne (by omega)) (fun k hk => st_ne (by omega)) ⟨j, by omega, rfl, rfl, fun i hi => hw4 i (by omega)⟩⟩
  · rw [vb_f v1, if_neg (by rw [v1]; decide)]
    exact ⟨_, _, _, rfl, rfl, hR⟩
theorem op_want : Op_want Rel := by
  intro x1 x2 G M hR
  obtain ⟨H, hH, ⟨P, V, B, hT⟩, -, -, ⟨w0, w, hw, hw2, hw3, hw4⟩, -⟩ := id hR
  obtain ⟨hb, ⟨t0, -⟩, -⟩ := hT.un
  unfold f_X6_want f_X7_want f_X4_add
  rw [sb0, C_isHouse t0 (by omega), M_isHouse hH (by omega), C_isNumber, M_in x2 (n := 1000) (by decide) (by decide)]
  rcases tf (vd H x1) with v1 | v1
  · rw [vb_t v1, vb_t v1]
    rcases tf (vd 1000 x2) with v2 | v2
    · rw [vb_t v2, vb_t v2]
      obtain ⟨h, hh, rfl⟩ := vd_t v1
      obtain ⟨a, ha, rfl⟩ := vd_t v2
      have e4 : sb 144 G 4 0 = nI w := hw2
      have e0 : sb 144 G 0 0 = nI 4 := w0
      rw [e4, e0, hw3, i4]
      by_cases q : w = 4
      · subst q
        rw [if_pos rfl, if_neg (nI_nlt (by omega) (by omega)), bd_s, if_pos rfl]
        refine ⟨_, _, _, rfl, rfl, hR.want hH (by omega) (fun k hk => pt_out (by omega)) (fun k hk => rfl) ?_⟩
        exact RWant.cg ⟨w0, 4, hw, hw2, hw3, hw4⟩ (fun j h1 h2 => by rw [pt_in (by omega) (by omega)]; exact congrArg G (by omega)) rfl rfl
      · rw [if_neg (fun e => q ((nI_eq (by omega) (by omega)).mp e)), if_pos (nI_lt (by omega) (by omega))]
        simp (disch := omega) only [ix_in, tN_nI, i2, nI_mul, p1]
        rw [bd_s, if_neg (show ¬ (1 : Int32) = 0 by decide)]
        refine ⟨_, _, _, rfl, rfl, hR.want hH (by omega) (fun k hk => pt_out (by omega)) ?_ ⟨w0, w + 1, by omega, rfl, rfl, ?_⟩⟩
        · intro k hk
          rw [st_ne (by omega), st_ne (by omega), st_ne (by omega)]
        · intro i hi
          show upd (G 145) w (nI h) i = upd (upd (M 23) (2 * w) (nI h)) (2 * w + 1) (nI a) (2 * i) ∧ upd (G 147) w (nI a) i = upd (upd (M 23) (2 * w) (nI h)) (2 * w + 1) (nI a) (2 * i + 1) ∧ inB H (upd (upd (M 23) (2 * w) (nI h)) (2 * w + 1) (nI a) (2 * i)) ∧ inB 1000 (upd (upd (M 23) (2 * w) (nI h)) (2 * w + 1) (nI a) (2 * i + 1))
          by_cases c : i = w
          · subst c
            rw [upd_eq, upd_eq, upd_ne (j := 2 * i) (by omega), upd_eq, upd_eq]
            exact ⟨rfl, rfl, ⟨h, hh, rfl⟩, ⟨a, ha, rfl⟩⟩
          · rw [upd_ne (j := i) (by omega), upd_ne (j := i) (by omega), upd_ne (j := 2 * i) (by omega), upd_ne (j := 2 * i) (by omega), upd_ne (j := 2 * i + 1) (by omega), upd_ne (j := 2 * i + 1) (by omega)]
            exact hw4 i (by omega)
    · rw [vb_f v2, vb_f v2]
      exact ⟨_, _, _, rfl, rfl, hR⟩
  · rw [vb_f v1, vb_f v1]
    exact ⟨_, _, _, rfl, rfl, hR⟩
theorem op_see : Op_see Rel := by
  intro x1 x2 x3 G M hR
  obtain ⟨H, hH, ⟨P, V, B, hT⟩, -, -, -, ⟨w0, w, hw, hw2, hw3, hw4⟩, -⟩ := id hR
  obtain ⟨hb, ⟨t0, -⟩, -⟩ := hT.un
  unfold f_X6_see f_X7_see f_X4_add
  rw [sb0, C_isHouse t0 (by omega), M_isHouse hH (by omega), C_isDay, M_isDay, C_isNumber, M_in x3 (n := 1000) (by decide) (by decide)]
  rcases tf (vd H x1) with v1 | v1
  · rw [vb_t v1, vb_t v1]
    rcases tf (vd 36000 x2) with v2 | v2
    · rw [vb_t v2, vb_t v2]
      rcases tf (vd 1000 x3) with v3 | v3
      · rw [vb_t v3, vb_t v3]
        obtain ⟨h, hh, rfl⟩ := vd_t v1
        obtain ⟨d, hd, rfl⟩ := vd_t v2
        obtain ⟨a, ha, rfl⟩ := vd_t v3
        have e4 : sb 152 G 4 0 = nI w := hw2
        have e0 : sb 152 G 0 0 = nI 8 := w0
        rw [e4, e0, hw3, i8]
        by_cases q : w = 8
        · subst q
          rw [if_pos rfl, if_neg (nI_nlt (by omega) (by omega)), bd_s, if_pos rfl]
          refine ⟨_, _, _, rfl, rfl, hR.seen hH (by omega) (fun k hk => pt_out (by omega)) (fun k hk => rfl) ?_⟩
          exact RSeen.cg ⟨w0, 8, hw, hw2, hw3, hw4⟩ (fun j h1 h2 => by rw [pt_in (by omega) (by omega)]; exact congrArg G (by omega)) rfl rfl
        · rw [if_neg (fun e => q ((nI_eq (by omega) (by omega)).mp e)), if_pos (nI_lt (by omega) (by omega))]
          simp (disch := omega) only [ix_in, tN_nI, m3, p1, p2]
          rw [bd_s, if_neg (show ¬ (1 : Int32) = 0 by decide)]
          refine ⟨_, _, _, rfl, rfl, hR.seen hH (by omega) (fun k hk => pt_out (by omega)) ?_ ⟨w0, w + 1, by omega, rfl, rfl, ?_⟩⟩
          · intro k hk
            rw [st_ne (by omega), st_ne (by omega), st_ne (by omega), st_ne (by omega)]
          · intro i hi
            show upd (G 153) w (nI h) i = upd (upd (upd (M 31) (3 * w) (nI h)) (3 * w + 1) (nI d)) (3 * w + 2) (nI a) (3 * i) ∧ upd (G 154) w (nI d) i = upd (upd (upd (M 31) (3 * w) (nI h)) (3 * w + 1) (nI d)) (3 * w + 2) (nI a) (3 * i + 1) ∧ upd (G 155) w (nI a) i = upd (upd (upd (M 31) (3 * w) (nI h)) (3 * w + 1) (nI d)) (3 * w + 2) (nI a) (3 * i + 2) ∧ inB H (upd (upd (upd (M 31) (3 * w) (nI h)) (3 * w + 1) (nI d)) (3 * w + 2) (nI a) (3 * i)) ∧ inB 36000 (upd (upd (upd (M 31) (3 * w) (nI h)) (3 * w + 1) (nI d)) (3 * w + 2) (nI a) (3 * i + 1)) ∧ inB 1000 (upd (upd (upd (M 31) (3 * w) (nI h)) (3 * w + 1) (nI d)) (3 * w + 2) (nI a) (3 * i + 2))
            by_cases c : i = w
            · subst c
              rw [upd_eq, upd_eq, upd_eq, u3_0, u3_1, u3_2]
              exact ⟨rfl, rfl, rfl, ⟨h, hh, rfl⟩, ⟨d, hd, rfl⟩, ⟨a, ha, rfl⟩⟩
            · rw [upd_ne (j := i) (by omega), upd_ne (j := i) (by omega), upd_ne (j := i) (by omega), u3_n (j := 3 * i) (by omega), u3_n (j := 3 * i + 1) (by omega), u3_n (j := 3 * i + 2) (by omega)]
              exact hw4 i (by omega)
      · rw [vb_f v3, vb_f v3]
        exact ⟨_, _, _, rfl, rfl, hR⟩
    · rw [vb_f v2, vb_f v2]
      exact ⟨_, _, _, rfl, rfl, hR⟩
  · rw [vb_f v1, vb_f v1]
    exact ⟨_, _, _, rfl, rfl, hR⟩
