-- what is changed: the town's rows, one by one
def RTs (T : St) (g : Nat → Int32) (H P V B : Nat) : Prop := T 0 0 = nI H ∧ T 2 0 = nI P ∧ g 88 = nI P ∧ T 7 0 = nI V ∧ g 89 = nI V ∧ T 11 0 = nI B ∧ g 90 = nI B ∧ T 1 0 = g 91 ∧ inB 4 (g 91)
def RTp (T : St) (g : Nat → Int32) (H P : Nat) : Prop := ∀ p, p < P → T 3 p = g (4 * p) ∧ T 4 p = g (4 * p + 1) ∧ T 5 p = g (4 * p + 2) ∧ dieR (T 6 p) (g (4 * p + 3)) ∧ inB 5 (g (4 * p)) ∧ inB 36000 (g (4 * p + 1)) ∧ inB H (g (4 * p + 2))
def RTm (T : St) (g : Nat → Int32) (H P V : Nat) : Prop := ∀ k, k < V → T 8 k = g (40 + 3 * k) ∧ T 9 k = g (40 + 3 * k + 1) ∧ T 10 k = g (40 + 3 * k + 2) ∧ inB 36000 (g (40 + 3 * k)) ∧ inB P (g (40 + 3 * k + 1)) ∧ inB H (g (40 + 3 * k + 2))
def RTb (T : St) (g : Nat → Int32) (H B : Nat) : Prop := ∀ e, e < B → T 12 e = g (76 + 3 * e) ∧ T 13 e = g (76 + 3 * e + 1) ∧ T 14 e = g (76 + 3 * e + 2) ∧ inB H (g (76 + 3 * e)) ∧ ∃ a b, a ≤ b ∧ b < 36000 ∧ g (76 + 3 * e + 1) = nI a ∧ g (76 + 3 * e + 2) = nI b
theorem RT.un {T : St} {g : Nat → Int32} {H P V B : Nat} (h : RT T g H P V B) : (1 ≤ H ∧ H ≤ 8 ∧ P ≤ 10 ∧ V ≤ 12 ∧ B ≤ 4) ∧ RTs T g H P V B ∧ RTp T g H P ∧ RTm T g H P V ∧ RTb T g H B := h
theorem RT.mk {T : St} {g : Nat → Int32} {H P V B : Nat} (h1 : 1 ≤ H ∧ H ≤ 8 ∧ P ≤ 10 ∧ V ≤ 12 ∧ B ≤ 4) (h2 : RTs T g H P V B) (h3 : RTp T g H P) (h4 : RTm T g H P V) (h5 : RTb T g H B) : RT T g H P V B := ⟨h1, h2, h3, h4, h5⟩
theorem RTp.cg {T T2 : St} {g g2 : Nat → Int32} {H P : Nat} (h : RTp T g H P) (h3 : ∀ p, p < P → T2 3 p = T 3 p ∧ T2 4 p = T 4 p ∧ T2 5 p = T 5 p ∧ T2 6 p = T 6 p) (hg : ∀ j, j < 4 * P → g2 j = g j) : RTp T2 g2 H P := by
  intro p hp
  obtain ⟨a, b, c, d⟩ := h3 p hp
  rw [a, b, c, d, hg (4 * p) (by omega), hg (4 * p + 1) (by omega), hg (4 * p + 2) (by omega), hg (4 * p + 3) (by omega)]
  exact h p hp
theorem RTm.cg {T T2 : St} {g g2 : Nat → Int32} {H P P2 V : Nat} (h : RTm T g H P V) (hP : P ≤ P2) (h3 : ∀ p, p < V → T2 8 p = T 8 p ∧ T2 9 p = T 9 p ∧ T2 10 p = T 10 p) (hg : ∀ j, 40 ≤ j → j < 40 + 3 * V → g2 j = g j) : RTm T2 g2 H P2 V := by
  intro p hp
  obtain ⟨a, b, c⟩ := h3 p hp
  rw [a, b, c, hg (40 + 3 * p) (by omega) (by omega), hg (40 + 3 * p + 1) (by omega) (by omega), hg (40 + 3 * p + 2) (by omega) (by omega)]
  obtain ⟨q1, q2, q3, q4, ⟨j, q5, q5b⟩, q6⟩ := h p hp
  exact ⟨q1, q2, q3, q4, ⟨j, by omega, q5b⟩, q6⟩
theorem RTb.cg {T T2 : St} {g g2 : Nat → Int32} {H B : Nat} (h : RTb T g H B) (h3 : ∀ p, p < B → T2 12 p = T 12 p ∧ T2 13 p = T 13 p ∧ T2 14 p = T 14 p) (hg : ∀ j, 76 ≤ j → j < 76 + 3 * B → g2 j = g j) : RTb T2 g2 H B := by
  intro p hp
  obtain ⟨a, b, c⟩ := h3 p hp
  rw [a, b, c, hg (76 + 3 * p) (by omega) (by omega), hg (76 + 3 * p + 1) (by omega) (by omega), hg (76 + 3 * p + 2) (by omega) (by omega)]
  exact h p hp
theorem Rel.town {G G2 M M2 : St} {H P V B : Nat} (h : Rel G M) (hH : M 1 0 = nI H) (hT : RT G2 (M2 0) H P V B) (hG : ∀ k, 64 ≤ k → G2 k = G k) (hM : ∀ k, 0 < k → M2 k = M k) (hM0 : ∀ j, 92 ≤ j → j < 276 → M2 0 j = M 0 j) : Rel G2 M2 := by
  obtain ⟨H2, hH2, ⟨P2, V2, B2, k2⟩, h3, h4, h5, h6, h7, h8⟩ := h
  have h2 := hT.1
  have e : H2 = H := by
    rw [hH] at hH2
    have := k2.1
    exact ((nI_eq (by omega) (by omega)).mp hH2).symm
  subst e
  refine ⟨H2, by rw [hM 1 (by omega)]; exact hH, ⟨P, V, B, hT⟩, fun k hk => (h3 k hk).cg hk (fun j a b => hG j (by omega)) (by rw [hG 186 (by omega)]) (by rw [hM 33 (by omega)]) (fun j a b => hM0 j a b), h4.cg (hG 128 (by omega)) (hG 129 (by omega)) (hM 9 (by omega)) (hM 8 (by omega)), h5.cg (fun j a b => hG j (by omega)) (hM 23 (by omega)) (hM 24 (by omega)), h6.cg (fun j a b => hG j (by omega)) (hM 31 (by omega)) (hM 32 (by omega)), fun k hk => (h7 k hk).cg hk (fun j a b => hG j (by omega)) (hM 34 (by omega)) (hM 35 (by omega)) (hM 36 (by omega)), h8.cg (hG 184 (by omega)) (hG 185 (by omega)) (hM 10 (by omega)) (hM 37 (by omega)) (hM 17 (by omega)) (hM 18 (by omega))⟩
theorem op_law : Op_law Rel := by
  intro x1 G M hR
  obtain ⟨H, hH, ⟨P, V, B, hT⟩, -⟩ := id hR
  have hb := hT.1
  obtain ⟨b1, ⟨t0, t2, g88, t7, g89, t11, g90, t1, g91⟩, c1, c2, c3⟩ := hT.un
  unfold f_X6_law f_X7_law
  rw [C_isLaw, M_in x1 (n := 4) (by decide) (by decide)]
  rcases tf (vd 4 x1) with v1 | v1
  · rw [vb_t v1, vb_t v1, i91, ix_in (by omega) (by omega), ix_in (by omega) (by omega), tN_nI (by omega), t1]
    obtain ⟨j, hj, rfl⟩ := vd_t v1
    refine ⟨_, _, _, rfl, rfl, hR.town hH (P := P) (V := V) (B := B) (RT.mk b1 ⟨?_, ?_, ?_, ?_, ?_, ?_, ?_, ?_, ?_⟩ (c1.cg (fun p hp => ⟨rfl, rfl, rfl, rfl⟩) (fun i hi => upd_ne (by omega))) (c2.cg (Nat.le_refl P) (fun p hp => ⟨rfl, rfl, rfl⟩) (fun i hi hi2 => upd_ne (by omega))) (c3.cg (fun p hp => ⟨rfl, rfl, rfl⟩) (fun i hi hi2 => upd_ne (by omega)))) (fun k hk => st_ne (by omega)) (fun k hk => st_ne (by omega)) (fun i a b => upd_ne (by omega))⟩
    · exact t0
    · exact t2
    · exact g88
    · exact t7
    · exact g89
    · exact t11
    · exact g90
    · rfl
    · exact ⟨j, hj, show upd (M 0) 91 (nI j) 91 = nI j from upd_eq⟩
  · rw [vb_f v1, vb_f v1]
    exact ⟨_, _, _, rfl, rfl, hR⟩
theorem op_undo : Op_undo Rel := by
  intro x1 G M hR
  obtain ⟨H, hH, ⟨P, V, B, hT⟩, -⟩ := id hR
  have hb := hT.1
  obtain ⟨b1, ⟨t0, t2, g88, t7, g89, t11, g90, t1, g91⟩, c1, c2, c3⟩ := hT.un
  unfold f_X6_undo f_X7_undo
  rw [i89, ix_in (by omega) (by omega), tN_nI (by omega), t7, g89, M_inN x1 (by omega), vd_le (by omega)]
  rcases tf (vd (V + 1) x1) with v1 | v1
  · rw [if_pos v1, vb_t v1, ix_in (by omega) (by omega), ix_in (by omega) (by omega)]
    obtain ⟨j, hj, rfl⟩ := vd_t v1
    refine ⟨_, _, _, rfl, rfl, hR.town hH (P := P) (V := j) (B := B) (RT.mk (by omega) ⟨?_, ?_, ?_, ?_, ?_, ?_, ?_, ?_, ?_⟩ (c1.cg (fun p hp => ⟨rfl, rfl, rfl, rfl⟩) (fun i hi => upd_ne (by omega))) (RTm.cg (T := G) (g := M 0) (P := P) (fun k hk => c2 k (by omega)) (Nat.le_refl P) (fun p hp => ⟨rfl, rfl, rfl⟩) (fun i hi hi2 => upd_ne (by omega))) (c3.cg (fun p hp => ⟨rfl, rfl, rfl⟩) (fun i hi hi2 => upd_ne (by omega)))) (fun k hk => st_ne (by omega)) (fun k hk => st_ne (by omega)) (fun i a b => upd_ne (by omega))⟩
    · exact t0
    · exact t2
    · exact g88
    · rfl
    · exact (show upd (M 0) 89 (nI j) 89 = nI j from upd_eq)
    · exact t11
    · exact g90
    · exact t1
    · exact g91
  · rw [vb_f v1, if_neg (by rw [v1]; decide)]
    exact ⟨_, _, _, rfl, rfl, hR⟩
theorem op_die : Op_die Rel := by
  intro x1 x2 G M hR
  obtain ⟨H, hH, ⟨P, V, B, hT⟩, -⟩ := id hR
  have hb := hT.1
  obtain ⟨b1, ⟨t0, t2, g88, t7, g89, t11, g90, t1, g91⟩, c1, c2, c3⟩ := hT.un
  unfold f_X6_die f_X7_die
  rw [sb0, C_isOne t2 (by omega), M_isOne g88 (by omega), C_isDay, M_isDay]
  rcases tf (vd P x1) with v1 | v1
  · rw [vb_t v1, vb_t v1]
    rcases tf (vd 36000 x2) with v2 | v2
    · rw [vb_t v2, vb_t v2]
      obtain ⟨p, hp, rfl⟩ := vd_t v1
      obtain ⟨d, hd, rfl⟩ := vd_t v2
      obtain ⟨a3, a4, a5, a6, a7, a8, a9⟩ := c1 p hp
      rw [m4, p1, p3, ix_in (by omega) (by omega), ix_in (by omega) (by omega), ix_in (by omega) (by omega), ix_in (by omega) (by omega), tN_nI (by omega), tN_nI (by omega), tN_nI (by omega), a4]
      by_cases q : M 0 (4 * p + 1) < nI d
      · rw [if_pos q, if_pos q]
        have e : f_X5_deathOf (nI p) G = some (M 0 (4 * p + 3)) := by
          unfold f_X5_deathOf
          rw [ix_in (by omega) (by omega), ix_in (by omega) (by omega), tN_nI (by omega)]
          rcases a6 with ⟨c, d⟩ | ⟨c, n, hn, d⟩
          · rw [if_pos c, d]
          · rw [if_neg (by rw [c, d, i36000]; exact fun q => by have := (nI_eq (by omega) (by omega)).mp q; omega), c]
        rw [e, bd_s, ix_in (by omega) (by omega)]
        refine ⟨_, _, _, rfl, rfl, hR.town hH (P := P) (V := V) (B := B) (RT.mk b1 ⟨?_, ?_, ?_, ?_, ?_, ?_, ?_, ?_, ?_⟩ ?_ (c2.cg (Nat.le_refl P) (fun p hp => ⟨rfl, rfl, rfl⟩) (fun i hi hi2 => upd_ne (by omega))) (c3.cg (fun p hp => ⟨rfl, rfl, rfl⟩) (fun i hi hi2 => upd_ne (by omega)))) (fun k hk => st_ne (by omega)) (fun k hk => st_ne (by omega)) (fun i a b => upd_ne (by omega))⟩
        · exact t0
        · exact t2
        · exact (upd_ne (by omega)).trans g88
        · exact t7
        · exact (upd_ne (by omega)).trans g89
        · exact t11
        · exact (upd_ne (by omega)).trans g90
        · exact t1.trans (upd_ne (by omega)).symm
        · show inB 4 (upd (M 0) (4 * p + 3) (nI d) 91)
          rw [upd_ne (by omega)]
          exact g91
        · intro p2 hp2
          show G 3 p2 = upd (M 0) (4 * p + 3) (nI d) (4 * p2) ∧ G 4 p2 = upd (M 0) (4 * p + 3) (nI d) (4 * p2 + 1) ∧ G 5 p2 = upd (M 0) (4 * p + 3) (nI d) (4 * p2 + 2) ∧ dieR (upd (G 6) p (nI d) p2) (upd (M 0) (4 * p + 3) (nI d) (4 * p2 + 3)) ∧ inB 5 (upd (M 0) (4 * p + 3) (nI d) (4 * p2)) ∧ inB 36000 (upd (M 0) (4 * p + 3) (nI d) (4 * p2 + 1)) ∧ inB H (upd (M 0) (4 * p + 3) (nI d) (4 * p2 + 2))
          rw [upd_ne (j := 4 * p2) (by omega), upd_ne (j := 4 * p2 + 1) (by omega), upd_ne (j := 4 * p2 + 2) (by omega)]
          obtain ⟨e3, e4, e5, e6, e7, e8, e9⟩ := c1 p2 hp2
          refine ⟨e3, e4, e5, ?_, e7, e8, e9⟩
          by_cases c : p2 = p
          · subst c
            rw [upd_eq, upd_eq]
            exact Or.inr ⟨rfl, d, hd, rfl⟩
          · rw [upd_ne c, upd_ne (by omega)]
            exact e6
      · rw [if_neg q, if_neg q]
        exact ⟨_, _, _, rfl, rfl, hR⟩
    · rw [vb_f v2, vb_f v2]
      exact ⟨_, _, _, rfl, rfl, hR⟩
  · rw [vb_f v1, vb_f v1]
    exact ⟨_, _, _, rfl, rfl, hR⟩
theorem u3_0 {g : Nat → Int32} {o : Nat} {a b c : Int32} : upd (upd (upd g o a) (o + 1) b) (o + 2) c o = a := by
  rw [upd_ne (by omega), upd_ne (by omega), upd_eq]
theorem u3_1 {g : Nat → Int32} {o : Nat} {a b c : Int32} : upd (upd (upd g o a) (o + 1) b) (o + 2) c (o + 1) = b := by
  rw [upd_ne (by omega), upd_eq]
theorem u3_2 {g : Nat → Int32} {o : Nat} {a b c : Int32} : upd (upd (upd g o a) (o + 1) b) (o + 2) c (o + 2) = c := upd_eq
theorem u3_n {g : Nat → Int32} {o j : Nat} {a b c : Int32} (h : j < o ∨ o + 3 ≤ j) : upd (upd (upd g o a) (o + 1) b) (o + 2) c j = g j := by
  rw [upd_ne (by omega), upd_ne (by omega), upd_ne (by omega)]
/-- one more of the people -/
theorem RTp.add {T T2 : St} {g g2 : Nat → Int32} {H P : Nat} {a b c x y : Int32} (h : RTp T g H P) (h3 : ∀ p, p < P → T2 3 p = T 3 p ∧ T2 4 p = T 4 p ∧ T2 5 p = T 5 p ∧ T2 6 p = T 6 p) (hg : ∀ j, j < 4 * P → g2 j = g j) (e1 : T2 3 P = a ∧ T2 4 P = b ∧ T2 5 P = c ∧ T2 6 P = x) (e2 : g2 (4 * P) = a ∧ g2 (4 * P + 1) = b ∧ g2 (4 * P + 2) = c ∧ g2 (4 * P + 3) = y) (ha : inB 5 a) (hb : inB 36000 b) (hc : inB H c) (hd : dieR x y) : RTp T2 g2 H (P + 1) := by
  intro p hp
  by_cases q : p < P
  · exact h.cg h3 hg p q
  · obtain rfl : p = P := by omega
    rw [e1.1, e1.2.1, e1.2.2.1, e1.2.2.2, e2.1, e2.2.1, e2.2.2.1, e2.2.2.2]
    exact ⟨rfl, rfl, rfl, hd, ha, hb, hc⟩
theorem RTm.add {T T2 : St} {g g2 : Nat → Int32} {H P V : Nat} {a b c : Int32} (h : RTm T g H P V) (h3 : ∀ p, p < V → T2 8 p = T 8 p ∧ T2 9 p = T 9 p ∧ T2 10 p = T 10 p) (hg : ∀ j, 40 ≤ j → j < 40 + 3 * V → g2 j = g j) (e1 : T2 8 V = a ∧ T2 9 V = b ∧ T2 10 V = c) (e2 : g2 (40 + 3 * V) = a ∧ g2 (40 + 3 * V + 1) = b ∧ g2 (40 + 3 * V + 2) = c) (ha : inB 36000 a) (hb : inB P b) (hc : inB H c) : RTm T2 g2 H P (V + 1) := by
  intro p hp
  by_cases q : p < V
  · exact h.cg (Nat.le_refl P) h3 hg p q
  · obtain rfl : p = V := by omega
    rw [e1.1, e1.2.1, e1.2.2, e2.1, e2.2.1, e2.2.2]
    exact ⟨rfl, rfl, rfl, ha, hb, hc⟩
theorem RTb.add {T T2 : St} {g g2 : Nat → Int32} {H V : Nat} {a : Int32} {b c : Nat} (h : RTb T g H V) (h3 : ∀ p, p < V → T2 12 p = T 12 p ∧ T2 13 p = T 13 p ∧ T2 14 p = T 14 p) (hg : ∀ j, 76 ≤ j → j < 76 + 3 * V → g2 j = g j) (e1 : T2 12 V = a ∧ T2 13 V = nI b ∧ T2 14 V = nI c) (e2 : g2 (76 + 3 * V) = a ∧ g2 (76 + 3 * V + 1) = nI b ∧ g2 (76 + 3 * V + 2) = nI c) (ha : inB H a) (hb : b ≤ c) (hc : c < 36000) : RTb T2 g2 H (V + 1) := by
  intro p hp
  by_cases q : p < V
  · exact h.cg h3 hg p q
  · obtain rfl : p = V := by omega
    rw [e1.1, e1.2.1, e1.2.2, e2.1, e2.2.1, e2.2.2]
    exact ⟨rfl, rfl, rfl, ha, b, c, hb, hc, rfl, rfl⟩
theorem RT.pt {T U : St} {g : Nat → Int32} {H P V B : Nat} (h : RT U g H P V B) : RT (pt 0 32 U T) g H P V B := h.cg (fun k hk => by rw [pt_in (by omega) (by omega)]; rfl) (fun _ _ => rfl)
theorem C_addOne {T : St} {P : Nat} (a b c x : Int32) (h : T 2 0 = nI P) (hP : P < 14) : ∃ U : St, f_X5_addOne a b c x T = some U ∧ (∀ k, k ≠ 2 → k ≠ 3 → k ≠ 4 → k ≠ 5 → k ≠ 6 → U k = T k) ∧ U 2 0 = nI (P + 1) ∧ U 3 = upd (T 3) P a ∧ U 4 = upd (T 4) P b ∧ U 5 = upd (T 5) P c ∧ U 6 = upd (T 6) P x := by
  unfold f_X5_addOne
  rw [h, i14, if_neg (nI_ge (by omega) (by omega))]
  simp (disch := omega) only [ix_in, tN_nI, p1]
  refine ⟨_, rfl, fun k h2 h3 h4 h5 h6 => ?_, rfl, rfl, rfl, rfl, rfl⟩
  rw [st_ne h2, st_ne h6, st_ne h5, st_ne h4, st_ne h3]
theorem C_putMove {T : St} {V : Nat} (a b c : Int32) (h : T 7 0 = nI V) (hV : V < 12) : ∃ U : St, f_X5_putMove a b c T = some U ∧ (∀ k, k ≠ 7 → k ≠ 8 → k ≠ 9 → k ≠ 10 → U k = T k) ∧ U 7 0 = nI (V + 1) ∧ U 8 = upd (T 8) V a ∧ U 9 = upd (T 9) V b ∧ U 10 = upd (T 10) V c := by
  unfold f_X5_putMove
  rw [h, i12, if_neg (nI_ge (by omega) (by omega))]
  simp (disch := omega) only [ix_in, tN_nI, p1]
  refine ⟨_, rfl, fun k h2 h3 h4 h5 => ?_, rfl, rfl, rfl, rfl⟩
  rw [st_ne h2, st_ne h5, st_ne h4, st_ne h3]
theorem C_addBirth {T : St} {V : Nat} (a b c : Int32) (h : T 11 0 = nI V) (hV : V < 4) : ∃ U : St, f_X5_addBirth a b c T = some U ∧ (∀ k, k ≠ 11 → k ≠ 12 → k ≠ 13 → k ≠ 14 → U k = T k) ∧ U 11 0 = nI (V + 1) ∧ U 12 = upd (T 12) V a ∧ U 13 = upd (T 13) V b ∧ U 14 = upd (T 14) V c := by
  unfold f_X5_addBirth
  rw [h, i4, if_neg (nI_ge (by omega) (by omega))]
  simp (disch := omega) only [ix_in, tN_nI, p1]
  refine ⟨_, rfl, fun k h2 h3 h4 h5 => ?_, rfl, rfl, rfl, rfl⟩
  rw [st_ne h2, st_ne h5, st_ne h4, st_ne h3]
theorem RT.addOne {T U : St} {g g2 : Nat → Int32} {H P V B : Nat} {a b c x y : Int32} (h : RT T g H P V B) (hP : P < 10) (hU : ∀ k, k ≠ 2 → k ≠ 3 → k ≠ 4 → k ≠ 5 → k ≠ 6 → U k = T k) (h2 : U 2 0 = nI (P + 1)) (h3 : U 3 = upd (T 3) P a) (h4 : U 4 = upd (T 4) P b) (h5 : U 5 = upd (T 5) P c) (h6 : U 6 = upd (T 6) P x) (hg : ∀ j, j < 4 * P ∨ (40 ≤ j ∧ j < 92 ∧ j ≠ 88) → g2 j = g j) (e : g2 (4 * P) = a ∧ g2 (4 * P + 1) = b ∧ g2 (4 * P + 2) = c ∧ g2 (4 * P + 3) = y ∧ g2 88 = nI (P + 1)) (ha : inB 5 a) (hb : inB 36000 b) (hc : inB H c) (hd : dieR x y) : RT U g2 H (P + 1) V B := by
  obtain ⟨w, ⟨t0, t2, g88, t7, g89, t11, g90, t1, g91⟩, c1, c2, c3⟩ := h.un
  have q : ∀ k, k ≠ 2 → k ≠ 3 → k ≠ 4 → k ≠ 5 → k ≠ 6 → ∀ i, U k i = T k i := fun k a b c d e i => by rw [hU k a b c d e]
  refine RT.mk (by omega) ⟨?_, h2, e.2.2.2.2, ?_, ?_, ?_, ?_, ?_, ?_⟩ (c1.add (fun p hp => ⟨?_, ?_, ?_, ?_⟩) (fun j hj => hg j (by omega)) ⟨?_, ?_, ?_, ?_⟩ ⟨e.1, e.2.1, e.2.2.1, e.2.2.2.1⟩ ha hb hc hd) (c2.cg (by omega) (fun p hp => ⟨q 8 (by omega) (by omega) (by omega) (by omega) (by omega) p, q 9 (by omega) (by omega) (by omega) (by omega) (by omega) p, q 10 (by omega) (by omega) (by omega) (by omega) (by omega) p⟩) (fun j h1 h2 => hg j (by omega))) (c3.cg (fun p hp => ⟨q 12 (by omega) (by omega) (by omega) (by omega) (by omega) p, q 13 (by omega) (by omega) (by omega) (by omega) (by omega) p, q 14 (by omega) (by omega) (by omega) (by omega) (by omega) p⟩) (fun j h1 h2 => hg j (by omega)))
  · rw [q 0 (by omega) (by omega) (by omega) (by omega) (by omega)]; exact t0
  · rw [q 7 (by omega) (by omega) (by omega) (by omega) (by omega)]; exact t7
  · rw [hg 89 (by omega)]; exact g89
  · rw [q 11 (by omega) (by omega) (by omega) (by omega) (by omega)]; exact t11
  · rw [hg 90 (by omega)]; exact g90
  · rw [q 1 (by omega) (by omega) (by omega) (by omega) (by omega), hg 91 (by omega)]; exact t1
  · rw [hg 91 (by omega)]; exact g91
  · rw [h3]; exact upd_ne (by omega)
  · rw [h4]; exact upd_ne (by omega)
  · rw [h5]; exact upd_ne (by omega)
  · rw [h6]; exact upd_ne (by omega)
  · rw [h3]; exact upd_eq
  · rw [h4]; exact upd_eq
  · rw [h5]; exact upd_eq
  · rw [h6]; exact upd_eq
theorem RT.putMove {T U : St} {g g2 : Nat → Int32} {H P V B : Nat} {a b c : Int32} (h : RT T g H P V B) (hV : V < 12) (hU : ∀ k, k ≠ 7 → k ≠ 8 → k ≠ 9 → k ≠ 10 → U k = T k) (h2 : U 7 0 = nI (V + 1)) (h3 : U 8 = upd (T 8) V a) (h4 : U 9 = upd (T 9) V b) (h5 : U 10 = upd (T 10) V c) (hg : ∀ j, j < 40 + 3 * V ∨ (76 ≤ j ∧ j < 92 ∧ j ≠ 89) → g2 j = g j) (e : g2 (40 + 3 * V) = a ∧ g2 (40 + 3 * V + 1) = b ∧ g2 (40 + 3 * V + 2) = c ∧ g2 89 = nI (V + 1)) (ha : inB 36000 a) (hb : inB P b) (hc : inB H c) : RT U g2 H P (V + 1) B := by
  obtain ⟨w, ⟨t0, t2, g88, t7, g89, t11, g90, t1, g91⟩, c1, c2, c3⟩ := h.un
  have q : ∀ k, k ≠ 7 → k ≠ 8 → k ≠ 9 → k ≠ 10 → ∀ i, U k i = T k i := fun k a b c d i => by rw [hU k a b c d]
  refine RT.mk (by omega) ⟨?_, ?_, ?_, h2, e.2.2.2, ?_, ?_, ?_, ?_⟩ (c1.cg (fun p hp => ⟨q 3 (by omega) (by omega) (by omega) (by omega) p, q 4 (by omega) (by omega) (by omega) (by omega) p, q 5 (by omega) (by omega) (by omega) (by omega) p, q 6 (by omega) (by omega) (by omega) (by omega) p⟩) (fun j h1 => hg j (by omega))) (c2.add (fun p hp => ⟨?_, ?_, ?_⟩) (fun j h1 h2 => hg j (by omega)) ⟨?_, ?_, ?_⟩ ⟨e.1, e.2.1, e.2.2.1⟩ ha hb hc) (c3.cg (fun p hp => ⟨q 12 (by omega) (by omega) (by omega) (by omega) p, q 13 (by omega) (by omega) (by omega) (by omega) p, q 14 (by omega) (by omega) (by omega) (by omega) p⟩) (fun j h1 h2 => hg j (by omega)))
  · rw [q 0 (by omega) (by omega) (by omega) (by omega)]; exact t0
  · rw [q 2 (by omega) (by omega) (by omega) (by omega)]; exact t2
  · rw [hg 88 (by omega)]; exact g88
  · rw [q 11 (by omega) (by omega) (by omega) (by omega)]; exact t11
  · rw [hg 90 (by omega)]; exact g90
  · rw [q 1 (by omega) (by omega) (by omega) (by omega), hg 91 (by omega)]; exact t1
  · rw [hg 91 (by omega)]; exact g91
  · rw [h3]; exact upd_ne (by omega)
  · rw [h4]; exact upd_ne (by omega)
  · rw [h5]; exact upd_ne (by omega)
  · rw [h3]; exact upd_eq
  · rw [h4]; exact upd_eq
  · rw [h5]; exact upd_eq
theorem RT.addBirth {T U : St} {g g2 : Nat → Int32} {H P V B : Nat} {a : Int32} {b c : Nat} (h : RT T g H P V B) (hV : B < 4) (hU : ∀ k, k ≠ 11 → k ≠ 12 → k ≠ 13 → k ≠ 14 → U k = T k) (h2 : U 11 0 = nI (B + 1)) (h3 : U 12 = upd (T 12) B a) (h4 : U 13 = upd (T 13) B (nI b)) (h5 : U 14 = upd (T 14) B (nI c)) (hg : ∀ j, j < 76 + 3 * B ∨ (88 ≤ j ∧ j < 92 ∧ j ≠ 90) → g2 j = g j) (e : g2 (76 + 3 * B) = a ∧ g2 (76 + 3 * B + 1) = nI b ∧ g2 (76 + 3 * B + 2) = nI c ∧ g2 90 = nI (B + 1)) (ha : inB H a) (hb : b ≤ c) (hc : c < 36000) : RT U g2 H P V (B + 1) := by
  obtain ⟨w, ⟨t0, t2, g88, t7, g89, t11, g90, t1, g91⟩, c1, c2, c3⟩ := h.un
  have q : ∀ k, k ≠ 11 → k ≠ 12 → k ≠ 13 → k ≠ 14 → ∀ i, U k i = T k i := fun k a b c d i => by rw [hU k a b c d]
  refine RT.mk (by omega) ⟨?_, ?_, ?_, ?_, ?_, h2, e.2.2.2, ?_, ?_⟩ (c1.cg (fun p hp => ⟨q 3 (by omega) (by omega) (by omega) (by omega) p, q 4 (by omega) (by omega) (by omega) (by omega) p, q 5 (by omega) (by omega) (by omega) (by omega) p, q 6 (by omega) (by omega) (by omega) (by omega) p⟩) (fun j h1 => hg j (by omega))) (c2.cg (Nat.le_refl P) (fun p hp => ⟨q 8 (by omega) (by omega) (by omega) (by omega) p, q 9 (by omega) (by omega) (by omega) (by omega) p, q 10 (by omega) (by omega) (by omega) (by omega) p⟩) (fun j h1 h2 => hg j (by omega))) (c3.add (fun p hp => ⟨?_, ?_, ?_⟩) (fun j h1 h2 => hg j (by omega)) ⟨?_, ?_, ?_⟩ ⟨e.1, e.2.1, e.2.2.1⟩ ha hb hc)
  · rw [q 0 (by omega) (by omega) (by omega) (by omega)]; exact t0
  · rw [q 2 (by omega) (by omega) (by omega) (by omega)]; exact t2
  · rw [hg 88 (by omega)]; exact g88
  · rw [q 7 (by omega) (by omega) (by omega) (by omega)]; exact t7
  · rw [hg 89 (by omega)]; exact g89
  · rw [q 1 (by omega) (by omega) (by omega) (by omega), hg 91 (by omega)]; exact t1
  · rw [hg 91 (by omega)]; exact g91
  · rw [h3]; exact upd_ne (by omega)
  · rw [h4]; exact upd_ne (by omega)
  · rw [h5]; exact upd_ne (by omega)
  · rw [h3]; exact upd_eq
  · rw [h4]; exact upd_eq
  · rw [h5]; exact upd_eq
theorem pt_o {U G : St} {k : Nat} (h : 32 ≤ k) : pt 0 32 U G k = G k := pt_out (Or.inr (by omega))
theorem op_bear : Op_bear Rel := by
  intro x1 x2 x3 G M hR
  obtain ⟨H, hH, ⟨P, V, B, hT⟩, -⟩ := id hR
  obtain ⟨hb, ⟨t0, t2, g88, t7, g89, t11, g90, t1, g91⟩, c1, c2, c3⟩ := hT.un
  unfold f_X6_bear f_X7_bear
  rw [sb0, C_isDay, M_isDay, C_isHouse t0 (by omega), M_isHouse hH (by omega), M_in x1 (n := 5) (by decide) (by decide), show (5 : Int32) = nI 5 from rfl, vd_ge (by omega)]
  rcases tf (vd 5 x1) with v1 | v1
  · rw [if_pos v1, vb_t v1]
    rcases tf (vd 36000 x2) with v2 | v2
    · rw [vb_t v2, vb_t v2]
      rcases tf (vd H x3) with v3 | v3
      · rw [vb_t v3, vb_t v3, M_people g88, bd_s, t2, i10]
        obtain ⟨kd, hkd, rfl⟩ := vd_t v1
        obtain ⟨d, hd, rfl⟩ := vd_t v2
        obtain ⟨h, hh, rfl⟩ := vd_t v3
        by_cases q : P = 10
        · subst q
          rw [if_pos rfl, if_neg (nI_nlt (by omega) (by omega))]
          exact ⟨_, _, _, rfl, rfl, hR⟩
        · rw [if_neg (fun e => q ((nI_eq (by omega) (by omega)).mp e)), if_pos (nI_lt (by omega) (by omega))]
          obtain ⟨U, u1, u2, u3, u4, u5, u6, u7⟩ := C_addOne (T := G) (nI kd) (nI d) (nI h) 36000 t2 (by omega)
          rw [u1, bd_s, u3, nI_pred]
          simp (disch := omega) only [ix_in, tN_nI, m4, p1, p2, p3, i88]
          refine ⟨_, _, _, rfl, rfl, hR.town hH (P := P + 1) (V := V) (B := B) (RT.pt (hT.addOne (by omega) u2 u3 u4 u5 u6 u7 ?_ ⟨?_, ?_, ?_, ?_, ?_⟩ ⟨kd, hkd, rfl⟩ ⟨d, hd, rfl⟩ ⟨h, hh, rfl⟩ (Or.inl ⟨rfl, rfl⟩))) (fun k hk => pt_o (by omega)) ?_ ?_⟩
          · intro j hj
            rw [st_eq, upd_ne (by omega), upd_ne (by omega), upd_ne (by omega), upd_ne (by omega), upd_ne (by omega)]
          · rw [st_eq, upd_ne (by omega), upd_ne (by omega), upd_ne (by omega), upd_ne (by omega), upd_eq]
          · rw [st_eq, upd_ne (by omega), upd_ne (by omega), upd_ne (by omega), upd_eq]
          · rw [st_eq, upd_ne (by omega), upd_ne (by omega), upd_eq]
          · rw [st_eq, upd_ne (by omega), upd_eq]
          · rw [st_eq, upd_eq, upd_ne (by omega), upd_ne (by omega), upd_ne (by omega), upd_ne (by omega), g88, p1]
          · intro k hk
            rw [st_ne (by omega), st_ne (by omega), st_ne (by omega), st_ne (by omega), st_ne (by omega)]
          · intro j h1 h2
            rw [st_eq, upd_ne (by omega), upd_ne (by omega), upd_ne (by omega), upd_ne (by omega), upd_ne (by omega)]
      · rw [vb_f v3, vb_f v3]
        exact ⟨_, _, _, rfl, rfl, hR⟩
    · rw [vb_f v2, vb_f v2]
      exact ⟨_, _, _, rfl, rfl, hR⟩
  · rw [vb_f v1, if_neg (by rw [v1]; decide)]
    exact ⟨_, _, _, rfl, rfl, hR⟩
