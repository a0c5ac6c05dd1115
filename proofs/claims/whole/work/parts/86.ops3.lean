-- what is asked plainly
theorem vd_ne {n j : Nat} {x : Int32} (h : vd n x = false) (hj : j < n) (hn : n < 2 ^ 31) : ¬ x = nI j := by
  intro e
  rw [e, vd_nI hj hn] at h
  exact Bool.noConfusion h
theorem vn0 {n : Nat} {x : Int32} (h : vd n x = false) (hj : 0 < n) (hn : n < 2 ^ 31) : ¬ x = 0 := vd_ne h hj hn
theorem vn1 {n : Nat} {x : Int32} (h : vd n x = false) (hj : 1 < n) (hn : n < 2 ^ 31) : ¬ x = 1 := vd_ne h hj hn
theorem vn2 {n : Nat} {x : Int32} (h : vd n x = false) (hj : 2 < n) (hn : n < 2 ^ 31) : ¬ x = 2 := vd_ne h hj hn
theorem vn3 {n : Nat} {x : Int32} (h : vd n x = false) (hj : 3 < n) (hn : n < 2 ^ 31) : ¬ x = 3 := vd_ne h hj hn
theorem n0 : nI 0 = 0 := rfl
theorem n1 : nI 1 = 1 := rfl
theorem n2 : nI 2 = 2 := rfl
theorem n3 : nI 3 = 3 := rfl
theorem z0 : Int32.toNatClampNeg 0 = 0 := rfl
theorem z1 : Int32.toNatClampNeg 1 = 1 := rfl
theorem ix0 {α : Type} {n : Nat} {k : Option α} (h : 0 < n) (hn : n < 2 ^ 31) : ix 0 n k = k := ix_in (j := 0) h hn
theorem ix1 {α : Type} {n : Nat} {k : Option α} (h : 1 < n) (hn : n < 2 ^ 31) : ix 1 n k = k := ix_in (j := 1) h hn
/-- the two tests ahead of a row's end, as one -/
theorem vd_lt {α : Type} {n : Nat} {x : Int32} (hn : n < 2 ^ 31) (A B : α) : (if x < 0 then B else (if x < nI n then A else B)) = if vd n x = true then A else B := by
  have e : (nI n).toInt = (n : Int) := nI_toInt hn
  unfold vd
  by_cases a1 : x.toInt < 0
  · rw [if_pos (lt0.mpr a1), if_neg (by simp; omega)]
  · rw [if_neg (fun q => a1 (lt0.mp q))]
    by_cases a2 : x.toInt < (n : Int)
    · rw [if_pos (by rw [Int32.lt_iff_toInt_lt, e]; exact a2), if_pos (by simp; omega)]
    · rw [if_neg (by rw [Int32.lt_iff_toInt_lt, e]; exact a2), if_neg (by simp; omega)]
theorem vd_le {α : Type} {n : Nat} {x : Int32} (hn : n + 1 < 2 ^ 31) (A B : α) : (if x < 0 then B else (if x ≤ nI n then A else B)) = if vd (n + 1) x = true then A else B := by
  have e : (nI n).toInt = (n : Int) := nI_toInt (by omega)
  unfold vd
  by_cases a1 : x.toInt < 0
  · rw [if_pos (lt0.mpr a1), if_neg (by simp; omega)]
  · rw [if_neg (fun q => a1 (lt0.mp q))]
    by_cases a2 : x.toInt ≤ (n : Int)
    · rw [if_pos (by rw [Int32.le_iff_toInt_le, e]; exact a2), if_pos (by simp; omega)]
    · rw [if_neg (by rw [Int32.le_iff_toInt_le, e]; exact a2), if_neg (by simp; omega)]
theorem vd_ge {α : Type} {n : Nat} {x : Int32} (hn : n < 2 ^ 31) (A B : α) : (if x < 0 then B else (if nI n ≤ x then B else A)) = if vd n x = true then A else B := by
  have e : (nI n).toInt = (n : Int) := nI_toInt hn
  unfold vd
  by_cases a1 : x.toInt < 0
  · rw [if_pos (lt0.mpr a1), if_neg (by simp; omega)]
  · rw [if_neg (fun q => a1 (lt0.mp q))]
    by_cases a2 : (n : Int) ≤ x.toInt
    · rw [if_pos (by rw [Int32.le_iff_toInt_le, e]; exact a2), if_neg (by simp; omega)]
    · rw [if_neg (by rw [Int32.le_iff_toInt_le, e]; exact a2), if_pos (by simp; omega)]
theorem M_inN (x : Int32) {n : Nat} (hn : n + 1 < 2 ^ 31) : f_X7_in (Int32.toInt64 x) 0 (Int32.toInt64 (nI n)) = some (if vd (n + 1) x = true then 1 else 0) := by
  refine M_in x (n := n + 1) (by decide) ?_
  rw [Int32.toInt_toInt64, nI_toInt (by omega)]
  omega
theorem M_inP (x : Int32) {n : Nat} (hn : n < 2 ^ 31) : f_X7_in (Int32.toInt64 x) 0 (Int32.toInt64 (nI n - 1)) = some (if vd n x = true then 1 else 0) := M_in x (n := n) (by decide) (nI_m1_64 hn)
theorem op_one : Op_one Rel := by
  intro x1 x2 G M hR
  obtain ⟨H, hH, ⟨P, V, B, hT⟩, -⟩ := id hR
  have hb := hT.1
  obtain ⟨t0, t2, g88, -⟩ := id hT.2.1
  unfold f_X6_one f_X7_one
  rw [sb0, C_isOne t2 (by omega), M_isOne g88 (by omega)]
  rcases tf (vd P x1) with v1 | v1
  · rw [vb_t v1, vb_t v1, M_in x2 (n := 4) (by decide) (by decide)]
    obtain ⟨p, hp, rfl⟩ := vd_t v1
    obtain ⟨a3, a4, a5, a6, -⟩ := hT.2.2.1 p hp
    rcases tf (vd 4 x2) with v2 | v2
    · rw [vb_t v2]
      obtain ⟨j, hj, rfl⟩ := vd_t v2
      rw [m4, nI_add, ix_in (by omega) (by omega), tN_nI (by omega), ix_in (by omega) (by omega), ix_in (by omega) (by omega), ix_in (by omega) (by omega), tN_nI (by omega)]
      rcases (show j = 0 ∨ j = 1 ∨ j = 2 ∨ j = 3 by omega) with rfl | rfl | rfl | rfl
      · exact ⟨_, by rw [if_pos n0, a3]; rfl, rfl, hR⟩
      · exact ⟨_, by rw [if_neg (by decide), if_pos n1, a4], rfl, hR⟩
      · exact ⟨_, by rw [if_neg (by decide), if_neg (by decide), if_pos n2, a5], rfl, hR⟩
      · refine ⟨_, ?_, rfl, hR⟩
        rw [if_neg (by decide), if_neg (by decide), if_neg (by decide), if_pos n3]
        unfold f_X5_deathOf
        rw [ix_in (by omega) (by omega), ix_in (by omega) (by omega), tN_nI (by omega)]
        rcases a6 with ⟨c, d⟩ | ⟨c, n, hn, d⟩
        · rw [if_pos c, bd_s, d]
        · rw [if_neg (by rw [c, d, i36000]; exact fun q => by have := (nI_eq (by omega) (by omega)).mp q; omega), bd_s, c]
    · rw [vb_f v2, if_neg (vn0 v2 (by omega) (by omega)), if_neg (vn1 v2 (by omega) (by omega)), if_neg (vn2 v2 (by omega) (by omega)), if_neg (vn3 v2 (by omega) (by omega))]
      exact ⟨_, rfl, rfl, hR⟩
  · rw [vb_f v1, vb_f v1]
    exact ⟨_, rfl, rfl, hR⟩
theorem op_moved : Op_moved Rel := by
  intro x1 x2 G M hR
  obtain ⟨H, hH, ⟨P, V, B, hT⟩, -⟩ := id hR
  have hb := hT.1
  obtain ⟨t0, t2, g88, t7, g89, -⟩ := id hT.2.1
  unfold f_X6_moved f_X7_moved
  rw [i89, ix_in (by omega) (by omega), tN_nI (by omega), t7, g89, M_inP x1 (by omega), vd_lt (by omega)]
  rcases tf (vd V x1) with v1 | v1
  · rw [if_pos v1, vb_t v1, M_in x2 (n := 3) (by decide) (by decide)]
    obtain ⟨p, hp, rfl⟩ := vd_t v1
    obtain ⟨a3, a4, a5, -⟩ := hT.2.2.2.1 p hp
    rcases tf (vd 3 x2) with v2 | v2
    · rw [vb_t v2]
      obtain ⟨j, hj, rfl⟩ := vd_t v2
      rw [i40, ad3, nI_add, ix_in (by omega) (by omega), tN_nI (by omega), ix_in (by omega) (by omega), ix_in (by omega) (by omega), ix_in (by omega) (by omega), tN_nI (by omega)]
      rcases (show j = 0 ∨ j = 1 ∨ j = 2 by omega) with rfl | rfl | rfl
      · exact ⟨_, by rw [if_pos n0, a3]; rfl, rfl, hR⟩
      · exact ⟨_, by rw [if_neg (by decide), if_pos n1, a4], rfl, hR⟩
      · exact ⟨_, by rw [if_neg (by decide), if_neg (by decide), if_pos n2, a5], rfl, hR⟩
    · rw [vb_f v2, if_neg (vn0 v2 (by omega) (by omega)), if_neg (vn1 v2 (by omega) (by omega)), if_neg (vn2 v2 (by omega) (by omega))]
      exact ⟨_, rfl, rfl, hR⟩
  · rw [vb_f v1, if_neg (by rw [v1]; decide)]
    exact ⟨_, rfl, rfl, hR⟩
theorem op_expected : Op_expected Rel := by
  intro x1 x2 G M hR
  obtain ⟨H, hH, ⟨P, V, B, hT⟩, -⟩ := id hR
  have hb := hT.1
  obtain ⟨t0, t2, g88, t7, g89, t11, g90, -⟩ := id hT.2.1
  unfold f_X6_expected f_X7_expected
  rw [i90, ix_in (by omega) (by omega), tN_nI (by omega), t11, g90, M_inP x1 (by omega), vd_lt (by omega)]
  rcases tf (vd B x1) with v1 | v1
  · rw [if_pos v1, vb_t v1, M_in x2 (n := 3) (by decide) (by decide)]
    obtain ⟨p, hp, rfl⟩ := vd_t v1
    obtain ⟨a3, a4, a5, -⟩ := hT.2.2.2.2 p hp
    rcases tf (vd 3 x2) with v2 | v2
    · rw [vb_t v2]
      obtain ⟨j, hj, rfl⟩ := vd_t v2
      rw [i76, ad3, nI_add, ix_in (by omega) (by omega), tN_nI (by omega), ix_in (by omega) (by omega), ix_in (by omega) (by omega), ix_in (by omega) (by omega), tN_nI (by omega)]
      rcases (show j = 0 ∨ j = 1 ∨ j = 2 by omega) with rfl | rfl | rfl
      · exact ⟨_, by rw [if_pos n0, a3]; rfl, rfl, hR⟩
      · exact ⟨_, by rw [if_neg (by decide), if_pos n1, a4], rfl, hR⟩
      · exact ⟨_, by rw [if_neg (by decide), if_neg (by decide), if_pos n2, a5], rfl, hR⟩
    · rw [vb_f v2, if_neg (vn0 v2 (by omega) (by omega)), if_neg (vn1 v2 (by omega) (by omega)), if_neg (vn2 v2 (by omega) (by omega))]
      exact ⟨_, rfl, rfl, hR⟩
  · rw [vb_f v1, if_neg (by rw [v1]; decide)]
    exact ⟨_, rfl, rfl, hR⟩
theorem M_in24 (x : Int32) : f_X7_in (Int32.toInt64 x) 2 4 = some (if x = 2 ∨ x = 3 ∨ x = 4 then 1 else 0) := by
  rw [M_in0]
  have e : (Int32.toInt64 x).toInt = x.toInt := Int32.toInt_toInt64 x
  have e2 : (2 : Int64).toInt = 2 := by decide
  have e4 : (4 : Int64).toInt = 4 := by decide
  have f2 : (2 : Int32).toInt = 2 := by decide
  have f3 : (3 : Int32).toInt = 3 := by decide
  have f4 : (4 : Int32).toInt = 4 := by decide
  have k : (2 ≤ Int32.toInt64 x ∧ Int32.toInt64 x ≤ 4) ↔ (x = 2 ∨ x = 3 ∨ x = 4) := by
    rw [Int64.le_iff_toInt_le, Int64.le_iff_toInt_le, e, e2, e4, ← Int32.toInt_inj, ← Int32.toInt_inj, ← Int32.toInt_inj, f2, f3, f4]
    omega
  simp only [k]
theorem op_rule : Op_rule Rel := by
  intro x1 G M hR
  obtain ⟨H, hH, ⟨P, V, B, hT⟩, -⟩ := id hR
  have hb := hT.1
  obtain ⟨t0, t2, g88, t7, g89, t11, g90, t1, -⟩ := id hT.2.1
  unfold f_X6_rule f_X7_rule
  rw [M_in24]
  by_cases a0 : x1 = 0
  · rw [if_pos a0, if_pos a0, t0, hH]
    exact ⟨_, rfl, rfl, hR⟩
  rw [if_neg a0, if_neg a0]
  by_cases a1 : x1 = 1
  · rw [if_pos a1, if_pos a1, t1]
    exact ⟨_, rfl, rfl, hR⟩
  rw [if_neg a1, if_neg a1]
  by_cases a2 : x1 = 2
  · subst a2
    exact ⟨_, rfl, by rw [t2, ← g88]; rfl, hR⟩
  by_cases a3 : x1 = 3
  · subst a3
    exact ⟨_, rfl, by rw [t7, ← g89]; rfl, hR⟩
  by_cases a4 : x1 = 4
  · subst a4
    exact ⟨_, rfl, by rw [t11, ← g90]; rfl, hR⟩
  rw [if_neg a2, if_neg a3, if_neg a4, if_neg (by simp [a2, a3, a4]), bd_s, if_pos rfl]
  exact ⟨_, rfl, rfl, hR⟩
theorem op_count : Op_count Rel := by
  intro x1 G M hR
  obtain ⟨H, hH, -, hI, ⟨n, hn, hn2, hn3, -⟩, ⟨-, w, hw, hw2, hw3, -⟩, ⟨-, s, hs, hs2, hs3, -⟩, hS, -⟩ := id hR
  unfold f_X6_count f_X7_count f_X6_count_66 f_X7_count_60
  rw [z0, z1, hs2, hs3, hw2, hw3, hn2, hn3, (hI 0 (by omega)).1, (hI 1 (by omega)).1]
  have key : (ix (0 : Int32) 4 (if 0 ≤ G 181 0 then ix (0 : Int32) 4 (some (G 181 0)) else some (-4 : Int32))) = (ix (0 : Int32) 4 (if M 34 0 = -4 then some (-4) else ix (0 : Int32) 4 (some (M 35 0)))) := by
    rw [ix0 (by omega) (by omega), ix0 (by omega) (by omega), ix0 (by omega) (by omega), ix0 (by omega) (by omega)]
    rcases hS 0 (by omega) with ⟨c, d⟩ | ⟨n, l, h1, h2, c, d, e, f, -⟩
    · rw [c, d]
      rfl
    · rw [c, d, f, if_pos (Int32.not_lt.mp (nI_nn (by omega))), if_neg (i4ne (j := l) rfl (by omega))]
  rw [key]
  have hC : ∃ r, (if x1 = 0 then some (nI s) else if x1 = 1 then some (nI w) else if x1 = 2 then ix (0 : Int32) 2 (if M 33 0 = 0 then ix (1 : Int32) 2 (if M 33 1 = 0 then some ((0 : Int32) + 0) else some (0 + 1)) else ix (1 : Int32) 2 (if M 33 1 = 0 then some ((1 : Int32) + 0) else some (1 + 1))) else if x1 = 3 then some (nI n) else if x1 = 4 then ix (0 : Int32) 4 (if M 34 0 = -4 then some (-4) else ix (0 : Int32) 4 (some (M 35 0))) else some (-1)) = some r := by
    simp only [ix0 (show 0 < 2 by omega) (by omega), ix1 (show 1 < 2 by omega) (by omega), ix0 (show 0 < 4 by omega) (by omega)]
    repeat' split
    all_goals exact ⟨_, rfl⟩
  obtain ⟨r, hr⟩ := hC
  exact ⟨r, hr, hr, hR⟩
