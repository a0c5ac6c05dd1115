-- cells: lay, read
theorem nb8 (x : Int32) : Int8.toInt32 (Int32.toInt8 x) = (x <<< ((24 : Int32) &&& 31)) >>> ((24 : Int32) &&& 31) := by
  apply b_ext
  intro i hi
  have h := b_sshr 24 (by omega) (x <<< ((24 : Int32) &&& 31)) hi
  have h' : bt ((x <<< ((24 : Int32) &&& 31)) >>> ((24 : Int32) &&& 31)) i = if 24 + i < 32 then bt (x <<< ((24 : Int32) &&& 31)) (24 + i) else bt (x <<< ((24 : Int32) &&& 31)) 31 := h
  rw [h']
  have e1 : (Int8.toInt32 (Int32.toInt8 x)).toBitVec = (x.toBitVec.signExtend 8).signExtend 32 := rfl
  have e2 : bt (Int8.toInt32 (Int32.toInt8 x)) i = ((x.toBitVec.signExtend 8).signExtend 32).getLsbD i := by unfold bt; rw [e1]
  rw [e2, BitVec.getLsbD_signExtend, BitVec.msb_eq_getLsbD_last, BitVec.getLsbD_signExtend, BitVec.getLsbD_signExtend]
  by_cases c : i < 8
  · rw [if_pos (show 24 + i < 32 by omega), b_shl24 x (by omega)]
    simp [c, hi, show 24 + i - 24 = i by omega, bt]
  · rw [if_neg (show ¬ 24 + i < 32 by omega), b_shl24 x (by omega)]
    simp [c, hi, bt]
theorem nb16 (x : Int32) : Int16.toInt32 (Int32.toInt16 x) = (x <<< ((16 : Int32) &&& 31)) >>> ((16 : Int32) &&& 31) := by
  apply b_ext
  intro i hi
  have h := b_sshr 16 (by omega) (x <<< ((16 : Int32) &&& 31)) hi
  have h' : bt ((x <<< ((16 : Int32) &&& 31)) >>> ((16 : Int32) &&& 31)) i = if 16 + i < 32 then bt (x <<< ((16 : Int32) &&& 31)) (16 + i) else bt (x <<< ((16 : Int32) &&& 31)) 31 := h
  rw [h']
  have e1 : (Int16.toInt32 (Int32.toInt16 x)).toBitVec = (x.toBitVec.signExtend 16).signExtend 32 := rfl
  have e2 : bt (Int16.toInt32 (Int32.toInt16 x)) i = ((x.toBitVec.signExtend 16).signExtend 32).getLsbD i := by unfold bt; rw [e1]
  rw [e2, BitVec.getLsbD_signExtend, BitVec.msb_eq_getLsbD_last, BitVec.getLsbD_signExtend, BitVec.getLsbD_signExtend]
  by_cases c : i < 16
  · rw [if_pos (show 16 + i < 32 by omega), b_shl16 x (by omega)]
    simp [c, hi, show 16 + i - 16 = i by omega, bt]
  · rw [if_neg (show ¬ 16 + i < 32 by omega), b_shl16 x (by omega)]
    simp [c, hi, bt]
def nrw (l : Nat) (x : Int32) : Int32 := if l = 0 then (x <<< ((24 : Int32) &&& 31)) >>> ((24 : Int32) &&& 31) else if l = 1 then (x <<< ((16 : Int32) &&& 31)) >>> ((16 : Int32) &&& 31) else x
theorem C_put (S : St) (k l i : Nat) (x : Int32) (hk : k < 4) (hl : l < 3) (hi : i < 40) (h4 : S 4 k = nI l) : f_X1_put (nI k) (nI i) x S = some (st k (upd (S k) i (nrw l x)) S) := by
  unfold f_X1_put nrw
  rw [ix_in (by omega) (by omega), tN_nI (by omega), tN_nI (by omega), h4, nb8, nb16]
  simp only [ix_in hi (show 40 < 2 ^ 31 by omega)]
  rcases (show l = 0 ∨ l = 1 ∨ l = 2 by omega) with rfl | rfl | rfl <;> rcases (show k = 0 ∨ k = 1 ∨ k = 2 ∨ k = 3 by omega) with rfl | rfl | rfl | rfl <;> rfl
theorem C_fA (S : St) (k : Nat) (hk : k < 4) (x2 x3 : Int32) (h5 : S 5 k = -1) : f_X1_faultAt (nI k) x2 x3 S = some 1 := by
  unfold f_X1_faultAt
  rw [ix_in (by omega) (by omega), tN_nI (by omega), h5, if_neg (by decide)]
theorem C_fB (S : St) (k n l : Nat) (hk : k < 4) (x2 x3 : Int32) (hn : n ≤ 40) (h5 : S 5 k = nI n) (h4 : S 4 k = nI l) : f_X1_faultAt (nI k) x2 x3 S = some (if nI l = x2 then (if vd n x3 = true then 0 else 2) else 3) := by
  unfold f_X1_faultAt f_X1_faultAt_37
  rw [ix_in (by omega) (by omega), ix_in (by omega) (by omega), ix_in (by omega) (by omega), tN_nI (by omega), h5, h4, if_pos (Int32.not_lt.mp (nI_nn (by omega)))]
  by_cases q : nI l = x2
  · rw [if_pos q, if_pos q, vd_lt (by omega)]
    by_cases c : vd n x3 = true
    · rw [if_pos c, if_pos c]
    · rw [if_neg c, if_neg c]
  · rw [if_neg q, if_neg q]
theorem pt_row {G : St} {k j : Nat} {f : Nat → Int32} (hk : k < 4) (h : j ≠ 176 + k) : pt 176 8 (st k f (sb 176 G)) G j = G j := by
  by_cases c : j < 176 ∨ 184 ≤ j
  · exact pt_out c
  · rw [pt_in (by omega) (by omega), st_ne (by omega)]
    exact congrArg G (by omega)
theorem op_lay : Op_lay Rel := by
  intro x1 x2 x3 G M hR
  obtain ⟨H, hH, ⟨P, V, B, hT⟩, hI, hA, hW, hS, hQ, hN⟩ := id hR
  have hb := hT.1
  unfold f_X6_lay f_X7_lay
  rw [C_isSheet, M_in x1 (n := 4) (by decide) (by decide)]
  rcases tf (vd 4 x1) with v1 | v1
  · rw [vb_t v1, vb_t v1]
    obtain ⟨k, hk, rfl⟩ := vd_t v1
    simp only [ix_in hk (show 4 < 2 ^ 31 by omega), tN_nI (show k < 2 ^ 31 by omega)]
    rcases hQ k hk with ⟨z1, z2⟩ | ⟨n, l, a1, a2, a3, a4, a5, a6, a7⟩
    · rw [C_fA (sb 176 G) k hk _ _ z1, z2, if_pos rfl, bd_s, if_neg (show ¬ (1 : Int32) = 0 by decide)]
      exact ⟨_, _, _, rfl, rfl, hR⟩
    · rw [C_fB (sb 176 G) k n l hk _ _ a1 a3 a5, a5, a6, a4, if_pos rfl, if_neg (i4ne (j := l) rfl (by omega)), M_inP x2 (by omega)]
      rcases tf (vd n x2) with v2 | v2
      · rw [vb_t v2, if_pos v2, bd_s, if_pos rfl]
        obtain ⟨i, hi, rfl⟩ := vd_t v2
        rw [C_put (sb 176 G) k l i x3 hk a2 (by omega) a5, bd_s]
        have hM : (if nI l = 0 then f_X7_lay_99 ((40 : Int32) * nI k + nI i) ((x3 <<< ((24 : Int32) &&& 31)) >>> ((24 : Int32) &&& 31)) M else if nI l = 1 then f_X7_lay_99 ((40 : Int32) * nI k + nI i) ((x3 <<< ((16 : Int32) &&& 31)) >>> ((16 : Int32) &&& 31)) M else f_X7_lay_99 ((40 : Int32) * nI k + nI i) x3 M) = some (1, st 36 (upd (M 36) (40 * k + i) (nrw l x3)) M) := by
          unfold f_X7_lay_99
          rw [i40, nI_mul, nI_add, tN_nI (by omega)]
          simp only [ix_in (show 40 * k + i < 160 by omega) (show 160 < 2 ^ 31 by omega)]
          rcases (show l = 0 ∨ l = 1 ∨ l = 2 by omega) with rfl | rfl | rfl <;> rfl
        rw [hM]
        refine ⟨_, _, _, rfl, rfl, hR.sheet hH (by omega) (fun j hj => pt_row hk (by omega)) (fun j hj => st_ne (by omega)) (fun j hj => ?_)⟩
        have gk : pt 176 8 (st k (upd (sb 176 G k) i (nrw l x3)) (sb 176 G)) G (176 + k) = upd (G (176 + k)) i (nrw l x3) := by
          rw [pt_in (by omega) (by omega), show 176 + k - 176 = k by omega, st_eq]
          rfl
        unfold RSheet
        rw [pt_row (j := 181) hk (by omega), pt_row (j := 180) hk (by omega), st_ne (k := 36) (j := 34) (by omega), st_ne (k := 36) (j := 35) (by omega), st_eq]
        by_cases c : j = k
        · subst c
          refine Or.inr ⟨n, l, a1, a2, a3, a4, a5, a6, fun i2 hi2 => ?_⟩
          rw [gk]
          by_cases d : i2 = i
          · rw [d, upd_eq, upd_eq]
          · rw [upd_ne d, upd_ne (by omega)]
            exact a7 i2 hi2
        · rcases hQ j hj with z | ⟨n2, l2, z1, z2, z3, z4, z5, z6, z7⟩
          · exact Or.inl z
          · refine Or.inr ⟨n2, l2, z1, z2, z3, z4, z5, z6, fun i2 hi2 => ?_⟩
            rw [pt_row hk (by omega), upd_ne (by omega)]
            exact z7 i2 hi2
      · rw [vb_f v2, if_neg (by rw [v2]; decide), bd_s, if_neg (show ¬ (2 : Int32) = 0 by decide)]
        exact ⟨_, _, _, rfl, rfl, hR⟩
  · rw [vb_f v1, vb_f v1]
    exact ⟨_, _, _, rfl, rfl, hR⟩
/-- what the machine finds at the i-th cell of a read -/
def fcell (G : St) (k : Nat) (x2 f : Int32) (i : Nat) : Int32 := if G 181 k = -1 then 1 else if G 180 k = x2 then (if vd 40 f = true ∧ f.toNatClampNeg + i < (G 181 k).toNatClampNeg then 0 else 2) else 3
theorem fc_ok {G : St} {k i : Nat} {x2 f : Int32} (h : fcell G k x2 f i = 0) : ¬ G 181 k = -1 ∧ G 180 k = x2 ∧ ∃ F, F < 40 ∧ f = nI F ∧ F + i < (G 181 k).toNatClampNeg := by
  unfold fcell at h
  by_cases a : G 181 k = -1
  · rw [if_pos a] at h
    exact absurd h (by decide)
  · rw [if_neg a] at h
    by_cases b : G 180 k = x2
    · rw [if_pos b] at h
      by_cases c : vd 40 f = true ∧ f.toNatClampNeg + i < (G 181 k).toNatClampNeg
      · obtain ⟨F, hF, rfl⟩ := vd_t c.1
        refine ⟨a, b, F, hF, rfl, ?_⟩
        have := c.2
        rw [tN_nI (by omega)] at this
        exact this
      · rw [if_neg c] at h
        exact absurd h (by decide)
    · rw [if_neg b] at h
      exact absurd h (by decide)
theorem i_m1 {n : Nat} (h : n < 2 ^ 31) : ¬ nI n = -1 := by
  intro e
  have h1 : (nI n).toInt = (n : Int) := nI_toInt h
  rw [e, show (-1 : Int32).toInt = -1 from by decide] at h1
  omega
theorem C_fc {G M : St} {k : Nat} (hk : k < 4) (h : RSheet G M k) (x2 f y : Int32) (i : Nat) (hi : i < 40) (hy : i = 0 → y = f) (hy2 : ∀ F, f = nI F → F < 40 → y = nI (F + i)) (hp : i = 0 ∨ fcell G k x2 f (i - 1) = 0) : f_X1_faultAt (nI k) x2 y (sb 176 G) = some (fcell G k x2 f i) := by
  unfold fcell
  rcases h with ⟨z1, z2⟩ | ⟨n, l, a1, a2, a3, a4, a5, a6, a7⟩
  · rw [if_pos z1]
    exact C_fA (sb 176 G) k hk x2 y z1
  · rw [C_fB (sb 176 G) k n l hk x2 y a1 a3 a5, a3, a5, if_neg (i_m1 (by omega)), tN_nI (by omega)]
    by_cases q : nI l = x2
    · rw [if_pos q, if_pos q]
      rcases tf (vd 40 f) with c | c
      · obtain ⟨F, hF, rfl⟩ := vd_t c
        rw [hy2 F rfl hF, tN_nI (by omega)]
        by_cases d : F + i < n
        · rw [if_pos (vd_nI d (by omega)), if_pos ⟨c, d⟩]
        · rw [if_neg (fun e => by
            obtain ⟨j, hj, e2⟩ := vd_t e
            have := (nI_eq (by omega) (by omega)).mp e2
            omega), if_neg (fun e => d e.2)]
      · rcases hp with rfl | hp
        · rw [hy rfl, if_neg (fun e => by
            obtain ⟨j, hj, rfl⟩ := vd_t e
            rw [vd_nI (by omega) (by omega)] at c
            exact Bool.noConfusion c), if_neg (fun e => by rw [c] at e; exact Bool.noConfusion e.1)]
        · obtain ⟨-, -, F, hF, rfl, -⟩ := fc_ok hp
          rw [vd_nI hF (by omega)] at c
          exact Bool.noConfusion c
    · rw [if_neg q, if_neg q]
