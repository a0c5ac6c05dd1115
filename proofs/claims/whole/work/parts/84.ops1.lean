-- what is valid, on both sides; the plain operations
def vd (n : Nat) (x : Int32) : Bool := decide (0 ≤ x.toInt ∧ x.toInt < (n : Int))
theorem vd_t {n : Nat} {x : Int32} (h : vd n x = true) : ∃ j, j < n ∧ x = nI j := by
  have h1 := of_decide_eq_true h
  obtain ⟨j, hj, e⟩ := nI_of (x := x) (fun q => by
    have := Int32.lt_iff_toInt_lt.mp q
    have e0 : (0 : Int32).toInt = 0 := by decide
    omega)
  refine ⟨j, ?_, e⟩
  rw [e, nI_toInt hj] at h1
  omega
theorem vd_nI {n j : Nat} (h : j < n) (hn : n < 2 ^ 31) : vd n (nI j) = true := by
  unfold vd
  rw [nI_toInt (by omega)]
  exact decide_eq_true (by omega)
theorem vb_f {α : Type} {v : Bool} {A : Option α} {K : Int32 → Option α} (h : v = false) : (some (if v = true then (1 : Int32) else 0)).bind (fun q => if q = 0 then A else K q) = A := by
  subst h
  rfl
theorem vb_t {α : Type} {v : Bool} {A : Option α} {K : Int32 → Option α} (h : v = true) : (some (if v = true then (1 : Int32) else 0)).bind (fun q => if q = 0 then A else K q) = K 1 := by
  subst h
  show (if (1 : Int32) = 0 then A else K 1) = K 1
  rw [if_neg (by decide)]
theorem lt0 {x : Int32} : x < 0 ↔ x.toInt < 0 := by
  rw [Int32.lt_iff_toInt_lt]
  have e0 : (0 : Int32).toInt = 0 := by decide
  rw [e0]
theorem vd_c {n : Nat} {x : Int32} (hn : n < 2 ^ 31) : (if x < 0 then (some (0 : Int32)) else (if nI n ≤ x then (some 0) else (some 1))) = some (if vd n x = true then 1 else 0) := by
  have e : (nI n).toInt = (n : Int) := nI_toInt hn
  unfold vd
  by_cases a1 : x.toInt < 0
  · rw [if_pos (lt0.mpr a1), if_neg (by simp; omega)]
  · rw [if_neg (fun q => a1 (lt0.mp q))]
    by_cases a2 : (n : Int) ≤ x.toInt
    · rw [if_pos (by rw [Int32.le_iff_toInt_le, e]; exact a2), if_neg (by simp; omega)]
    · rw [if_neg (by rw [Int32.le_iff_toInt_le, e]; exact a2), if_pos (by simp; omega)]
theorem C_isOne {S : St} {P : Nat} (h : S 2 0 = nI P) (hP : P < 2 ^ 31) (x : Int32) : f_X5_isOne x S = some (if vd P x = true then 1 else 0) := by
  unfold f_X5_isOne
  rw [h]
  exact vd_c hP
theorem C_isHouse {S : St} {H : Nat} (h : S 0 0 = nI H) (hH : H < 2 ^ 31) (x : Int32) : f_X5_isHouse x S = some (if vd H x = true then 1 else 0) := by
  unfold f_X5_isHouse
  rw [h]
  exact vd_c hH
theorem C_isDay (x : Int32) : f_X6_isDay x = some (if vd 36000 x = true then 1 else 0) := vd_c (n := 36000) (by omega)
theorem C_isLaw (x : Int32) : f_X6_isLaw x = some (if vd 4 x = true then 1 else 0) := vd_c (n := 4) (by omega)
theorem C_isImage (x : Int32) : f_X6_isImage x = some (if vd 2 x = true then 1 else 0) := vd_c (n := 2) (by omega)
theorem C_isNumber (x : Int32) : f_X6_isNumber x = some (if vd 1000 x = true then 1 else 0) := by
  rw [← vd_c (n := 1000) (by omega)]
  unfold f_X6_isNumber
  have e : ((999 : Int32) < x) ↔ nI 1000 ≤ x := by
    rw [Int32.lt_iff_toInt_lt, Int32.le_iff_toInt_le, nI_toInt (by omega), show (999 : Int32).toInt = 999 from by decide]
    omega
  simp only [e]
theorem M_in0 (a b c : Int64) : f_X7_in a b c = some (if b ≤ a ∧ a ≤ c then 1 else 0) := by
  unfold f_X7_in
  simp only [lg_cmp_lt, lg_cmp_gt]
  by_cases h1 : a < b
  · rw [if_pos h1, if_neg (fun q => Int64.not_le.mpr h1 q.1)]
  · rw [if_neg h1]
    by_cases h2 : c < a
    · rw [if_pos h2, if_neg (fun q => Int64.not_le.mpr h2 q.2)]
    · rw [if_neg h2, if_pos ⟨Int64.not_lt.mp h1, Int64.not_lt.mp h2⟩]
theorem M_in (x : Int32) {a c : Int64} {n : Nat} (ha : a.toInt = 0) (hc : c.toInt = (n : Int) - 1) : f_X7_in (Int32.toInt64 x) a c = some (if vd n x = true then 1 else 0) := by
  rw [M_in0]
  unfold vd
  have e : (Int32.toInt64 x).toInt = x.toInt := Int32.toInt_toInt64 x
  have k : (a ≤ Int32.toInt64 x ∧ Int32.toInt64 x ≤ c) ↔ (0 ≤ x.toInt ∧ x.toInt < (n : Int)) := by
    rw [Int64.le_iff_toInt_le, Int64.le_iff_toInt_le, e, ha, hc]
    omega
  by_cases h : 0 ≤ x.toInt ∧ x.toInt < (n : Int)
  · rw [if_pos (k.mpr h), if_pos (decide_eq_true h)]
  · rw [if_neg (fun q => h (k.mp q)), if_neg (fun q => h (of_decide_eq_true q))]
theorem zb_v {v : Bool} : (some (if v = true then (1 : Int32) else 0)).bind (fun q => zb q (some q)) = some (if v = true then 1 else 0) := by
  cases v <;> rfl
theorem nI_m1_64 {n : Nat} (hn : n < 2 ^ 31) : (Int32.toInt64 (nI n - 1)).toInt = (n : Int) - 1 := by
  rw [Int32.toInt_toInt64, Int32.toInt_sub, nI_toInt hn, show (1 : Int32).toInt = 1 from by decide]
  exact Int.bmod_eq_of_le (by omega) (by omega)
theorem M_isDay (x : Int32) : f_X7_isDay x = some (if vd 36000 x = true then 1 else 0) := by
  unfold f_X7_isDay
  rw [M_in x (n := 36000) (by decide) (by decide), zb_v]
theorem M_isHouse {M : St} {H : Nat} (h : M 1 0 = nI H) (hH : H < 2 ^ 31) (x : Int32) : f_X7_isHouse x M = some (if vd H x = true then 1 else 0) := by
  unfold f_X7_isHouse
  rw [h, M_in x (n := H) (by decide) (nI_m1_64 hH), zb_v]
theorem M_people {M : St} {P : Nat} (h : M 0 88 = nI P) : f_X7_people M = some (nI P) := by
  unfold f_X7_people
  rw [i88, ix_in (by omega) (by omega), tN_nI (by omega), h]
theorem M_isOne {M : St} {P : Nat} (h : M 0 88 = nI P) (hP : P < 2 ^ 31) (x : Int32) : f_X7_isOne x M = some (if vd P x = true then 1 else 0) := by
  unfold f_X7_isOne
  rw [M_people h, bd_s, M_in x (n := P) (by decide) (nI_m1_64 hP), zb_v]
theorem op_fault : Op_fault Rel := by
  intro G M hR
  obtain ⟨H, -, -, -, -, -, -, -, h8⟩ := id hR
  refine ⟨G 184 0, rfl, ?_, hR⟩
  unfold f_X7_fault
  rw [h8.1]
theorem op_torn : Op_torn Rel := by
  intro G M hR
  obtain ⟨H, -, -, -, -, -, -, -, h8⟩ := id hR
  refine ⟨G 185 0, rfl, ?_, hR⟩
  unfold f_X7_torn
  rw [h8.2.1]
