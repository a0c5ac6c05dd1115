-- pure side: numbers, rows, options
theorem ix_in {α : Type} {j n : Nat} {k : Option α} (h : j < n) (hn : n < 2 ^ 31) : ix (nI j) n k = k := by
  unfold ix
  have e : (nI j).toInt = (j : Int) := nI_toInt (by omega)
  rw [if_pos (by rw [e]; omega)]
theorem ix_of {α : Type} {i : Int32} {n : Nat} {k : Option α} (h : 0 ≤ i.toInt ∧ i.toInt < n) : ix i n k = k := by
  unfold ix
  rw [if_pos h]
theorem nI_mul (a b : Nat) : nI a * nI b = nI (a * b) := by
  unfold nI
  exact (Int32.ofNat_mul a b).symm
theorem nI_sub {a b : Nat} (h : b ≤ a) : nI a - nI b = nI (a - b) := by
  have e : nI (a - b) + nI b = nI a := by rw [nI_add, Nat.sub_add_cancel h]
  rw [← e]
  exact Int32.add_sub_cancel _ _
theorem st_eq {k : Nat} {f : Nat → Int32} {S : St} : st k f S k = f := if_pos rfl
theorem st_ne {k j : Nat} {f : Nat → Int32} {S : St} (h : j ≠ k) : st k f S j = S j := if_neg h
theorem st_if {k j : Nat} {f : Nat → Int32} {S : St} : st k f S j = if j = k then f else S j := rfl
theorem sbv (o : Nat) (S : St) (k : Nat) : sb o S k = S (o + k) := rfl
theorem pt_in {o w k : Nat} {U S : St} (h : o ≤ k) (h2 : k < o + w) : pt o w U S k = U (k - o) := by
  unfold pt
  rw [if_pos h, if_pos h2]
theorem pt_out {o w k : Nat} {U S : St} (h : k < o ∨ o + w ≤ k) : pt o w U S k = S k := by
  unfold pt
  by_cases a : o ≤ k
  · rw [if_pos a, if_neg (by omega)]
  · rw [if_neg a]
theorem upd_if {f : Nat → Int32} {k j : Nat} {x : Int32} : upd f k x j = if j = k then x else f j := rfl
theorem upd_eq {f : Nat → Int32} {k : Nat} {x : Int32} : upd f k x k = x := pk_us
theorem upd_ne {f : Nat → Int32} {k j : Nat} {x : Int32} (h : j ≠ k) : upd f k x j = f j := pk_un h
theorem bd_s {α β : Type} (x : α) (f : α → Option β) : (some x).bind f = f x := rfl
theorem i0 : (0 : Int32) = nI 0 := rfl
theorem i1 : (1 : Int32) = nI 1 := rfl
theorem i2 : (2 : Int32) = nI 2 := rfl
theorem i3 : (3 : Int32) = nI 3 := rfl
theorem i4 : (4 : Int32) = nI 4 := rfl
theorem i8 : (8 : Int32) = nI 8 := rfl
theorem i10 : (10 : Int32) = nI 10 := rfl
theorem i12 : (12 : Int32) = nI 12 := rfl
theorem i14 : (14 : Int32) = nI 14 := rfl
theorem i40 : (40 : Int32) = nI 40 := rfl
theorem i76 : (76 : Int32) = nI 76 := rfl
theorem i88 : (88 : Int32) = nI 88 := rfl
theorem i89 : (89 : Int32) = nI 89 := rfl
theorem i90 : (90 : Int32) = nI 90 := rfl
theorem i91 : (91 : Int32) = nI 91 := rfl
theorem i92 : (92 : Int32) = nI 92 := rfl
theorem i276 : (276 : Int32) = nI 276 := rfl
theorem i360 : (360 : Int32) = nI 360 := rfl
theorem i36000 : (36000 : Int32) = nI 36000 := rfl
theorem tN_nI {j : Nat} (h : j < 2 ^ 31) : Int32.toNatClampNeg (nI j) = j := nI_clamp h
theorem nI_nn {j : Nat} (h : j < 2 ^ 31) : ¬ nI j < 0 := nI_pos h
theorem ad4 (o p : Nat) : nI o + (4 : Int32) * nI p = nI (o + 4 * p) := by rw [i4, nI_mul, nI_add]
theorem ad3 (o p : Nat) : nI o + (3 : Int32) * nI p = nI (o + 3 * p) := by rw [i3, nI_mul, nI_add]
theorem m4 (p : Nat) : (4 : Int32) * nI p = nI (4 * p) := by rw [i4, nI_mul]
theorem m3 (p : Nat) : (3 : Int32) * nI p = nI (3 * p) := by rw [i3, nI_mul]
theorem p1 (a : Nat) : nI a + (1 : Int32) = nI (a + 1) := nI_add a 1
theorem p2 (a : Nat) : nI a + (2 : Int32) = nI (a + 2) := nI_add a 2
theorem p3 (a : Nat) : nI a + (3 : Int32) = nI (a + 3) := nI_add a 3
theorem p40 (a : Nat) : nI a + (40 : Int32) = nI (a + 40) := nI_add a 40
theorem p88 (a : Nat) : nI a + (88 : Int32) = nI (a + 88) := nI_add a 88
theorem p89 (a : Nat) : nI a + (89 : Int32) = nI (a + 89) := nI_add a 89
theorem i4ne {x : Int32} {j : Nat} (h : x = nI j) (hj : j < 2 ^ 31) : ¬ x = -4 := by
  intro e
  have h1 : x.toInt = (j : Int) := by rw [h]; exact nI_toInt hj
  rw [e] at h1
  have h2 : (-4 : Int32).toInt = -4 := by decide
  omega
theorem st_ap {k a j : Nat} {f : Nat → Int32} {S : St} : st k f S a j = if a = k then f j else S a j := by
  unfold st
  by_cases h : a = k
  · rw [if_pos h, if_pos h]
  · rw [if_neg h, if_neg h]
theorem kk4 {S : St} {k j : Nat} : (if k = 1 then S 1 j else if k = 0 then S 0 j else if k = 3 then S 3 j else if k = 2 then S 2 j else S k j) = S k j := by
  by_cases a : k = 1
  · subst a; rfl
  by_cases b : k = 0
  · subst b; rfl
  by_cases c : k = 3
  · subst c; rfl
  by_cases d : k = 2
  · subst d; rfl
  rw [if_neg a, if_neg b, if_neg c, if_neg d]
