def zS (Γ : zG) (b L : Nat) (xs : Nat → Int32) : Prop := match Γ with
  | (_, _, _, _, s, _, _, _, _, _, A, _) => va_X b L xs s s.heap ∧ b < s.heap.size ∧ ¬ A b
def zLw (Γ : zG) (b : Nat) : Prop := match Γ with
  | (_, _, _, _, s, _, args, below, meth, _, A, Q) => args = #[Value.ref b] ∧ Q = lw_Z below #[Value.ref b] s ∧ meth.sig.returnType = ret ∧ A = (fun q : Nat => s.heap.size ≤ q)
theorem z_sld {E : zEnv} {Γ : zG} {cc : ByteArray} {own : String} {nL : Nat} {rm : Room} {Ts : List Cond} {k n : Nat} {ws : va_W} {lv : List (Nat × Value)} {pc : Nat} {rest : List Value} {b L : Nat} {xs : Nat → Int32} {i : Int32} (C : zC E Γ cc own nL rm Ts) (hZ : zS Γ b L xs) (hin : vp_in i L) (hd : decode cc pc = .ok (.iaload, 1)) (K : Zt E Γ nL (k) (n) ws (lv) (pc + 1) (.int (xs i.toNatClampNeg) :: rest)) : Zt E Γ nL (k) (n) ws (lv) (pc) (.int i :: .ref b :: rest) := by
  obtain ⟨p, l, e, R, s, m, args, below, meth, c, A, Q⟩ := Γ
  obtain ⟨hx, hb, hml, hown, hts, hK, hA, hlk, hR, hE, hG⟩ := C
  intro H locs ls hP hD hS hl
  exact va_sld hx hb hZ.1 hZ.2.1 hZ.2.2 hS hin hd (K H locs ls hP hD hS hl)
theorem z_slen {E : zEnv} {Γ : zG} {cc : ByteArray} {own : String} {nL : Nat} {rm : Room} {Ts : List Cond} {k n : Nat} {ws : va_W} {lv : List (Nat × Value)} {pc : Nat} {rest : List Value} {b L : Nat} {xs : Nat → Int32} (C : zC E Γ cc own nL rm Ts) (hZ : zS Γ b L xs) (hd : decode cc pc = .ok (.arraylength, 1)) (K : Zt E Γ nL (k) (n) ws (lv) (pc + 1) (.int (Int32.ofNat L) :: rest)) : Zt E Γ nL (k) (n) ws (lv) (pc) (.ref b :: rest) := by
  obtain ⟨p, l, e, R, s, m, args, below, meth, c, A, Q⟩ := Γ
  obtain ⟨hx, hb, hml, hown, hts, hK, hA, hlk, hR, hE, hG⟩ := C
  intro H locs ls hP hD hS hl
  exact va_slen hx hb hZ.1 hZ.2.1 hZ.2.2 hS hd (K H locs ls hP hD hS hl)
theorem z_lwret {E : zEnv} {Γ : zG} {own : String} {nL b : Nat} {Ts : List Cond} {ws : va_W} {lv : List (Nat × Value)} {pc : Nat} (C : zC E Γ code own nL room_1 Ts) (hL : zLw Γ b) (hd : decode code pc = .ok (.ireturn, 1)) : Zt E Γ nL 600000 7302250 ws lv pc [.int 1] := by
  obtain ⟨p, l, e, R, s, m, args, below, meth, c, A, Q⟩ := Γ
  obtain ⟨hx, hb, hml, hown, hts, hK, hA, hlk, hR, hE, hG⟩ := C
  intro H locs ls hP hD hS hl
  obtain ⟨rfl, rfl, hr, rfl⟩ := hL
  subst hR
  refine va_forget (fun q hq => hS.2.2 q hq) ?_
  exact lw_ret hx hb hr hlk hd
theorem zcatL {A B : va_W} {n : Nat} (h : A.length = n) : (List.range n).map (fun i => (A ++ B)[i]?) = A.map some := by
  refine List.ext_getElem? fun j => ?_
  rw [List.getElem?_map, List.getElem?_map]
  by_cases hj : j < n
  · rw [List.getElem?_range hj]
    simp [List.getElem?_append_left (show j < A.length by omega), List.getElem?_eq_getElem (show j < A.length by omega)]
  · rw [List.getElem?_eq_none (by simp; omega), List.getElem?_eq_none (by omega)]
    rfl
theorem zcatR {A B : va_W} {n k : Nat} (h : A.length = n) (h2 : B.length = k) : (List.range' n k).map (fun i => (A ++ B)[i]?) = B.map some := by
  refine List.ext_getElem? fun j => ?_
  rw [List.getElem?_map, List.getElem?_map]
  by_cases hj : j < k
  · rw [List.getElem?_range' hj]
    simp [List.getElem?_append_right (show A.length ≤ n + j by omega), h, List.getElem?_eq_getElem (show j < B.length by omega)]
  · rw [List.getElem?_eq_none (by simp; omega), List.getElem?_eq_none (by omega)]
    rfl
theorem zrepL {A A' B : va_W} {n : Nat} (h : A.length = n) (h2 : A'.length = n) : A' ++ B = zrep (List.range n) A' (A ++ B) := by
  refine List.ext_getElem? fun j => ?_
  by_cases hj : j < n
  · rw [zrep_in _ _ _ (znd _ List.nodup_range) (by simp [h2]) j j (List.getElem?_range hj) (by simp; omega), List.getElem?_append_left (by omega)]
  · rw [zrep_out _ _ _ _ (by simp; omega), List.getElem?_append_right (by omega), List.getElem?_append_right (by omega), h, h2]
theorem zrepR {A B B' : va_W} {n k : Nat} (h : A.length = n) (h2 : B.length = k) (h3 : B'.length = k) : A ++ B' = zrep (List.range' n k) B' (A ++ B) := by
  refine List.ext_getElem? fun j => ?_
  by_cases hj : j < n
  · rw [zrep_out _ _ _ _ (by simp; omega), List.getElem?_append_left (by omega), List.getElem?_append_left (by omega)]
  · by_cases hk : j < n + k
    · rw [zrep_in _ _ _ (znd _ List.nodup_range') (by simp [h3]) (j - n) j (by rw [List.getElem?_range' (by omega)]; simp; omega) (by simp; omega), List.getElem?_append_right (by omega), h]
    · rw [List.getElem?_eq_none (by simp; omega), List.getElem?_eq_none (by rw [zrep_len]; simp; omega)]
theorem wEA_len (E : zEnv) (a : Nat → Nat) (G : St) : (wEA E a G).length = 101 := rfl
theorem wModel_len (E : zEnv) (a : Nat → Nat) (G : St) : (wModel E a G).length = 17 := rfl
theorem wEA_m (E : zEnv) (a : Nat → Nat) (G U : St) : (wEA E a U).map (fun q => q.1) = (wEA E a G).map (fun q => q.1) := rfl
theorem wModel_m (E : zEnv) (a : Nat → Nat) (G U : St) : (wModel E a U).map (fun q => q.1) = (wModel E a G).map (fun q => q.1) := rfl
theorem zin_i {i j L : Nat} (h : i + j < L) (hL : L ≤ 2560) : vp_in (nI i + nI j) L := by
  rw [nI_add]
  exact vp_in_nI h (by omega)
def Op_feed (Rel : St → St → Prop) : Prop := ∀ (x1 : Int64) (G M : St), Rel G M → ∃ (r : Int32) (G' : St) (M' : St), f_X6_feed x1 G = some (r, G') ∧ f_X7_feed x1 M = some (r, M') ∧ Rel G' M'
def Op_end (Rel : St → St → Prop) : Prop := ∀ (x1 : Int32) (G M : St), Rel G M → ∃ (r : Int32) (G' : St) (M' : St), f_X6_end x1 G = some (r, G') ∧ f_X7_end x1 M = some (r, M') ∧ Rel G' M'
def Op_street (Rel : St → St → Prop) : Prop := ∀ (G M : St), Rel G M → ∃ (r : Int32) (G' : St) (M' : St), f_X6_street G = some (r, G') ∧ f_X7_street M = some (r, M') ∧ Rel G' M'
def Op_fault (Rel : St → St → Prop) : Prop := ∀ (G M : St), Rel G M → ∃ (r : Int32), f_X6_fault G = some r ∧ f_X7_fault M = some r ∧ Rel G M
def Op_rule (Rel : St → St → Prop) : Prop := ∀ (x1 : Int32) (G M : St), Rel G M → ∃ (r : Int32), f_X6_rule x1 G = some r ∧ f_X7_rule x1 M = some r ∧ Rel G M
def Op_one (Rel : St → St → Prop) : Prop := ∀ (x1 : Int32) (x2 : Int32) (G M : St), Rel G M → ∃ (r : Int32), f_X6_one x1 x2 G = some r ∧ f_X7_one x1 x2 M = some r ∧ Rel G M
def Op_moved (Rel : St → St → Prop) : Prop := ∀ (x1 : Int32) (x2 : Int32) (G M : St), Rel G M → ∃ (r : Int32), f_X6_moved x1 x2 G = some r ∧ f_X7_moved x1 x2 M = some r ∧ Rel G M
def Op_expected (Rel : St → St → Prop) : Prop := ∀ (x1 : Int32) (x2 : Int32) (G M : St), Rel G M → ∃ (r : Int32), f_X6_expected x1 x2 G = some r ∧ f_X7_expected x1 x2 M = some r ∧ Rel G M
def Op_law (Rel : St → St → Prop) : Prop := ∀ (x1 : Int32) (G M : St), Rel G M → ∃ (r : Int32) (G' : St) (M' : St), f_X6_law x1 G = some (r, G') ∧ f_X7_law x1 M = some (r, M') ∧ Rel G' M'
def Op_bear (Rel : St → St → Prop) : Prop := ∀ (x1 : Int32) (x2 : Int32) (x3 : Int32) (G M : St), Rel G M → ∃ (r : Int32) (G' : St) (M' : St), f_X6_bear x1 x2 x3 G = some (r, G') ∧ f_X7_bear x1 x2 x3 M = some (r, M') ∧ Rel G' M'
def Op_die (Rel : St → St → Prop) : Prop := ∀ (x1 : Int32) (x2 : Int32) (G M : St), Rel G M → ∃ (r : Int32) (G' : St) (M' : St), f_X6_die x1 x2 G = some (r, G') ∧ f_X7_die x1 x2 M = some (r, M') ∧ Rel G' M'
def Op_move (Rel : St → St → Prop) : Prop := ∀ (x1 : Int32) (x2 : Int32) (x3 : Int32) (G M : St), Rel G M → ∃ (r : Int32) (G' : St) (M' : St), f_X6_move x1 x2 x3 G = some (r, G') ∧ f_X7_move x1 x2 x3 M = some (r, M') ∧ Rel G' M'
def Op_undo (Rel : St → St → Prop) : Prop := ∀ (x1 : Int32) (G M : St), Rel G M → ∃ (r : Int32) (G' : St) (M' : St), f_X6_undo x1 G = some (r, G') ∧ f_X7_undo x1 M = some (r, M') ∧ Rel G' M'
def Op_years (Rel : St → St → Prop) : Prop := ∀ (x1 : Int32) (x2 : Int32) (G M : St), Rel G M → ∃ (r : Int32), f_X6_years x1 x2 G = some r ∧ f_X7_years x1 x2 M = some r ∧ Rel G M
def Op_lives (Rel : St → St → Prop) : Prop := ∀ (x1 : Int32) (x2 : Int32) (G M : St), Rel G M → ∃ (r : Int32), f_X6_lives x1 x2 G = some r ∧ f_X7_lives x1 x2 M = some r ∧ Rel G M
def Op_number (Rel : St → St → Prop) : Prop := ∀ (x1 : Int32) (x2 : Int32) (G M : St), Rel G M → ∃ (r : Int32) (G' : St) (M' : St), f_X6_number x1 x2 G = some (r, G') ∧ f_X7_number x1 x2 M = some (r, M') ∧ Rel G' M'
def Op_at (Rel : St → St → Prop) : Prop := ∀ (x1 : Int32) (x2 : Int32) (G M : St), Rel G M → ∃ (r : Int32) (G' : St) (M' : St), f_X6_at x1 x2 G = some (r, G') ∧ f_X7_at x1 x2 M = some (r, M') ∧ Rel G' M'
def Op_twins (Rel : St → St → Prop) : Prop := ∀ (x1 : Int32) (G M : St), Rel G M → ∃ (r : Int32) (G' : St) (M' : St), f_X6_twins x1 G = some (r, G') ∧ f_X7_twins x1 M = some (r, M') ∧ Rel G' M'
def Op_changes (Rel : St → St → Prop) : Prop := ∀ (x1 : Int32) (x2 : Int32) (G M : St), Rel G M → ∃ (r : Int32) (G' : St) (M' : St), f_X6_changes x1 x2 G = some (r, G') ∧ f_X7_changes x1 x2 M = some (r, M') ∧ Rel G' M'
def Op_descending (Rel : St → St → Prop) : Prop := ∀ (x1 : Int32) (x2 : Int32) (G M : St), Rel G M → ∃ (r : Int32) (G' : St) (M' : St), f_X6_descending x1 x2 G = some (r, G') ∧ f_X7_descending x1 x2 M = some (r, M') ∧ Rel G' M'
def Op_all (Rel : St → St → Prop) : Prop := ∀ (x1 : Int32) (x2 : Int32) (G M : St), Rel G M → ∃ (r : Int32) (G' : St) (M' : St), f_X6_all x1 x2 G = some (r, G') ∧ f_X7_all x1 x2 M = some (r, M') ∧ Rel G' M'
def Op_letter (Rel : St → St → Prop) : Prop := ∀ (x1 : Int32) (x2 : Int32) (x3 : Int32) (x4 : Int32) (G M : St), Rel G M → ∃ (r : Int32) (G' : St) (M' : St), f_X6_letter x1 x2 x3 x4 G = some (r, G') ∧ f_X7_letter x1 x2 x3 x4 M = some (r, M') ∧ Rel G' M'
def Op_round (Rel : St → St → Prop) : Prop := ∀ (x1 : Int32) (x2 : Int32) (G M : St), Rel G M → ∃ (r : Int32) (G' : St) (M' : St), f_X6_round x1 x2 G = some (r, G') ∧ f_X7_round x1 x2 M = some (r, M') ∧ Rel G' M'
def Op_want (Rel : St → St → Prop) : Prop := ∀ (x1 : Int32) (x2 : Int32) (G M : St), Rel G M → ∃ (r : Int32) (G' : St) (M' : St), f_X6_want x1 x2 G = some (r, G') ∧ f_X7_want x1 x2 M = some (r, M') ∧ Rel G' M'
def Op_content (Rel : St → St → Prop) : Prop := ∀ (G M : St), Rel G M → ∃ (r : Int32) (G' : St) (M' : St), f_X6_content G = some (r, G') ∧ f_X7_content M = some (r, M') ∧ Rel G' M'
def Op_fetch (Rel : St → St → Prop) : Prop := ∀ (x1 : Int32) (x2 : Int32) (x3 : Int32) (G M : St) (hx2 : x2 = 0 ∨ x2 = 1), Rel G M → ∃ (r : Int32) (G' : St) (M' : St), f_X6_fetch x1 x2 x3 G = some (r, G') ∧ f_X7_fetch x1 x2 x3 M = some (r, M') ∧ Rel G' M'
def Op_expect (Rel : St → St → Prop) : Prop := ∀ (x1 : Int32) (x2 : Int32) (x3 : Int32) (G M : St), Rel G M → ∃ (r : Int32) (G' : St) (M' : St), f_X6_expect x1 x2 x3 G = some (r, G') ∧ f_X7_expect x1 x2 x3 M = some (r, M') ∧ Rel G' M'
def Op_can (Rel : St → St → Prop) : Prop := ∀ (x1 : Int32) (x2 : Int32) (x3 : Int32) (G M : St), Rel G M → ∃ (r : Int32) (G' : St) (M' : St), f_X6_can x1 x2 x3 G = some (r, G') ∧ f_X7_can x1 x2 x3 M = some (r, M') ∧ Rel G' M'
def Op_see (Rel : St → St → Prop) : Prop := ∀ (x1 : Int32) (x2 : Int32) (x3 : Int32) (G M : St), Rel G M → ∃ (r : Int32) (G' : St) (M' : St), f_X6_see x1 x2 x3 G = some (r, G') ∧ f_X7_see x1 x2 x3 M = some (r, M') ∧ Rel G' M'
def Op_forget (Rel : St → St → Prop) : Prop := ∀ (x1 : Int32) (G M : St), Rel G M → ∃ (r : Int32) (G' : St) (M' : St), f_X6_forget x1 G = some (r, G') ∧ f_X7_forget x1 M = some (r, M') ∧ Rel G' M'
def Op_lie (Rel : St → St → Prop) : Prop := ∀ (G M : St), Rel G M → ∃ (r : Int32) (G' : St) (M' : St), f_X6_lie G = some (r, G') ∧ f_X7_lie M = some (r, M') ∧ Rel G' M'
def Op_born (Rel : St → St → Prop) : Prop := ∀ (x1 : Int32) (x2 : Int32) (G M : St), Rel G M → ∃ (r : Int32) (G' : St) (M' : St), f_X6_born x1 x2 G = some (r, G') ∧ f_X7_born x1 x2 M = some (r, M') ∧ Rel G' M'
def Op_later (Rel : St → St → Prop) : Prop := ∀ (x1 : Int32) (x2 : Int32) (x3 : Int32) (x4 : Int32) (G M : St), Rel G M → ∃ (r : Int32) (G' : St) (M' : St), f_X6_later x1 x2 x3 x4 G = some (r, G') ∧ f_X7_later x1 x2 x3 x4 M = some (r, M') ∧ Rel G' M'
def Op_keep (Rel : St → St → Prop) : Prop := ∀ (x1 : Int32) (G M : St), Rel G M → ∃ (r : Int32) (G' : St) (M' : St), f_X6_keep x1 G = some (r, G') ∧ f_X7_keep x1 M = some (r, M') ∧ Rel G' M'
def Op_back (Rel : St → St → Prop) : Prop := ∀ (x1 : Int32) (G M : St), Rel G M → ∃ (r : Int32) (G' : St) (M' : St), f_X6_back x1 G = some (r, G') ∧ f_X7_back x1 M = some (r, M') ∧ Rel G' M'
def Op_sheet (Rel : St → St → Prop) : Prop := ∀ (x1 : Int32) (x2 : Int32) (x3 : Int32) (G M : St), Rel G M → ∃ (r : Int32) (G' : St) (M' : St), f_X6_sheet x1 x2 x3 G = some (r, G') ∧ f_X7_sheet x1 x2 x3 M = some (r, M') ∧ Rel G' M'
def Op_lay (Rel : St → St → Prop) : Prop := ∀ (x1 : Int32) (x2 : Int32) (x3 : Int32) (G M : St), Rel G M → ∃ (r : Int32) (G' : St) (M' : St), f_X6_lay x1 x2 x3 G = some (r, G') ∧ f_X7_lay x1 x2 x3 M = some (r, M') ∧ Rel G' M'
def Op_read (Rel : St → St → Prop) : Prop := ∀ (x1 : Int32) (x2 : Int32) (x3 : Int32) (x4 : Int32) (G M : St), Rel G M → ∃ (r : Int32) (G' : St) (M' : St), f_X6_read x1 x2 x3 x4 G = some (r, G') ∧ f_X7_read x1 x2 x3 x4 M = some (r, M') ∧ Rel G' M'
def Op_torn (Rel : St → St → Prop) : Prop := ∀ (G M : St), Rel G M → ∃ (r : Int32), f_X6_torn G = some r ∧ f_X7_torn M = some r ∧ Rel G M
def Op_count (Rel : St → St → Prop) : Prop := ∀ (x1 : Int32) (G M : St), Rel G M → ∃ (r : Int32), f_X6_count x1 G = some r ∧ f_X7_count x1 M = some r ∧ Rel G M
/-- what the reference and the class owe each other: a relation of their states that every operation keeps, with the same answers -/
def Ops (Rel : St → St → Prop) : Prop := Op_feed Rel ∧ Op_end Rel ∧ Op_street Rel ∧ Op_fault Rel ∧ Op_rule Rel ∧ Op_one Rel ∧ Op_moved Rel ∧ Op_expected Rel ∧ Op_law Rel ∧ Op_bear Rel ∧ Op_die Rel ∧ Op_move Rel ∧ Op_undo Rel ∧ Op_years Rel ∧ Op_lives Rel ∧ Op_number Rel ∧ Op_at Rel ∧ Op_twins Rel ∧ Op_changes Rel ∧ Op_descending Rel ∧ Op_all Rel ∧ Op_letter Rel ∧ Op_round Rel ∧ Op_want Rel ∧ Op_content Rel ∧ Op_fetch Rel ∧ Op_expect Rel ∧ Op_can Rel ∧ Op_see Rel ∧ Op_forget Rel ∧ Op_lie Rel ∧ Op_born Rel ∧ Op_later Rel ∧ Op_keep Rel ∧ Op_back Rel ∧ Op_sheet Rel ∧ Op_lay Rel ∧ Op_read Rel ∧ Op_torn Rel ∧ Op_count Rel
