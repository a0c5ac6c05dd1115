abbrev rm_X7_layFetch : Room := { frames := 3, cells := 0, slots := 0, locals := 70 }
theorem inw_X7_layFetch_X7 : ∀ w ∈ wsX70, w ∈ wsX7_layFetch := fun _ h => List.mem_cons_of_mem _ (List.mem_append_right _ h)
set_option maxHeartbeats 4000000 in
theorem wl_X7_layFetch_0 (E : zEnv) (a : Nat → Nat) (S : St) (f : Nat → Int32) : (wModel E a (st 27 f S)) = (wModel E a S).set 8 (a 8, .inl (zI E, 10, .inl f)) := rfl
set_option maxHeartbeats 4000000 in
theorem wl_X7_layFetch_1 (E : zEnv) (a : Nat → Nat) (S : St) (f : Nat → Int32) : (wModel E a (st 29 f S)) = (wModel E a S).set 10 (a 10, .inl (zI E, 10, .inl f)) := rfl
set_option maxHeartbeats 4000000 in
theorem wl_X7_layFetch_2 (E : zEnv) (a : Nat → Nat) (S : St) : ([0, 1, 2, 3, 4, 5, 6, 7, 8, 9, 10, 11, 12, 13, 14, 15, 16] : List Nat).map (fun i => (wModel E a S)[i]?) = (wModel E a S).map some := rfl
set_option maxHeartbeats 4000000 in
theorem wl_X7_layFetch_3 (E : zEnv) (a : Nat → Nat) (S U : St) : (wModel E a U).map (fun q => q.1) = (wModel E a S).map (fun q => q.1) := rfl
set_option maxHeartbeats 4000000 in
theorem wl_X7_layFetch_4 (E : zEnv) (a : Nat → Nat) (S U : St) : (wModel E a U) = zrep [0, 1, 2, 3, 4, 5, 6, 7, 8, 9, 10, 11, 12, 13, 14, 15, 16] (wModel E a U) (wModel E a S) := zrep_of (isR := []) 17 rfl [] rfl rfl rfl rfl (by decide +kernel) (by decide +kernel)
set_option maxHeartbeats 4000000 in
theorem wl_X7_layFetch_5 (E : zEnv) (a : Nat → Nat) (S : St) (f : Nat → Int32) : (wModel E a (st 28 f S)) = (wModel E a S).set 9 (a 9, .inl (zI E, 10, .inl f)) := rfl
noncomputable def f_X7_layFetch_113 (k34 : Int32 → Int32 → Int32 → Int32 → Int32 → St → Option (Int32 × St)) (k55 : Int32 → Int32 → Int32 → Int32 → Int32 → Int32 → Int32 → Int32 → St → Option (Int32 × St)) (x1 : Int32) (x2 : Int32) (x3 : Int32) (x4 : Int32) (x5 : Int32) (x6 : Int32) (x8 : Int32) (y0 : Int32) (y1 : Int32) (S : St) : Option (Int32 × St) := (ix x8 10 (ix x8 10 (ix (S 25 (Int32.toNatClampNeg x8)) 10 (k55 x1 x2 x3 x4 x5 x6 (y0 + y1) (x8 + (-1 : Int32)) (st 27 (upd (S 27) (Int32.toNatClampNeg (S 25 (Int32.toNatClampNeg x8))) (S 28 (Int32.toNatClampNeg x8))) S)))))
noncomputable def f_X7_layFetch_204 (k34 : Int32 → Int32 → Int32 → Int32 → Int32 → St → Option (Int32 × St)) (x1 : Int32) (x2 : Int32) (x3 : Int32) (x4 : Int32) (x5 : Int32) (S : St) : Option (Int32 × St) := (k34 x1 x2 x3 x4 (x5 + (1 : Int32)) S)
noncomputable def f_X7_layFetch_175 (k34 : Int32 → Int32 → Int32 → Int32 → Int32 → St → Option (Int32 × St)) (n : Nat) : Int32 → Int32 → Int32 → Int32 → Int32 → Int32 → St → Option (Int32 × St) := Nat.rec (motive := fun _ => Int32 → Int32 → Int32 → Int32 → Int32 → Int32 → St → Option (Int32 × St)) (fun _ _ _ _ _ _ _ => none) (fun _ ih => fun x1 x2 x3 x4 x5 x8 S => (if (S 26 0) ≤ x8 then (f_X7_layFetch_204 k34 x1 x2 x3 x4 x5 S) else (ix x8 10 (ix x8 10 (ih x1 x2 x3 x4 x5 (x8 + (1 : Int32)) (st 29 (upd (S 29) (Int32.toNatClampNeg x8) (S 28 (Int32.toNatClampNeg x8))) S)))))) n
theorem f_X7_layFetch_175_s (k34 : Int32 → Int32 → Int32 → Int32 → Int32 → St → Option (Int32 × St)) (n : Nat) (x1 : Int32) (x2 : Int32) (x3 : Int32) (x4 : Int32) (x5 : Int32) (x8 : Int32) (S : St) : f_X7_layFetch_175 k34 (n + 1) x1 x2 x3 x4 x5 x8 S = (if (S 26 0) ≤ x8 then (f_X7_layFetch_204 k34 x1 x2 x3 x4 x5 S) else (ix x8 10 (ix x8 10 ((f_X7_layFetch_175 k34 n) x1 x2 x3 x4 x5 (x8 + (1 : Int32)) (st 29 (upd (S 29) (Int32.toNatClampNeg x8) (S 28 (Int32.toNatClampNeg x8))) S))))) := rfl
noncomputable def f_X7_layFetch_168 (k34 : Int32 → Int32 → Int32 → Int32 → Int32 → St → Option (Int32 × St)) (x1 : Int32) (x2 : Int32) (x3 : Int32) (x5 : Int32) (x7 : Int32) (S : St) : Option (Int32 × St) := (f_X7_layFetch_175 k34 1000 x1 x2 x3 x7 x5 (0 : Int32) S)
noncomputable def f_X7_layFetch_141 (k34 : Int32 → Int32 → Int32 → Int32 → Int32 → St → Option (Int32 × St)) (x1 : Int32) (x2 : Int32) (x3 : Int32) (x4 : Int32) (x5 : Int32) (x7 : Int32) (S : St) : Option (Int32 × St) := ((f_X7_layNumbers x1 S).bind (fun q1 => ((f_X7_isAsWanted x2 q1).bind (fun q2 => (if q2 = 0 then (f_X7_layFetch_204 k34 x1 x2 x3 x4 x5 q1) else (if x4 = (-4 : Int32) then (f_X7_layFetch_168 k34 x1 x2 x3 x5 x7 q1) else (if x4 ≤ x7 then (f_X7_layFetch_204 k34 x1 x2 x3 x4 x5 q1) else (f_X7_layFetch_168 k34 x1 x2 x3 x5 x7 q1))))))))
noncomputable def f_X7_layFetch_55 (k34 : Int32 → Int32 → Int32 → Int32 → Int32 → St → Option (Int32 × St)) (n : Nat) : Int32 → Int32 → Int32 → Int32 → Int32 → Int32 → Int32 → Int32 → St → Option (Int32 × St) := Nat.rec (motive := fun _ => Int32 → Int32 → Int32 → Int32 → Int32 → Int32 → Int32 → Int32 → St → Option (Int32 × St)) (fun _ _ _ _ _ _ _ _ _ => none) (fun _ ih => fun x1 x2 x3 x4 x5 x6 x7 x8 S => (if x8 < 0 then (f_X7_layFetch_141 k34 x1 x2 x3 x4 x5 x7 S) else (nz (S 1 0) (ix x8 10 (nz (S 1 0) (ix x8 10 (ix x8 10 ((f_X7_homeOf (0 : Int32) (S 25 (Int32.toNatClampNeg x8)) x1 (st 28 (upd (S 28) (Int32.toNatClampNeg x8) (zrem x6 (S 1 0))) S)).bind (fun q3 => (if ((upd (S 28) (Int32.toNatClampNeg x8) (zrem x6 (S 1 0))) (Int32.toNatClampNeg x8)) = q3 then (f_X7_layFetch_113 k34 ih x1 x2 x3 x4 x5 (x6 / (S 1 0)) x8 x7 (0 : Int32) (st 28 (upd (S 28) (Int32.toNatClampNeg x8) (zrem x6 (S 1 0))) S)) else (f_X7_layFetch_113 k34 ih x1 x2 x3 x4 x5 (x6 / (S 1 0)) x8 x7 (1 : Int32) (st 28 (upd (S 28) (Int32.toNatClampNeg x8) (zrem x6 (S 1 0))) S)))))))))))) n
theorem f_X7_layFetch_55_s (k34 : Int32 → Int32 → Int32 → Int32 → Int32 → St → Option (Int32 × St)) (n : Nat) (x1 : Int32) (x2 : Int32) (x3 : Int32) (x4 : Int32) (x5 : Int32) (x6 : Int32) (x7 : Int32) (x8 : Int32) (S : St) : f_X7_layFetch_55 k34 (n + 1) x1 x2 x3 x4 x5 x6 x7 x8 S = (if x8 < 0 then (f_X7_layFetch_141 k34 x1 x2 x3 x4 x5 x7 S) else (nz (S 1 0) (ix x8 10 (nz (S 1 0) (ix x8 10 (ix x8 10 ((f_X7_homeOf (0 : Int32) (S 25 (Int32.toNatClampNeg x8)) x1 (st 28 (upd (S 28) (Int32.toNatClampNeg x8) (zrem x6 (S 1 0))) S)).bind (fun q3 => (if ((upd (S 28) (Int32.toNatClampNeg x8) (zrem x6 (S 1 0))) (Int32.toNatClampNeg x8)) = q3 then (f_X7_layFetch_113 k34 (f_X7_layFetch_55 k34 n) x1 x2 x3 x4 x5 (x6 / (S 1 0)) x8 x7 (0 : Int32) (st 28 (upd (S 28) (Int32.toNatClampNeg x8) (zrem x6 (S 1 0))) S)) else (f_X7_layFetch_113 k34 (f_X7_layFetch_55 k34 n) x1 x2 x3 x4 x5 (x6 / (S 1 0)) x8 x7 (1 : Int32) (st 28 (upd (S 28) (Int32.toNatClampNeg x8) (zrem x6 (S 1 0))) S))))))))))) := rfl
noncomputable def f_X7_layFetch_34 (n : Nat) : Int32 → Int32 → Int32 → Int32 → Int32 → St → Option (Int32 × St) := Nat.rec (motive := fun _ => Int32 → Int32 → Int32 → Int32 → Int32 → St → Option (Int32 × St)) (fun _ _ _ _ _ _ => none) (fun _ ih => fun x1 x2 x3 x4 x5 S => (if x3 ≤ x5 then (some (x4, S)) else (f_X7_layFetch_55 ih 1000 x1 x2 x3 x4 x5 x5 (0 : Int32) ((S 26 0) - (1 : Int32)) S))) n
theorem f_X7_layFetch_34_s (n : Nat) (x1 : Int32) (x2 : Int32) (x3 : Int32) (x4 : Int32) (x5 : Int32) (S : St) : f_X7_layFetch_34 (n + 1) x1 x2 x3 x4 x5 S = (if x3 ≤ x5 then (some (x4, S)) else (f_X7_layFetch_55 (f_X7_layFetch_34 n) 1000 x1 x2 x3 x4 x5 x5 (0 : Int32) ((S 26 0) - (1 : Int32)) S)) := rfl
noncomputable def f_X7_layFetch_31 (x1 : Int32) (x2 : Int32) (x3 : Int32) (x4 : Int32) (S : St) : Option (Int32 × St) := (f_X7_layFetch_34 40000 x1 x2 x3 x4 (0 : Int32) S)
noncomputable def f_X7_layFetch_9 (n : Nat) : Int32 → Int32 → Int32 → Int32 → Int32 → St → Option (Int32 × St) := Nat.rec (motive := fun _ => Int32 → Int32 → Int32 → Int32 → Int32 → St → Option (Int32 × St)) (fun _ _ _ _ _ _ => none) (fun _ ih => fun x1 x2 x3 x4 x5 S => (if (S 26 0) ≤ x5 then (f_X7_layFetch_31 x1 x2 x3 x4 S) else (ih x1 x2 (x3 * (S 1 0)) x4 (x5 + (1 : Int32)) S))) n
theorem f_X7_layFetch_9_s (n : Nat) (x1 : Int32) (x2 : Int32) (x3 : Int32) (x4 : Int32) (x5 : Int32) (S : St) : f_X7_layFetch_9 (n + 1) x1 x2 x3 x4 x5 S = (if (S 26 0) ≤ x5 then (f_X7_layFetch_31 x1 x2 x3 x4 S) else ((f_X7_layFetch_9 n) x1 x2 (x3 * (S 1 0)) x4 (x5 + (1 : Int32)) S)) := rfl
noncomputable def f_X7_layFetch (x1 : Int32) (x2 : Int32) (S : St) : Option (Int32 × St) := (f_X7_layFetch_9 1000 x1 x2 (1 : Int32) (-4 : Int32) (0 : Int32) S)
set_option maxHeartbeats 4000000 in
set_option maxRecDepth 100000 in
theorem L_X7_layFetch_113 {E : zEnv} {Γ : zG} (a : Nat → Nat) (C : zC E Γ cX7_layFetch RX7 9 rm_X7_layFetch wsX7_layFetch) {res : (Int32 × St)} (R : zRi E Γ cX7_layFetch 9 .int (wModel E a res.2) res.1) (k34 : Int32 → Int32 → Int32 → Int32 → Int32 → St → Option (Int32 × St)) (hk34 : ∀ (x1 : Int32) (x2 : Int32) (x3 : Int32) (x4 : Int32) (x5 : Int32) (S : St), k34 x1 x2 x3 x4 x5 S = some res → Zt E Γ 9 0 0 (wModel E a S) [(0, .ref (a 0)), (1, .int x1), (2, .int x2), (3, .int x3), (4, .int x4), (5, .int x5)] 34 []) (k55 : Int32 → Int32 → Int32 → Int32 → Int32 → Int32 → Int32 → Int32 → St → Option (Int32 × St)) (hk55 : ∀ (x1 : Int32) (x2 : Int32) (x3 : Int32) (x4 : Int32) (x5 : Int32) (x6 : Int32) (x7 : Int32) (x8 : Int32) (S : St), k55 x1 x2 x3 x4 x5 x6 x7 x8 S = some res → Zt E Γ 9 0 0 (wModel E a S) [(0, .ref (a 0)), (1, .int x1), (2, .int x2), (3, .int x3), (4, .int x4), (5, .int x5), (6, .int x6), (7, .int x7), (8, .int x8)] 55 []) (x1 : Int32) (x2 : Int32) (x3 : Int32) (x4 : Int32) (x5 : Int32) (x6 : Int32) (x8 : Int32) (y0 : Int32) (y1 : Int32) (S : St) (h : f_X7_layFetch_113 k34 k55 x1 x2 x3 x4 x5 x6 x8 y0 y1 S = some res) : Zt E Γ 9 0 0 (wModel E a S) [(0, .ref (a 0)), (1, .int x1), (2, .int x2), (3, .int x3), (4, .int x4), (5, .int x5), (6, .int x6), (8, .int x8)] 113 [.int y1, .int y0] := by
  unfold f_X7_layFetch_113 at h
  refine z_iadd C dX7_layFetch_113 ?_
  refine z_istore C [(7, .int (y0 + y1)), (0, .ref (a 0)), (1, .int x1), (2, .int x2), (3, .int x3), (4, .int x4), (5, .int x5), (6, .int x6), (8, .int x8)] (by decide) rfl dX7_layFetch_114 ?_
  refine z_aload_n C 1 rfl rfl dX7_layFetch_116 ?_
  refine z_get C 0 rfl (C := RX7) (T := TX7) (N := 38) (ci := 7) rfl inw_X7_layFetch_X7 27 (by decide) (ref := "EldestAgeModel") (List.mem_of_getElem? (i := 5) rfl) rfl (v := .ref (a 8)) rfl dX7_layFetch_117 ?_
  refine z_aload_n C 1 rfl rfl dX7_layFetch_120 ?_
  refine z_get C 0 rfl (C := RX7) (T := TX7) (N := 38) (ci := 7) rfl inw_X7_layFetch_X7 25 (by decide) (ref := "EldestAgeModel") (List.mem_of_getElem? (i := 4) rfl) rfl (v := .ref (a 7)) rfl dX7_layFetch_121 ?_
  refine z_iload C 8 rfl dX7_layFetch_124 ?_
  refine z_iald C (N := 10) (f := (S 25)) 7 rfl h dX7_layFetch_126 (fun h => ?_)
  refine z_aload_n C 1 rfl rfl dX7_layFetch_127 ?_
  refine z_get C 0 rfl (C := RX7) (T := TX7) (N := 38) (ci := 7) rfl inw_X7_layFetch_X7 28 (by decide) (ref := "EldestAgeModel") (List.mem_of_getElem? (i := 3) rfl) rfl (v := .ref (a 9)) rfl dX7_layFetch_128 ?_
  refine z_iload C 8 rfl dX7_layFetch_131 ?_
  refine z_iald C (N := 10) (f := (S 28)) 9 rfl h dX7_layFetch_133 (fun h => ?_)
  refine z_iast C (N := 10) (f := (S 27)) 8 rfl h (wModel E a (st 27 (upd (S 27) (Int32.toNatClampNeg (S 25 (Int32.toNatClampNeg x8))) (S 28 (Int32.toNatClampNeg x8))) S)) (wl_X7_layFetch_0 E a S (upd (S 27) (Int32.toNatClampNeg (S 25 (Int32.toNatClampNeg x8))) (S 28 (Int32.toNatClampNeg x8)))) dX7_layFetch_134 (fun h => ?_)
  refine z_iinc C [(8, .int (x8 + (-1 : Int32))), (7, .int (y0 + y1)), (0, .ref (a 0)), (1, .int x1), (2, .int x2), (3, .int x3), (4, .int x4), (5, .int x5), (6, .int x6)] 8 rfl (by first | rfl | decide) (by decide) rfl dX7_layFetch_135 ?_
  refine z_goto C 55 (by decide) dX7_layFetch_138 ?_
  refine Zt_l [(0, .ref (a 0)), (1, .int x1), (2, .int x2), (3, .int x3), (4, .int x4), (5, .int x5), (6, .int x6), (7, .int (y0 + y1)), (8, .int (x8 + (-1 : Int32)))] [2, 3, 4, 5, 6, 7, 8, 1, 0] rfl ?_
  exact hk55 x1 x2 x3 x4 x5 x6 (y0 + y1) (x8 + (-1 : Int32)) (st 27 (upd (S 27) (Int32.toNatClampNeg (S 25 (Int32.toNatClampNeg x8))) (S 28 (Int32.toNatClampNeg x8))) S) h

set_option maxHeartbeats 4000000 in
set_option maxRecDepth 100000 in
theorem L_X7_layFetch_204 {E : zEnv} {Γ : zG} (a : Nat → Nat) (C : zC E Γ cX7_layFetch RX7 9 rm_X7_layFetch wsX7_layFetch) {res : (Int32 × St)} (R : zRi E Γ cX7_layFetch 9 .int (wModel E a res.2) res.1) (k34 : Int32 → Int32 → Int32 → Int32 → Int32 → St → Option (Int32 × St)) (hk34 : ∀ (x1 : Int32) (x2 : Int32) (x3 : Int32) (x4 : Int32) (x5 : Int32) (S : St), k34 x1 x2 x3 x4 x5 S = some res → Zt E Γ 9 0 0 (wModel E a S) [(0, .ref (a 0)), (1, .int x1), (2, .int x2), (3, .int x3), (4, .int x4), (5, .int x5)] 34 []) (x1 : Int32) (x2 : Int32) (x3 : Int32) (x4 : Int32) (x5 : Int32) (S : St) (h : f_X7_layFetch_204 k34 x1 x2 x3 x4 x5 S = some res) : Zt E Γ 9 0 0 (wModel E a S) [(0, .ref (a 0)), (1, .int x1), (2, .int x2), (3, .int x3), (4, .int x4), (5, .int x5)] 204 [] := by
  unfold f_X7_layFetch_204 at h
  refine z_iinc C [(5, .int (x5 + (1 : Int32))), (0, .ref (a 0)), (1, .int x1), (2, .int x2), (3, .int x3), (4, .int x4)] 5 rfl (by first | rfl | decide) (by decide) rfl dX7_layFetch_204 ?_
  refine z_goto C 34 (by decide) dX7_layFetch_207 ?_
  refine Zt_l [(0, .ref (a 0)), (1, .int x1), (2, .int x2), (3, .int x3), (4, .int x4), (5, .int (x5 + (1 : Int32)))] [1, 2, 3, 4, 5, 0] rfl ?_
  exact hk34 x1 x2 x3 x4 (x5 + (1 : Int32)) S h

set_option maxHeartbeats 4000000 in
set_option maxRecDepth 100000 in
theorem L_X7_layFetch_175 {E : zEnv} {Γ : zG} (a : Nat → Nat) (C : zC E Γ cX7_layFetch RX7 9 rm_X7_layFetch wsX7_layFetch) {res : (Int32 × St)} (R : zRi E Γ cX7_layFetch 9 .int (wModel E a res.2) res.1) (k34 : Int32 → Int32 → Int32 → Int32 → Int32 → St → Option (Int32 × St)) (hk34 : ∀ (x1 : Int32) (x2 : Int32) (x3 : Int32) (x4 : Int32) (x5 : Int32) (S : St), k34 x1 x2 x3 x4 x5 S = some res → Zt E Γ 9 0 0 (wModel E a S) [(0, .ref (a 0)), (1, .int x1), (2, .int x2), (3, .int x3), (4, .int x4), (5, .int x5)] 34 []) : ∀ (n : Nat) (x1 : Int32) (x2 : Int32) (x3 : Int32) (x4 : Int32) (x5 : Int32) (x8 : Int32) (S : St), f_X7_layFetch_175 k34 n x1 x2 x3 x4 x5 x8 S = some res → Zt E Γ 9 0 0 (wModel E a S) [(0, .ref (a 0)), (1, .int x1), (2, .int x2), (3, .int x3), (4, .int x4), (5, .int x5), (8, .int x8)] 175 [] := by
  intro n
  induction n with
  | zero =>
    intro x1 x2 x3 x4 x5 x8 S h
    cases h
  | succ n ih =>
    intro x1 x2 x3 x4 x5 x8 S h
    rw [f_X7_layFetch_175_s] at h
    refine z_iload C 6 rfl dX7_layFetch_175 ?_
    refine z_aload_n C 0 rfl rfl dX7_layFetch_177 ?_
    refine z_get C 0 rfl (C := RX7) (T := TX7) (N := 38) (ci := 7) rfl inw_X7_layFetch_X7 26 (by decide) (ref := "EldestAgeModel") (List.mem_of_getElem? (i := 1) rfl) rfl (v := .int (S 26 0)) rfl dX7_layFetch_178 ?_
    refine z_icmp_ge C 204 (by decide) h dX7_layFetch_181 (fun hc h => ?_) (fun hc h => ?_)
    · refine Zt_l [(0, .ref (a 0)), (1, .int x1), (2, .int x2), (3, .int x3), (4, .int x4), (5, .int x5)] [0, 1, 2, 3, 4, 5] rfl ?_
      exact L_X7_layFetch_204 a C R k34 hk34 x1 x2 x3 x4 x5 S h
    · refine z_aload_n C 0 rfl rfl dX7_layFetch_184 ?_
      refine z_get C 0 rfl (C := RX7) (T := TX7) (N := 38) (ci := 7) rfl inw_X7_layFetch_X7 29 (by decide) (ref := "EldestAgeModel") (List.mem_of_getElem? (i := 6) rfl) rfl (v := .ref (a 10)) rfl dX7_layFetch_185 ?_
      refine z_iload C 6 rfl dX7_layFetch_188 ?_
      refine z_aload_n C 0 rfl rfl dX7_layFetch_190 ?_
      refine z_get C 0 rfl (C := RX7) (T := TX7) (N := 38) (ci := 7) rfl inw_X7_layFetch_X7 28 (by decide) (ref := "EldestAgeModel") (List.mem_of_getElem? (i := 3) rfl) rfl (v := .ref (a 9)) rfl dX7_layFetch_191 ?_
      refine z_iload C 6 rfl dX7_layFetch_194 ?_
      refine z_iald C (N := 10) (f := (S 28)) 9 rfl h dX7_layFetch_196 (fun h => ?_)
      refine z_iast C (N := 10) (f := (S 29)) 10 rfl h (wModel E a (st 29 (upd (S 29) (Int32.toNatClampNeg x8) (S 28 (Int32.toNatClampNeg x8))) S)) (wl_X7_layFetch_1 E a S (upd (S 29) (Int32.toNatClampNeg x8) (S 28 (Int32.toNatClampNeg x8)))) dX7_layFetch_197 (fun h => ?_)
      refine z_iinc C [(8, .int (x8 + (1 : Int32))), (0, .ref (a 0)), (1, .int x1), (2, .int x2), (3, .int x3), (4, .int x4), (5, .int x5)] 6 rfl (by first | rfl | decide) (by decide) rfl dX7_layFetch_198 ?_
      refine z_goto C 175 (by decide) dX7_layFetch_201 ?_
      refine Zt_l [(0, .ref (a 0)), (1, .int x1), (2, .int x2), (3, .int x3), (4, .int x4), (5, .int x5), (8, .int (x8 + (1 : Int32)))] [1, 2, 3, 4, 5, 6, 0] rfl ?_
      exact ih x1 x2 x3 x4 x5 (x8 + (1 : Int32)) (st 29 (upd (S 29) (Int32.toNatClampNeg x8) (S 28 (Int32.toNatClampNeg x8))) S) h

set_option maxHeartbeats 4000000 in
set_option maxRecDepth 100000 in
theorem L_X7_layFetch_168 {E : zEnv} {Γ : zG} (a : Nat → Nat) (C : zC E Γ cX7_layFetch RX7 9 rm_X7_layFetch wsX7_layFetch) {res : (Int32 × St)} (R : zRi E Γ cX7_layFetch 9 .int (wModel E a res.2) res.1) (k34 : Int32 → Int32 → Int32 → Int32 → Int32 → St → Option (Int32 × St)) (hk34 : ∀ (x1 : Int32) (x2 : Int32) (x3 : Int32) (x4 : Int32) (x5 : Int32) (S : St), k34 x1 x2 x3 x4 x5 S = some res → Zt E Γ 9 0 0 (wModel E a S) [(0, .ref (a 0)), (1, .int x1), (2, .int x2), (3, .int x3), (4, .int x4), (5, .int x5)] 34 []) (x1 : Int32) (x2 : Int32) (x3 : Int32) (x5 : Int32) (x7 : Int32) (S : St) (h : f_X7_layFetch_168 k34 x1 x2 x3 x5 x7 S = some res) : Zt E Γ 9 0 0 (wModel E a S) [(0, .ref (a 0)), (1, .int x1), (2, .int x2), (3, .int x3), (5, .int x5), (7, .int x7)] 168 [] := by
  unfold f_X7_layFetch_168 at h
  refine z_iload C 5 rfl dX7_layFetch_168 ?_
  refine z_istore C [(4, .int x7), (0, .ref (a 0)), (1, .int x1), (2, .int x2), (3, .int x3), (5, .int x5), (7, .int x7)] (by decide) rfl dX7_layFetch_170 ?_
  refine z_iconst C (v := (0 : Int32)) (by decide) dX7_layFetch_172 ?_
  refine z_istore C [(8, .int (0 : Int32)), (4, .int x7), (0, .ref (a 0)), (1, .int x1), (2, .int x2), (3, .int x3), (5, .int x5), (7, .int x7)] (by decide) rfl dX7_layFetch_173 ?_
  refine Zt_l [(0, .ref (a 0)), (1, .int x1), (2, .int x2), (3, .int x3), (4, .int x7), (5, .int x5), (8, .int (0 : Int32))] [2, 3, 4, 5, 1, 6, 0] rfl ?_
  exact L_X7_layFetch_175 a C R k34 hk34 1000 x1 x2 x3 x7 x5 (0 : Int32) S h

set_option maxHeartbeats 4000000 in
set_option maxRecDepth 100000 in
theorem L_X7_layFetch_141 {E : zEnv} {Γ : zG} (a : Nat → Nat) (C : zC E Γ cX7_layFetch RX7 9 rm_X7_layFetch wsX7_layFetch) {res : (Int32 × St)} (R : zRi E Γ cX7_layFetch 9 .int (wModel E a res.2) res.1) (k34 : Int32 → Int32 → Int32 → Int32 → Int32 → St → Option (Int32 × St)) (hk34 : ∀ (x1 : Int32) (x2 : Int32) (x3 : Int32) (x4 : Int32) (x5 : Int32) (S : St), k34 x1 x2 x3 x4 x5 S = some res → Zt E Γ 9 0 0 (wModel E a S) [(0, .ref (a 0)), (1, .int x1), (2, .int x2), (3, .int x3), (4, .int x4), (5, .int x5)] 34 []) (x1 : Int32) (x2 : Int32) (x3 : Int32) (x4 : Int32) (x5 : Int32) (x7 : Int32) (S : St) (h : f_X7_layFetch_141 k34 x1 x2 x3 x4 x5 x7 S = some res) : Zt E Γ 9 0 0 (wModel E a S) [(0, .ref (a 0)), (1, .int x1), (2, .int x2), (3, .int x3), (4, .int x4), (5, .int x5), (7, .int x7)] 141 [] := by
  unfold f_X7_layFetch_141 at h
  refine z_aload_n C 0 rfl rfl dX7_layFetch_141 ?_
  refine z_iload_n C 1 rfl rfl dX7_layFetch_142 ?_
  obtain ⟨q1, e1, h⟩ := bd_e h
  refine z_callVv C (b := a 0) (As := [.int x1]) (rest := []) (c_X7_layNumbers E a x1 S e1) rfl gX7_layFetch_X7_layNumbers rfl rfl rfl 1 rfl (by decide +kernel) ⟨Nat.le_of_ble_eq_true rfl, Nat.le_of_ble_eq_true rfl⟩ [0, 1, 2, 3, 4, 5, 6, 7, 8, 9, 10, 11, 12, 13, 14, 15, 16] (wl_X7_layFetch_2 E a S) (by decide) (wl_X7_layFetch_3 E a _ _) (wModel E a q1) (wl_X7_layFetch_4 E a S q1) 0 7 rfl rfl rfl (Nat.le_of_ble_eq_true rfl) dX7_layFetch_143 ⟨Nat.zero_le _, Nat.zero_le _⟩ _ rfl ?_
  refine z_aload_n C 0 rfl rfl dX7_layFetch_146 ?_
  refine z_iload_n C 2 rfl rfl dX7_layFetch_147 ?_
  obtain ⟨q2, e2, h⟩ := bd_e h
  refine z_callVi C (b := a 0) (As := [.int x2]) (rest := []) (c_X7_isAsWanted E a x2 q1 e2) rfl gX7_layFetch_X7_isAsWanted rfl rfl rfl 1 rfl (by decide +kernel) ⟨Nat.le_of_ble_eq_true rfl, Nat.le_of_ble_eq_true rfl⟩ [0, 1, 2, 3, 4, 5, 6, 7, 8, 9, 10, 11, 12, 13, 14, 15, 16] (wl_X7_layFetch_2 E a q1) (by decide) rfl (wModel E a q1) (zrep_self (wl_X7_layFetch_2 E a q1)) 0 7 rfl rfl rfl (Nat.le_of_ble_eq_true rfl) dX7_layFetch_148 ⟨Nat.zero_le _, Nat.zero_le _⟩ _ rfl ?_
  refine z_if_eq C 204 (by decide) h dX7_layFetch_151 (fun hc h => ?_) (fun hc h => ?_)
  · refine Zt_l [(0, .ref (a 0)), (1, .int x1), (2, .int x2), (3, .int x3), (4, .int x4), (5, .int x5)] [0, 1, 2, 3, 4, 5] rfl ?_
    exact L_X7_layFetch_204 a C R k34 hk34 x1 x2 x3 x4 x5 q1 h
  · refine z_iload C 4 rfl dX7_layFetch_154 ?_
    refine z_bipush C (v := (-4 : Int32)) (by decide) dX7_layFetch_156 ?_
    refine z_icmp_eq C 168 (by decide) h dX7_layFetch_158 (fun hc h => ?_) (fun hc h => ?_)
    · refine Zt_l [(0, .ref (a 0)), (1, .int x1), (2, .int x2), (3, .int x3), (5, .int x5), (7, .int x7)] [0, 1, 2, 3, 5, 6] rfl ?_
      exact L_X7_layFetch_168 a C R k34 hk34 x1 x2 x3 x5 x7 q1 h
    · refine z_iload C 6 rfl dX7_layFetch_161 ?_
      refine z_iload C 4 rfl dX7_layFetch_163 ?_
      refine z_icmp_ge C 204 (by decide) h dX7_layFetch_165 (fun hc h => ?_) (fun hc h => ?_)
      · refine Zt_l [(0, .ref (a 0)), (1, .int x1), (2, .int x2), (3, .int x3), (4, .int x4), (5, .int x5)] [0, 1, 2, 3, 4, 5] rfl ?_
        exact L_X7_layFetch_204 a C R k34 hk34 x1 x2 x3 x4 x5 q1 h
      · refine Zt_l [(0, .ref (a 0)), (1, .int x1), (2, .int x2), (3, .int x3), (5, .int x5), (7, .int x7)] [0, 1, 2, 3, 5, 6] rfl ?_
        exact L_X7_layFetch_168 a C R k34 hk34 x1 x2 x3 x5 x7 q1 h

set_option maxHeartbeats 4000000 in
set_option maxRecDepth 100000 in
theorem L_X7_layFetch_55 {E : zEnv} {Γ : zG} (a : Nat → Nat) (C : zC E Γ cX7_layFetch RX7 9 rm_X7_layFetch wsX7_layFetch) {res : (Int32 × St)} (R : zRi E Γ cX7_layFetch 9 .int (wModel E a res.2) res.1) (k34 : Int32 → Int32 → Int32 → Int32 → Int32 → St → Option (Int32 × St)) (hk34 : ∀ (x1 : Int32) (x2 : Int32) (x3 : Int32) (x4 : Int32) (x5 : Int32) (S : St), k34 x1 x2 x3 x4 x5 S = some res → Zt E Γ 9 0 0 (wModel E a S) [(0, .ref (a 0)), (1, .int x1), (2, .int x2), (3, .int x3), (4, .int x4), (5, .int x5)] 34 []) : ∀ (n : Nat) (x1 : Int32) (x2 : Int32) (x3 : Int32) (x4 : Int32) (x5 : Int32) (x6 : Int32) (x7 : Int32) (x8 : Int32) (S : St), f_X7_layFetch_55 k34 n x1 x2 x3 x4 x5 x6 x7 x8 S = some res → Zt E Γ 9 0 0 (wModel E a S) [(0, .ref (a 0)), (1, .int x1), (2, .int x2), (3, .int x3), (4, .int x4), (5, .int x5), (6, .int x6), (7, .int x7), (8, .int x8)] 55 [] := by
  intro n
  induction n with
  | zero =>
    intro x1 x2 x3 x4 x5 x6 x7 x8 S h
    cases h
  | succ n ih =>
    intro x1 x2 x3 x4 x5 x6 x7 x8 S h
    rw [f_X7_layFetch_55_s] at h
    refine z_iload C 8 rfl dX7_layFetch_55 ?_
    refine z_if_lt C 141 (by decide) h dX7_layFetch_57 (fun hc h => ?_) (fun hc h => ?_)
    · refine Zt_l [(0, .ref (a 0)), (1, .int x1), (2, .int x2), (3, .int x3), (4, .int x4), (5, .int x5), (7, .int x7)] [0, 1, 2, 3, 4, 5, 7] rfl ?_
      exact L_X7_layFetch_141 a C R k34 hk34 x1 x2 x3 x4 x5 x7 S h
    · refine z_aload_n C 0 rfl rfl dX7_layFetch_60 ?_
      refine z_get C 0 rfl (C := RX7) (T := TX7) (N := 38) (ci := 7) rfl inw_X7_layFetch_X7 28 (by decide) (ref := "EldestAgeModel") (List.mem_of_getElem? (i := 3) rfl) rfl (v := .ref (a 9)) rfl dX7_layFetch_61 ?_
      refine z_iload C 8 rfl dX7_layFetch_64 ?_
      refine z_iload C 6 rfl dX7_layFetch_66 ?_
      refine z_aload_n C 0 rfl rfl dX7_layFetch_68 ?_
      refine z_get C 0 rfl (C := RX7) (T := TX7) (N := 38) (ci := 7) rfl inw_X7_layFetch_X7 1 (by decide) (ref := "EldestAgeModel") (List.mem_of_getElem? (i := 2) rfl) rfl (v := .int (S 1 0)) rfl dX7_layFetch_69 ?_
      refine z_irem C (nz_e h).1 dX7_layFetch_72 ?_
      replace h := (nz_e h).2
      refine z_iast C (N := 10) (f := (S 28)) 9 rfl h (wModel E a (st 28 (upd (S 28) (Int32.toNatClampNeg x8) (zrem x6 (S 1 0))) S)) (wl_X7_layFetch_5 E a S (upd (S 28) (Int32.toNatClampNeg x8) (zrem x6 (S 1 0)))) dX7_layFetch_73 (fun h => ?_)
      refine z_iload C 6 rfl dX7_layFetch_74 ?_
      refine z_aload_n C 0 rfl rfl dX7_layFetch_76 ?_
      refine z_get C 0 rfl (C := RX7) (T := TX7) (N := 38) (ci := 7) rfl inw_X7_layFetch_X7 1 (by decide) (ref := "EldestAgeModel") (List.mem_of_getElem? (i := 2) rfl) rfl (v := .int (S 1 0)) rfl dX7_layFetch_77 ?_
      refine z_idiv C (nz_e h).1 dX7_layFetch_80 ?_
      replace h := (nz_e h).2
      refine z_istore C [(6, .int (x6 / (S 1 0))), (0, .ref (a 0)), (1, .int x1), (2, .int x2), (3, .int x3), (4, .int x4), (5, .int x5), (7, .int x7), (8, .int x8)] (by decide) rfl dX7_layFetch_81 ?_
      refine z_iload C 7 rfl dX7_layFetch_83 ?_
      refine z_aload_n C 1 rfl rfl dX7_layFetch_85 ?_
      refine z_get C 0 rfl (C := RX7) (T := TX7) (N := 38) (ci := 7) rfl inw_X7_layFetch_X7 28 (by decide) (ref := "EldestAgeModel") (List.mem_of_getElem? (i := 3) rfl) rfl (v := .ref (a 9)) rfl dX7_layFetch_86 ?_
      refine z_iload C 8 rfl dX7_layFetch_89 ?_
      refine z_iald C (N := 10) (f := (upd (S 28) (Int32.toNatClampNeg x8) (zrem x6 (S 1 0)))) 9 rfl h dX7_layFetch_91 (fun h => ?_)
      refine z_aload_n C 1 rfl rfl dX7_layFetch_92 ?_
      refine z_iconst C (v := (0 : Int32)) (by decide) dX7_layFetch_93 ?_
      refine z_aload_n C 1 rfl rfl dX7_layFetch_94 ?_
      refine z_get C 0 rfl (C := RX7) (T := TX7) (N := 38) (ci := 7) rfl inw_X7_layFetch_X7 25 (by decide) (ref := "EldestAgeModel") (List.mem_of_getElem? (i := 4) rfl) rfl (v := .ref (a 7)) rfl dX7_layFetch_95 ?_
      refine z_iload C 8 rfl dX7_layFetch_98 ?_
      refine z_iald C (N := 10) (f := (S 25)) 7 rfl h dX7_layFetch_100 (fun h => ?_)
      refine z_iload_n C 2 rfl rfl dX7_layFetch_101 ?_
      obtain ⟨q3, e3, h⟩ := bd_e h
      refine z_callVi C (b := a 0) (As := [.int (0 : Int32), .int (S 25 (Int32.toNatClampNeg x8)), .int x1]) (rest := [.int ((upd (S 28) (Int32.toNatClampNeg x8) (zrem x6 (S 1 0))) (Int32.toNatClampNeg x8)), .int x7]) (c_X7_homeOf E a (0 : Int32) (S 25 (Int32.toNatClampNeg x8)) x1 (st 28 (upd (S 28) (Int32.toNatClampNeg x8) (zrem x6 (S 1 0))) S) e3) rfl gX7_layFetch_X7_homeOf rfl rfl rfl 3 rfl (by decide +kernel) ⟨Nat.le_of_ble_eq_true rfl, Nat.le_of_ble_eq_true rfl⟩ [0, 1, 2, 3, 4, 5, 6, 7, 8, 9, 10, 11, 12, 13, 14, 15, 16] (wl_X7_layFetch_2 E a (st 28 (upd (S 28) (Int32.toNatClampNeg x8) (zrem x6 (S 1 0))) S)) (by decide) rfl (wModel E a (st 28 (upd (S 28) (Int32.toNatClampNeg x8) (zrem x6 (S 1 0))) S)) (zrep_self (wl_X7_layFetch_2 E a (st 28 (upd (S 28) (Int32.toNatClampNeg x8) (zrem x6 (S 1 0))) S))) 0 7 rfl rfl rfl (Nat.le_of_ble_eq_true rfl) dX7_layFetch_102 ⟨Nat.zero_le _, Nat.zero_le _⟩ _ rfl ?_
      refine z_icmp_ne C 112 (by decide) h dX7_layFetch_105 (fun hc h => ?_) (fun hc h => ?_)
      · refine z_iconst C (v := (0 : Int32)) (by decide) dX7_layFetch_108 ?_
        refine z_goto C 113 (by decide) dX7_layFetch_109 ?_
        refine Zt_l [(0, .ref (a 0)), (1, .int x1), (2, .int x2), (3, .int x3), (4, .int x4), (5, .int x5), (6, .int (x6 / (S 1 0))), (8, .int x8)] [1, 2, 3, 4, 5, 6, 0, 8] rfl ?_
        exact L_X7_layFetch_113 a C R k34 hk34 _ ih x1 x2 x3 x4 x5 (x6 / (S 1 0)) x8 x7 (0 : Int32) (st 28 (upd (S 28) (Int32.toNatClampNeg x8) (zrem x6 (S 1 0))) S) h
      · refine z_iconst C (v := (1 : Int32)) (by decide) dX7_layFetch_112 ?_
        refine Zt_l [(0, .ref (a 0)), (1, .int x1), (2, .int x2), (3, .int x3), (4, .int x4), (5, .int x5), (6, .int (x6 / (S 1 0))), (8, .int x8)] [1, 2, 3, 4, 5, 6, 0, 8] rfl ?_
        exact L_X7_layFetch_113 a C R k34 hk34 _ ih x1 x2 x3 x4 x5 (x6 / (S 1 0)) x8 x7 (1 : Int32) (st 28 (upd (S 28) (Int32.toNatClampNeg x8) (zrem x6 (S 1 0))) S) h

set_option maxHeartbeats 4000000 in
set_option maxRecDepth 100000 in
theorem L_X7_layFetch_34 {E : zEnv} {Γ : zG} (a : Nat → Nat) (C : zC E Γ cX7_layFetch RX7 9 rm_X7_layFetch wsX7_layFetch) {res : (Int32 × St)} (R : zRi E Γ cX7_layFetch 9 .int (wModel E a res.2) res.1) : ∀ (n : Nat) (x1 : Int32) (x2 : Int32) (x3 : Int32) (x4 : Int32) (x5 : Int32) (S : St), f_X7_layFetch_34 n x1 x2 x3 x4 x5 S = some res → Zt E Γ 9 0 0 (wModel E a S) [(0, .ref (a 0)), (1, .int x1), (2, .int x2), (3, .int x3), (4, .int x4), (5, .int x5)] 34 [] := by
  intro n
  induction n with
  | zero =>
    intro x1 x2 x3 x4 x5 S h
    cases h
  | succ n ih =>
    intro x1 x2 x3 x4 x5 S h
    rw [f_X7_layFetch_34_s] at h
    refine z_iload C 5 rfl dX7_layFetch_34 ?_
    refine z_iload_n C 3 rfl rfl dX7_layFetch_36 ?_
    refine z_icmp_ge C 210 (by decide) h dX7_layFetch_37 (fun hc h => ?_) (fun hc h => ?_)
    · refine z_iload C 4 rfl dX7_layFetch_210 ?_
      obtain rfl := Option.some.inj h
      exact R rfl 212 _ dX7_layFetch_212
    · refine z_iload C 5 rfl dX7_layFetch_40 ?_
      refine z_istore C [(6, .int x5), (0, .ref (a 0)), (1, .int x1), (2, .int x2), (3, .int x3), (4, .int x4), (5, .int x5)] (by decide) rfl dX7_layFetch_42 ?_
      refine z_iconst C (v := (0 : Int32)) (by decide) dX7_layFetch_44 ?_
      refine z_istore C [(7, .int (0 : Int32)), (6, .int x5), (0, .ref (a 0)), (1, .int x1), (2, .int x2), (3, .int x3), (4, .int x4), (5, .int x5)] (by decide) rfl dX7_layFetch_45 ?_
      refine z_aload_n C 2 rfl rfl dX7_layFetch_47 ?_
      refine z_get C 0 rfl (C := RX7) (T := TX7) (N := 38) (ci := 7) rfl inw_X7_layFetch_X7 26 (by decide) (ref := "EldestAgeModel") (List.mem_of_getElem? (i := 1) rfl) rfl (v := .int (S 26 0)) rfl dX7_layFetch_48 ?_
      refine z_iconst C (v := (1 : Int32)) (by decide) dX7_layFetch_51 ?_
      refine z_isub C dX7_layFetch_52 ?_
      refine z_istore C [(8, .int ((S 26 0) - (1 : Int32))), (7, .int (0 : Int32)), (6, .int x5), (0, .ref (a 0)), (1, .int x1), (2, .int x2), (3, .int x3), (4, .int x4), (5, .int x5)] (by decide) rfl dX7_layFetch_53 ?_
      refine Zt_l [(0, .ref (a 0)), (1, .int x1), (2, .int x2), (3, .int x3), (4, .int x4), (5, .int x5), (6, .int x5), (7, .int (0 : Int32)), (8, .int ((S 26 0) - (1 : Int32)))] [3, 4, 5, 6, 7, 8, 2, 1, 0] rfl ?_
      exact L_X7_layFetch_55 a C R _ ih 1000 x1 x2 x3 x4 x5 x5 (0 : Int32) ((S 26 0) - (1 : Int32)) S h

set_option maxHeartbeats 4000000 in
set_option maxRecDepth 100000 in
theorem L_X7_layFetch_31 {E : zEnv} {Γ : zG} (a : Nat → Nat) (C : zC E Γ cX7_layFetch RX7 9 rm_X7_layFetch wsX7_layFetch) {res : (Int32 × St)} (R : zRi E Γ cX7_layFetch 9 .int (wModel E a res.2) res.1) (x1 : Int32) (x2 : Int32) (x3 : Int32) (x4 : Int32) (S : St) (h : f_X7_layFetch_31 x1 x2 x3 x4 S = some res) : Zt E Γ 9 0 0 (wModel E a S) [(0, .ref (a 0)), (1, .int x1), (2, .int x2), (3, .int x3), (4, .int x4)] 31 [] := by
  unfold f_X7_layFetch_31 at h
  refine z_iconst C (v := (0 : Int32)) (by decide) dX7_layFetch_31 ?_
  refine z_istore C [(5, .int (0 : Int32)), (0, .ref (a 0)), (1, .int x1), (2, .int x2), (3, .int x3), (4, .int x4)] (by decide) rfl dX7_layFetch_32 ?_
  refine Zt_l [(0, .ref (a 0)), (1, .int x1), (2, .int x2), (3, .int x3), (4, .int x4), (5, .int (0 : Int32))] [1, 2, 3, 4, 5, 0] rfl ?_
  exact L_X7_layFetch_34 a C R 40000 x1 x2 x3 x4 (0 : Int32) S h

set_option maxHeartbeats 4000000 in
set_option maxRecDepth 100000 in
theorem L_X7_layFetch_9 {E : zEnv} {Γ : zG} (a : Nat → Nat) (C : zC E Γ cX7_layFetch RX7 9 rm_X7_layFetch wsX7_layFetch) {res : (Int32 × St)} (R : zRi E Γ cX7_layFetch 9 .int (wModel E a res.2) res.1) : ∀ (n : Nat) (x1 : Int32) (x2 : Int32) (x3 : Int32) (x4 : Int32) (x5 : Int32) (S : St), f_X7_layFetch_9 n x1 x2 x3 x4 x5 S = some res → Zt E Γ 9 0 0 (wModel E a S) [(0, .ref (a 0)), (1, .int x1), (2, .int x2), (3, .int x3), (4, .int x4), (5, .int x5)] 9 [] := by
  intro n
  induction n with
  | zero =>
    intro x1 x2 x3 x4 x5 S h
    cases h
  | succ n ih =>
    intro x1 x2 x3 x4 x5 S h
    rw [f_X7_layFetch_9_s] at h
    refine z_iload C 5 rfl dX7_layFetch_9 ?_
    refine z_aload_n C 0 rfl rfl dX7_layFetch_11 ?_
    refine z_get C 0 rfl (C := RX7) (T := TX7) (N := 38) (ci := 7) rfl inw_X7_layFetch_X7 26 (by decide) (ref := "EldestAgeModel") (List.mem_of_getElem? (i := 1) rfl) rfl (v := .int (S 26 0)) rfl dX7_layFetch_12 ?_
    refine z_icmp_ge C 31 (by decide) h dX7_layFetch_15 (fun hc h => ?_) (fun hc h => ?_)
    · refine Zt_l [(0, .ref (a 0)), (1, .int x1), (2, .int x2), (3, .int x3), (4, .int x4)] [0, 1, 2, 3, 4] rfl ?_
      exact L_X7_layFetch_31 a C R x1 x2 x3 x4 S h
    · refine z_iload_n C 3 rfl rfl dX7_layFetch_18 ?_
      refine z_aload_n C 0 rfl rfl dX7_layFetch_19 ?_
      refine z_get C 0 rfl (C := RX7) (T := TX7) (N := 38) (ci := 7) rfl inw_X7_layFetch_X7 1 (by decide) (ref := "EldestAgeModel") (List.mem_of_getElem? (i := 2) rfl) rfl (v := .int (S 1 0)) rfl dX7_layFetch_20 ?_
      refine z_imul C dX7_layFetch_23 ?_
      refine z_istore_n C [(3, .int (x3 * (S 1 0))), (0, .ref (a 0)), (1, .int x1), (2, .int x2), (4, .int x4), (5, .int x5)] rfl (by decide) rfl dX7_layFetch_24 ?_
      refine z_iinc C [(5, .int (x5 + (1 : Int32))), (3, .int (x3 * (S 1 0))), (0, .ref (a 0)), (1, .int x1), (2, .int x2), (4, .int x4)] 5 rfl (by first | rfl | decide) (by decide) rfl dX7_layFetch_25 ?_
      refine z_goto C 9 (by decide) dX7_layFetch_28 ?_
      refine Zt_l [(0, .ref (a 0)), (1, .int x1), (2, .int x2), (3, .int (x3 * (S 1 0))), (4, .int x4), (5, .int (x5 + (1 : Int32)))] [2, 3, 4, 1, 5, 0] rfl ?_
      exact ih x1 x2 (x3 * (S 1 0)) x4 (x5 + (1 : Int32)) S h

set_option maxHeartbeats 4000000 in
set_option maxRecDepth 100000 in
theorem L_X7_layFetch {E : zEnv} {Γ : zG} (a : Nat → Nat) (C : zC E Γ cX7_layFetch RX7 9 rm_X7_layFetch wsX7_layFetch) {res : (Int32 × St)} (R : zRi E Γ cX7_layFetch 9 .int (wModel E a res.2) res.1) (x1 : Int32) (x2 : Int32) (S : St) (h : f_X7_layFetch x1 x2 S = some res) : Zt E Γ 9 0 0 (wModel E a S) [(0, .ref (a 0)), (1, .int x1), (2, .int x2)] 0 [] := by
  unfold f_X7_layFetch at h
  refine z_iconst C (v := (1 : Int32)) (by decide) dX7_layFetch_0 ?_
  refine z_istore_n C [(3, .int (1 : Int32)), (0, .ref (a 0)), (1, .int x1), (2, .int x2)] rfl (by decide) rfl dX7_layFetch_1 ?_
  refine z_bipush C (v := (-4 : Int32)) (by decide) dX7_layFetch_2 ?_
  refine z_istore C [(4, .int (-4 : Int32)), (3, .int (1 : Int32)), (0, .ref (a 0)), (1, .int x1), (2, .int x2)] (by decide) rfl dX7_layFetch_4 ?_
  refine z_iconst C (v := (0 : Int32)) (by decide) dX7_layFetch_6 ?_
  refine z_istore C [(5, .int (0 : Int32)), (4, .int (-4 : Int32)), (3, .int (1 : Int32)), (0, .ref (a 0)), (1, .int x1), (2, .int x2)] (by decide) rfl dX7_layFetch_7 ?_
  refine Zt_l [(0, .ref (a 0)), (1, .int x1), (2, .int x2), (3, .int (1 : Int32)), (4, .int (-4 : Int32)), (5, .int (0 : Int32))] [3, 4, 5, 2, 1, 0] rfl ?_
  exact L_X7_layFetch_9 a C R 1000 x1 x2 (1 : Int32) (-4 : Int32) (0 : Int32) S h

theorem c_X7_layFetch (E : zEnv) (a : Nat → Nat) (x1 : Int32) (x2 : Int32) (S : St) {res : (Int32 × St)} (h : f_X7_layFetch x1 x2 S = some res) : Kti E yX7_layFetch wsX7_layFetch rm_X7_layFetch (wModel E a S) (wModel E a res.2) [.ref (a 0), .int x1, .int x2] res.1 :=
  z_enti (cc := cX7_layFetch) (maxL := 9) (rt := .int) (by decide +kernel) rfl (Nat.le_of_ble_eq_true rfl) (fun Γ C R => L_X7_layFetch a C R x1 x2 S h)

abbrev rm_X7_fetch : Room := { frames := 4, cells := 0, slots := 0, locals := 98 }
theorem inw_X7_fetch_X7 : ∀ w ∈ wsX70, w ∈ wsX7_fetch := fun _ h => List.mem_cons_of_mem _ (List.mem_append_right _ h)
set_option maxHeartbeats 4000000 in
theorem wl_X7_fetch_0 (E : zEnv) (a : Nat → Nat) (S : St) (f : Nat → Int32) : (wModel E a (st 25 f S)) = (wModel E a S).set 7 (a 7, .inl (zI E, 10, .inl f)) := rfl
set_option maxHeartbeats 4000000 in
theorem wl_X7_fetch_1 (E : zEnv) (a : Nat → Nat) (S : St) (v : Int32) : (wModel E a (st 26 (fun _ => v) S)) = (wModel E a S).set 0 (a 0, .inr (7, List.set [.ref (a 1), .int (S 1 0), .ref (a 2), .int (S 3 0), .int (S 4 0), .int (S 5 0), .int (S 6 0), .int (S 7 0), .ref (a 3), .int (S 9 0), .int (S 10 0), .int (S 11 0), .int (S 12 0), .int (S 13 0), .int (S 14 0), .int (S 15 0), .int (S 16 0), .ref (a 4), .ref (a 5), .int (S 19 0), .int (S 20 0), .int (S 21 0), .int (S 22 0), .ref (a 6), .int (S 24 0), .ref (a 7), .int (S 26 0), .ref (a 8), .ref (a 9), .ref (a 10), .ref (a 11), .ref (a 12), .int (S 32 0), .ref (a 13), .ref (a 14), .ref (a 15), .ref (a 16), .int (S 37 0)] 26 (.int v))) := rfl
set_option maxHeartbeats 4000000 in
theorem wl_X7_fetch_2 (E : zEnv) (a : Nat → Nat) (S : St) (f : Nat → Int32) : (wModel E a (st 27 f S)) = (wModel E a S).set 8 (a 8, .inl (zI E, 10, .inl f)) := rfl
set_option maxHeartbeats 4000000 in
theorem wl_X7_fetch_3 (E : zEnv) (a : Nat → Nat) (S : St) : ([0, 1, 2, 3, 4, 5, 6, 7, 8, 9, 10, 11, 12, 13, 14, 15, 16] : List Nat).map (fun i => (wModel E a S)[i]?) = (wModel E a S).map some := rfl
set_option maxHeartbeats 4000000 in
theorem wl_X7_fetch_4 (E : zEnv) (a : Nat → Nat) (S U : St) : (wModel E a U).map (fun q => q.1) = (wModel E a S).map (fun q => q.1) := rfl
set_option maxHeartbeats 4000000 in
theorem wl_X7_fetch_5 (E : zEnv) (a : Nat → Nat) (S U : St) : (wModel E a U) = zrep [0, 1, 2, 3, 4, 5, 6, 7, 8, 9, 10, 11, 12, 13, 14, 15, 16] (wModel E a U) (wModel E a S) := zrep_of (isR := []) 17 rfl [] rfl rfl rfl rfl (by decide +kernel) (by decide +kernel)
noncomputable def f_X7_fetch_147 (k44 : Int32 → Int32 → Int32 → Int32 → Int32 → St → Option (Int32 × St)) (x1 : Int32) (x2 : Int32) (x3 : Int32) (x4 : Int32) (x5 : Int32) (S : St) : Option (Int32 × St) := (k44 x1 x2 x3 x4 (x5 + (1 : Int32)) S)
noncomputable def f_X7_fetch_124 (k44 : Int32 → Int32 → Int32 → Int32 → Int32 → St → Option (Int32 × St)) (x1 : Int32) (x2 : Int32) (x3 : Int32) (x5 : Int32) (y0 : Int32) (S : St) : Option (Int32 × St) := (ix (S 26 0) 10 (f_X7_fetch_147 k44 x1 x2 x3 y0 x5 (st 26 (fun _ => ((S 26 0) + (1 : Int32))) (st 25 (upd (S 25) (Int32.toNatClampNeg (S 26 0)) x5) S))))
noncomputable def f_X7_fetch_87 (k44 : Int32 → Int32 → Int32 → Int32 → Int32 → St → Option (Int32 × St)) (x1 : Int32) (x2 : Int32) (x3 : Int32) (x4 : Int32) (x5 : Int32) (x6 : Int32) (y1 : Int32) (y2 : Int32) (S : St) : Option (Int32 × St) := (ix y1 10 (if x6 = 0 then (f_X7_fetch_147 k44 x1 x2 x3 x4 x5 (st 27 (upd (S 27) (Int32.toNatClampNeg y1) y2) S)) else (ix ((4 : Int32) * x5) 368 (if (S 0 (Int32.toNatClampNeg ((4 : Int32) * x5))) = (1 : Int32) then (if x3 = ((10 : Int32) + x5) then (f_X7_fetch_124 k44 x1 x2 x3 x5 (S 26 0) (st 27 (upd (S 27) (Int32.toNatClampNeg y1) y2) S)) else (f_X7_fetch_124 k44 x1 x2 x3 x5 x4 (st 27 (upd (S 27) (Int32.toNatClampNeg y1) y2) S))) else (f_X7_fetch_147 k44 x1 x2 x3 x4 x5 (st 27 (upd (S 27) (Int32.toNatClampNeg y1) y2) S))))))
noncomputable def f_X7_fetch_196 (x5 : Int32) (S : St) : Option (Int32 × St) := (some (x5, S))
noncomputable def f_X7_fetch_166 (x1 : Int32) (x2 : Int32) (x3 : Int32) (x4 : Int32) (S : St) : Option (Int32 × St) := (if (S 26 0) ≤ (4 : Int32) then ((f_X7_layFetch x1 x2 S).bind (fun q1 => (if q1.1 = (-4 : Int32) then (f_X7_fetch_196 q1.1 q1.2) else (if x3 = 0 then (f_X7_fetch_196 q1.1 q1.2) else (ix x4 10 (some ((q1.2 29 (Int32.toNatClampNeg x4)), q1.2))))))) else (some ((-2 : Int32), S)))
noncomputable def f_X7_fetch_153 (x1 : Int32) (x2 : Int32) (x3 : Int32) (x4 : Int32) (S : St) : Option (Int32 × St) := (if x3 = 0 then (f_X7_fetch_166 x1 x2 x3 x4 S) else (if x4 = (-4 : Int32) then (some ((-1 : Int32), S)) else (f_X7_fetch_166 x1 x2 x3 x4 S)))
noncomputable def f_X7_fetch_44 (n : Nat) : Int32 → Int32 → Int32 → Int32 → Int32 → St → Option (Int32 × St) := Nat.rec (motive := fun _ => Int32 → Int32 → Int32 → Int32 → Int32 → St → Option (Int32 × St)) (fun _ _ _ _ _ _ => none) (fun _ ih => fun x1 x2 x3 x4 x5 S => ((f_X7_people S).bind (fun q2 => (if q2 ≤ x5 then (f_X7_fetch_153 x1 x2 x3 x4 S) else ((f_X7_isAlive (0 : Int32) x5 x1 S).bind (fun q3 => (if q3 = 0 then (f_X7_fetch_87 ih x1 x2 x3 x4 x5 q3 x5 (-4 : Int32) S) else ((f_X7_homeOf (0 : Int32) x5 x1 S).bind (fun q4 => (f_X7_fetch_87 ih x1 x2 x3 x4 x5 q3 x5 q4 S)))))))))) n
theorem f_X7_fetch_44_s (n : Nat) (x1 : Int32) (x2 : Int32) (x3 : Int32) (x4 : Int32) (x5 : Int32) (S : St) : f_X7_fetch_44 (n + 1) x1 x2 x3 x4 x5 S = ((f_X7_people S).bind (fun q2 => (if q2 ≤ x5 then (f_X7_fetch_153 x1 x2 x3 x4 S) else ((f_X7_isAlive (0 : Int32) x5 x1 S).bind (fun q3 => (if q3 = 0 then (f_X7_fetch_87 (f_X7_fetch_44 n) x1 x2 x3 x4 x5 q3 x5 (-4 : Int32) S) else ((f_X7_homeOf (0 : Int32) x5 x1 S).bind (fun q4 => (f_X7_fetch_87 (f_X7_fetch_44 n) x1 x2 x3 x4 x5 q3 x5 q4 S))))))))) := rfl
noncomputable def f_X7_fetch_32 (x1 : Int32) (x2 : Int32) (x3 : Int32) (S : St) : Option (Int32 × St) := (f_X7_fetch_44 1000 x1 x2 x3 (-4 : Int32) (0 : Int32) (st 26 (fun _ => (0 : Int32)) S))
noncomputable def f_X7_fetch (x1 : Int32) (x2 : Int32) (x3 : Int32) (S : St) : Option (Int32 × St) := ((f_X7_isDay x1).bind (fun q5 => (if q5 = 0 then (some ((-1 : Int32), S)) else (if x3 = 0 then (f_X7_fetch_32 x1 x2 x3 S) else ((f_X7_people S).bind (fun q6 => ((f_X7_in (Int32.toInt64 x3) (10 : Int64) (Int32.toInt64 ((9 : Int32) + q6))).bind (fun q7 => (if q7 = 0 then (some ((-1 : Int32), S)) else (f_X7_fetch_32 x1 x2 x3 S))))))))))
set_option maxHeartbeats 4000000 in
set_option maxRecDepth 100000 in
theorem L_X7_fetch_147 {E : zEnv} {Γ : zG} (a : Nat → Nat) (C : zC E Γ cX7_fetch RX7 7 rm_X7_fetch wsX7_fetch) {res : (Int32 × St)} (R : zRi E Γ cX7_fetch 7 .int (wModel E a res.2) res.1) (k44 : Int32 → Int32 → Int32 → Int32 → Int32 → St → Option (Int32 × St)) (hk44 : ∀ (x1 : Int32) (x2 : Int32) (x3 : Int32) (x4 : Int32) (x5 : Int32) (S : St), k44 x1 x2 x3 x4 x5 S = some res → Zt E Γ 7 0 0 (wModel E a S) [(0, .ref (a 0)), (1, .int x1), (2, .int x2), (3, .int x3), (4, .int x4), (5, .int x5)] 44 []) (x1 : Int32) (x2 : Int32) (x3 : Int32) (x4 : Int32) (x5 : Int32) (S : St) (h : f_X7_fetch_147 k44 x1 x2 x3 x4 x5 S = some res) : Zt E Γ 7 0 0 (wModel E a S) [(0, .ref (a 0)), (1, .int x1), (2, .int x2), (3, .int x3), (4, .int x4), (5, .int x5)] 147 [] := by
  unfold f_X7_fetch_147 at h
  refine z_iinc C [(5, .int (x5 + (1 : Int32))), (0, .ref (a 0)), (1, .int x1), (2, .int x2), (3, .int x3), (4, .int x4)] 5 rfl (by first | rfl | decide) (by decide) rfl dX7_fetch_147 ?_
  refine z_goto C 44 (by decide) dX7_fetch_150 ?_
  refine Zt_l [(0, .ref (a 0)), (1, .int x1), (2, .int x2), (3, .int x3), (4, .int x4), (5, .int (x5 + (1 : Int32)))] [1, 2, 3, 4, 5, 0] rfl ?_
  exact hk44 x1 x2 x3 x4 (x5 + (1 : Int32)) S h

set_option maxHeartbeats 4000000 in
set_option maxRecDepth 100000 in
theorem L_X7_fetch_124 {E : zEnv} {Γ : zG} (a : Nat → Nat) (C : zC E Γ cX7_fetch RX7 7 rm_X7_fetch wsX7_fetch) {res : (Int32 × St)} (R : zRi E Γ cX7_fetch 7 .int (wModel E a res.2) res.1) (k44 : Int32 → Int32 → Int32 → Int32 → Int32 → St → Option (Int32 × St)) (hk44 : ∀ (x1 : Int32) (x2 : Int32) (x3 : Int32) (x4 : Int32) (x5 : Int32) (S : St), k44 x1 x2 x3 x4 x5 S = some res → Zt E Γ 7 0 0 (wModel E a S) [(0, .ref (a 0)), (1, .int x1), (2, .int x2), (3, .int x3), (4, .int x4), (5, .int x5)] 44 []) (x1 : Int32) (x2 : Int32) (x3 : Int32) (x5 : Int32) (y0 : Int32) (S : St) (h : f_X7_fetch_124 k44 x1 x2 x3 x5 y0 S = some res) : Zt E Γ 7 0 0 (wModel E a S) [(0, .ref (a 0)), (1, .int x1), (2, .int x2), (3, .int x3), (5, .int x5)] 124 [.int y0] := by
  unfold f_X7_fetch_124 at h
  refine z_istore C [(4, .int y0), (0, .ref (a 0)), (1, .int x1), (2, .int x2), (3, .int x3), (5, .int x5)] (by decide) rfl dX7_fetch_124 ?_
  refine z_aload_n C 1 rfl rfl dX7_fetch_126 ?_
  refine z_get C 0 rfl (C := RX7) (T := TX7) (N := 38) (ci := 7) rfl inw_X7_fetch_X7 25 (by decide) (ref := "EldestAgeModel") (List.mem_of_getElem? (i := 5) rfl) rfl (v := .ref (a 7)) rfl dX7_fetch_127 ?_
  refine z_aload_n C 1 rfl rfl dX7_fetch_130 ?_
  refine z_get C 0 rfl (C := RX7) (T := TX7) (N := 38) (ci := 7) rfl inw_X7_fetch_X7 26 (by decide) (ref := "EldestAgeModel") (List.mem_of_getElem? (i := 2) rfl) rfl (v := .int (S 26 0)) rfl dX7_fetch_131 ?_
  refine z_iload C 5 rfl dX7_fetch_134 ?_
  refine z_iast C (N := 10) (f := (S 25)) 7 rfl h (wModel E a (st 25 (upd (S 25) (Int32.toNatClampNeg (S 26 0)) x5) S)) (wl_X7_fetch_0 E a S (upd (S 25) (Int32.toNatClampNeg (S 26 0)) x5)) dX7_fetch_136 (fun h => ?_)
  refine z_aload_n C 1 rfl rfl dX7_fetch_137 ?_
  refine z_dup C rfl dX7_fetch_138 ?_
  refine z_get C 0 rfl (C := RX7) (T := TX7) (N := 38) (ci := 7) rfl inw_X7_fetch_X7 26 (by decide) (ref := "EldestAgeModel") (List.mem_of_getElem? (i := 2) rfl) rfl (v := .int (S 26 0)) rfl dX7_fetch_139 ?_
  refine z_iconst C (v := (1 : Int32)) (by decide) dX7_fetch_142 ?_
  refine z_iadd C dX7_fetch_143 ?_
  refine z_put C 0 rfl (C := RX7) (T := TX7) (N := 38) (ci := 7) rfl inw_X7_fetch_X7 tyX7 tyX7_ok nmX7 26 (by decide) (ref := "EldestAgeModel") (List.mem_of_getElem? (i := 2) rfl) rfl rfl (ty := .int) (v := .int ((S 26 0) + (1 : Int32))) (by decide +kernel) rfl rfl (Nat.le_of_ble_eq_true rfl) (wModel E a (st 26 (fun _ => ((S 26 0) + (1 : Int32))) (st 25 (upd (S 25) (Int32.toNatClampNeg (S 26 0)) x5) S))) (wl_X7_fetch_1 E a (st 25 (upd (S 25) (Int32.toNatClampNeg (S 26 0)) x5) S) ((S 26 0) + (1 : Int32))) dX7_fetch_144 ?_
  refine Zt_l [(0, .ref (a 0)), (1, .int x1), (2, .int x2), (3, .int x3), (4, .int y0), (5, .int x5)] [1, 2, 3, 4, 0, 5] rfl ?_
  exact L_X7_fetch_147 a C R k44 hk44 x1 x2 x3 y0 x5 (st 26 (fun _ => ((S 26 0) + (1 : Int32))) (st 25 (upd (S 25) (Int32.toNatClampNeg (S 26 0)) x5) S)) h

set_option maxHeartbeats 4000000 in
set_option maxRecDepth 100000 in
theorem L_X7_fetch_87 {E : zEnv} {Γ : zG} (a : Nat → Nat) (C : zC E Γ cX7_fetch RX7 7 rm_X7_fetch wsX7_fetch) {res : (Int32 × St)} (R : zRi E Γ cX7_fetch 7 .int (wModel E a res.2) res.1) (k44 : Int32 → Int32 → Int32 → Int32 → Int32 → St → Option (Int32 × St)) (hk44 : ∀ (x1 : Int32) (x2 : Int32) (x3 : Int32) (x4 : Int32) (x5 : Int32) (S : St), k44 x1 x2 x3 x4 x5 S = some res → Zt E Γ 7 0 0 (wModel E a S) [(0, .ref (a 0)), (1, .int x1), (2, .int x2), (3, .int x3), (4, .int x4), (5, .int x5)] 44 []) (x1 : Int32) (x2 : Int32) (x3 : Int32) (x4 : Int32) (x5 : Int32) (x6 : Int32) (y1 : Int32) (y2 : Int32) (S : St) (h : f_X7_fetch_87 k44 x1 x2 x3 x4 x5 x6 y1 y2 S = some res) : Zt E Γ 7 0 0 (wModel E a S) [(0, .ref (a 0)), (1, .int x1), (2, .int x2), (3, .int x3), (4, .int x4), (5, .int x5), (6, .int x6)] 87 [.int y2, .int y1, .ref (a 8)] := by
  unfold f_X7_fetch_87 at h
  refine z_iast C (N := 10) (f := (S 27)) 8 rfl h (wModel E a (st 27 (upd (S 27) (Int32.toNatClampNeg y1) y2) S)) (wl_X7_fetch_2 E a S (upd (S 27) (Int32.toNatClampNeg y1) y2)) dX7_fetch_87 (fun h => ?_)
  refine z_iload C 6 rfl dX7_fetch_88 ?_
  refine z_if_eq C 147 (by decide) h dX7_fetch_90 (fun hc h => ?_) (fun hc h => ?_)
  · refine Zt_l [(0, .ref (a 0)), (1, .int x1), (2, .int x2), (3, .int x3), (4, .int x4), (5, .int x5)] [0, 1, 2, 3, 4, 5] rfl ?_
    exact L_X7_fetch_147 a C R k44 hk44 x1 x2 x3 x4 x5 (st 27 (upd (S 27) (Int32.toNatClampNeg y1) y2) S) h
  · refine z_aload_n C 0 rfl rfl dX7_fetch_93 ?_
    refine z_get C 0 rfl (C := RX7) (T := TX7) (N := 38) (ci := 7) rfl inw_X7_fetch_X7 0 (by decide) (ref := "EldestAgeModel") (List.mem_of_getElem? (i := 4) rfl) rfl (v := .ref (a 1)) rfl dX7_fetch_94 ?_
    refine z_iconst C (v := (4 : Int32)) (by decide) dX7_fetch_97 ?_
    refine z_iload C 5 rfl dX7_fetch_98 ?_
    refine z_imul C dX7_fetch_100 ?_
    refine z_iald C (N := 368) (f := (S 0)) 1 rfl h dX7_fetch_101 (fun h => ?_)
    refine z_iconst C (v := (1 : Int32)) (by decide) dX7_fetch_102 ?_
    refine z_icmp_ne C 147 (by decide) h dX7_fetch_103 (fun hc h => ?_) (fun hc h => ?_)
    · refine z_iload_n C 3 rfl rfl dX7_fetch_106 ?_
      refine z_bipush C (v := (10 : Int32)) (by decide) dX7_fetch_107 ?_
      refine z_iload C 5 rfl dX7_fetch_109 ?_
      refine z_iadd C dX7_fetch_111 ?_
      refine z_icmp_ne C 122 (by decide) h dX7_fetch_112 (fun hc h => ?_) (fun hc h => ?_)
      · refine z_aload_n C 0 rfl rfl dX7_fetch_115 ?_
        refine z_get C 0 rfl (C := RX7) (T := TX7) (N := 38) (ci := 7) rfl inw_X7_fetch_X7 26 (by decide) (ref := "EldestAgeModel") (List.mem_of_getElem? (i := 2) rfl) rfl (v := .int (S 26 0)) rfl dX7_fetch_116 ?_
        refine z_goto C 124 (by decide) dX7_fetch_119 ?_
        refine Zt_l [(0, .ref (a 0)), (1, .int x1), (2, .int x2), (3, .int x3), (5, .int x5)] [0, 1, 2, 3, 5] rfl ?_
        exact L_X7_fetch_124 a C R k44 hk44 x1 x2 x3 x5 (S 26 0) (st 27 (upd (S 27) (Int32.toNatClampNeg y1) y2) S) h
      · refine z_iload C 4 rfl dX7_fetch_122 ?_
        refine Zt_l [(0, .ref (a 0)), (1, .int x1), (2, .int x2), (3, .int x3), (5, .int x5)] [0, 1, 2, 3, 5] rfl ?_
        exact L_X7_fetch_124 a C R k44 hk44 x1 x2 x3 x5 x4 (st 27 (upd (S 27) (Int32.toNatClampNeg y1) y2) S) h
    · refine Zt_l [(0, .ref (a 0)), (1, .int x1), (2, .int x2), (3, .int x3), (4, .int x4), (5, .int x5)] [0, 1, 2, 3, 4, 5] rfl ?_
      exact L_X7_fetch_147 a C R k44 hk44 x1 x2 x3 x4 x5 (st 27 (upd (S 27) (Int32.toNatClampNeg y1) y2) S) h

set_option maxHeartbeats 4000000 in
set_option maxRecDepth 100000 in
theorem L_X7_fetch_196 {E : zEnv} {Γ : zG} (a : Nat → Nat) (C : zC E Γ cX7_fetch RX7 7 rm_X7_fetch wsX7_fetch) {res : (Int32 × St)} (R : zRi E Γ cX7_fetch 7 .int (wModel E a res.2) res.1) (x5 : Int32) (S : St) (h : f_X7_fetch_196 x5 S = some res) : Zt E Γ 7 0 0 (wModel E a S) [(5, .int x5)] 196 [] := by
  unfold f_X7_fetch_196 at h
  refine z_iload C 0 rfl dX7_fetch_196 ?_
  refine z_goto C 208 (by decide) dX7_fetch_198 ?_
  obtain rfl := Option.some.inj h
  exact R rfl 208 _ dX7_fetch_208

set_option maxHeartbeats 4000000 in
set_option maxRecDepth 100000 in
theorem L_X7_fetch_166 {E : zEnv} {Γ : zG} (a : Nat → Nat) (C : zC E Γ cX7_fetch RX7 7 rm_X7_fetch wsX7_fetch) {res : (Int32 × St)} (R : zRi E Γ cX7_fetch 7 .int (wModel E a res.2) res.1) (x1 : Int32) (x2 : Int32) (x3 : Int32) (x4 : Int32) (S : St) (h : f_X7_fetch_166 x1 x2 x3 x4 S = some res) : Zt E Γ 7 0 0 (wModel E a S) [(0, .ref (a 0)), (1, .int x1), (2, .int x2), (3, .int x3), (4, .int x4)] 166 [] := by
  unfold f_X7_fetch_166 at h
  refine z_aload_n C 0 rfl rfl dX7_fetch_166 ?_
  refine z_get C 0 rfl (C := RX7) (T := TX7) (N := 38) (ci := 7) rfl inw_X7_fetch_X7 26 (by decide) (ref := "EldestAgeModel") (List.mem_of_getElem? (i := 2) rfl) rfl (v := .int (S 26 0)) rfl dX7_fetch_167 ?_
  refine z_iconst C (v := (4 : Int32)) (by decide) dX7_fetch_170 ?_
  refine z_icmp_le C 177 (by decide) h dX7_fetch_171 (fun hc h => ?_) (fun hc h => ?_)
  · refine z_aload_n C 0 rfl rfl dX7_fetch_177 ?_
    refine z_iload_n C 1 rfl rfl dX7_fetch_178 ?_
    refine z_iload_n C 2 rfl rfl dX7_fetch_179 ?_
    obtain ⟨q1, e1, h⟩ := bd_e h
    refine z_callVi C (b := a 0) (As := [.int x1, .int x2]) (rest := []) (c_X7_layFetch E a x1 x2 S e1) rfl gX7_fetch_X7_layFetch rfl rfl rfl 2 rfl (by decide +kernel) ⟨Nat.le_of_ble_eq_true rfl, Nat.le_of_ble_eq_true rfl⟩ [0, 1, 2, 3, 4, 5, 6, 7, 8, 9, 10, 11, 12, 13, 14, 15, 16] (wl_X7_fetch_3 E a S) (by decide) (wl_X7_fetch_4 E a _ _) (wModel E a q1.2) (wl_X7_fetch_5 E a S q1.2) 0 7 rfl rfl rfl (Nat.le_of_ble_eq_true rfl) dX7_fetch_180 ⟨Nat.zero_le _, Nat.zero_le _⟩ _ rfl ?_
    refine z_istore C [(5, .int q1.1), (0, .ref (a 0)), (1, .int x1), (2, .int x2), (3, .int x3), (4, .int x4)] (by decide) rfl dX7_fetch_183 ?_
    refine z_iload C 0 rfl dX7_fetch_185 ?_
    refine z_bipush C (v := (-4 : Int32)) (by decide) dX7_fetch_187 ?_
    refine z_icmp_eq C 196 (by decide) h dX7_fetch_189 (fun hc h => ?_) (fun hc h => ?_)
    · refine Zt_l [(5, .int q1.1)] [0] rfl ?_
      exact L_X7_fetch_196 a C R q1.1 q1.2 h
    · refine z_iload_n C 4 rfl rfl dX7_fetch_192 ?_
      refine z_if_ne C 201 (by decide) h dX7_fetch_193 (fun hc h => ?_) (fun hc h => ?_)
      · refine Zt_l [(5, .int q1.1)] [0] rfl ?_
        exact L_X7_fetch_196 a C R q1.1 q1.2 h
      · refine z_aload_n C 1 rfl rfl dX7_fetch_201 ?_
        refine z_get C 0 rfl (C := RX7) (T := TX7) (N := 38) (ci := 7) rfl inw_X7_fetch_X7 29 (by decide) (ref := "EldestAgeModel") (List.mem_of_getElem? (i := 6) rfl) rfl (v := .ref (a 10)) rfl dX7_fetch_202 ?_
        refine z_iload C 5 rfl dX7_fetch_205 ?_
        refine z_iald C (N := 10) (f := (q1.2 29)) 10 rfl h dX7_fetch_207 (fun h => ?_)
        obtain rfl := Option.some.inj h
        exact R rfl 208 _ dX7_fetch_208
  · refine z_bipush C (v := (-2 : Int32)) (by decide) dX7_fetch_174 ?_
    obtain rfl := Option.some.inj h
    exact R rfl 176 _ dX7_fetch_176

set_option maxHeartbeats 4000000 in
set_option maxRecDepth 100000 in
theorem L_X7_fetch_153 {E : zEnv} {Γ : zG} (a : Nat → Nat) (C : zC E Γ cX7_fetch RX7 7 rm_X7_fetch wsX7_fetch) {res : (Int32 × St)} (R : zRi E Γ cX7_fetch 7 .int (wModel E a res.2) res.1) (x1 : Int32) (x2 : Int32) (x3 : Int32) (x4 : Int32) (S : St) (h : f_X7_fetch_153 x1 x2 x3 x4 S = some res) : Zt E Γ 7 0 0 (wModel E a S) [(0, .ref (a 0)), (1, .int x1), (2, .int x2), (3, .int x3), (4, .int x4)] 153 [] := by
  unfold f_X7_fetch_153 at h
  refine z_iload_n C 3 rfl rfl dX7_fetch_153 ?_
  refine z_if_eq C 166 (by decide) h dX7_fetch_154 (fun hc h => ?_) (fun hc h => ?_)
  · exact L_X7_fetch_166 a C R x1 x2 x3 x4 S h
  · refine z_iload C 4 rfl dX7_fetch_157 ?_
    refine z_bipush C (v := (-4 : Int32)) (by decide) dX7_fetch_159 ?_
    refine z_icmp_ne C 166 (by decide) h dX7_fetch_161 (fun hc h => ?_) (fun hc h => ?_)
    · refine z_iconst C (v := (-1 : Int32)) (by decide) dX7_fetch_164 ?_
      obtain rfl := Option.some.inj h
      exact R rfl 165 _ dX7_fetch_165
    · exact L_X7_fetch_166 a C R x1 x2 x3 x4 S h

set_option maxHeartbeats 4000000 in
set_option maxRecDepth 100000 in
theorem L_X7_fetch_44 {E : zEnv} {Γ : zG} (a : Nat → Nat) (C : zC E Γ cX7_fetch RX7 7 rm_X7_fetch wsX7_fetch) {res : (Int32 × St)} (R : zRi E Γ cX7_fetch 7 .int (wModel E a res.2) res.1) : ∀ (n : Nat) (x1 : Int32) (x2 : Int32) (x3 : Int32) (x4 : Int32) (x5 : Int32) (S : St), f_X7_fetch_44 n x1 x2 x3 x4 x5 S = some res → Zt E Γ 7 0 0 (wModel E a S) [(0, .ref (a 0)), (1, .int x1), (2, .int x2), (3, .int x3), (4, .int x4), (5, .int x5)] 44 [] := by
  intro n
  induction n with
  | zero =>
    intro x1 x2 x3 x4 x5 S h
    cases h
  | succ n ih =>
    intro x1 x2 x3 x4 x5 S h
    rw [f_X7_fetch_44_s] at h
    refine z_iload C 5 rfl dX7_fetch_44 ?_
    refine z_aload_n C 0 rfl rfl dX7_fetch_46 ?_
    obtain ⟨q2, e2, h⟩ := bd_e h
    refine z_callVi C (b := a 0) (As := []) (rest := [.int x5]) (c_X7_people E a S e2) rfl gX7_fetch_X7_people rfl rfl rfl 0 rfl (by decide +kernel) ⟨Nat.le_of_ble_eq_true rfl, Nat.le_of_ble_eq_true rfl⟩ [0, 1, 2, 3, 4, 5, 6, 7, 8, 9, 10, 11, 12, 13, 14, 15, 16] (wl_X7_fetch_3 E a S) (by decide) rfl (wModel E a S) (zrep_self (wl_X7_fetch_3 E a S)) 0 7 rfl rfl rfl (Nat.le_of_ble_eq_true rfl) dX7_fetch_47 ⟨Nat.zero_le _, Nat.zero_le _⟩ _ rfl ?_
    refine z_icmp_ge C 153 (by decide) h dX7_fetch_50 (fun hc h => ?_) (fun hc h => ?_)
    · refine Zt_l [(0, .ref (a 0)), (1, .int x1), (2, .int x2), (3, .int x3), (4, .int x4)] [0, 1, 2, 3, 4] rfl ?_
      exact L_X7_fetch_153 a C R x1 x2 x3 x4 S h
    · refine z_aload_n C 0 rfl rfl dX7_fetch_53 ?_
      refine z_iconst C (v := (0 : Int32)) (by decide) dX7_fetch_54 ?_
      refine z_iload C 5 rfl dX7_fetch_55 ?_
      refine z_iload_n C 1 rfl rfl dX7_fetch_57 ?_
      obtain ⟨q3, e3, h⟩ := bd_e h
      refine z_callVi C (b := a 0) (As := [.int (0 : Int32), .int x5, .int x1]) (rest := []) (c_X7_isAlive E a (0 : Int32) x5 x1 S e3) rfl gX7_fetch_X7_isAlive rfl rfl rfl 3 rfl (by decide +kernel) ⟨Nat.le_of_ble_eq_true rfl, Nat.le_of_ble_eq_true rfl⟩ [0, 1, 2, 3, 4, 5, 6, 7, 8, 9, 10, 11, 12, 13, 14, 15, 16] (wl_X7_fetch_3 E a S) (by decide) rfl (wModel E a S) (zrep_self (wl_X7_fetch_3 E a S)) 0 7 rfl rfl rfl (Nat.le_of_ble_eq_true rfl) dX7_fetch_58 ⟨Nat.zero_le _, Nat.zero_le _⟩ _ rfl ?_
      refine z_istore C [(6, .int q3), (0, .ref (a 0)), (1, .int x1), (2, .int x2), (3, .int x3), (4, .int x4), (5, .int x5)] (by decide) rfl dX7_fetch_61 ?_
      refine z_aload_n C 1 rfl rfl dX7_fetch_63 ?_
      refine z_get C 0 rfl (C := RX7) (T := TX7) (N := 38) (ci := 7) rfl inw_X7_fetch_X7 27 (by decide) (ref := "EldestAgeModel") (List.mem_of_getElem? (i := 3) rfl) rfl (v := .ref (a 8)) rfl dX7_fetch_64 ?_
      refine z_iload C 6 rfl dX7_fetch_67 ?_
      refine z_iload C 0 rfl dX7_fetch_69 ?_
      refine z_if_eq C 85 (by decide) h dX7_fetch_71 (fun hc h => ?_) (fun hc h => ?_)
      · refine z_bipush C (v := (-4 : Int32)) (by decide) dX7_fetch_85 ?_
        refine Zt_l [(0, .ref (a 0)), (1, .int x1), (2, .int x2), (3, .int x3), (4, .int x4), (5, .int x5), (6, .int q3)] [1, 2, 3, 4, 5, 6, 0] rfl ?_
        exact L_X7_fetch_87 a C R _ ih x1 x2 x3 x4 x5 q3 x5 (-4 : Int32) S h
      · refine z_aload_n C 1 rfl rfl dX7_fetch_74 ?_
        refine z_iconst C (v := (0 : Int32)) (by decide) dX7_fetch_75 ?_
        refine z_iload C 6 rfl dX7_fetch_76 ?_
        refine z_iload_n C 2 rfl rfl dX7_fetch_78 ?_
        obtain ⟨q4, e4, h⟩ := bd_e h
        refine z_callVi C (b := a 0) (As := [.int (0 : Int32), .int x5, .int x1]) (rest := [.int x5, .ref (a 8)]) (c_X7_homeOf E a (0 : Int32) x5 x1 S e4) rfl gX7_fetch_X7_homeOf rfl rfl rfl 3 rfl (by decide +kernel) ⟨Nat.le_of_ble_eq_true rfl, Nat.le_of_ble_eq_true rfl⟩ [0, 1, 2, 3, 4, 5, 6, 7, 8, 9, 10, 11, 12, 13, 14, 15, 16] (wl_X7_fetch_3 E a S) (by decide) rfl (wModel E a S) (zrep_self (wl_X7_fetch_3 E a S)) 0 7 rfl rfl rfl (Nat.le_of_ble_eq_true rfl) dX7_fetch_79 ⟨Nat.zero_le _, Nat.zero_le _⟩ _ rfl ?_
        refine z_goto C 87 (by decide) dX7_fetch_82 ?_
        refine Zt_l [(0, .ref (a 0)), (1, .int x1), (2, .int x2), (3, .int x3), (4, .int x4), (5, .int x5), (6, .int q3)] [1, 2, 3, 4, 5, 6, 0] rfl ?_
        exact L_X7_fetch_87 a C R _ ih x1 x2 x3 x4 x5 q3 x5 q4 S h

set_option maxHeartbeats 4000000 in
set_option maxRecDepth 100000 in
theorem L_X7_fetch_32 {E : zEnv} {Γ : zG} (a : Nat → Nat) (C : zC E Γ cX7_fetch RX7 7 rm_X7_fetch wsX7_fetch) {res : (Int32 × St)} (R : zRi E Γ cX7_fetch 7 .int (wModel E a res.2) res.1) (x1 : Int32) (x2 : Int32) (x3 : Int32) (S : St) (h : f_X7_fetch_32 x1 x2 x3 S = some res) : Zt E Γ 7 0 0 (wModel E a S) [(0, .ref (a 0)), (1, .int x1), (2, .int x2), (3, .int x3)] 32 [] := by
  unfold f_X7_fetch_32 at h
  refine z_aload_n C 0 rfl rfl dX7_fetch_32 ?_
  refine z_iconst C (v := (0 : Int32)) (by decide) dX7_fetch_33 ?_
  refine z_put C 0 rfl (C := RX7) (T := TX7) (N := 38) (ci := 7) rfl inw_X7_fetch_X7 tyX7 tyX7_ok nmX7 26 (by decide) (ref := "EldestAgeModel") (List.mem_of_getElem? (i := 2) rfl) rfl rfl (ty := .int) (v := .int (0 : Int32)) (by decide +kernel) rfl rfl (Nat.le_of_ble_eq_true rfl) (wModel E a (st 26 (fun _ => (0 : Int32)) S)) (wl_X7_fetch_1 E a S (0 : Int32)) dX7_fetch_34 ?_
  refine z_bipush C (v := (-4 : Int32)) (by decide) dX7_fetch_37 ?_
  refine z_istore C [(4, .int (-4 : Int32)), (0, .ref (a 0)), (1, .int x1), (2, .int x2), (3, .int x3)] (by decide) rfl dX7_fetch_39 ?_
  refine z_iconst C (v := (0 : Int32)) (by decide) dX7_fetch_41 ?_
  refine z_istore C [(5, .int (0 : Int32)), (4, .int (-4 : Int32)), (0, .ref (a 0)), (1, .int x1), (2, .int x2), (3, .int x3)] (by decide) rfl dX7_fetch_42 ?_
  refine Zt_l [(0, .ref (a 0)), (1, .int x1), (2, .int x2), (3, .int x3), (4, .int (-4 : Int32)), (5, .int (0 : Int32))] [2, 3, 4, 5, 1, 0] rfl ?_
  exact L_X7_fetch_44 a C R 1000 x1 x2 x3 (-4 : Int32) (0 : Int32) (st 26 (fun _ => (0 : Int32)) S) h

set_option maxHeartbeats 4000000 in
set_option maxRecDepth 100000 in
theorem L_X7_fetch {E : zEnv} {Γ : zG} (a : Nat → Nat) (C : zC E Γ cX7_fetch RX7 7 rm_X7_fetch wsX7_fetch) {res : (Int32 × St)} (R : zRi E Γ cX7_fetch 7 .int (wModel E a res.2) res.1) (x1 : Int32) (x2 : Int32) (x3 : Int32) (S : St) (h : f_X7_fetch x1 x2 x3 S = some res) : Zt E Γ 7 0 0 (wModel E a S) [(0, .ref (a 0)), (1, .int x1), (2, .int x2), (3, .int x3)] 0 [] := by
  unfold f_X7_fetch at h
  refine z_iload_n C 1 rfl rfl dX7_fetch_0 ?_
  obtain ⟨q5, e5, h⟩ := bd_e h
  refine z_callSi C (rest := []) (c_X7_isDay E x1 e5) gX7_fetch_X7_isDay rfl rfl rfl 1 rfl (by decide +kernel) ⟨Nat.le_of_ble_eq_true rfl, Nat.le_of_ble_eq_true rfl⟩ [] rfl (by decide) rfl (wModel E a S) rfl (Nat.le_of_ble_eq_true rfl) dX7_fetch_1 ⟨Nat.zero_le _, Nat.zero_le _⟩ _ rfl ?_
  refine z_if_eq C 30 (by decide) h dX7_fetch_4 (fun hc h => ?_) (fun hc h => ?_)
  · refine z_iconst C (v := (-1 : Int32)) (by decide) dX7_fetch_30 ?_
    obtain rfl := Option.some.inj h
    exact R rfl 31 _ dX7_fetch_31
  · refine z_iload_n C 3 rfl rfl dX7_fetch_7 ?_
    refine z_if_eq C 32 (by decide) h dX7_fetch_8 (fun hc h => ?_) (fun hc h => ?_)
    · exact L_X7_fetch_32 a C R x1 x2 x3 S h
    · refine z_iload_n C 3 rfl rfl dX7_fetch_11 ?_
      refine z_i2l C dX7_fetch_12 ?_
      refine z_ldc2 C (v := (10 : Int64)) (List.mem_of_getElem? (i := 1) rfl) dX7_fetch_13 ?_
      refine z_bipush C (v := (9 : Int32)) (by decide) dX7_fetch_16 ?_
      refine z_aload_n C 0 rfl rfl dX7_fetch_18 ?_
      obtain ⟨q6, e6, h⟩ := bd_e h
      refine z_callVi C (b := a 0) (As := []) (rest := [.int (9 : Int32), .long (10 : Int64), .long (Int32.toInt64 x3)]) (c_X7_people E a S e6) rfl gX7_fetch_X7_people rfl rfl rfl 0 rfl (by decide +kernel) ⟨Nat.le_of_ble_eq_true rfl, Nat.le_of_ble_eq_true rfl⟩ [0, 1, 2, 3, 4, 5, 6, 7, 8, 9, 10, 11, 12, 13, 14, 15, 16] (wl_X7_fetch_3 E a S) (by decide) rfl (wModel E a S) (zrep_self (wl_X7_fetch_3 E a S)) 0 7 rfl rfl rfl (Nat.le_of_ble_eq_true rfl) dX7_fetch_19 ⟨Nat.zero_le _, Nat.zero_le _⟩ _ rfl ?_
      refine z_iadd C dX7_fetch_22 ?_
      refine z_i2l C dX7_fetch_23 ?_
      obtain ⟨q7, e7, h⟩ := bd_e h
      refine z_callSi C (rest := []) (c_X7_in E (Int32.toInt64 x3) (10 : Int64) (Int32.toInt64 ((9 : Int32) + q6)) e7) gX7_fetch_X7_in rfl rfl rfl 3 rfl (by decide +kernel) ⟨Nat.le_of_ble_eq_true rfl, Nat.le_of_ble_eq_true rfl⟩ [] rfl (by decide) rfl (wModel E a S) rfl (Nat.le_of_ble_eq_true rfl) dX7_fetch_24 ⟨Nat.zero_le _, Nat.zero_le _⟩ _ rfl ?_
      refine z_if_ne C 32 (by decide) h dX7_fetch_27 (fun hc h => ?_) (fun hc h => ?_)
      · refine z_iconst C (v := (-1 : Int32)) (by decide) dX7_fetch_30 ?_
        obtain rfl := Option.some.inj h
        exact R rfl 31 _ dX7_fetch_31
      · exact L_X7_fetch_32 a C R x1 x2 x3 S h

theorem c_X7_fetch (E : zEnv) (a : Nat → Nat) (x1 : Int32) (x2 : Int32) (x3 : Int32) (S : St) {res : (Int32 × St)} (h : f_X7_fetch x1 x2 x3 S = some res) : Kti E yX7_fetch wsX7_fetch rm_X7_fetch (wModel E a S) (wModel E a res.2) [.ref (a 0), .int x1, .int x2, .int x3] res.1 :=
  z_enti (cc := cX7_fetch) (maxL := 7) (rt := .int) (by decide +kernel) rfl (Nat.le_of_ble_eq_true rfl) (fun Γ C R => L_X7_fetch a C R x1 x2 x3 S h)

abbrev rm_X7_expect : Room := { frames := 2, cells := 0, slots := 0, locals := 46 }
theorem inw_X7_expect_X7 : ∀ w ∈ wsX70, w ∈ wsX7_expect := fun _ h => List.mem_cons_of_mem _ (List.mem_append_right _ h)
set_option maxHeartbeats 4000000 in
theorem wl_X7_expect_0 (E : zEnv) (a : Nat → Nat) (S : St) : ([0, 1, 2, 3, 4, 5, 6, 7, 8, 9, 10, 11, 12, 13, 14, 15, 16] : List Nat).map (fun i => (wModel E a S)[i]?) = (wModel E a S).map some := rfl
set_option maxHeartbeats 4000000 in
theorem wl_X7_expect_1 (E : zEnv) (a : Nat → Nat) (S U : St) : (wModel E a U).map (fun q => q.1) = (wModel E a S).map (fun q => q.1) := rfl
set_option maxHeartbeats 4000000 in
theorem wl_X7_expect_2 (E : zEnv) (a : Nat → Nat) (S : St) (f : Nat → Int32) : (wModel E a (st 0 f S)) = (wModel E a S).set 1 (a 1, .inl (zI E, 368, .inl f)) := rfl
noncomputable def f_X7_expect (x1 : Int32) (x2 : Int32) (x3 : Int32) (S : St) : Option (Int32 × St) := ((f_X7_isHouse x1 S).bind (fun q1 => (if q1 = 0 then (some ((-1 : Int32), S)) else ((f_X7_isDay x2).bind (fun q2 => (if q2 = 0 then (some ((-1 : Int32), S)) else ((f_X7_in (Int32.toInt64 x3) (Int32.toInt64 x2) (35999 : Int64)).bind (fun q3 => (if q3 = 0 then (some ((-1 : Int32), S)) else (ix (90 : Int32) 368 (if (S 0 (Int32.toNatClampNeg (90 : Int32))) = (4 : Int32) then (some ((-3 : Int32), S)) else (ix ((76 : Int32) + ((3 : Int32) * (S 0 (Int32.toNatClampNeg (90 : Int32))))) 368 (ix (((76 : Int32) + ((3 : Int32) * (S 0 (Int32.toNatClampNeg (90 : Int32))))) + (1 : Int32)) 368 (ix (((76 : Int32) + ((3 : Int32) * (S 0 (Int32.toNatClampNeg (90 : Int32))))) + (2 : Int32)) 368 (ix (90 : Int32) 368 (ix (90 : Int32) 368 (some (((S 0 (Int32.toNatClampNeg (90 : Int32))) + (1 : Int32)), (st 0 (upd (upd (upd (upd (S 0) (Int32.toNatClampNeg ((76 : Int32) + ((3 : Int32) * (S 0 (Int32.toNatClampNeg (90 : Int32)))))) x1) (Int32.toNatClampNeg (((76 : Int32) + ((3 : Int32) * (S 0 (Int32.toNatClampNeg (90 : Int32))))) + (1 : Int32))) x2) (Int32.toNatClampNeg (((76 : Int32) + ((3 : Int32) * (S 0 (Int32.toNatClampNeg (90 : Int32))))) + (2 : Int32))) x3) (Int32.toNatClampNeg (90 : Int32)) (((upd (upd (upd (S 0) (Int32.toNatClampNeg ((76 : Int32) + ((3 : Int32) * (S 0 (Int32.toNatClampNeg (90 : Int32)))))) x1) (Int32.toNatClampNeg (((76 : Int32) + ((3 : Int32) * (S 0 (Int32.toNatClampNeg (90 : Int32))))) + (1 : Int32))) x2) (Int32.toNatClampNeg (((76 : Int32) + ((3 : Int32) * (S 0 (Int32.toNatClampNeg (90 : Int32))))) + (2 : Int32))) x3) (Int32.toNatClampNeg (90 : Int32))) + (1 : Int32))) (st 0 (upd (upd (upd (S 0) (Int32.toNatClampNeg ((76 : Int32) + ((3 : Int32) * (S 0 (Int32.toNatClampNeg (90 : Int32)))))) x1) (Int32.toNatClampNeg (((76 : Int32) + ((3 : Int32) * (S 0 (Int32.toNatClampNeg (90 : Int32))))) + (1 : Int32))) x2) (Int32.toNatClampNeg (((76 : Int32) + ((3 : Int32) * (S 0 (Int32.toNatClampNeg (90 : Int32))))) + (2 : Int32))) x3) (st 0 (upd (upd (S 0) (Int32.toNatClampNeg ((76 : Int32) + ((3 : Int32) * (S 0 (Int32.toNatClampNeg (90 : Int32)))))) x1) (Int32.toNatClampNeg (((76 : Int32) + ((3 : Int32) * (S 0 (Int32.toNatClampNeg (90 : Int32))))) + (1 : Int32))) x2) (st 0 (upd (S 0) (Int32.toNatClampNeg ((76 : Int32) + ((3 : Int32) * (S 0 (Int32.toNatClampNeg (90 : Int32)))))) x1) S))))))))))))))))))))))
set_option maxHeartbeats 4000000 in
set_option maxRecDepth 100000 in
theorem L_X7_expect {E : zEnv} {Γ : zG} (a : Nat → Nat) (C : zC E Γ cX7_expect RX7 5 rm_X7_expect wsX7_expect) {res : (Int32 × St)} (R : zRi E Γ cX7_expect 5 .int (wModel E a res.2) res.1) (x1 : Int32) (x2 : Int32) (x3 : Int32) (S : St) (h : f_X7_expect x1 x2 x3 S = some res) : Zt E Γ 5 0 0 (wModel E a S) [(0, .ref (a 0)), (1, .int x1), (2, .int x2), (3, .int x3)] 0 [] := by
  unfold f_X7_expect at h
  refine z_aload_n C 0 rfl rfl dX7_expect_0 ?_
  refine z_iload_n C 1 rfl rfl dX7_expect_1 ?_
  obtain ⟨q1, e1, h⟩ := bd_e h
  refine z_callVi C (b := a 0) (As := [.int x1]) (rest := []) (c_X7_isHouse E a x1 S e1) rfl gX7_expect_X7_isHouse rfl rfl rfl 1 rfl (by decide +kernel) ⟨Nat.le_of_ble_eq_true rfl, Nat.le_of_ble_eq_true rfl⟩ [0, 1, 2, 3, 4, 5, 6, 7, 8, 9, 10, 11, 12, 13, 14, 15, 16] (wl_X7_expect_0 E a S) (by decide) rfl (wModel E a S) (zrep_self (wl_X7_expect_0 E a S)) 0 7 rfl rfl rfl (Nat.le_of_ble_eq_true rfl) dX7_expect_2 ⟨Nat.zero_le _, Nat.zero_le _⟩ _ rfl ?_
  refine z_if_eq C 28 (by decide) h dX7_expect_5 (fun hc h => ?_) (fun hc h => ?_)
  · refine z_iconst C (v := (-1 : Int32)) (by decide) dX7_expect_28 ?_
    obtain rfl := Option.some.inj h
    exact R rfl 29 _ dX7_expect_29
  · refine z_iload_n C 2 rfl rfl dX7_expect_8 ?_
    obtain ⟨q2, e2, h⟩ := bd_e h
    refine z_callSi C (rest := []) (c_X7_isDay E x2 e2) gX7_expect_X7_isDay rfl rfl rfl 1 rfl (by decide +kernel) ⟨Nat.le_of_ble_eq_true rfl, Nat.le_of_ble_eq_true rfl⟩ [] rfl (by decide) rfl (wModel E a S) rfl (Nat.le_of_ble_eq_true rfl) dX7_expect_9 ⟨Nat.zero_le _, Nat.zero_le _⟩ _ rfl ?_
    refine z_if_eq C 28 (by decide) h dX7_expect_12 (fun hc h => ?_) (fun hc h => ?_)
    · refine z_iconst C (v := (-1 : Int32)) (by decide) dX7_expect_28 ?_
      obtain rfl := Option.some.inj h
      exact R rfl 29 _ dX7_expect_29
    · refine z_iload_n C 3 rfl rfl dX7_expect_15 ?_
      refine z_i2l C dX7_expect_16 ?_
      refine z_iload_n C 2 rfl rfl dX7_expect_17 ?_
      refine z_i2l C dX7_expect_18 ?_
      refine z_ldc2 C (v := (35999 : Int64)) (List.mem_of_getElem? (i := 1) rfl) dX7_expect_19 ?_
      obtain ⟨q3, e3, h⟩ := bd_e h
      refine z_callSi C (rest := []) (c_X7_in E (Int32.toInt64 x3) (Int32.toInt64 x2) (35999 : Int64) e3) gX7_expect_X7_in rfl rfl rfl 3 rfl (by decide +kernel) ⟨Nat.le_of_ble_eq_true rfl, Nat.le_of_ble_eq_true rfl⟩ [] rfl (by decide) rfl (wModel E a S) rfl (Nat.le_of_ble_eq_true rfl) dX7_expect_22 ⟨Nat.zero_le _, Nat.zero_le _⟩ _ rfl ?_
      refine z_if_ne C 30 (by decide) h dX7_expect_25 (fun hc h => ?_) (fun hc h => ?_)
      · refine z_iconst C (v := (-1 : Int32)) (by decide) dX7_expect_28 ?_
        obtain rfl := Option.some.inj h
        exact R rfl 29 _ dX7_expect_29
      · refine z_aload_n C 0 rfl rfl dX7_expect_30 ?_
        refine z_get C 0 rfl (C := RX7) (T := TX7) (N := 38) (ci := 7) rfl inw_X7_expect_X7 0 (by decide) (ref := "EldestAgeModel") (List.mem_of_getElem? (i := 2) rfl) rfl (v := .ref (a 1)) rfl dX7_expect_31 ?_
        refine z_bipush C (v := (90 : Int32)) (by decide) dX7_expect_34 ?_
        refine z_iald C (N := 368) (f := (S 0)) 1 rfl h dX7_expect_36 (fun h => ?_)
        refine z_istore C [(4, .int (S 0 (Int32.toNatClampNeg (90 : Int32)))), (0, .ref (a 0)), (1, .int x1), (2, .int x2), (3, .int x3)] (by decide) rfl dX7_expect_37 ?_
        refine z_iload C 0 rfl dX7_expect_39 ?_
        refine z_iconst C (v := (4 : Int32)) (by decide) dX7_expect_41 ?_
        refine z_icmp_ne C 48 (by decide) h dX7_expect_42 (fun hc h => ?_) (fun hc h => ?_)
        · refine z_bipush C (v := (-3 : Int32)) (by decide) dX7_expect_45 ?_
          obtain rfl := Option.some.inj h
          exact R rfl 47 _ dX7_expect_47
        · refine z_aload_n C 1 rfl rfl dX7_expect_48 ?_
          refine z_get C 0 rfl (C := RX7) (T := TX7) (N := 38) (ci := 7) rfl inw_X7_expect_X7 0 (by decide) (ref := "EldestAgeModel") (List.mem_of_getElem? (i := 2) rfl) rfl (v := .ref (a 1)) rfl dX7_expect_49 ?_
          refine z_bipush C (v := (76 : Int32)) (by decide) dX7_expect_52 ?_
          refine z_iconst C (v := (3 : Int32)) (by decide) dX7_expect_54 ?_
          refine z_iload C 0 rfl dX7_expect_55 ?_
          refine z_imul C dX7_expect_57 ?_
          refine z_iadd C dX7_expect_58 ?_
          refine z_iload_n C 2 rfl rfl dX7_expect_59 ?_
          refine z_iast C (N := 368) (f := (S 0)) 1 rfl h (wModel E a (st 0 (upd (S 0) (Int32.toNatClampNeg ((76 : Int32) + ((3 : Int32) * (S 0 (Int32.toNatClampNeg (90 : Int32)))))) x1) S)) (wl_X7_expect_2 E a S (upd (S 0) (Int32.toNatClampNeg ((76 : Int32) + ((3 : Int32) * (S 0 (Int32.toNatClampNeg (90 : Int32)))))) x1)) dX7_expect_60 (fun h => ?_)
          refine z_aload_n C 1 rfl rfl dX7_expect_61 ?_
          refine z_get C 0 rfl (C := RX7) (T := TX7) (N := 38) (ci := 7) rfl inw_X7_expect_X7 0 (by decide) (ref := "EldestAgeModel") (List.mem_of_getElem? (i := 2) rfl) rfl (v := .ref (a 1)) rfl dX7_expect_62 ?_
          refine z_bipush C (v := (76 : Int32)) (by decide) dX7_expect_65 ?_
          refine z_iconst C (v := (3 : Int32)) (by decide) dX7_expect_67 ?_
          refine z_iload C 0 rfl dX7_expect_68 ?_
          refine z_imul C dX7_expect_70 ?_
          refine z_iadd C dX7_expect_71 ?_
          refine z_iconst C (v := (1 : Int32)) (by decide) dX7_expect_72 ?_
          refine z_iadd C dX7_expect_73 ?_
          refine z_iload_n C 3 rfl rfl dX7_expect_74 ?_
          refine z_iast C (N := 368) (f := (upd (S 0) (Int32.toNatClampNeg ((76 : Int32) + ((3 : Int32) * (S 0 (Int32.toNatClampNeg (90 : Int32)))))) x1)) 1 rfl h (wModel E a (st 0 (upd (upd (S 0) (Int32.toNatClampNeg ((76 : Int32) + ((3 : Int32) * (S 0 (Int32.toNatClampNeg (90 : Int32)))))) x1) (Int32.toNatClampNeg (((76 : Int32) + ((3 : Int32) * (S 0 (Int32.toNatClampNeg (90 : Int32))))) + (1 : Int32))) x2) (st 0 (upd (S 0) (Int32.toNatClampNeg ((76 : Int32) + ((3 : Int32) * (S 0 (Int32.toNatClampNeg (90 : Int32)))))) x1) S))) (wl_X7_expect_2 E a (st 0 (upd (S 0) (Int32.toNatClampNeg ((76 : Int32) + ((3 : Int32) * (S 0 (Int32.toNatClampNeg (90 : Int32)))))) x1) S) (upd (upd (S 0) (Int32.toNatClampNeg ((76 : Int32) + ((3 : Int32) * (S 0 (Int32.toNatClampNeg (90 : Int32)))))) x1) (Int32.toNatClampNeg (((76 : Int32) + ((3 : Int32) * (S 0 (Int32.toNatClampNeg (90 : Int32))))) + (1 : Int32))) x2)) dX7_expect_75 (fun h => ?_)
          refine z_aload_n C 1 rfl rfl dX7_expect_76 ?_
          refine z_get C 0 rfl (C := RX7) (T := TX7) (N := 38) (ci := 7) rfl inw_X7_expect_X7 0 (by decide) (ref := "EldestAgeModel") (List.mem_of_getElem? (i := 2) rfl) rfl (v := .ref (a 1)) rfl dX7_expect_77 ?_
          refine z_bipush C (v := (76 : Int32)) (by decide) dX7_expect_80 ?_
          refine z_iconst C (v := (3 : Int32)) (by decide) dX7_expect_82 ?_
          refine z_iload C 0 rfl dX7_expect_83 ?_
          refine z_imul C dX7_expect_85 ?_
          refine z_iadd C dX7_expect_86 ?_
          refine z_iconst C (v := (2 : Int32)) (by decide) dX7_expect_87 ?_
          refine z_iadd C dX7_expect_88 ?_
          refine z_iload_n C 4 rfl rfl dX7_expect_89 ?_
          refine z_iast C (N := 368) (f := (upd (upd (S 0) (Int32.toNatClampNeg ((76 : Int32) + ((3 : Int32) * (S 0 (Int32.toNatClampNeg (90 : Int32)))))) x1) (Int32.toNatClampNeg (((76 : Int32) + ((3 : Int32) * (S 0 (Int32.toNatClampNeg (90 : Int32))))) + (1 : Int32))) x2)) 1 rfl h (wModel E a (st 0 (upd (upd (upd (S 0) (Int32.toNatClampNeg ((76 : Int32) + ((3 : Int32) * (S 0 (Int32.toNatClampNeg (90 : Int32)))))) x1) (Int32.toNatClampNeg (((76 : Int32) + ((3 : Int32) * (S 0 (Int32.toNatClampNeg (90 : Int32))))) + (1 : Int32))) x2) (Int32.toNatClampNeg (((76 : Int32) + ((3 : Int32) * (S 0 (Int32.toNatClampNeg (90 : Int32))))) + (2 : Int32))) x3) (st 0 (upd (upd (S 0) (Int32.toNatClampNeg ((76 : Int32) + ((3 : Int32) * (S 0 (Int32.toNatClampNeg (90 : Int32)))))) x1) (Int32.toNatClampNeg (((76 : Int32) + ((3 : Int32) * (S 0 (Int32.toNatClampNeg (90 : Int32))))) + (1 : Int32))) x2) (st 0 (upd (S 0) (Int32.toNatClampNeg ((76 : Int32) + ((3 : Int32) * (S 0 (Int32.toNatClampNeg (90 : Int32)))))) x1) S)))) (wl_X7_expect_2 E a (st 0 (upd (upd (S 0) (Int32.toNatClampNeg ((76 : Int32) + ((3 : Int32) * (S 0 (Int32.toNatClampNeg (90 : Int32)))))) x1) (Int32.toNatClampNeg (((76 : Int32) + ((3 : Int32) * (S 0 (Int32.toNatClampNeg (90 : Int32))))) + (1 : Int32))) x2) (st 0 (upd (S 0) (Int32.toNatClampNeg ((76 : Int32) + ((3 : Int32) * (S 0 (Int32.toNatClampNeg (90 : Int32)))))) x1) S)) (upd (upd (upd (S 0) (Int32.toNatClampNeg ((76 : Int32) + ((3 : Int32) * (S 0 (Int32.toNatClampNeg (90 : Int32)))))) x1) (Int32.toNatClampNeg (((76 : Int32) + ((3 : Int32) * (S 0 (Int32.toNatClampNeg (90 : Int32))))) + (1 : Int32))) x2) (Int32.toNatClampNeg (((76 : Int32) + ((3 : Int32) * (S 0 (Int32.toNatClampNeg (90 : Int32))))) + (2 : Int32))) x3)) dX7_expect_90 (fun h => ?_)
          refine z_aload_n C 1 rfl rfl dX7_expect_91 ?_
          refine z_get C 0 rfl (C := RX7) (T := TX7) (N := 38) (ci := 7) rfl inw_X7_expect_X7 0 (by decide) (ref := "EldestAgeModel") (List.mem_of_getElem? (i := 2) rfl) rfl (v := .ref (a 1)) rfl dX7_expect_92 ?_
          refine z_bipush C (v := (90 : Int32)) (by decide) dX7_expect_95 ?_
          refine z_dup2 C rfl rfl dX7_expect_97 ?_
          refine z_iald C (N := 368) (f := (upd (upd (upd (S 0) (Int32.toNatClampNeg ((76 : Int32) + ((3 : Int32) * (S 0 (Int32.toNatClampNeg (90 : Int32)))))) x1) (Int32.toNatClampNeg (((76 : Int32) + ((3 : Int32) * (S 0 (Int32.toNatClampNeg (90 : Int32))))) + (1 : Int32))) x2) (Int32.toNatClampNeg (((76 : Int32) + ((3 : Int32) * (S 0 (Int32.toNatClampNeg (90 : Int32))))) + (2 : Int32))) x3)) 1 rfl h dX7_expect_98 (fun h => ?_)
          refine z_iconst C (v := (1 : Int32)) (by decide) dX7_expect_99 ?_
          refine z_iadd C dX7_expect_100 ?_
          refine z_iast C (N := 368) (f := (upd (upd (upd (S 0) (Int32.toNatClampNeg ((76 : Int32) + ((3 : Int32) * (S 0 (Int32.toNatClampNeg (90 : Int32)))))) x1) (Int32.toNatClampNeg (((76 : Int32) + ((3 : Int32) * (S 0 (Int32.toNatClampNeg (90 : Int32))))) + (1 : Int32))) x2) (Int32.toNatClampNeg (((76 : Int32) + ((3 : Int32) * (S 0 (Int32.toNatClampNeg (90 : Int32))))) + (2 : Int32))) x3)) 1 rfl h (wModel E a (st 0 (upd (upd (upd (upd (S 0) (Int32.toNatClampNeg ((76 : Int32) + ((3 : Int32) * (S 0 (Int32.toNatClampNeg (90 : Int32)))))) x1) (Int32.toNatClampNeg (((76 : Int32) + ((3 : Int32) * (S 0 (Int32.toNatClampNeg (90 : Int32))))) + (1 : Int32))) x2) (Int32.toNatClampNeg (((76 : Int32) + ((3 : Int32) * (S 0 (Int32.toNatClampNeg (90 : Int32))))) + (2 : Int32))) x3) (Int32.toNatClampNeg (90 : Int32)) (((upd (upd (upd (S 0) (Int32.toNatClampNeg ((76 : Int32) + ((3 : Int32) * (S 0 (Int32.toNatClampNeg (90 : Int32)))))) x1) (Int32.toNatClampNeg (((76 : Int32) + ((3 : Int32) * (S 0 (Int32.toNatClampNeg (90 : Int32))))) + (1 : Int32))) x2) (Int32.toNatClampNeg (((76 : Int32) + ((3 : Int32) * (S 0 (Int32.toNatClampNeg (90 : Int32))))) + (2 : Int32))) x3) (Int32.toNatClampNeg (90 : Int32))) + (1 : Int32))) (st 0 (upd (upd (upd (S 0) (Int32.toNatClampNeg ((76 : Int32) + ((3 : Int32) * (S 0 (Int32.toNatClampNeg (90 : Int32)))))) x1) (Int32.toNatClampNeg (((76 : Int32) + ((3 : Int32) * (S 0 (Int32.toNatClampNeg (90 : Int32))))) + (1 : Int32))) x2) (Int32.toNatClampNeg (((76 : Int32) + ((3 : Int32) * (S 0 (Int32.toNatClampNeg (90 : Int32))))) + (2 : Int32))) x3) (st 0 (upd (upd (S 0) (Int32.toNatClampNeg ((76 : Int32) + ((3 : Int32) * (S 0 (Int32.toNatClampNeg (90 : Int32)))))) x1) (Int32.toNatClampNeg (((76 : Int32) + ((3 : Int32) * (S 0 (Int32.toNatClampNeg (90 : Int32))))) + (1 : Int32))) x2) (st 0 (upd (S 0) (Int32.toNatClampNeg ((76 : Int32) + ((3 : Int32) * (S 0 (Int32.toNatClampNeg (90 : Int32)))))) x1) S))))) (wl_X7_expect_2 E a (st 0 (upd (upd (upd (S 0) (Int32.toNatClampNeg ((76 : Int32) + ((3 : Int32) * (S 0 (Int32.toNatClampNeg (90 : Int32)))))) x1) (Int32.toNatClampNeg (((76 : Int32) + ((3 : Int32) * (S 0 (Int32.toNatClampNeg (90 : Int32))))) + (1 : Int32))) x2) (Int32.toNatClampNeg (((76 : Int32) + ((3 : Int32) * (S 0 (Int32.toNatClampNeg (90 : Int32))))) + (2 : Int32))) x3) (st 0 (upd (upd (S 0) (Int32.toNatClampNeg ((76 : Int32) + ((3 : Int32) * (S 0 (Int32.toNatClampNeg (90 : Int32)))))) x1) (Int32.toNatClampNeg (((76 : Int32) + ((3 : Int32) * (S 0 (Int32.toNatClampNeg (90 : Int32))))) + (1 : Int32))) x2) (st 0 (upd (S 0) (Int32.toNatClampNeg ((76 : Int32) + ((3 : Int32) * (S 0 (Int32.toNatClampNeg (90 : Int32)))))) x1) S))) (upd (upd (upd (upd (S 0) (Int32.toNatClampNeg ((76 : Int32) + ((3 : Int32) * (S 0 (Int32.toNatClampNeg (90 : Int32)))))) x1) (Int32.toNatClampNeg (((76 : Int32) + ((3 : Int32) * (S 0 (Int32.toNatClampNeg (90 : Int32))))) + (1 : Int32))) x2) (Int32.toNatClampNeg (((76 : Int32) + ((3 : Int32) * (S 0 (Int32.toNatClampNeg (90 : Int32))))) + (2 : Int32))) x3) (Int32.toNatClampNeg (90 : Int32)) (((upd (upd (upd (S 0) (Int32.toNatClampNeg ((76 : Int32) + ((3 : Int32) * (S 0 (Int32.toNatClampNeg (90 : Int32)))))) x1) (Int32.toNatClampNeg (((76 : Int32) + ((3 : Int32) * (S 0 (Int32.toNatClampNeg (90 : Int32))))) + (1 : Int32))) x2) (Int32.toNatClampNeg (((76 : Int32) + ((3 : Int32) * (S 0 (Int32.toNatClampNeg (90 : Int32))))) + (2 : Int32))) x3) (Int32.toNatClampNeg (90 : Int32))) + (1 : Int32)))) dX7_expect_101 (fun h => ?_)
          refine z_iload C 0 rfl dX7_expect_102 ?_
          refine z_iconst C (v := (1 : Int32)) (by decide) dX7_expect_104 ?_
          refine z_iadd C dX7_expect_105 ?_
          obtain rfl := Option.some.inj h
          exact R rfl 106 _ dX7_expect_106

theorem c_X7_expect (E : zEnv) (a : Nat → Nat) (x1 : Int32) (x2 : Int32) (x3 : Int32) (S : St) {res : (Int32 × St)} (h : f_X7_expect x1 x2 x3 S = some res) : Kti E yX7_expect wsX7_expect rm_X7_expect (wModel E a S) (wModel E a res.2) [.ref (a 0), .int x1, .int x2, .int x3] res.1 :=
  z_enti (cc := cX7_expect) (maxL := 5) (rt := .int) (by decide +kernel) rfl (Nat.le_of_ble_eq_true rfl) (fun Γ C R => L_X7_expect a C R x1 x2 x3 S h)

abbrev rm_X7_canBe : Room := { frames := 0, cells := 0, slots := 0, locals := 0 }
theorem inw_X7_canBe_X7 : ∀ w ∈ wsX70, w ∈ wsX7_canBe := fun _ h => List.mem_cons_of_mem _ (List.mem_append_right _ h)
noncomputable def f_X7_canBe_122 (k6 : Int32 → Int32 → Int32 → Int32 → Int32 → St → Option Int32) (x1 : Int32) (x2 : Int32) (x3 : Int32) (x5 : Int32) (y0 : Int32) (S : St) : Option Int32 := (k6 x1 x2 x3 y0 (x5 + (1 : Int32)) S)
noncomputable def f_X7_canBe_117 (k6 : Int32 → Int32 → Int32 → Int32 → Int32 → St → Option Int32) (x1 : Int32) (x2 : Int32) (x3 : Int32) (x5 : Int32) (S : St) : Option Int32 := (f_X7_canBe_122 k6 x1 x2 x3 x5 (1 : Int32) S)
noncomputable def f_X7_canBe_121 (k6 : Int32 → Int32 → Int32 → Int32 → Int32 → St → Option Int32) (x1 : Int32) (x2 : Int32) (x3 : Int32) (x5 : Int32) (S : St) : Option Int32 := (f_X7_canBe_122 k6 x1 x2 x3 x5 (0 : Int32) S)
noncomputable def f_X7_canBe_66 (k6 : Int32 → Int32 → Int32 → Int32 → Int32 → St → Option Int32) (x1 : Int32) (x2 : Int32) (x3 : Int32) (x4 : Int32) (x5 : Int32) (x6 : Int32) (x7 : Int32) (y0 : Int32) (S : St) : Option Int32 := (if x4 = 0 then (f_X7_canBe_121 k6 x1 x2 x3 x5 S) else (if y0 = 0 then (if x7 = 0 then (f_X7_canBe_117 k6 x1 x2 x3 x5 S) else (ix (x6 + (2 : Int32)) 368 (if (S 0 (Int32.toNatClampNeg (x6 + (2 : Int32)))) ≤ x2 then (f_X7_canBe_121 k6 x1 x2 x3 x5 S) else (f_X7_canBe_117 k6 x1 x2 x3 x5 S)))) else (if x7 = 0 then (f_X7_canBe_121 k6 x1 x2 x3 x5 S) else (ix (x6 + (1 : Int32)) 368 (if x2 < (S 0 (Int32.toNatClampNeg (x6 + (1 : Int32)))) then (f_X7_canBe_121 k6 x1 x2 x3 x5 S) else (f_X7_canBe_117 k6 x1 x2 x3 x5 S))))))
noncomputable def f_X7_canBe_49 (k6 : Int32 → Int32 → Int32 → Int32 → Int32 → St → Option Int32) (x1 : Int32) (x2 : Int32) (x3 : Int32) (x4 : Int32) (x5 : Int32) (x6 : Int32) (y0 : Int32) (S : St) : Option Int32 := (if ((x3 >>> (x5 &&& 31)) &&& (1 : Int32)) = (1 : Int32) then (f_X7_canBe_66 k6 x1 x2 x3 x4 x5 x6 y0 (1 : Int32) S) else (f_X7_canBe_66 k6 x1 x2 x3 x4 x5 x6 y0 (0 : Int32) S))
noncomputable def f_X7_canBe_48 (k6 : Int32 → Int32 → Int32 → Int32 → Int32 → St → Option Int32) (x1 : Int32) (x2 : Int32) (x3 : Int32) (x4 : Int32) (x5 : Int32) (x6 : Int32) (S : St) : Option Int32 := (f_X7_canBe_49 k6 x1 x2 x3 x4 x5 x6 (0 : Int32) S)
noncomputable def f_X7_canBe_6 (n : Nat) : Int32 → Int32 → Int32 → Int32 → Int32 → St → Option Int32 := Nat.rec (motive := fun _ => Int32 → Int32 → Int32 → Int32 → Int32 → St → Option Int32) (fun _ _ _ _ _ _ => none) (fun _ ih => fun x1 x2 x3 x4 x5 S => (if (4 : Int32) ≤ x5 then (zb x4 (some x4)) else (ix (90 : Int32) 368 (if (S 0 (Int32.toNatClampNeg (90 : Int32))) ≤ x5 then (f_X7_canBe_48 ih x1 x2 x3 x4 x5 ((76 : Int32) + ((3 : Int32) * x5)) S) else (ix ((76 : Int32) + ((3 : Int32) * x5)) 368 (if (S 0 (Int32.toNatClampNeg ((76 : Int32) + ((3 : Int32) * x5)))) = x1 then (f_X7_canBe_49 ih x1 x2 x3 x4 x5 ((76 : Int32) + ((3 : Int32) * x5)) (1 : Int32) S) else (f_X7_canBe_48 ih x1 x2 x3 x4 x5 ((76 : Int32) + ((3 : Int32) * x5)) S))))))) n
theorem f_X7_canBe_6_s (n : Nat) (x1 : Int32) (x2 : Int32) (x3 : Int32) (x4 : Int32) (x5 : Int32) (S : St) : f_X7_canBe_6 (n + 1) x1 x2 x3 x4 x5 S = (if (4 : Int32) ≤ x5 then (zb x4 (some x4)) else (ix (90 : Int32) 368 (if (S 0 (Int32.toNatClampNeg (90 : Int32))) ≤ x5 then (f_X7_canBe_48 (f_X7_canBe_6 n) x1 x2 x3 x4 x5 ((76 : Int32) + ((3 : Int32) * x5)) S) else (ix ((76 : Int32) + ((3 : Int32) * x5)) 368 (if (S 0 (Int32.toNatClampNeg ((76 : Int32) + ((3 : Int32) * x5)))) = x1 then (f_X7_canBe_49 (f_X7_canBe_6 n) x1 x2 x3 x4 x5 ((76 : Int32) + ((3 : Int32) * x5)) (1 : Int32) S) else (f_X7_canBe_48 (f_X7_canBe_6 n) x1 x2 x3 x4 x5 ((76 : Int32) + ((3 : Int32) * x5)) S)))))) := rfl
noncomputable def f_X7_canBe (x1 : Int32) (x2 : Int32) (x3 : Int32) (S : St) : Option Int32 := (f_X7_canBe_6 1000 x1 x2 x3 (1 : Int32) (0 : Int32) S)
set_option maxHeartbeats 4000000 in
set_option maxRecDepth 100000 in
theorem L_X7_canBe_122 {E : zEnv} {Γ : zG} (a : Nat → Nat) (C : zC E Γ cX7_canBe RX7 9 rm_X7_canBe wsX7_canBe) {res : Int32} {S : St} (R : zRi E Γ cX7_canBe 9 .boolean (wModel E a S) res) (k6 : Int32 → Int32 → Int32 → Int32 → Int32 → St → Option Int32) (hk6 : ∀ (x1 : Int32) (x2 : Int32) (x3 : Int32) (x4 : Int32) (x5 : Int32), k6 x1 x2 x3 x4 x5 S = some res → Zt E Γ 9 0 0 (wModel E a S) [(0, .ref (a 0)), (1, .int x1), (2, .int x2), (3, .int x3), (4, .int x4), (5, .int x5)] 6 []) (x1 : Int32) (x2 : Int32) (x3 : Int32) (x5 : Int32) (y0 : Int32) (h : f_X7_canBe_122 k6 x1 x2 x3 x5 y0 S = some res) : Zt E Γ 9 0 0 (wModel E a S) [(0, .ref (a 0)), (1, .int x1), (2, .int x2), (3, .int x3), (5, .int x5)] 122 [.int y0] := by
  unfold f_X7_canBe_122 at h
  refine z_istore C [(4, .int y0), (0, .ref (a 0)), (1, .int x1), (2, .int x2), (3, .int x3), (5, .int x5)] (by decide) rfl dX7_canBe_122 ?_
  refine z_iinc C [(5, .int (x5 + (1 : Int32))), (4, .int y0), (0, .ref (a 0)), (1, .int x1), (2, .int x2), (3, .int x3)] 5 rfl (by first | rfl | decide) (by decide) rfl dX7_canBe_124 ?_
  refine z_goto C 6 (by decide) dX7_canBe_127 ?_
  refine Zt_l [(0, .ref (a 0)), (1, .int x1), (2, .int x2), (3, .int x3), (4, .int y0), (5, .int (x5 + (1 : Int32)))] [2, 3, 4, 5, 1, 0] rfl ?_
  exact hk6 x1 x2 x3 y0 (x5 + (1 : Int32)) h

set_option maxHeartbeats 4000000 in
set_option maxRecDepth 100000 in
theorem L_X7_canBe_117 {E : zEnv} {Γ : zG} (a : Nat → Nat) (C : zC E Γ cX7_canBe RX7 9 rm_X7_canBe wsX7_canBe) {res : Int32} {S : St} (R : zRi E Γ cX7_canBe 9 .boolean (wModel E a S) res) (k6 : Int32 → Int32 → Int32 → Int32 → Int32 → St → Option Int32) (hk6 : ∀ (x1 : Int32) (x2 : Int32) (x3 : Int32) (x4 : Int32) (x5 : Int32), k6 x1 x2 x3 x4 x5 S = some res → Zt E Γ 9 0 0 (wModel E a S) [(0, .ref (a 0)), (1, .int x1), (2, .int x2), (3, .int x3), (4, .int x4), (5, .int x5)] 6 []) (x1 : Int32) (x2 : Int32) (x3 : Int32) (x5 : Int32) (h : f_X7_canBe_117 k6 x1 x2 x3 x5 S = some res) : Zt E Γ 9 0 0 (wModel E a S) [(0, .ref (a 0)), (1, .int x1), (2, .int x2), (3, .int x3), (5, .int x5)] 117 [] := by
  unfold f_X7_canBe_117 at h
  refine z_iconst C (v := (1 : Int32)) (by decide) dX7_canBe_117 ?_
  refine z_goto C 122 (by decide) dX7_canBe_118 ?_
  exact L_X7_canBe_122 a C R k6 hk6 x1 x2 x3 x5 (1 : Int32) h

set_option maxHeartbeats 4000000 in
set_option maxRecDepth 100000 in
theorem L_X7_canBe_121 {E : zEnv} {Γ : zG} (a : Nat → Nat) (C : zC E Γ cX7_canBe RX7 9 rm_X7_canBe wsX7_canBe) {res : Int32} {S : St} (R : zRi E Γ cX7_canBe 9 .boolean (wModel E a S) res) (k6 : Int32 → Int32 → Int32 → Int32 → Int32 → St → Option Int32) (hk6 : ∀ (x1 : Int32) (x2 : Int32) (x3 : Int32) (x4 : Int32) (x5 : Int32), k6 x1 x2 x3 x4 x5 S = some res → Zt E Γ 9 0 0 (wModel E a S) [(0, .ref (a 0)), (1, .int x1), (2, .int x2), (3, .int x3), (4, .int x4), (5, .int x5)] 6 []) (x1 : Int32) (x2 : Int32) (x3 : Int32) (x5 : Int32) (h : f_X7_canBe_121 k6 x1 x2 x3 x5 S = some res) : Zt E Γ 9 0 0 (wModel E a S) [(0, .ref (a 0)), (1, .int x1), (2, .int x2), (3, .int x3), (5, .int x5)] 121 [] := by
  unfold f_X7_canBe_121 at h
  refine z_iconst C (v := (0 : Int32)) (by decide) dX7_canBe_121 ?_
  exact L_X7_canBe_122 a C R k6 hk6 x1 x2 x3 x5 (0 : Int32) h

set_option maxHeartbeats 4000000 in
set_option maxRecDepth 100000 in
theorem L_X7_canBe_66 {E : zEnv} {Γ : zG} (a : Nat → Nat) (C : zC E Γ cX7_canBe RX7 9 rm_X7_canBe wsX7_canBe) {res : Int32} {S : St} (R : zRi E Γ cX7_canBe 9 .boolean (wModel E a S) res) (k6 : Int32 → Int32 → Int32 → Int32 → Int32 → St → Option Int32) (hk6 : ∀ (x1 : Int32) (x2 : Int32) (x3 : Int32) (x4 : Int32) (x5 : Int32), k6 x1 x2 x3 x4 x5 S = some res → Zt E Γ 9 0 0 (wModel E a S) [(0, .ref (a 0)), (1, .int x1), (2, .int x2), (3, .int x3), (4, .int x4), (5, .int x5)] 6 []) (x1 : Int32) (x2 : Int32) (x3 : Int32) (x4 : Int32) (x5 : Int32) (x6 : Int32) (x7 : Int32) (y0 : Int32) (h : f_X7_canBe_66 k6 x1 x2 x3 x4 x5 x6 x7 y0 S = some res) : Zt E Γ 9 0 0 (wModel E a S) [(0, .ref (a 0)), (1, .int x1), (2, .int x2), (3, .int x3), (4, .int x4), (5, .int x5), (6, .int x6), (7, .int x7)] 66 [.int y0] := by
  unfold f_X7_canBe_66 at h
  refine z_istore C [(8, .int y0), (0, .ref (a 0)), (1, .int x1), (2, .int x2), (3, .int x3), (4, .int x4), (5, .int x5), (6, .int x6), (7, .int x7)] (by decide) rfl dX7_canBe_66 ?_
  refine z_iload C 5 rfl dX7_canBe_68 ?_
  refine z_if_eq C 121 (by decide) h dX7_canBe_70 (fun hc h => ?_) (fun hc h => ?_)
  · refine Zt_l [(0, .ref (a 0)), (1, .int x1), (2, .int x2), (3, .int x3), (5, .int x5)] [1, 2, 3, 4, 6] rfl ?_
    exact L_X7_canBe_121 a C R k6 hk6 x1 x2 x3 x5 h
  · refine z_iload C 0 rfl dX7_canBe_73 ?_
    refine z_if_eq C 99 (by decide) h dX7_canBe_75 (fun hc h => ?_) (fun hc h => ?_)
    · refine z_iload C 8 rfl dX7_canBe_99 ?_
      refine z_if_eq C 117 (by decide) h dX7_canBe_101 (fun hc h => ?_) (fun hc h => ?_)
      · refine Zt_l [(0, .ref (a 0)), (1, .int x1), (2, .int x2), (3, .int x3), (5, .int x5)] [1, 2, 3, 4, 6] rfl ?_
        exact L_X7_canBe_117 a C R k6 hk6 x1 x2 x3 x5 h
      · refine z_aload_n C 1 rfl rfl dX7_canBe_104 ?_
        refine z_get C 0 rfl (C := RX7) (T := TX7) (N := 38) (ci := 7) rfl inw_X7_canBe_X7 0 (by decide) (ref := "EldestAgeModel") (List.mem_of_getElem? (i := 1) rfl) rfl (v := .ref (a 1)) rfl dX7_canBe_105 ?_
        refine z_iload C 7 rfl dX7_canBe_108 ?_
        refine z_iconst C (v := (2 : Int32)) (by decide) dX7_canBe_110 ?_
        refine z_iadd C dX7_canBe_111 ?_
        refine z_iald C (N := 368) (f := (S 0)) 1 rfl h dX7_canBe_112 (fun h => ?_)
        refine z_iload_n C 3 rfl rfl dX7_canBe_113 ?_
        refine z_icmp_le C 121 (by decide) h dX7_canBe_114 (fun hc h => ?_) (fun hc h => ?_)
        · refine Zt_l [(0, .ref (a 0)), (1, .int x1), (2, .int x2), (3, .int x3), (5, .int x5)] [1, 2, 3, 4, 6] rfl ?_
          exact L_X7_canBe_121 a C R k6 hk6 x1 x2 x3 x5 h
        · refine Zt_l [(0, .ref (a 0)), (1, .int x1), (2, .int x2), (3, .int x3), (5, .int x5)] [1, 2, 3, 4, 6] rfl ?_
          exact L_X7_canBe_117 a C R k6 hk6 x1 x2 x3 x5 h
    · refine z_iload C 8 rfl dX7_canBe_78 ?_
      refine z_if_eq C 121 (by decide) h dX7_canBe_80 (fun hc h => ?_) (fun hc h => ?_)
      · refine Zt_l [(0, .ref (a 0)), (1, .int x1), (2, .int x2), (3, .int x3), (5, .int x5)] [1, 2, 3, 4, 6] rfl ?_
        exact L_X7_canBe_121 a C R k6 hk6 x1 x2 x3 x5 h
      · refine z_aload_n C 1 rfl rfl dX7_canBe_83 ?_
        refine z_get C 0 rfl (C := RX7) (T := TX7) (N := 38) (ci := 7) rfl inw_X7_canBe_X7 0 (by decide) (ref := "EldestAgeModel") (List.mem_of_getElem? (i := 1) rfl) rfl (v := .ref (a 1)) rfl dX7_canBe_84 ?_
        refine z_iload C 7 rfl dX7_canBe_87 ?_
        refine z_iconst C (v := (1 : Int32)) (by decide) dX7_canBe_89 ?_
        refine z_iadd C dX7_canBe_90 ?_
        refine z_iald C (N := 368) (f := (S 0)) 1 rfl h dX7_canBe_91 (fun h => ?_)
        refine z_iload_n C 3 rfl rfl dX7_canBe_92 ?_
        refine z_icmp_gt C 121 (by decide) h dX7_canBe_93 (fun hc h => ?_) (fun hc h => ?_)
        · refine Zt_l [(0, .ref (a 0)), (1, .int x1), (2, .int x2), (3, .int x3), (5, .int x5)] [1, 2, 3, 4, 6] rfl ?_
          exact L_X7_canBe_121 a C R k6 hk6 x1 x2 x3 x5 h
        · refine z_goto C 117 (by decide) dX7_canBe_96 ?_
          refine Zt_l [(0, .ref (a 0)), (1, .int x1), (2, .int x2), (3, .int x3), (5, .int x5)] [1, 2, 3, 4, 6] rfl ?_
          exact L_X7_canBe_117 a C R k6 hk6 x1 x2 x3 x5 h

set_option maxHeartbeats 4000000 in
set_option maxRecDepth 100000 in
theorem L_X7_canBe_49 {E : zEnv} {Γ : zG} (a : Nat → Nat) (C : zC E Γ cX7_canBe RX7 9 rm_X7_canBe wsX7_canBe) {res : Int32} {S : St} (R : zRi E Γ cX7_canBe 9 .boolean (wModel E a S) res) (k6 : Int32 → Int32 → Int32 → Int32 → Int32 → St → Option Int32) (hk6 : ∀ (x1 : Int32) (x2 : Int32) (x3 : Int32) (x4 : Int32) (x5 : Int32), k6 x1 x2 x3 x4 x5 S = some res → Zt E Γ 9 0 0 (wModel E a S) [(0, .ref (a 0)), (1, .int x1), (2, .int x2), (3, .int x3), (4, .int x4), (5, .int x5)] 6 []) (x1 : Int32) (x2 : Int32) (x3 : Int32) (x4 : Int32) (x5 : Int32) (x6 : Int32) (y0 : Int32) (h : f_X7_canBe_49 k6 x1 x2 x3 x4 x5 x6 y0 S = some res) : Zt E Γ 9 0 0 (wModel E a S) [(0, .ref (a 0)), (1, .int x1), (2, .int x2), (3, .int x3), (4, .int x4), (5, .int x5), (6, .int x6)] 49 [.int y0] := by
  unfold f_X7_canBe_49 at h
  refine z_istore C [(7, .int y0), (0, .ref (a 0)), (1, .int x1), (2, .int x2), (3, .int x3), (4, .int x4), (5, .int x5), (6, .int x6)] (by decide) rfl dX7_canBe_49 ?_
  refine z_iload_n C 4 rfl rfl dX7_canBe_51 ?_
  refine z_iload C 6 rfl dX7_canBe_52 ?_
  refine z_ishr C dX7_canBe_54 ?_
  refine z_iconst C (v := (1 : Int32)) (by decide) dX7_canBe_55 ?_
  refine z_iand C dX7_canBe_56 ?_
  refine z_iconst C (v := (1 : Int32)) (by decide) dX7_canBe_57 ?_
  refine z_icmp_ne C 65 (by decide) h dX7_canBe_58 (fun hc h => ?_) (fun hc h => ?_)
  · refine z_iconst C (v := (1 : Int32)) (by decide) dX7_canBe_61 ?_
    refine z_goto C 66 (by decide) dX7_canBe_62 ?_
    refine Zt_l [(0, .ref (a 0)), (1, .int x1), (2, .int x2), (3, .int x3), (4, .int x4), (5, .int x5), (6, .int x6), (7, .int y0)] [1, 2, 3, 4, 5, 6, 7, 0] rfl ?_
    exact L_X7_canBe_66 a C R k6 hk6 x1 x2 x3 x4 x5 x6 y0 (1 : Int32) h
  · refine z_iconst C (v := (0 : Int32)) (by decide) dX7_canBe_65 ?_
    refine Zt_l [(0, .ref (a 0)), (1, .int x1), (2, .int x2), (3, .int x3), (4, .int x4), (5, .int x5), (6, .int x6), (7, .int y0)] [1, 2, 3, 4, 5, 6, 7, 0] rfl ?_
    exact L_X7_canBe_66 a C R k6 hk6 x1 x2 x3 x4 x5 x6 y0 (0 : Int32) h

set_option maxHeartbeats 4000000 in
set_option maxRecDepth 100000 in
theorem L_X7_canBe_48 {E : zEnv} {Γ : zG} (a : Nat → Nat) (C : zC E Γ cX7_canBe RX7 9 rm_X7_canBe wsX7_canBe) {res : Int32} {S : St} (R : zRi E Γ cX7_canBe 9 .boolean (wModel E a S) res) (k6 : Int32 → Int32 → Int32 → Int32 → Int32 → St → Option Int32) (hk6 : ∀ (x1 : Int32) (x2 : Int32) (x3 : Int32) (x4 : Int32) (x5 : Int32), k6 x1 x2 x3 x4 x5 S = some res → Zt E Γ 9 0 0 (wModel E a S) [(0, .ref (a 0)), (1, .int x1), (2, .int x2), (3, .int x3), (4, .int x4), (5, .int x5)] 6 []) (x1 : Int32) (x2 : Int32) (x3 : Int32) (x4 : Int32) (x5 : Int32) (x6 : Int32) (h : f_X7_canBe_48 k6 x1 x2 x3 x4 x5 x6 S = some res) : Zt E Γ 9 0 0 (wModel E a S) [(0, .ref (a 0)), (1, .int x1), (2, .int x2), (3, .int x3), (4, .int x4), (5, .int x5), (6, .int x6)] 48 [] := by
  unfold f_X7_canBe_48 at h
  refine z_iconst C (v := (0 : Int32)) (by decide) dX7_canBe_48 ?_
  exact L_X7_canBe_49 a C R k6 hk6 x1 x2 x3 x4 x5 x6 (0 : Int32) h

set_option maxHeartbeats 4000000 in
set_option maxRecDepth 100000 in
theorem L_X7_canBe_6 {E : zEnv} {Γ : zG} (a : Nat → Nat) (C : zC E Γ cX7_canBe RX7 9 rm_X7_canBe wsX7_canBe) {res : Int32} {S : St} (R : zRi E Γ cX7_canBe 9 .boolean (wModel E a S) res) : ∀ (n : Nat) (x1 : Int32) (x2 : Int32) (x3 : Int32) (x4 : Int32) (x5 : Int32), f_X7_canBe_6 n x1 x2 x3 x4 x5 S = some res → Zt E Γ 9 0 0 (wModel E a S) [(0, .ref (a 0)), (1, .int x1), (2, .int x2), (3, .int x3), (4, .int x4), (5, .int x5)] 6 [] := by
  intro n
  induction n with
  | zero =>
    intro x1 x2 x3 x4 x5 h
    cases h
  | succ n ih =>
    intro x1 x2 x3 x4 x5 h
    rw [f_X7_canBe_6_s] at h
    refine z_iload C 5 rfl dX7_canBe_6 ?_
    refine z_iconst C (v := (4 : Int32)) (by decide) dX7_canBe_8 ?_
    refine z_icmp_ge C 130 (by decide) h dX7_canBe_9 (fun hc h => ?_) (fun hc h => ?_)
    · refine z_iload C 4 rfl dX7_canBe_130 ?_
      have hz := zb_n (zb_e h).1
      replace h := (zb_e h).2
      obtain rfl := Option.some.inj h
      exact R hz 132 _ dX7_canBe_132
    · refine z_bipush C (v := (76 : Int32)) (by decide) dX7_canBe_12 ?_
      refine z_iconst C (v := (3 : Int32)) (by decide) dX7_canBe_14 ?_
      refine z_iload C 5 rfl dX7_canBe_15 ?_
      refine z_imul C dX7_canBe_17 ?_
      refine z_iadd C dX7_canBe_18 ?_
      refine z_istore C [(6, .int ((76 : Int32) + ((3 : Int32) * x5))), (0, .ref (a 0)), (1, .int x1), (2, .int x2), (3, .int x3), (4, .int x4), (5, .int x5)] (by decide) rfl dX7_canBe_19 ?_
      refine z_iload C 6 rfl dX7_canBe_21 ?_
      refine z_aload_n C 1 rfl rfl dX7_canBe_23 ?_
      refine z_get C 0 rfl (C := RX7) (T := TX7) (N := 38) (ci := 7) rfl inw_X7_canBe_X7 0 (by decide) (ref := "EldestAgeModel") (List.mem_of_getElem? (i := 1) rfl) rfl (v := .ref (a 1)) rfl dX7_canBe_24 ?_
      refine z_bipush C (v := (90 : Int32)) (by decide) dX7_canBe_27 ?_
      refine z_iald C (N := 368) (f := (S 0)) 1 rfl h dX7_canBe_29 (fun h => ?_)
      refine z_icmp_ge C 48 (by decide) h dX7_canBe_30 (fun hc h => ?_) (fun hc h => ?_)
      · refine Zt_l [(0, .ref (a 0)), (1, .int x1), (2, .int x2), (3, .int x3), (4, .int x4), (5, .int x5), (6, .int ((76 : Int32) + ((3 : Int32) * x5)))] [1, 2, 3, 4, 5, 6, 0] rfl ?_
        exact L_X7_canBe_48 a C R _ ih x1 x2 x3 x4 x5 ((76 : Int32) + ((3 : Int32) * x5)) h
      · refine z_aload_n C 1 rfl rfl dX7_canBe_33 ?_
        refine z_get C 0 rfl (C := RX7) (T := TX7) (N := 38) (ci := 7) rfl inw_X7_canBe_X7 0 (by decide) (ref := "EldestAgeModel") (List.mem_of_getElem? (i := 1) rfl) rfl (v := .ref (a 1)) rfl dX7_canBe_34 ?_
        refine z_iload C 0 rfl dX7_canBe_37 ?_
        refine z_iald C (N := 368) (f := (S 0)) 1 rfl h dX7_canBe_39 (fun h => ?_)
        refine z_iload_n C 2 rfl rfl dX7_canBe_40 ?_
        refine z_icmp_ne C 48 (by decide) h dX7_canBe_41 (fun hc h => ?_) (fun hc h => ?_)
        · refine z_iconst C (v := (1 : Int32)) (by decide) dX7_canBe_44 ?_
          refine z_goto C 49 (by decide) dX7_canBe_45 ?_
          refine Zt_l [(0, .ref (a 0)), (1, .int x1), (2, .int x2), (3, .int x3), (4, .int x4), (5, .int x5), (6, .int ((76 : Int32) + ((3 : Int32) * x5)))] [1, 2, 3, 4, 5, 6, 0] rfl ?_
          exact L_X7_canBe_49 a C R _ ih x1 x2 x3 x4 x5 ((76 : Int32) + ((3 : Int32) * x5)) (1 : Int32) h
        · refine Zt_l [(0, .ref (a 0)), (1, .int x1), (2, .int x2), (3, .int x3), (4, .int x4), (5, .int x5), (6, .int ((76 : Int32) + ((3 : Int32) * x5)))] [1, 2, 3, 4, 5, 6, 0] rfl ?_
          exact L_X7_canBe_48 a C R _ ih x1 x2 x3 x4 x5 ((76 : Int32) + ((3 : Int32) * x5)) h

set_option maxHeartbeats 4000000 in
set_option maxRecDepth 100000 in
theorem L_X7_canBe {E : zEnv} {Γ : zG} (a : Nat → Nat) (C : zC E Γ cX7_canBe RX7 9 rm_X7_canBe wsX7_canBe) {res : Int32} {S : St} (R : zRi E Γ cX7_canBe 9 .boolean (wModel E a S) res) (x1 : Int32) (x2 : Int32) (x3 : Int32) (h : f_X7_canBe x1 x2 x3 S = some res) : Zt E Γ 9 0 0 (wModel E a S) [(0, .ref (a 0)), (1, .int x1), (2, .int x2), (3, .int x3)] 0 [] := by
  unfold f_X7_canBe at h
  refine z_iconst C (v := (1 : Int32)) (by decide) dX7_canBe_0 ?_
  refine z_istore C [(4, .int (1 : Int32)), (0, .ref (a 0)), (1, .int x1), (2, .int x2), (3, .int x3)] (by decide) rfl dX7_canBe_1 ?_
  refine z_iconst C (v := (0 : Int32)) (by decide) dX7_canBe_3 ?_
  refine z_istore C [(5, .int (0 : Int32)), (4, .int (1 : Int32)), (0, .ref (a 0)), (1, .int x1), (2, .int x2), (3, .int x3)] (by decide) rfl dX7_canBe_4 ?_
  refine Zt_l [(0, .ref (a 0)), (1, .int x1), (2, .int x2), (3, .int x3), (4, .int (1 : Int32)), (5, .int (0 : Int32))] [2, 3, 4, 5, 1, 0] rfl ?_
  exact L_X7_canBe_6 a C R 1000 x1 x2 x3 (1 : Int32) (0 : Int32) h

theorem c_X7_canBe (E : zEnv) (a : Nat → Nat) (x1 : Int32) (x2 : Int32) (x3 : Int32) (S : St) {res : Int32} (h : f_X7_canBe x1 x2 x3 S = some res) : Kti E yX7_canBe wsX7_canBe rm_X7_canBe (wModel E a S) (wModel E a S) [.ref (a 0), .int x1, .int x2, .int x3] res :=
  z_enti (cc := cX7_canBe) (maxL := 9) (rt := .boolean) (by decide +kernel) rfl (Nat.le_of_ble_eq_true rfl) (fun Γ C R => L_X7_canBe a C R x1 x2 x3 h)

abbrev rm_X7_numberWith : Room := { frames := 3, cells := 0, slots := 0, locals := 71 }
theorem inw_X7_numberWith_X7 : ∀ w ∈ wsX70, w ∈ wsX7_numberWith := fun _ h => List.mem_cons_of_mem _ (List.mem_append_right _ h)
set_option maxHeartbeats 4000000 in
theorem wl_X7_numberWith_0 (E : zEnv) (a : Nat → Nat) (S : St) : ([0, 1, 2, 3, 4, 5, 6, 7, 8, 9, 10, 11, 12, 13, 14, 15, 16] : List Nat).map (fun i => (wModel E a S)[i]?) = (wModel E a S).map some := rfl
set_option maxHeartbeats 4000000 in
theorem wl_X7_numberWith_1 (E : zEnv) (a : Nat → Nat) (S U : St) : (wModel E a U).map (fun q => q.1) = (wModel E a S).map (fun q => q.1) := rfl
set_option maxHeartbeats 4000000 in
theorem wl_X7_numberWith_2 (E : zEnv) (a : Nat → Nat) (S U : St) : (wModel E a U) = zrep [0, 1, 2, 3, 4, 5, 6, 7, 8, 9, 10, 11, 12, 13, 14, 15, 16] (wModel E a U) (wModel E a S) := zrep_of (isR := []) 17 rfl [] rfl rfl rfl rfl (by decide +kernel) (by decide +kernel)
noncomputable def f_X7_numberWith_91 (k10 : Int32 → Int32 → Int32 → Int32 → St → Option (Int32 × St)) (x2 : Int32) (x3 : Int32) (x4 : Int32) (x5 : Int32) (S : St) : Option (Int32 × St) := (k10 x2 x3 x4 (x5 + (1 : Int32)) S)
noncomputable def f_X7_numberWith_82 (k10 : Int32 → Int32 → Int32 → Int32 → St → Option (Int32 × St)) (x2 : Int32) (x3 : Int32) (x4 : Int32) (x5 : Int32) (y1 : Int32) (y2 : Int32) (S : St) : Option (Int32 × St) := ((f_X7_tells ((y1 - y2) / (360 : Int32)) (1 : Int32) S).bind (fun q1 => (f_X7_numberWith_91 k10 x2 x3 x4 x5 q1)))
noncomputable def f_X7_numberWith_97 (S : St) : Option (Int32 × St) := (ix (91 : Int32) 368 ((f_X7_toldBy (S 0 (Int32.toNatClampNeg (91 : Int32))) S).bind (fun q2 => (some (q2, S)))))
noncomputable def f_X7_numberWith_10 (n : Nat) : Int32 → Int32 → Int32 → Int32 → St → Option (Int32 × St) := Nat.rec (motive := fun _ => Int32 → Int32 → Int32 → Int32 → St → Option (Int32 × St)) (fun _ _ _ _ _ => none) (fun _ ih => fun x2 x3 x4 x5 S => (if (4 : Int32) ≤ x5 then (f_X7_numberWith_97 S) else (if ((x3 >>> (x5 &&& 31)) &&& (1 : Int32)) = (1 : Int32) then (ix (((76 : Int32) + ((3 : Int32) * x5)) + (1 : Int32)) 368 (ix (((76 : Int32) + ((3 : Int32) * x5)) + (2 : Int32)) 368 (if x4 = 0 then (if x2 ≤ (S 0 (Int32.toNatClampNeg (((76 : Int32) + ((3 : Int32) * x5)) + (2 : Int32)))) then (f_X7_numberWith_82 ih x2 x3 x4 x5 x2 x2 S) else (f_X7_numberWith_82 ih x2 x3 x4 x5 x2 (S 0 (Int32.toNatClampNeg (((76 : Int32) + ((3 : Int32) * x5)) + (2 : Int32)))) S)) else (f_X7_numberWith_82 ih x2 x3 x4 x5 x2 (S 0 (Int32.toNatClampNeg (((76 : Int32) + ((3 : Int32) * x5)) + (1 : Int32)))) S)))) else (f_X7_numberWith_91 ih x2 x3 x4 x5 S)))) n
theorem f_X7_numberWith_10_s (n : Nat) (x2 : Int32) (x3 : Int32) (x4 : Int32) (x5 : Int32) (S : St) : f_X7_numberWith_10 (n + 1) x2 x3 x4 x5 S = (if (4 : Int32) ≤ x5 then (f_X7_numberWith_97 S) else (if ((x3 >>> (x5 &&& 31)) &&& (1 : Int32)) = (1 : Int32) then (ix (((76 : Int32) + ((3 : Int32) * x5)) + (1 : Int32)) 368 (ix (((76 : Int32) + ((3 : Int32) * x5)) + (2 : Int32)) 368 (if x4 = 0 then (if x2 ≤ (S 0 (Int32.toNatClampNeg (((76 : Int32) + ((3 : Int32) * x5)) + (2 : Int32)))) then (f_X7_numberWith_82 (f_X7_numberWith_10 n) x2 x3 x4 x5 x2 x2 S) else (f_X7_numberWith_82 (f_X7_numberWith_10 n) x2 x3 x4 x5 x2 (S 0 (Int32.toNatClampNeg (((76 : Int32) + ((3 : Int32) * x5)) + (2 : Int32)))) S)) else (f_X7_numberWith_82 (f_X7_numberWith_10 n) x2 x3 x4 x5 x2 (S 0 (Int32.toNatClampNeg (((76 : Int32) + ((3 : Int32) * x5)) + (1 : Int32)))) S)))) else (f_X7_numberWith_91 (f_X7_numberWith_10 n) x2 x3 x4 x5 S))) := rfl
noncomputable def f_X7_numberWith (x1 : Int32) (x2 : Int32) (x3 : Int32) (x4 : Int32) (S : St) : Option (Int32 × St) := ((f_X7_layHouse (0 : Int32) x1 x2 S).bind (fun q3 => (f_X7_numberWith_10 1000 x2 x3 x4 (0 : Int32) q3)))
set_option maxHeartbeats 4000000 in
set_option maxRecDepth 100000 in
theorem L_X7_numberWith_91 {E : zEnv} {Γ : zG} (a : Nat → Nat) (C : zC E Γ cX7_numberWith RX7 8 rm_X7_numberWith wsX7_numberWith) {res : (Int32 × St)} (R : zRi E Γ cX7_numberWith 8 .int (wModel E a res.2) res.1) (k10 : Int32 → Int32 → Int32 → Int32 → St → Option (Int32 × St)) (hk10 : ∀ (x2 : Int32) (x3 : Int32) (x4 : Int32) (x5 : Int32) (S : St), k10 x2 x3 x4 x5 S = some res → Zt E Γ 8 0 0 (wModel E a S) [(0, .ref (a 0)), (2, .int x2), (3, .int x3), (4, .int x4), (5, .int x5)] 10 []) (x2 : Int32) (x3 : Int32) (x4 : Int32) (x5 : Int32) (S : St) (h : f_X7_numberWith_91 k10 x2 x3 x4 x5 S = some res) : Zt E Γ 8 0 0 (wModel E a S) [(0, .ref (a 0)), (2, .int x2), (3, .int x3), (4, .int x4), (5, .int x5)] 91 [] := by
  unfold f_X7_numberWith_91 at h
  refine z_iinc C [(5, .int (x5 + (1 : Int32))), (0, .ref (a 0)), (2, .int x2), (3, .int x3), (4, .int x4)] 4 rfl (by first | rfl | decide) (by decide) rfl dX7_numberWith_91 ?_
  refine z_goto C 10 (by decide) dX7_numberWith_94 ?_
  refine Zt_l [(0, .ref (a 0)), (2, .int x2), (3, .int x3), (4, .int x4), (5, .int (x5 + (1 : Int32)))] [1, 2, 3, 4, 0] rfl ?_
  exact hk10 x2 x3 x4 (x5 + (1 : Int32)) S h

set_option maxHeartbeats 4000000 in
set_option maxRecDepth 100000 in
theorem L_X7_numberWith_82 {E : zEnv} {Γ : zG} (a : Nat → Nat) (C : zC E Γ cX7_numberWith RX7 8 rm_X7_numberWith wsX7_numberWith) {res : (Int32 × St)} (R : zRi E Γ cX7_numberWith 8 .int (wModel E a res.2) res.1) (k10 : Int32 → Int32 → Int32 → Int32 → St → Option (Int32 × St)) (hk10 : ∀ (x2 : Int32) (x3 : Int32) (x4 : Int32) (x5 : Int32) (S : St), k10 x2 x3 x4 x5 S = some res → Zt E Γ 8 0 0 (wModel E a S) [(0, .ref (a 0)), (2, .int x2), (3, .int x3), (4, .int x4), (5, .int x5)] 10 []) (x2 : Int32) (x3 : Int32) (x4 : Int32) (x5 : Int32) (y1 : Int32) (y2 : Int32) (S : St) (h : f_X7_numberWith_82 k10 x2 x3 x4 x5 y1 y2 S = some res) : Zt E Γ 8 0 0 (wModel E a S) [(0, .ref (a 0)), (2, .int x2), (3, .int x3), (4, .int x4), (5, .int x5)] 82 [.int y2, .int y1, .ref (a 0)] := by
  unfold f_X7_numberWith_82 at h
  refine z_isub C dX7_numberWith_82 ?_
  refine z_sipush C (v := (360 : Int32)) (by decide) dX7_numberWith_83 ?_
  refine z_idiv C (by decide) dX7_numberWith_86 ?_
  refine z_iconst C (v := (1 : Int32)) (by decide) dX7_numberWith_87 ?_
  obtain ⟨q1, e1, h⟩ := bd_e h
  refine z_callVv C (b := a 0) (As := [.int ((y1 - y2) / (360 : Int32)), .int (1 : Int32)]) (rest := []) (c_X7_tells E a ((y1 - y2) / (360 : Int32)) (1 : Int32) S e1) rfl gX7_numberWith_X7_tells rfl rfl rfl 2 rfl (by decide +kernel) ⟨Nat.le_of_ble_eq_true rfl, Nat.le_of_ble_eq_true rfl⟩ [0, 1, 2, 3, 4, 5, 6, 7, 8, 9, 10, 11, 12, 13, 14, 15, 16] (wl_X7_numberWith_0 E a S) (by decide) (wl_X7_numberWith_1 E a _ _) (wModel E a q1) (wl_X7_numberWith_2 E a S q1) 0 7 rfl rfl rfl (Nat.le_of_ble_eq_true rfl) dX7_numberWith_88 ⟨Nat.zero_le _, Nat.zero_le _⟩ _ rfl ?_
  exact L_X7_numberWith_91 a C R k10 hk10 x2 x3 x4 x5 q1 h

set_option maxHeartbeats 4000000 in
set_option maxRecDepth 100000 in
theorem L_X7_numberWith_97 {E : zEnv} {Γ : zG} (a : Nat → Nat) (C : zC E Γ cX7_numberWith RX7 8 rm_X7_numberWith wsX7_numberWith) {res : (Int32 × St)} (R : zRi E Γ cX7_numberWith 8 .int (wModel E a res.2) res.1) (S : St) (h : f_X7_numberWith_97 S = some res) : Zt E Γ 8 0 0 (wModel E a S) [(0, .ref (a 0))] 97 [] := by
  unfold f_X7_numberWith_97 at h
  refine z_aload_n C 0 rfl rfl dX7_numberWith_97 ?_
  refine z_aload_n C 0 rfl rfl dX7_numberWith_98 ?_
  refine z_get C 0 rfl (C := RX7) (T := TX7) (N := 38) (ci := 7) rfl inw_X7_numberWith_X7 0 (by decide) (ref := "EldestAgeModel") (List.mem_of_getElem? (i := 1) rfl) rfl (v := .ref (a 1)) rfl dX7_numberWith_99 ?_
  refine z_bipush C (v := (91 : Int32)) (by decide) dX7_numberWith_102 ?_
  refine z_iald C (N := 368) (f := (S 0)) 1 rfl h dX7_numberWith_104 (fun h => ?_)
  obtain ⟨q2, e2, h⟩ := bd_e h
  refine z_callVi C (b := a 0) (As := [.int (S 0 (Int32.toNatClampNeg (91 : Int32)))]) (rest := []) (c_X7_toldBy E a (S 0 (Int32.toNatClampNeg (91 : Int32))) S e2) rfl gX7_numberWith_X7_toldBy rfl rfl rfl 1 rfl (by decide +kernel) ⟨Nat.le_of_ble_eq_true rfl, Nat.le_of_ble_eq_true rfl⟩ [0, 1, 2, 3, 4, 5, 6, 7, 8, 9, 10, 11, 12, 13, 14, 15, 16] (wl_X7_numberWith_0 E a S) (by decide) rfl (wModel E a S) (zrep_self (wl_X7_numberWith_0 E a S)) 0 7 rfl rfl rfl (Nat.le_of_ble_eq_true rfl) dX7_numberWith_105 ⟨Nat.zero_le _, Nat.zero_le _⟩ _ rfl ?_
  obtain rfl := Option.some.inj h
  exact R rfl 108 _ dX7_numberWith_108

set_option maxHeartbeats 4000000 in
set_option maxRecDepth 100000 in
theorem L_X7_numberWith_10 {E : zEnv} {Γ : zG} (a : Nat → Nat) (C : zC E Γ cX7_numberWith RX7 8 rm_X7_numberWith wsX7_numberWith) {res : (Int32 × St)} (R : zRi E Γ cX7_numberWith 8 .int (wModel E a res.2) res.1) : ∀ (n : Nat) (x2 : Int32) (x3 : Int32) (x4 : Int32) (x5 : Int32) (S : St), f_X7_numberWith_10 n x2 x3 x4 x5 S = some res → Zt E Γ 8 0 0 (wModel E a S) [(0, .ref (a 0)), (2, .int x2), (3, .int x3), (4, .int x4), (5, .int x5)] 10 [] := by
  intro n
  induction n with
  | zero =>
    intro x2 x3 x4 x5 S h
    cases h
  | succ n ih =>
    intro x2 x3 x4 x5 S h
    rw [f_X7_numberWith_10_s] at h
    refine z_iload C 4 rfl dX7_numberWith_10 ?_
    refine z_iconst C (v := (4 : Int32)) (by decide) dX7_numberWith_12 ?_
    refine z_icmp_ge C 97 (by decide) h dX7_numberWith_13 (fun hc h => ?_) (fun hc h => ?_)
    · refine Zt_l [(0, .ref (a 0))] [0] rfl ?_
      exact L_X7_numberWith_97 a C R S h
    · refine z_iload_n C 2 rfl rfl dX7_numberWith_16 ?_
      refine z_iload C 4 rfl dX7_numberWith_17 ?_
      refine z_ishr C dX7_numberWith_19 ?_
      refine z_iconst C (v := (1 : Int32)) (by decide) dX7_numberWith_20 ?_
      refine z_iand C dX7_numberWith_21 ?_
      refine z_iconst C (v := (1 : Int32)) (by decide) dX7_numberWith_22 ?_
      refine z_icmp_ne C 91 (by decide) h dX7_numberWith_23 (fun hc h => ?_) (fun hc h => ?_)
      · refine z_aload_n C 0 rfl rfl dX7_numberWith_26 ?_
        refine z_get C 0 rfl (C := RX7) (T := TX7) (N := 38) (ci := 7) rfl inw_X7_numberWith_X7 0 (by decide) (ref := "EldestAgeModel") (List.mem_of_getElem? (i := 1) rfl) rfl (v := .ref (a 1)) rfl dX7_numberWith_27 ?_
        refine z_bipush C (v := (76 : Int32)) (by decide) dX7_numberWith_30 ?_
        refine z_iconst C (v := (3 : Int32)) (by decide) dX7_numberWith_32 ?_
        refine z_iload C 4 rfl dX7_numberWith_33 ?_
        refine z_imul C dX7_numberWith_35 ?_
        refine z_iadd C dX7_numberWith_36 ?_
        refine z_iconst C (v := (1 : Int32)) (by decide) dX7_numberWith_37 ?_
        refine z_iadd C dX7_numberWith_38 ?_
        refine z_iald C (N := 368) (f := (S 0)) 1 rfl h dX7_numberWith_39 (fun h => ?_)
        refine z_istore C [(6, .int (S 0 (Int32.toNatClampNeg (((76 : Int32) + ((3 : Int32) * x5)) + (1 : Int32))))), (0, .ref (a 0)), (2, .int x2), (3, .int x3), (4, .int x4), (5, .int x5)] (by decide) rfl dX7_numberWith_40 ?_
        refine z_aload_n C 1 rfl rfl dX7_numberWith_42 ?_
        refine z_get C 0 rfl (C := RX7) (T := TX7) (N := 38) (ci := 7) rfl inw_X7_numberWith_X7 0 (by decide) (ref := "EldestAgeModel") (List.mem_of_getElem? (i := 1) rfl) rfl (v := .ref (a 1)) rfl dX7_numberWith_43 ?_
        refine z_bipush C (v := (76 : Int32)) (by decide) dX7_numberWith_46 ?_
        refine z_iconst C (v := (3 : Int32)) (by decide) dX7_numberWith_48 ?_
        refine z_iload C 5 rfl dX7_numberWith_49 ?_
        refine z_imul C dX7_numberWith_51 ?_
        refine z_iadd C dX7_numberWith_52 ?_
        refine z_iconst C (v := (2 : Int32)) (by decide) dX7_numberWith_53 ?_
        refine z_iadd C dX7_numberWith_54 ?_
        refine z_iald C (N := 368) (f := (S 0)) 1 rfl h dX7_numberWith_55 (fun h => ?_)
        refine z_istore C [(7, .int (S 0 (Int32.toNatClampNeg (((76 : Int32) + ((3 : Int32) * x5)) + (2 : Int32))))), (6, .int (S 0 (Int32.toNatClampNeg (((76 : Int32) + ((3 : Int32) * x5)) + (1 : Int32))))), (0, .ref (a 0)), (2, .int x2), (3, .int x3), (4, .int x4), (5, .int x5)] (by decide) rfl dX7_numberWith_56 ?_
        refine z_aload_n C 2 rfl rfl dX7_numberWith_58 ?_
        refine z_iload_n C 3 rfl rfl dX7_numberWith_59 ?_
        refine z_iload C 5 rfl dX7_numberWith_60 ?_
        refine z_if_eq C 70 (by decide) h dX7_numberWith_62 (fun hc h => ?_) (fun hc h => ?_)
        · refine z_iload C 0 rfl dX7_numberWith_70 ?_
          refine z_iload_n C 3 rfl rfl dX7_numberWith_72 ?_
          refine z_icmp_ge C 81 (by decide) h dX7_numberWith_73 (fun hc h => ?_) (fun hc h => ?_)
          · refine z_iload_n C 3 rfl rfl dX7_numberWith_81 ?_
            refine Zt_l [(0, .ref (a 0)), (2, .int x2), (3, .int x3), (4, .int x4), (5, .int x5)] [2, 3, 4, 5, 6] rfl ?_
            exact L_X7_numberWith_82 a C R _ ih x2 x3 x4 x5 x2 x2 S h
          · refine z_iload C 0 rfl dX7_numberWith_76 ?_
            refine z_goto C 82 (by decide) dX7_numberWith_78 ?_
            refine Zt_l [(0, .ref (a 0)), (2, .int x2), (3, .int x3), (4, .int x4), (5, .int x5)] [2, 3, 4, 5, 6] rfl ?_
            exact L_X7_numberWith_82 a C R _ ih x2 x3 x4 x5 x2 (S 0 (Int32.toNatClampNeg (((76 : Int32) + ((3 : Int32) * x5)) + (2 : Int32)))) S h
        · refine z_iload C 1 rfl dX7_numberWith_65 ?_
          refine z_goto C 82 (by decide) dX7_numberWith_67 ?_
          refine Zt_l [(0, .ref (a 0)), (2, .int x2), (3, .int x3), (4, .int x4), (5, .int x5)] [2, 3, 4, 5, 6] rfl ?_
          exact L_X7_numberWith_82 a C R _ ih x2 x3 x4 x5 x2 (S 0 (Int32.toNatClampNeg (((76 : Int32) + ((3 : Int32) * x5)) + (1 : Int32)))) S h
      · exact L_X7_numberWith_91 a C R _ ih x2 x3 x4 x5 S h

set_option maxHeartbeats 4000000 in
set_option maxRecDepth 100000 in
theorem L_X7_numberWith {E : zEnv} {Γ : zG} (a : Nat → Nat) (C : zC E Γ cX7_numberWith RX7 8 rm_X7_numberWith wsX7_numberWith) {res : (Int32 × St)} (R : zRi E Γ cX7_numberWith 8 .int (wModel E a res.2) res.1) (x1 : Int32) (x2 : Int32) (x3 : Int32) (x4 : Int32) (S : St) (h : f_X7_numberWith x1 x2 x3 x4 S = some res) : Zt E Γ 8 0 0 (wModel E a S) [(0, .ref (a 0)), (1, .int x1), (2, .int x2), (3, .int x3), (4, .int x4)] 0 [] := by
  unfold f_X7_numberWith at h
  refine z_aload_n C 0 rfl rfl dX7_numberWith_0 ?_
  refine z_iconst C (v := (0 : Int32)) (by decide) dX7_numberWith_1 ?_
  refine z_iload_n C 1 rfl rfl dX7_numberWith_2 ?_
  refine z_iload_n C 2 rfl rfl dX7_numberWith_3 ?_
  obtain ⟨q3, e3, h⟩ := bd_e h
  refine z_callVv C (b := a 0) (As := [.int (0 : Int32), .int x1, .int x2]) (rest := []) (c_X7_layHouse E a (0 : Int32) x1 x2 S e3) rfl gX7_numberWith_X7_layHouse rfl rfl rfl 3 rfl (by decide +kernel) ⟨Nat.le_of_ble_eq_true rfl, Nat.le_of_ble_eq_true rfl⟩ [0, 1, 2, 3, 4, 5, 6, 7, 8, 9, 10, 11, 12, 13, 14, 15, 16] (wl_X7_numberWith_0 E a S) (by decide) (wl_X7_numberWith_1 E a _ _) (wModel E a q3) (wl_X7_numberWith_2 E a S q3) 0 7 rfl rfl rfl (Nat.le_of_ble_eq_true rfl) dX7_numberWith_4 ⟨Nat.zero_le _, Nat.zero_le _⟩ _ rfl ?_
  refine z_iconst C (v := (0 : Int32)) (by decide) dX7_numberWith_7 ?_
  refine z_istore C [(5, .int (0 : Int32)), (0, .ref (a 0)), (1, .int x1), (2, .int x2), (3, .int x3), (4, .int x4)] (by decide) rfl dX7_numberWith_8 ?_
  refine Zt_l [(0, .ref (a 0)), (2, .int x2), (3, .int x3), (4, .int x4), (5, .int (0 : Int32))] [1, 3, 4, 5, 0] rfl ?_
  exact L_X7_numberWith_10 a C R 1000 x2 x3 x4 (0 : Int32) q3 h

theorem c_X7_numberWith (E : zEnv) (a : Nat → Nat) (x1 : Int32) (x2 : Int32) (x3 : Int32) (x4 : Int32) (S : St) {res : (Int32 × St)} (h : f_X7_numberWith x1 x2 x3 x4 S = some res) : Kti E yX7_numberWith wsX7_numberWith rm_X7_numberWith (wModel E a S) (wModel E a res.2) [.ref (a 0), .int x1, .int x2, .int x3, .int x4] res.1 :=
  z_enti (cc := cX7_numberWith) (maxL := 8) (rt := .int) (by decide +kernel) rfl (Nat.le_of_ble_eq_true rfl) (fun Γ C R => L_X7_numberWith a C R x1 x2 x3 x4 S h)

abbrev rm_X7_can : Room := { frames := 4, cells := 0, slots := 0, locals := 98 }
theorem inw_X7_can_X7 : ∀ w ∈ wsX70, w ∈ wsX7_can := fun _ h => List.mem_cons_of_mem _ (List.mem_append_right _ h)
set_option maxHeartbeats 4000000 in
theorem wl_X7_can_0 (E : zEnv) (a : Nat → Nat) (S : St) : ([0, 1, 2, 3, 4, 5, 6, 7, 8, 9, 10, 11, 12, 13, 14, 15, 16] : List Nat).map (fun i => (wModel E a S)[i]?) = (wModel E a S).map some := rfl
set_option maxHeartbeats 4000000 in
theorem wl_X7_can_1 (E : zEnv) (a : Nat → Nat) (S U : St) : (wModel E a U).map (fun q => q.1) = (wModel E a S).map (fun q => q.1) := rfl
set_option maxHeartbeats 4000000 in
theorem wl_X7_can_2 (E : zEnv) (a : Nat → Nat) (S U : St) : (wModel E a U) = zrep [0, 1, 2, 3, 4, 5, 6, 7, 8, 9, 10, 11, 12, 13, 14, 15, 16] (wModel E a U) (wModel E a S) := zrep_of (isR := []) 17 rfl [] rfl rfl rfl rfl (by decide +kernel) (by decide +kernel)
noncomputable def f_X7_can_144 (k43 : Int32 → Int32 → Int32 → Int32 → Int32 → Int32 → Int32 → St → Option (Int32 × St)) (x1 : Int32) (x2 : Int32) (x3 : Int32) (x4 : Int32) (x5 : Int32) (x6 : Int32) (x7 : Int32) (S : St) : Option (Int32 × St) := (k43 x1 x2 x3 x4 x5 x6 (x7 + (1 : Int32)) S)
noncomputable def f_X7_can_142 (k43 : Int32 → Int32 → Int32 → Int32 → Int32 → Int32 → Int32 → St → Option (Int32 × St)) (x1 : Int32) (x2 : Int32) (x3 : Int32) (x4 : Int32) (x6 : Int32) (x7 : Int32) (y0 : Int32) (S : St) : Option (Int32 × St) := (f_X7_can_144 k43 x1 x2 x3 x4 y0 x6 x7 S)
noncomputable def f_X7_can_126 (k43 : Int32 → Int32 → Int32 → Int32 → Int32 → Int32 → Int32 → St → Option (Int32 × St)) (x1 : Int32) (x2 : Int32) (x3 : Int32) (x5 : Int32) (x6 : Int32) (x7 : Int32) (x9 : Int32) (y0 : Int32) (S : St) : Option (Int32 × St) := (if x9 ≤ x5 then (f_X7_can_142 k43 x1 x2 x3 y0 x6 x7 x5 S) else (f_X7_can_142 k43 x1 x2 x3 y0 x6 x7 x9 S))
noncomputable def f_X7_can_119 (k43 : Int32 → Int32 → Int32 → Int32 → Int32 → Int32 → Int32 → St → Option (Int32 × St)) (x1 : Int32) (x2 : Int32) (x3 : Int32) (x5 : Int32) (x6 : Int32) (x7 : Int32) (x8 : Int32) (x9 : Int32) (S : St) : Option (Int32 × St) := (f_X7_can_126 k43 x1 x2 x3 x5 x6 x7 x9 x8 S)
noncomputable def f_X7_can_124 (k43 : Int32 → Int32 → Int32 → Int32 → Int32 → Int32 → Int32 → St → Option (Int32 × St)) (x1 : Int32) (x2 : Int32) (x3 : Int32) (x4 : Int32) (x5 : Int32) (x6 : Int32) (x7 : Int32) (x9 : Int32) (S : St) : Option (Int32 × St) := (f_X7_can_126 k43 x1 x2 x3 x5 x6 x7 x9 x4 S)
noncomputable def f_X7_can_96 (k43 : Int32 → Int32 → Int32 → Int32 → Int32 → Int32 → Int32 → St → Option (Int32 × St)) (x1 : Int32) (x2 : Int32) (x3 : Int32) (x4 : Int32) (x5 : Int32) (x7 : Int32) (x8 : Int32) (x9 : Int32) (y0 : Int32) (S : St) : Option (Int32 × St) := (if x8 = (-4 : Int32) then (f_X7_can_124 k43 x1 x2 x3 x4 x5 y0 x7 x9 S) else (if x4 = (-4 : Int32) then (f_X7_can_119 k43 x1 x2 x3 x5 y0 x7 x8 x9 S) else (if x4 ≤ x8 then (f_X7_can_124 k43 x1 x2 x3 x4 x5 y0 x7 x9 S) else (f_X7_can_119 k43 x1 x2 x3 x5 y0 x7 x8 x9 S))))
noncomputable def f_X7_can_150 (x3 : Int32) (x4 : Int32) (x5 : Int32) (x6 : Int32) (S : St) : Option (Int32 × St) := (if x3 = 0 then (some (x4, S)) else (if x3 = (1 : Int32) then (some (x5, S)) else (some (x6, S))))
noncomputable def f_X7_can_43 (n : Nat) : Int32 → Int32 → Int32 → Int32 → Int32 → Int32 → Int32 → St → Option (Int32 × St) := Nat.rec (motive := fun _ => Int32 → Int32 → Int32 → Int32 → Int32 → Int32 → Int32 → St → Option (Int32 × St)) (fun _ _ _ _ _ _ _ _ => none) (fun _ ih => fun x1 x2 x3 x4 x5 x6 x7 S => (if (16 : Int32) ≤ x7 then (f_X7_can_150 x3 x4 x5 x6 S) else ((f_X7_canBe x1 x2 x7 S).bind (fun q1 => (if q1 = 0 then (f_X7_can_144 ih x1 x2 x3 x4 x5 x6 x7 S) else ((f_X7_numberWith x1 x2 x7 (0 : Int32) S).bind (fun q2 => ((f_X7_numberWith x1 x2 x7 (1 : Int32) q2.2).bind (fun q3 => (if q2.1 = (-4 : Int32) then (f_X7_can_96 ih x1 x2 x3 x4 x5 x7 q2.1 q3.1 (1 : Int32) q3.2) else (f_X7_can_96 ih x1 x2 x3 x4 x5 x7 q2.1 q3.1 x6 q3.2))))))))))) n
theorem f_X7_can_43_s (n : Nat) (x1 : Int32) (x2 : Int32) (x3 : Int32) (x4 : Int32) (x5 : Int32) (x6 : Int32) (x7 : Int32) (S : St) : f_X7_can_43 (n + 1) x1 x2 x3 x4 x5 x6 x7 S = (if (16 : Int32) ≤ x7 then (f_X7_can_150 x3 x4 x5 x6 S) else ((f_X7_canBe x1 x2 x7 S).bind (fun q1 => (if q1 = 0 then (f_X7_can_144 (f_X7_can_43 n) x1 x2 x3 x4 x5 x6 x7 S) else ((f_X7_numberWith x1 x2 x7 (0 : Int32) S).bind (fun q2 => ((f_X7_numberWith x1 x2 x7 (1 : Int32) q2.2).bind (fun q3 => (if q2.1 = (-4 : Int32) then (f_X7_can_96 (f_X7_can_43 n) x1 x2 x3 x4 x5 x7 q2.1 q3.1 (1 : Int32) q3.2) else (f_X7_can_96 (f_X7_can_43 n) x1 x2 x3 x4 x5 x7 q2.1 q3.1 x6 q3.2)))))))))) := rfl
noncomputable def f_X7_can (x1 : Int32) (x2 : Int32) (x3 : Int32) (S : St) : Option (Int32 × St) := ((f_X7_isHouse x1 S).bind (fun q4 => (if q4 = 0 then (some ((-1 : Int32), S)) else ((f_X7_isDay x2).bind (fun q5 => (if q5 = 0 then (some ((-1 : Int32), S)) else ((f_X7_in (Int32.toInt64 x3) (0 : Int64) (2 : Int64)).bind (fun q6 => (if q6 = 0 then (some ((-1 : Int32), S)) else (f_X7_can_43 1000 x1 x2 x3 (-4 : Int32) (-4 : Int32) (0 : Int32) (0 : Int32) S))))))))))
set_option maxHeartbeats 4000000 in
set_option maxRecDepth 100000 in
theorem L_X7_can_144 {E : zEnv} {Γ : zG} (a : Nat → Nat) (C : zC E Γ cX7_can RX7 10 rm_X7_can wsX7_can) {res : (Int32 × St)} (R : zRi E Γ cX7_can 10 .int (wModel E a res.2) res.1) (k43 : Int32 → Int32 → Int32 → Int32 → Int32 → Int32 → Int32 → St → Option (Int32 × St)) (hk43 : ∀ (x1 : Int32) (x2 : Int32) (x3 : Int32) (x4 : Int32) (x5 : Int32) (x6 : Int32) (x7 : Int32) (S : St), k43 x1 x2 x3 x4 x5 x6 x7 S = some res → Zt E Γ 10 0 0 (wModel E a S) [(0, .ref (a 0)), (1, .int x1), (2, .int x2), (3, .int x3), (4, .int x4), (5, .int x5), (6, .int x6), (7, .int x7)] 43 []) (x1 : Int32) (x2 : Int32) (x3 : Int32) (x4 : Int32) (x5 : Int32) (x6 : Int32) (x7 : Int32) (S : St) (h : f_X7_can_144 k43 x1 x2 x3 x4 x5 x6 x7 S = some res) : Zt E Γ 10 0 0 (wModel E a S) [(0, .ref (a 0)), (1, .int x1), (2, .int x2), (3, .int x3), (4, .int x4), (5, .int x5), (6, .int x6), (7, .int x7)] 144 [] := by
  unfold f_X7_can_144 at h
  refine z_iinc C [(7, .int (x7 + (1 : Int32))), (0, .ref (a 0)), (1, .int x1), (2, .int x2), (3, .int x3), (4, .int x4), (5, .int x5), (6, .int x6)] 7 rfl (by first | rfl | decide) (by decide) rfl dX7_can_144 ?_
  refine z_goto C 43 (by decide) dX7_can_147 ?_
  refine Zt_l [(0, .ref (a 0)), (1, .int x1), (2, .int x2), (3, .int x3), (4, .int x4), (5, .int x5), (6, .int x6), (7, .int (x7 + (1 : Int32)))] [1, 2, 3, 4, 5, 6, 7, 0] rfl ?_
  exact hk43 x1 x2 x3 x4 x5 x6 (x7 + (1 : Int32)) S h

set_option maxHeartbeats 4000000 in
set_option maxRecDepth 100000 in
theorem L_X7_can_142 {E : zEnv} {Γ : zG} (a : Nat → Nat) (C : zC E Γ cX7_can RX7 10 rm_X7_can wsX7_can) {res : (Int32 × St)} (R : zRi E Γ cX7_can 10 .int (wModel E a res.2) res.1) (k43 : Int32 → Int32 → Int32 → Int32 → Int32 → Int32 → Int32 → St → Option (Int32 × St)) (hk43 : ∀ (x1 : Int32) (x2 : Int32) (x3 : Int32) (x4 : Int32) (x5 : Int32) (x6 : Int32) (x7 : Int32) (S : St), k43 x1 x2 x3 x4 x5 x6 x7 S = some res → Zt E Γ 10 0 0 (wModel E a S) [(0, .ref (a 0)), (1, .int x1), (2, .int x2), (3, .int x3), (4, .int x4), (5, .int x5), (6, .int x6), (7, .int x7)] 43 []) (x1 : Int32) (x2 : Int32) (x3 : Int32) (x4 : Int32) (x6 : Int32) (x7 : Int32) (y0 : Int32) (S : St) (h : f_X7_can_142 k43 x1 x2 x3 x4 x6 x7 y0 S = some res) : Zt E Γ 10 0 0 (wModel E a S) [(0, .ref (a 0)), (1, .int x1), (2, .int x2), (3, .int x3), (4, .int x4), (6, .int x6), (7, .int x7)] 142 [.int y0] := by
  unfold f_X7_can_142 at h
  refine z_istore C [(5, .int y0), (0, .ref (a 0)), (1, .int x1), (2, .int x2), (3, .int x3), (4, .int x4), (6, .int x6), (7, .int x7)] (by decide) rfl dX7_can_142 ?_
  refine Zt_l [(0, .ref (a 0)), (1, .int x1), (2, .int x2), (3, .int x3), (4, .int x4), (5, .int y0), (6, .int x6), (7, .int x7)] [1, 2, 3, 4, 5, 0, 6, 7] rfl ?_
  exact L_X7_can_144 a C R k43 hk43 x1 x2 x3 x4 y0 x6 x7 S h

set_option maxHeartbeats 4000000 in
set_option maxRecDepth 100000 in
theorem L_X7_can_126 {E : zEnv} {Γ : zG} (a : Nat → Nat) (C : zC E Γ cX7_can RX7 10 rm_X7_can wsX7_can) {res : (Int32 × St)} (R : zRi E Γ cX7_can 10 .int (wModel E a res.2) res.1) (k43 : Int32 → Int32 → Int32 → Int32 → Int32 → Int32 → Int32 → St → Option (Int32 × St)) (hk43 : ∀ (x1 : Int32) (x2 : Int32) (x3 : Int32) (x4 : Int32) (x5 : Int32) (x6 : Int32) (x7 : Int32) (S : St), k43 x1 x2 x3 x4 x5 x6 x7 S = some res → Zt E Γ 10 0 0 (wModel E a S) [(0, .ref (a 0)), (1, .int x1), (2, .int x2), (3, .int x3), (4, .int x4), (5, .int x5), (6, .int x6), (7, .int x7)] 43 []) (x1 : Int32) (x2 : Int32) (x3 : Int32) (x5 : Int32) (x6 : Int32) (x7 : Int32) (x9 : Int32) (y0 : Int32) (S : St) (h : f_X7_can_126 k43 x1 x2 x3 x5 x6 x7 x9 y0 S = some res) : Zt E Γ 10 0 0 (wModel E a S) [(0, .ref (a 0)), (1, .int x1), (2, .int x2), (3, .int x3), (5, .int x5), (6, .int x6), (7, .int x7), (9, .int x9)] 126 [.int y0] := by
  unfold f_X7_can_126 at h
  refine z_istore C [(4, .int y0), (0, .ref (a 0)), (1, .int x1), (2, .int x2), (3, .int x3), (5, .int x5), (6, .int x6), (7, .int x7), (9, .int x9)] (by decide) rfl dX7_can_126 ?_
  refine z_iload C 8 rfl dX7_can_128 ?_
  refine z_iload C 5 rfl dX7_can_130 ?_
  refine z_icmp_le C 140 (by decide) h dX7_can_132 (fun hc h => ?_) (fun hc h => ?_)
  · refine z_iload C 5 rfl dX7_can_140 ?_
    refine Zt_l [(0, .ref (a 0)), (1, .int x1), (2, .int x2), (3, .int x3), (4, .int y0), (6, .int x6), (7, .int x7)] [1, 2, 3, 4, 0, 6, 7] rfl ?_
    exact L_X7_can_142 a C R k43 hk43 x1 x2 x3 y0 x6 x7 x5 S h
  · refine z_iload C 8 rfl dX7_can_135 ?_
    refine z_goto C 142 (by decide) dX7_can_137 ?_
    refine Zt_l [(0, .ref (a 0)), (1, .int x1), (2, .int x2), (3, .int x3), (4, .int y0), (6, .int x6), (7, .int x7)] [1, 2, 3, 4, 0, 6, 7] rfl ?_
    exact L_X7_can_142 a C R k43 hk43 x1 x2 x3 y0 x6 x7 x9 S h

set_option maxHeartbeats 4000000 in
set_option maxRecDepth 100000 in
theorem L_X7_can_119 {E : zEnv} {Γ : zG} (a : Nat → Nat) (C : zC E Γ cX7_can RX7 10 rm_X7_can wsX7_can) {res : (Int32 × St)} (R : zRi E Γ cX7_can 10 .int (wModel E a res.2) res.1) (k43 : Int32 → Int32 → Int32 → Int32 → Int32 → Int32 → Int32 → St → Option (Int32 × St)) (hk43 : ∀ (x1 : Int32) (x2 : Int32) (x3 : Int32) (x4 : Int32) (x5 : Int32) (x6 : Int32) (x7 : Int32) (S : St), k43 x1 x2 x3 x4 x5 x6 x7 S = some res → Zt E Γ 10 0 0 (wModel E a S) [(0, .ref (a 0)), (1, .int x1), (2, .int x2), (3, .int x3), (4, .int x4), (5, .int x5), (6, .int x6), (7, .int x7)] 43 []) (x1 : Int32) (x2 : Int32) (x3 : Int32) (x5 : Int32) (x6 : Int32) (x7 : Int32) (x8 : Int32) (x9 : Int32) (S : St) (h : f_X7_can_119 k43 x1 x2 x3 x5 x6 x7 x8 x9 S = some res) : Zt E Γ 10 0 0 (wModel E a S) [(0, .ref (a 0)), (1, .int x1), (2, .int x2), (3, .int x3), (5, .int x5), (6, .int x6), (7, .int x7), (8, .int x8), (9, .int x9)] 119 [] := by
  unfold f_X7_can_119 at h
  refine z_iload C 7 rfl dX7_can_119 ?_
  refine z_goto C 126 (by decide) dX7_can_121 ?_
  refine Zt_l [(0, .ref (a 0)), (1, .int x1), (2, .int x2), (3, .int x3), (5, .int x5), (6, .int x6), (7, .int x7), (9, .int x9)] [0, 1, 2, 3, 4, 5, 6, 8] rfl ?_
  exact L_X7_can_126 a C R k43 hk43 x1 x2 x3 x5 x6 x7 x9 x8 S h

set_option maxHeartbeats 4000000 in
set_option maxRecDepth 100000 in
theorem L_X7_can_124 {E : zEnv} {Γ : zG} (a : Nat → Nat) (C : zC E Γ cX7_can RX7 10 rm_X7_can wsX7_can) {res : (Int32 × St)} (R : zRi E Γ cX7_can 10 .int (wModel E a res.2) res.1) (k43 : Int32 → Int32 → Int32 → Int32 → Int32 → Int32 → Int32 → St → Option (Int32 × St)) (hk43 : ∀ (x1 : Int32) (x2 : Int32) (x3 : Int32) (x4 : Int32) (x5 : Int32) (x6 : Int32) (x7 : Int32) (S : St), k43 x1 x2 x3 x4 x5 x6 x7 S = some res → Zt E Γ 10 0 0 (wModel E a S) [(0, .ref (a 0)), (1, .int x1), (2, .int x2), (3, .int x3), (4, .int x4), (5, .int x5), (6, .int x6), (7, .int x7)] 43 []) (x1 : Int32) (x2 : Int32) (x3 : Int32) (x4 : Int32) (x5 : Int32) (x6 : Int32) (x7 : Int32) (x9 : Int32) (S : St) (h : f_X7_can_124 k43 x1 x2 x3 x4 x5 x6 x7 x9 S = some res) : Zt E Γ 10 0 0 (wModel E a S) [(0, .ref (a 0)), (1, .int x1), (2, .int x2), (3, .int x3), (4, .int x4), (5, .int x5), (6, .int x6), (7, .int x7), (9, .int x9)] 124 [] := by
  unfold f_X7_can_124 at h
  refine z_iload C 4 rfl dX7_can_124 ?_
  refine Zt_l [(0, .ref (a 0)), (1, .int x1), (2, .int x2), (3, .int x3), (5, .int x5), (6, .int x6), (7, .int x7), (9, .int x9)] [0, 1, 2, 3, 5, 6, 7, 8] rfl ?_
  exact L_X7_can_126 a C R k43 hk43 x1 x2 x3 x5 x6 x7 x9 x4 S h

set_option maxHeartbeats 4000000 in
set_option maxRecDepth 100000 in
theorem L_X7_can_96 {E : zEnv} {Γ : zG} (a : Nat → Nat) (C : zC E Γ cX7_can RX7 10 rm_X7_can wsX7_can) {res : (Int32 × St)} (R : zRi E Γ cX7_can 10 .int (wModel E a res.2) res.1) (k43 : Int32 → Int32 → Int32 → Int32 → Int32 → Int32 → Int32 → St → Option (Int32 × St)) (hk43 : ∀ (x1 : Int32) (x2 : Int32) (x3 : Int32) (x4 : Int32) (x5 : Int32) (x6 : Int32) (x7 : Int32) (S : St), k43 x1 x2 x3 x4 x5 x6 x7 S = some res → Zt E Γ 10 0 0 (wModel E a S) [(0, .ref (a 0)), (1, .int x1), (2, .int x2), (3, .int x3), (4, .int x4), (5, .int x5), (6, .int x6), (7, .int x7)] 43 []) (x1 : Int32) (x2 : Int32) (x3 : Int32) (x4 : Int32) (x5 : Int32) (x7 : Int32) (x8 : Int32) (x9 : Int32) (y0 : Int32) (S : St) (h : f_X7_can_96 k43 x1 x2 x3 x4 x5 x7 x8 x9 y0 S = some res) : Zt E Γ 10 0 0 (wModel E a S) [(0, .ref (a 0)), (1, .int x1), (2, .int x2), (3, .int x3), (4, .int x4), (5, .int x5), (7, .int x7), (8, .int x8), (9, .int x9)] 96 [.int y0] := by
  unfold f_X7_can_96 at h
  refine z_istore C [(6, .int y0), (0, .ref (a 0)), (1, .int x1), (2, .int x2), (3, .int x3), (4, .int x4), (5, .int x5), (7, .int x7), (8, .int x8), (9, .int x9)] (by decide) rfl dX7_can_96 ?_
  refine z_iload C 8 rfl dX7_can_98 ?_
  refine z_bipush C (v := (-4 : Int32)) (by decide) dX7_can_100 ?_
  refine z_icmp_eq C 124 (by decide) h dX7_can_102 (fun hc h => ?_) (fun hc h => ?_)
  · refine Zt_l [(0, .ref (a 0)), (1, .int x1), (2, .int x2), (3, .int x3), (4, .int x4), (5, .int x5), (6, .int y0), (7, .int x7), (9, .int x9)] [1, 2, 3, 4, 5, 6, 0, 7, 9] rfl ?_
    exact L_X7_can_124 a C R k43 hk43 x1 x2 x3 x4 x5 y0 x7 x9 S h
  · refine z_iload C 5 rfl dX7_can_105 ?_
    refine z_bipush C (v := (-4 : Int32)) (by decide) dX7_can_107 ?_
    refine z_icmp_eq C 119 (by decide) h dX7_can_109 (fun hc h => ?_) (fun hc h => ?_)
    · refine Zt_l [(0, .ref (a 0)), (1, .int x1), (2, .int x2), (3, .int x3), (5, .int x5), (6, .int y0), (7, .int x7), (8, .int x8), (9, .int x9)] [1, 2, 3, 4, 6, 0, 7, 8, 9] rfl ?_
      exact L_X7_can_119 a C R k43 hk43 x1 x2 x3 x5 y0 x7 x8 x9 S h
    · refine z_iload C 8 rfl dX7_can_112 ?_
      refine z_iload C 5 rfl dX7_can_114 ?_
      refine z_icmp_ge C 124 (by decide) h dX7_can_116 (fun hc h => ?_) (fun hc h => ?_)
      · refine Zt_l [(0, .ref (a 0)), (1, .int x1), (2, .int x2), (3, .int x3), (4, .int x4), (5, .int x5), (6, .int y0), (7, .int x7), (9, .int x9)] [1, 2, 3, 4, 5, 6, 0, 7, 9] rfl ?_
        exact L_X7_can_124 a C R k43 hk43 x1 x2 x3 x4 x5 y0 x7 x9 S h
      · refine Zt_l [(0, .ref (a 0)), (1, .int x1), (2, .int x2), (3, .int x3), (5, .int x5), (6, .int y0), (7, .int x7), (8, .int x8), (9, .int x9)] [1, 2, 3, 4, 6, 0, 7, 8, 9] rfl ?_
        exact L_X7_can_119 a C R k43 hk43 x1 x2 x3 x5 y0 x7 x8 x9 S h

set_option maxHeartbeats 4000000 in
set_option maxRecDepth 100000 in
theorem L_X7_can_150 {E : zEnv} {Γ : zG} (a : Nat → Nat) (C : zC E Γ cX7_can RX7 10 rm_X7_can wsX7_can) {res : (Int32 × St)} (R : zRi E Γ cX7_can 10 .int (wModel E a res.2) res.1) (x3 : Int32) (x4 : Int32) (x5 : Int32) (x6 : Int32) (S : St) (h : f_X7_can_150 x3 x4 x5 x6 S = some res) : Zt E Γ 10 0 0 (wModel E a S) [(3, .int x3), (4, .int x4), (5, .int x5), (6, .int x6)] 150 [] := by
  unfold f_X7_can_150 at h
  refine z_iload_n C 0 rfl rfl dX7_can_150 ?_
  refine z_if_ne C 159 (by decide) h dX7_can_151 (fun hc h => ?_) (fun hc h => ?_)
  · refine z_iload C 1 rfl dX7_can_154 ?_
    refine z_goto C 171 (by decide) dX7_can_156 ?_
    obtain rfl := Option.some.inj h
    exact R rfl 171 _ dX7_can_171
  · refine z_iload_n C 0 rfl rfl dX7_can_159 ?_
    refine z_iconst C (v := (1 : Int32)) (by decide) dX7_can_160 ?_
    refine z_icmp_ne C 169 (by decide) h dX7_can_161 (fun hc h => ?_) (fun hc h => ?_)
    · refine z_iload C 2 rfl dX7_can_164 ?_
      refine z_goto C 171 (by decide) dX7_can_166 ?_
      obtain rfl := Option.some.inj h
      exact R rfl 171 _ dX7_can_171
    · refine z_iload C 3 rfl dX7_can_169 ?_
      obtain rfl := Option.some.inj h
      exact R rfl 171 _ dX7_can_171

set_option maxHeartbeats 4000000 in
set_option maxRecDepth 100000 in
theorem L_X7_can_43 {E : zEnv} {Γ : zG} (a : Nat → Nat) (C : zC E Γ cX7_can RX7 10 rm_X7_can wsX7_can) {res : (Int32 × St)} (R : zRi E Γ cX7_can 10 .int (wModel E a res.2) res.1) : ∀ (n : Nat) (x1 : Int32) (x2 : Int32) (x3 : Int32) (x4 : Int32) (x5 : Int32) (x6 : Int32) (x7 : Int32) (S : St), f_X7_can_43 n x1 x2 x3 x4 x5 x6 x7 S = some res → Zt E Γ 10 0 0 (wModel E a S) [(0, .ref (a 0)), (1, .int x1), (2, .int x2), (3, .int x3), (4, .int x4), (5, .int x5), (6, .int x6), (7, .int x7)] 43 [] := by
  intro n
  induction n with
  | zero =>
    intro x1 x2 x3 x4 x5 x6 x7 S h
    cases h
  | succ n ih =>
    intro x1 x2 x3 x4 x5 x6 x7 S h
    rw [f_X7_can_43_s] at h
    refine z_iload C 7 rfl dX7_can_43 ?_
    refine z_bipush C (v := (16 : Int32)) (by decide) dX7_can_45 ?_
    refine z_icmp_ge C 150 (by decide) h dX7_can_47 (fun hc h => ?_) (fun hc h => ?_)
    · refine Zt_l [(3, .int x3), (4, .int x4), (5, .int x5), (6, .int x6)] [3, 4, 5, 6] rfl ?_
      exact L_X7_can_150 a C R x3 x4 x5 x6 S h
    · refine z_aload_n C 0 rfl rfl dX7_can_50 ?_
      refine z_iload_n C 1 rfl rfl dX7_can_51 ?_
      refine z_iload_n C 2 rfl rfl dX7_can_52 ?_
      refine z_iload C 7 rfl dX7_can_53 ?_
      obtain ⟨q1, e1, h⟩ := bd_e h
      refine z_callVi C (b := a 0) (As := [.int x1, .int x2, .int x7]) (rest := []) (c_X7_canBe E a x1 x2 x7 S e1) rfl gX7_can_X7_canBe rfl rfl rfl 3 rfl (by decide +kernel) ⟨Nat.le_of_ble_eq_true rfl, Nat.le_of_ble_eq_true rfl⟩ [0, 1, 2, 3, 4, 5, 6, 7, 8, 9, 10, 11, 12, 13, 14, 15, 16] (wl_X7_can_0 E a S) (by decide) rfl (wModel E a S) (zrep_self (wl_X7_can_0 E a S)) 0 7 rfl rfl rfl (Nat.le_of_ble_eq_true rfl) dX7_can_55 ⟨Nat.zero_le _, Nat.zero_le _⟩ _ rfl ?_
      refine z_if_eq C 144 (by decide) h dX7_can_58 (fun hc h => ?_) (fun hc h => ?_)
      · exact L_X7_can_144 a C R _ ih x1 x2 x3 x4 x5 x6 x7 S h
      · refine z_aload_n C 0 rfl rfl dX7_can_61 ?_
        refine z_iload_n C 1 rfl rfl dX7_can_62 ?_
        refine z_iload_n C 2 rfl rfl dX7_can_63 ?_
        refine z_iload C 7 rfl dX7_can_64 ?_
        refine z_iconst C (v := (0 : Int32)) (by decide) dX7_can_66 ?_
        obtain ⟨q2, e2, h⟩ := bd_e h
        refine z_callVi C (b := a 0) (As := [.int x1, .int x2, .int x7, .int (0 : Int32)]) (rest := []) (c_X7_numberWith E a x1 x2 x7 (0 : Int32) S e2) rfl gX7_can_X7_numberWith rfl rfl rfl 4 rfl (by decide +kernel) ⟨Nat.le_of_ble_eq_true rfl, Nat.le_of_ble_eq_true rfl⟩ [0, 1, 2, 3, 4, 5, 6, 7, 8, 9, 10, 11, 12, 13, 14, 15, 16] (wl_X7_can_0 E a S) (by decide) (wl_X7_can_1 E a _ _) (wModel E a q2.2) (wl_X7_can_2 E a S q2.2) 0 7 rfl rfl rfl (Nat.le_of_ble_eq_true rfl) dX7_can_67 ⟨Nat.zero_le _, Nat.zero_le _⟩ _ rfl ?_
        refine z_istore C [(8, .int q2.1), (0, .ref (a 0)), (1, .int x1), (2, .int x2), (3, .int x3), (4, .int x4), (5, .int x5), (6, .int x6), (7, .int x7)] (by decide) rfl dX7_can_70 ?_
        refine z_aload_n C 1 rfl rfl dX7_can_72 ?_
        refine z_iload_n C 2 rfl rfl dX7_can_73 ?_
        refine z_iload_n C 3 rfl rfl dX7_can_74 ?_
        refine z_iload C 8 rfl dX7_can_75 ?_
        refine z_iconst C (v := (1 : Int32)) (by decide) dX7_can_77 ?_
        obtain ⟨q3, e3, h⟩ := bd_e h
        refine z_callVi C (b := a 0) (As := [.int x1, .int x2, .int x7, .int (1 : Int32)]) (rest := []) (c_X7_numberWith E a x1 x2 x7 (1 : Int32) q2.2 e3) rfl gX7_can_X7_numberWith rfl rfl rfl 4 rfl (by decide +kernel) ⟨Nat.le_of_ble_eq_true rfl, Nat.le_of_ble_eq_true rfl⟩ [0, 1, 2, 3, 4, 5, 6, 7, 8, 9, 10, 11, 12, 13, 14, 15, 16] (wl_X7_can_0 E a q2.2) (by decide) (wl_X7_can_1 E a _ _) (wModel E a q3.2) (wl_X7_can_2 E a q2.2 q3.2) 0 7 rfl rfl rfl (Nat.le_of_ble_eq_true rfl) dX7_can_78 ⟨Nat.zero_le _, Nat.zero_le _⟩ _ rfl ?_
        refine z_istore C [(9, .int q3.1), (8, .int q2.1), (0, .ref (a 0)), (1, .int x1), (2, .int x2), (3, .int x3), (4, .int x4), (5, .int x5), (6, .int x6), (7, .int x7)] (by decide) rfl dX7_can_81 ?_
        refine z_iload C 1 rfl dX7_can_83 ?_
        refine z_bipush C (v := (-4 : Int32)) (by decide) dX7_can_85 ?_
        refine z_icmp_ne C 94 (by decide) h dX7_can_87 (fun hc h => ?_) (fun hc h => ?_)
        · refine z_iconst C (v := (1 : Int32)) (by decide) dX7_can_90 ?_
          refine z_goto C 96 (by decide) dX7_can_91 ?_
          refine Zt_l [(0, .ref (a 0)), (1, .int x1), (2, .int x2), (3, .int x3), (4, .int x4), (5, .int x5), (7, .int x7), (8, .int q2.1), (9, .int q3.1)] [2, 3, 4, 5, 6, 7, 9, 1, 0] rfl ?_
          exact L_X7_can_96 a C R _ ih x1 x2 x3 x4 x5 x7 q2.1 q3.1 (1 : Int32) q3.2 h
        · refine z_iload C 8 rfl dX7_can_94 ?_
          refine Zt_l [(0, .ref (a 0)), (1, .int x1), (2, .int x2), (3, .int x3), (4, .int x4), (5, .int x5), (7, .int x7), (8, .int q2.1), (9, .int q3.1)] [2, 3, 4, 5, 6, 7, 9, 1, 0] rfl ?_
          exact L_X7_can_96 a C R _ ih x1 x2 x3 x4 x5 x7 q2.1 q3.1 x6 q3.2 h

set_option maxHeartbeats 4000000 in
set_option maxRecDepth 100000 in
theorem L_X7_can {E : zEnv} {Γ : zG} (a : Nat → Nat) (C : zC E Γ cX7_can RX7 10 rm_X7_can wsX7_can) {res : (Int32 × St)} (R : zRi E Γ cX7_can 10 .int (wModel E a res.2) res.1) (x1 : Int32) (x2 : Int32) (x3 : Int32) (S : St) (h : f_X7_can x1 x2 x3 S = some res) : Zt E Γ 10 0 0 (wModel E a S) [(0, .ref (a 0)), (1, .int x1), (2, .int x2), (3, .int x3)] 0 [] := by
  unfold f_X7_can at h
  refine z_aload_n C 0 rfl rfl dX7_can_0 ?_
  refine z_iload_n C 1 rfl rfl dX7_can_1 ?_
  obtain ⟨q4, e4, h⟩ := bd_e h
  refine z_callVi C (b := a 0) (As := [.int x1]) (rest := []) (c_X7_isHouse E a x1 S e4) rfl gX7_can_X7_isHouse rfl rfl rfl 1 rfl (by decide +kernel) ⟨Nat.le_of_ble_eq_true rfl, Nat.le_of_ble_eq_true rfl⟩ [0, 1, 2, 3, 4, 5, 6, 7, 8, 9, 10, 11, 12, 13, 14, 15, 16] (wl_X7_can_0 E a S) (by decide) rfl (wModel E a S) (zrep_self (wl_X7_can_0 E a S)) 0 7 rfl rfl rfl (Nat.le_of_ble_eq_true rfl) dX7_can_2 ⟨Nat.zero_le _, Nat.zero_le _⟩ _ rfl ?_
  refine z_if_eq C 27 (by decide) h dX7_can_5 (fun hc h => ?_) (fun hc h => ?_)
  · refine z_iconst C (v := (-1 : Int32)) (by decide) dX7_can_27 ?_
    obtain rfl := Option.some.inj h
    exact R rfl 28 _ dX7_can_28
  · refine z_iload_n C 2 rfl rfl dX7_can_8 ?_
    obtain ⟨q5, e5, h⟩ := bd_e h
    refine z_callSi C (rest := []) (c_X7_isDay E x2 e5) gX7_can_X7_isDay rfl rfl rfl 1 rfl (by decide +kernel) ⟨Nat.le_of_ble_eq_true rfl, Nat.le_of_ble_eq_true rfl⟩ [] rfl (by decide) rfl (wModel E a S) rfl (Nat.le_of_ble_eq_true rfl) dX7_can_9 ⟨Nat.zero_le _, Nat.zero_le _⟩ _ rfl ?_
    refine z_if_eq C 27 (by decide) h dX7_can_12 (fun hc h => ?_) (fun hc h => ?_)
    · refine z_iconst C (v := (-1 : Int32)) (by decide) dX7_can_27 ?_
      obtain rfl := Option.some.inj h
      exact R rfl 28 _ dX7_can_28
    · refine z_iload_n C 3 rfl rfl dX7_can_15 ?_
      refine z_i2l C dX7_can_16 ?_
      refine z_lconst C (v := (0 : Int64)) (by decide) dX7_can_17 ?_
      refine z_ldc2 C (v := (2 : Int64)) (List.mem_of_getElem? (i := 1) rfl) dX7_can_18 ?_
      obtain ⟨q6, e6, h⟩ := bd_e h
      refine z_callSi C (rest := []) (c_X7_in E (Int32.toInt64 x3) (0 : Int64) (2 : Int64) e6) gX7_can_X7_in rfl rfl rfl 3 rfl (by decide +kernel) ⟨Nat.le_of_ble_eq_true rfl, Nat.le_of_ble_eq_true rfl⟩ [] rfl (by decide) rfl (wModel E a S) rfl (Nat.le_of_ble_eq_true rfl) dX7_can_21 ⟨Nat.zero_le _, Nat.zero_le _⟩ _ rfl ?_
      refine z_if_ne C 29 (by decide) h dX7_can_24 (fun hc h => ?_) (fun hc h => ?_)
      · refine z_iconst C (v := (-1 : Int32)) (by decide) dX7_can_27 ?_
        obtain rfl := Option.some.inj h
        exact R rfl 28 _ dX7_can_28
      · refine z_bipush C (v := (-4 : Int32)) (by decide) dX7_can_29 ?_
        refine z_istore C [(4, .int (-4 : Int32)), (0, .ref (a 0)), (1, .int x1), (2, .int x2), (3, .int x3)] (by decide) rfl dX7_can_31 ?_
        refine z_bipush C (v := (-4 : Int32)) (by decide) dX7_can_33 ?_
        refine z_istore C [(5, .int (-4 : Int32)), (4, .int (-4 : Int32)), (0, .ref (a 0)), (1, .int x1), (2, .int x2), (3, .int x3)] (by decide) rfl dX7_can_35 ?_
        refine z_iconst C (v := (0 : Int32)) (by decide) dX7_can_37 ?_
        refine z_istore C [(6, .int (0 : Int32)), (5, .int (-4 : Int32)), (4, .int (-4 : Int32)), (0, .ref (a 0)), (1, .int x1), (2, .int x2), (3, .int x3)] (by decide) rfl dX7_can_38 ?_
        refine z_iconst C (v := (0 : Int32)) (by decide) dX7_can_40 ?_
        refine z_istore C [(7, .int (0 : Int32)), (6, .int (0 : Int32)), (5, .int (-4 : Int32)), (4, .int (-4 : Int32)), (0, .ref (a 0)), (1, .int x1), (2, .int x2), (3, .int x3)] (by decide) rfl dX7_can_41 ?_
        refine Zt_l [(0, .ref (a 0)), (1, .int x1), (2, .int x2), (3, .int x3), (4, .int (-4 : Int32)), (5, .int (-4 : Int32)), (6, .int (0 : Int32)), (7, .int (0 : Int32))] [4, 5, 6, 7, 3, 2, 1, 0] rfl ?_
        exact L_X7_can_43 a C R 1000 x1 x2 x3 (-4 : Int32) (-4 : Int32) (0 : Int32) (0 : Int32) S h

theorem c_X7_can (E : zEnv) (a : Nat → Nat) (x1 : Int32) (x2 : Int32) (x3 : Int32) (S : St) {res : (Int32 × St)} (h : f_X7_can x1 x2 x3 S = some res) : Kti E yX7_can wsX7_can rm_X7_can (wModel E a S) (wModel E a res.2) [.ref (a 0), .int x1, .int x2, .int x3] res.1 :=
  z_enti (cc := cX7_can) (maxL := 10) (rt := .int) (by decide +kernel) rfl (Nat.le_of_ble_eq_true rfl) (fun Γ C R => L_X7_can a C R x1 x2 x3 S h)

abbrev rm_X7_see : Room := { frames := 2, cells := 0, slots := 0, locals := 46 }
theorem inw_X7_see_X7 : ∀ w ∈ wsX70, w ∈ wsX7_see := fun _ h => List.mem_cons_of_mem _ (List.mem_append_right _ h)
set_option maxHeartbeats 4000000 in
theorem wl_X7_see_0 (E : zEnv) (a : Nat → Nat) (S : St) : ([0, 1, 2, 3, 4, 5, 6, 7, 8, 9, 10, 11, 12, 13, 14, 15, 16] : List Nat).map (fun i => (wModel E a S)[i]?) = (wModel E a S).map some := rfl
set_option maxHeartbeats 4000000 in
theorem wl_X7_see_1 (E : zEnv) (a : Nat → Nat) (S U : St) : (wModel E a U).map (fun q => q.1) = (wModel E a S).map (fun q => q.1) := rfl
set_option maxHeartbeats 4000000 in
theorem wl_X7_see_2 (E : zEnv) (a : Nat → Nat) (S : St) (f : Nat → Int32) : (wModel E a (st 31 f S)) = (wModel E a S).set 12 (a 12, .inl (zI E, 24, .inl f)) := rfl
set_option maxHeartbeats 4000000 in
theorem wl_X7_see_3 (E : zEnv) (a : Nat → Nat) (S : St) (v : Int32) : (wModel E a (st 32 (fun _ => v) S)) = (wModel E a S).set 0 (a 0, .inr (7, List.set [.ref (a 1), .int (S 1 0), .ref (a 2), .int (S 3 0), .int (S 4 0), .int (S 5 0), .int (S 6 0), .int (S 7 0), .ref (a 3), .int (S 9 0), .int (S 10 0), .int (S 11 0), .int (S 12 0), .int (S 13 0), .int (S 14 0), .int (S 15 0), .int (S 16 0), .ref (a 4), .ref (a 5), .int (S 19 0), .int (S 20 0), .int (S 21 0), .int (S 22 0), .ref (a 6), .int (S 24 0), .ref (a 7), .int (S 26 0), .ref (a 8), .ref (a 9), .ref (a 10), .ref (a 11), .ref (a 12), .int (S 32 0), .ref (a 13), .ref (a 14), .ref (a 15), .ref (a 16), .int (S 37 0)] 32 (.int v))) := rfl
noncomputable def f_X7_see (x1 : Int32) (x2 : Int32) (x3 : Int32) (S : St) : Option (Int32 × St) := ((f_X7_isHouse x1 S).bind (fun q1 => (if q1 = 0 then (some ((-1 : Int32), S)) else ((f_X7_isDay x2).bind (fun q2 => (if q2 = 0 then (some ((-1 : Int32), S)) else ((f_X7_in (Int32.toInt64 x3) (0 : Int64) (999 : Int64)).bind (fun q3 => (if q3 = 0 then (some ((-1 : Int32), S)) else (if (S 32 0) = (8 : Int32) then (some ((-3 : Int32), S)) else (ix ((3 : Int32) * (S 32 0)) 24 (ix (((3 : Int32) * (S 32 0)) + (1 : Int32)) 24 (ix (((3 : Int32) * (S 32 0)) + (2 : Int32)) 24 (some (((S 32 0) + (1 : Int32)), (st 32 (fun _ => ((S 32 0) + (1 : Int32))) (st 31 (upd (upd (upd (S 31) (Int32.toNatClampNeg ((3 : Int32) * (S 32 0))) x1) (Int32.toNatClampNeg (((3 : Int32) * (S 32 0)) + (1 : Int32))) x2) (Int32.toNatClampNeg (((3 : Int32) * (S 32 0)) + (2 : Int32))) x3) (st 31 (upd (upd (S 31) (Int32.toNatClampNeg ((3 : Int32) * (S 32 0))) x1) (Int32.toNatClampNeg (((3 : Int32) * (S 32 0)) + (1 : Int32))) x2) (st 31 (upd (S 31) (Int32.toNatClampNeg ((3 : Int32) * (S 32 0))) x1) S)))))))))))))))))))
set_option maxHeartbeats 4000000 in
set_option maxRecDepth 100000 in
theorem L_X7_see {E : zEnv} {Γ : zG} (a : Nat → Nat) (C : zC E Γ cX7_see RX7 4 rm_X7_see wsX7_see) {res : (Int32 × St)} (R : zRi E Γ cX7_see 4 .int (wModel E a res.2) res.1) (x1 : Int32) (x2 : Int32) (x3 : Int32) (S : St) (h : f_X7_see x1 x2 x3 S = some res) : Zt E Γ 4 0 0 (wModel E a S) [(0, .ref (a 0)), (1, .int x1), (2, .int x2), (3, .int x3)] 0 [] := by
  unfold f_X7_see at h
  refine z_aload_n C 0 rfl rfl dX7_see_0 ?_
  refine z_iload_n C 1 rfl rfl dX7_see_1 ?_
  obtain ⟨q1, e1, h⟩ := bd_e h
  refine z_callVi C (b := a 0) (As := [.int x1]) (rest := []) (c_X7_isHouse E a x1 S e1) rfl gX7_see_X7_isHouse rfl rfl rfl 1 rfl (by decide +kernel) ⟨Nat.le_of_ble_eq_true rfl, Nat.le_of_ble_eq_true rfl⟩ [0, 1, 2, 3, 4, 5, 6, 7, 8, 9, 10, 11, 12, 13, 14, 15, 16] (wl_X7_see_0 E a S) (by decide) rfl (wModel E a S) (zrep_self (wl_X7_see_0 E a S)) 0 7 rfl rfl rfl (Nat.le_of_ble_eq_true rfl) dX7_see_2 ⟨Nat.zero_le _, Nat.zero_le _⟩ _ rfl ?_
  refine z_if_eq C 27 (by decide) h dX7_see_5 (fun hc h => ?_) (fun hc h => ?_)
  · refine z_iconst C (v := (-1 : Int32)) (by decide) dX7_see_27 ?_
    obtain rfl := Option.some.inj h
    exact R rfl 28 _ dX7_see_28
  · refine z_iload_n C 2 rfl rfl dX7_see_8 ?_
    obtain ⟨q2, e2, h⟩ := bd_e h
    refine z_callSi C (rest := []) (c_X7_isDay E x2 e2) gX7_see_X7_isDay rfl rfl rfl 1 rfl (by decide +kernel) ⟨Nat.le_of_ble_eq_true rfl, Nat.le_of_ble_eq_true rfl⟩ [] rfl (by decide) rfl (wModel E a S) rfl (Nat.le_of_ble_eq_true rfl) dX7_see_9 ⟨Nat.zero_le _, Nat.zero_le _⟩ _ rfl ?_
    refine z_if_eq C 27 (by decide) h dX7_see_12 (fun hc h => ?_) (fun hc h => ?_)
    · refine z_iconst C (v := (-1 : Int32)) (by decide) dX7_see_27 ?_
      obtain rfl := Option.some.inj h
      exact R rfl 28 _ dX7_see_28
    · refine z_iload_n C 3 rfl rfl dX7_see_15 ?_
      refine z_i2l C dX7_see_16 ?_
      refine z_lconst C (v := (0 : Int64)) (by decide) dX7_see_17 ?_
      refine z_ldc2 C (v := (999 : Int64)) (List.mem_of_getElem? (i := 1) rfl) dX7_see_18 ?_
      obtain ⟨q3, e3, h⟩ := bd_e h
      refine z_callSi C (rest := []) (c_X7_in E (Int32.toInt64 x3) (0 : Int64) (999 : Int64) e3) gX7_see_X7_in rfl rfl rfl 3 rfl (by decide +kernel) ⟨Nat.le_of_ble_eq_true rfl, Nat.le_of_ble_eq_true rfl⟩ [] rfl (by decide) rfl (wModel E a S) rfl (Nat.le_of_ble_eq_true rfl) dX7_see_21 ⟨Nat.zero_le _, Nat.zero_le _⟩ _ rfl ?_
      refine z_if_ne C 29 (by decide) h dX7_see_24 (fun hc h => ?_) (fun hc h => ?_)
      · refine z_iconst C (v := (-1 : Int32)) (by decide) dX7_see_27 ?_
        obtain rfl := Option.some.inj h
        exact R rfl 28 _ dX7_see_28
      · refine z_aload_n C 0 rfl rfl dX7_see_29 ?_
        refine z_get C 0 rfl (C := RX7) (T := TX7) (N := 38) (ci := 7) rfl inw_X7_see_X7 32 (by decide) (ref := "EldestAgeModel") (List.mem_of_getElem? (i := 2) rfl) rfl (v := .int (S 32 0)) rfl dX7_see_30 ?_
        refine z_bipush C (v := (8 : Int32)) (by decide) dX7_see_33 ?_
        refine z_icmp_ne C 41 (by decide) h dX7_see_35 (fun hc h => ?_) (fun hc h => ?_)
        · refine z_bipush C (v := (-3 : Int32)) (by decide) dX7_see_38 ?_
          obtain rfl := Option.some.inj h
          exact R rfl 40 _ dX7_see_40
        · refine z_aload_n C 0 rfl rfl dX7_see_41 ?_
          refine z_get C 0 rfl (C := RX7) (T := TX7) (N := 38) (ci := 7) rfl inw_X7_see_X7 31 (by decide) (ref := "EldestAgeModel") (List.mem_of_getElem? (i := 3) rfl) rfl (v := .ref (a 12)) rfl dX7_see_42 ?_
          refine z_iconst C (v := (3 : Int32)) (by decide) dX7_see_45 ?_
          refine z_aload_n C 0 rfl rfl dX7_see_46 ?_
          refine z_get C 0 rfl (C := RX7) (T := TX7) (N := 38) (ci := 7) rfl inw_X7_see_X7 32 (by decide) (ref := "EldestAgeModel") (List.mem_of_getElem? (i := 2) rfl) rfl (v := .int (S 32 0)) rfl dX7_see_47 ?_
          refine z_imul C dX7_see_50 ?_
          refine z_iload_n C 1 rfl rfl dX7_see_51 ?_
          refine z_iast C (N := 24) (f := (S 31)) 12 rfl h (wModel E a (st 31 (upd (S 31) (Int32.toNatClampNeg ((3 : Int32) * (S 32 0))) x1) S)) (wl_X7_see_2 E a S (upd (S 31) (Int32.toNatClampNeg ((3 : Int32) * (S 32 0))) x1)) dX7_see_52 (fun h => ?_)
          refine z_aload_n C 0 rfl rfl dX7_see_53 ?_
          refine z_get C 0 rfl (C := RX7) (T := TX7) (N := 38) (ci := 7) rfl inw_X7_see_X7 31 (by decide) (ref := "EldestAgeModel") (List.mem_of_getElem? (i := 3) rfl) rfl (v := .ref (a 12)) rfl dX7_see_54 ?_
          refine z_iconst C (v := (3 : Int32)) (by decide) dX7_see_57 ?_
          refine z_aload_n C 0 rfl rfl dX7_see_58 ?_
          refine z_get C 0 rfl (C := RX7) (T := TX7) (N := 38) (ci := 7) rfl inw_X7_see_X7 32 (by decide) (ref := "EldestAgeModel") (List.mem_of_getElem? (i := 2) rfl) rfl (v := .int (S 32 0)) rfl dX7_see_59 ?_
          refine z_imul C dX7_see_62 ?_
          refine z_iconst C (v := (1 : Int32)) (by decide) dX7_see_63 ?_
          refine z_iadd C dX7_see_64 ?_
          refine z_iload_n C 2 rfl rfl dX7_see_65 ?_
          refine z_iast C (N := 24) (f := (upd (S 31) (Int32.toNatClampNeg ((3 : Int32) * (S 32 0))) x1)) 12 rfl h (wModel E a (st 31 (upd (upd (S 31) (Int32.toNatClampNeg ((3 : Int32) * (S 32 0))) x1) (Int32.toNatClampNeg (((3 : Int32) * (S 32 0)) + (1 : Int32))) x2) (st 31 (upd (S 31) (Int32.toNatClampNeg ((3 : Int32) * (S 32 0))) x1) S))) (wl_X7_see_2 E a (st 31 (upd (S 31) (Int32.toNatClampNeg ((3 : Int32) * (S 32 0))) x1) S) (upd (upd (S 31) (Int32.toNatClampNeg ((3 : Int32) * (S 32 0))) x1) (Int32.toNatClampNeg (((3 : Int32) * (S 32 0)) + (1 : Int32))) x2)) dX7_see_66 (fun h => ?_)
          refine z_aload_n C 0 rfl rfl dX7_see_67 ?_
          refine z_get C 0 rfl (C := RX7) (T := TX7) (N := 38) (ci := 7) rfl inw_X7_see_X7 31 (by decide) (ref := "EldestAgeModel") (List.mem_of_getElem? (i := 3) rfl) rfl (v := .ref (a 12)) rfl dX7_see_68 ?_
          refine z_iconst C (v := (3 : Int32)) (by decide) dX7_see_71 ?_
          refine z_aload_n C 0 rfl rfl dX7_see_72 ?_
          refine z_get C 0 rfl (C := RX7) (T := TX7) (N := 38) (ci := 7) rfl inw_X7_see_X7 32 (by decide) (ref := "EldestAgeModel") (List.mem_of_getElem? (i := 2) rfl) rfl (v := .int (S 32 0)) rfl dX7_see_73 ?_
          refine z_imul C dX7_see_76 ?_
          refine z_iconst C (v := (2 : Int32)) (by decide) dX7_see_77 ?_
          refine z_iadd C dX7_see_78 ?_
          refine z_iload_n C 3 rfl rfl dX7_see_79 ?_
          refine z_iast C (N := 24) (f := (upd (upd (S 31) (Int32.toNatClampNeg ((3 : Int32) * (S 32 0))) x1) (Int32.toNatClampNeg (((3 : Int32) * (S 32 0)) + (1 : Int32))) x2)) 12 rfl h (wModel E a (st 31 (upd (upd (upd (S 31) (Int32.toNatClampNeg ((3 : Int32) * (S 32 0))) x1) (Int32.toNatClampNeg (((3 : Int32) * (S 32 0)) + (1 : Int32))) x2) (Int32.toNatClampNeg (((3 : Int32) * (S 32 0)) + (2 : Int32))) x3) (st 31 (upd (upd (S 31) (Int32.toNatClampNeg ((3 : Int32) * (S 32 0))) x1) (Int32.toNatClampNeg (((3 : Int32) * (S 32 0)) + (1 : Int32))) x2) (st 31 (upd (S 31) (Int32.toNatClampNeg ((3 : Int32) * (S 32 0))) x1) S)))) (wl_X7_see_2 E a (st 31 (upd (upd (S 31) (Int32.toNatClampNeg ((3 : Int32) * (S 32 0))) x1) (Int32.toNatClampNeg (((3 : Int32) * (S 32 0)) + (1 : Int32))) x2) (st 31 (upd (S 31) (Int32.toNatClampNeg ((3 : Int32) * (S 32 0))) x1) S)) (upd (upd (upd (S 31) (Int32.toNatClampNeg ((3 : Int32) * (S 32 0))) x1) (Int32.toNatClampNeg (((3 : Int32) * (S 32 0)) + (1 : Int32))) x2) (Int32.toNatClampNeg (((3 : Int32) * (S 32 0)) + (2 : Int32))) x3)) dX7_see_80 (fun h => ?_)
          refine z_aload_n C 0 rfl rfl dX7_see_81 ?_
          refine z_dup C rfl dX7_see_82 ?_
          refine z_get C 0 rfl (C := RX7) (T := TX7) (N := 38) (ci := 7) rfl inw_X7_see_X7 32 (by decide) (ref := "EldestAgeModel") (List.mem_of_getElem? (i := 2) rfl) rfl (v := .int (S 32 0)) rfl dX7_see_83 ?_
          refine z_iconst C (v := (1 : Int32)) (by decide) dX7_see_86 ?_
          refine z_iadd C dX7_see_87 ?_
          refine z_put C 0 rfl (C := RX7) (T := TX7) (N := 38) (ci := 7) rfl inw_X7_see_X7 tyX7 tyX7_ok nmX7 32 (by decide) (ref := "EldestAgeModel") (List.mem_of_getElem? (i := 2) rfl) rfl rfl (ty := .int) (v := .int ((S 32 0) + (1 : Int32))) (by decide +kernel) rfl rfl (Nat.le_of_ble_eq_true rfl) (wModel E a (st 32 (fun _ => ((S 32 0) + (1 : Int32))) (st 31 (upd (upd (upd (S 31) (Int32.toNatClampNeg ((3 : Int32) * (S 32 0))) x1) (Int32.toNatClampNeg (((3 : Int32) * (S 32 0)) + (1 : Int32))) x2) (Int32.toNatClampNeg (((3 : Int32) * (S 32 0)) + (2 : Int32))) x3) (st 31 (upd (upd (S 31) (Int32.toNatClampNeg ((3 : Int32) * (S 32 0))) x1) (Int32.toNatClampNeg (((3 : Int32) * (S 32 0)) + (1 : Int32))) x2) (st 31 (upd (S 31) (Int32.toNatClampNeg ((3 : Int32) * (S 32 0))) x1) S))))) (wl_X7_see_3 E a (st 31 (upd (upd (upd (S 31) (Int32.toNatClampNeg ((3 : Int32) * (S 32 0))) x1) (Int32.toNatClampNeg (((3 : Int32) * (S 32 0)) + (1 : Int32))) x2) (Int32.toNatClampNeg (((3 : Int32) * (S 32 0)) + (2 : Int32))) x3) (st 31 (upd (upd (S 31) (Int32.toNatClampNeg ((3 : Int32) * (S 32 0))) x1) (Int32.toNatClampNeg (((3 : Int32) * (S 32 0)) + (1 : Int32))) x2) (st 31 (upd (S 31) (Int32.toNatClampNeg ((3 : Int32) * (S 32 0))) x1) S))) ((S 32 0) + (1 : Int32))) dX7_see_88 ?_
          refine z_aload_n C 0 rfl rfl dX7_see_91 ?_
          refine z_get C 0 rfl (C := RX7) (T := TX7) (N := 38) (ci := 7) rfl inw_X7_see_X7 32 (by decide) (ref := "EldestAgeModel") (List.mem_of_getElem? (i := 2) rfl) rfl (v := .int ((S 32 0) + (1 : Int32))) rfl dX7_see_92 ?_
          obtain rfl := Option.some.inj h
          exact R rfl 95 _ dX7_see_95

theorem c_X7_see (E : zEnv) (a : Nat → Nat) (x1 : Int32) (x2 : Int32) (x3 : Int32) (S : St) {res : (Int32 × St)} (h : f_X7_see x1 x2 x3 S = some res) : Kti E yX7_see wsX7_see rm_X7_see (wModel E a S) (wModel E a res.2) [.ref (a 0), .int x1, .int x2, .int x3] res.1 :=
  z_enti (cc := cX7_see) (maxL := 4) (rt := .int) (by decide +kernel) rfl (Nat.le_of_ble_eq_true rfl) (fun Γ C R => L_X7_see a C R x1 x2 x3 S h)

abbrev rm_X7_forget : Room := { frames := 1, cells := 0, slots := 0, locals := 25 }
theorem inw_X7_forget_X7 : ∀ w ∈ wsX70, w ∈ wsX7_forget := fun _ h => List.mem_cons_of_mem _ (List.mem_append_right _ h)
set_option maxHeartbeats 4000000 in
theorem wl_X7_forget_0 (E : zEnv) (a : Nat → Nat) (S : St) (v : Int32) : (wModel E a (st 32 (fun _ => v) S)) = (wModel E a S).set 0 (a 0, .inr (7, List.set [.ref (a 1), .int (S 1 0), .ref (a 2), .int (S 3 0), .int (S 4 0), .int (S 5 0), .int (S 6 0), .int (S 7 0), .ref (a 3), .int (S 9 0), .int (S 10 0), .int (S 11 0), .int (S 12 0), .int (S 13 0), .int (S 14 0), .int (S 15 0), .int (S 16 0), .ref (a 4), .ref (a 5), .int (S 19 0), .int (S 20 0), .int (S 21 0), .int (S 22 0), .ref (a 6), .int (S 24 0), .ref (a 7), .int (S 26 0), .ref (a 8), .ref (a 9), .ref (a 10), .ref (a 11), .ref (a 12), .int (S 32 0), .ref (a 13), .ref (a 14), .ref (a 15), .ref (a 16), .int (S 37 0)] 32 (.int v))) := rfl
noncomputable def f_X7_forget (x1 : Int32) (S : St) : Option (Int32 × St) := ((f_X7_in (Int32.toInt64 x1) (0 : Int64) (Int32.toInt64 (S 32 0))).bind (fun q1 => (if q1 = 0 then (some ((-1 : Int32), S)) else (some ((S 32 0), (st 32 (fun _ => x1) S))))))
set_option maxHeartbeats 4000000 in
set_option maxRecDepth 100000 in
theorem L_X7_forget {E : zEnv} {Γ : zG} (a : Nat → Nat) (C : zC E Γ cX7_forget RX7 3 rm_X7_forget wsX7_forget) {res : (Int32 × St)} (R : zRi E Γ cX7_forget 3 .int (wModel E a res.2) res.1) (x1 : Int32) (S : St) (h : f_X7_forget x1 S = some res) : Zt E Γ 3 0 0 (wModel E a S) [(0, .ref (a 0)), (1, .int x1)] 0 [] := by
  unfold f_X7_forget at h
  refine z_iload_n C 1 rfl rfl dX7_forget_0 ?_
  refine z_i2l C dX7_forget_1 ?_
  refine z_lconst C (v := (0 : Int64)) (by decide) dX7_forget_2 ?_
  refine z_aload_n C 0 rfl rfl dX7_forget_3 ?_
  refine z_get C 0 rfl (C := RX7) (T := TX7) (N := 38) (ci := 7) rfl inw_X7_forget_X7 32 (by decide) (ref := "EldestAgeModel") (List.mem_of_getElem? (i := 1) rfl) rfl (v := .int (S 32 0)) rfl dX7_forget_4 ?_
  refine z_i2l C dX7_forget_7 ?_
  obtain ⟨q1, e1, h⟩ := bd_e h
  refine z_callSi C (rest := []) (c_X7_in E (Int32.toInt64 x1) (0 : Int64) (Int32.toInt64 (S 32 0)) e1) gX7_forget_X7_in rfl rfl rfl 3 rfl (by decide +kernel) ⟨Nat.le_of_ble_eq_true rfl, Nat.le_of_ble_eq_true rfl⟩ [] rfl (by decide) rfl (wModel E a S) rfl (Nat.le_of_ble_eq_true rfl) dX7_forget_8 ⟨Nat.zero_le _, Nat.zero_le _⟩ _ rfl ?_
  refine z_if_ne C 16 (by decide) h dX7_forget_11 (fun hc h => ?_) (fun hc h => ?_)
  · refine z_iconst C (v := (-1 : Int32)) (by decide) dX7_forget_14 ?_
    obtain rfl := Option.some.inj h
    exact R rfl 15 _ dX7_forget_15
  · refine z_aload_n C 0 rfl rfl dX7_forget_16 ?_
    refine z_get C 0 rfl (C := RX7) (T := TX7) (N := 38) (ci := 7) rfl inw_X7_forget_X7 32 (by decide) (ref := "EldestAgeModel") (List.mem_of_getElem? (i := 1) rfl) rfl (v := .int (S 32 0)) rfl dX7_forget_17 ?_
    refine z_istore_n C [(2, .int (S 32 0)), (0, .ref (a 0)), (1, .int x1)] rfl (by decide) rfl dX7_forget_20 ?_
    refine z_aload_n C 1 rfl rfl dX7_forget_21 ?_
    refine z_iload_n C 2 rfl rfl dX7_forget_22 ?_
    refine z_put C 0 rfl (C := RX7) (T := TX7) (N := 38) (ci := 7) rfl inw_X7_forget_X7 tyX7 tyX7_ok nmX7 32 (by decide) (ref := "EldestAgeModel") (List.mem_of_getElem? (i := 1) rfl) rfl rfl (ty := .int) (v := .int x1) (by decide +kernel) rfl rfl (Nat.le_of_ble_eq_true rfl) (wModel E a (st 32 (fun _ => x1) S)) (wl_X7_forget_0 E a S x1) dX7_forget_23 ?_
    refine z_iload_n C 0 rfl rfl dX7_forget_26 ?_
    obtain rfl := Option.some.inj h
    exact R rfl 27 _ dX7_forget_27

theorem c_X7_forget (E : zEnv) (a : Nat → Nat) (x1 : Int32) (S : St) {res : (Int32 × St)} (h : f_X7_forget x1 S = some res) : Kti E yX7_forget wsX7_forget rm_X7_forget (wModel E a S) (wModel E a res.2) [.ref (a 0), .int x1] res.1 :=
  z_enti (cc := cX7_forget) (maxL := 3) (rt := .int) (by decide +kernel) rfl (Nat.le_of_ble_eq_true rfl) (fun Γ C R => L_X7_forget a C R x1 S h)

abbrev rm_X7_firstLie : Room := { frames := 5, cells := 0, slots := 0, locals := 117 }
theorem inw_X7_firstLie_X7 : ∀ w ∈ wsX70, w ∈ wsX7_firstLie := fun _ h => List.mem_cons_of_mem _ (List.mem_append_right _ h)
set_option maxHeartbeats 4000000 in
theorem wl_X7_firstLie_0 (E : zEnv) (a : Nat → Nat) (S : St) : ([0, 1, 2, 3, 4, 5, 6, 7, 8, 9, 10, 11, 12, 13, 14, 15, 16] : List Nat).map (fun i => (wModel E a S)[i]?) = (wModel E a S).map some := rfl
set_option maxHeartbeats 4000000 in
theorem wl_X7_firstLie_1 (E : zEnv) (a : Nat → Nat) (S U : St) : (wModel E a U).map (fun q => q.1) = (wModel E a S).map (fun q => q.1) := rfl
set_option maxHeartbeats 4000000 in
theorem wl_X7_firstLie_2 (E : zEnv) (a : Nat → Nat) (S U : St) : (wModel E a U) = zrep [0, 1, 2, 3, 4, 5, 6, 7, 8, 9, 10, 11, 12, 13, 14, 15, 16] (wModel E a U) (wModel E a S) := zrep_of (isR := []) 17 rfl [] rfl rfl rfl rfl (by decide +kernel) (by decide +kernel)
noncomputable def f_X7_firstLie_2 (n : Nat) : Int32 → St → Option (Int32 × St) := Nat.rec (motive := fun _ => Int32 → St → Option (Int32 × St)) (fun _ _ => none) (fun _ ih => fun x1 S => (if (S 32 0) ≤ x1 then (some ((-4 : Int32), S)) else (ix ((3 : Int32) * x1) 24 (ix (((3 : Int32) * x1) + (1 : Int32)) 24 ((f_X7_numberNow (S 31 (Int32.toNatClampNeg ((3 : Int32) * x1))) (S 31 (Int32.toNatClampNeg (((3 : Int32) * x1) + (1 : Int32)))) S).bind (fun q1 => (ix (((3 : Int32) * x1) + (2 : Int32)) 24 (if q1.1 = (q1.2 31 (Int32.toNatClampNeg (((3 : Int32) * x1) + (2 : Int32)))) then (ih (x1 + (1 : Int32)) q1.2) else (some (x1, q1.2)))))))))) n
theorem f_X7_firstLie_2_s (n : Nat) (x1 : Int32) (S : St) : f_X7_firstLie_2 (n + 1) x1 S = (if (S 32 0) ≤ x1 then (some ((-4 : Int32), S)) else (ix ((3 : Int32) * x1) 24 (ix (((3 : Int32) * x1) + (1 : Int32)) 24 ((f_X7_numberNow (S 31 (Int32.toNatClampNeg ((3 : Int32) * x1))) (S 31 (Int32.toNatClampNeg (((3 : Int32) * x1) + (1 : Int32)))) S).bind (fun q1 => (ix (((3 : Int32) * x1) + (2 : Int32)) 24 (if q1.1 = (q1.2 31 (Int32.toNatClampNeg (((3 : Int32) * x1) + (2 : Int32)))) then ((f_X7_firstLie_2 n) (x1 + (1 : Int32)) q1.2) else (some (x1, q1.2))))))))) := rfl
noncomputable def f_X7_firstLie (S : St) : Option (Int32 × St) := (f_X7_firstLie_2 1000 (0 : Int32) S)
set_option maxHeartbeats 4000000 in
set_option maxRecDepth 100000 in
theorem L_X7_firstLie_2 {E : zEnv} {Γ : zG} (a : Nat → Nat) (C : zC E Γ cX7_firstLie RX7 2 rm_X7_firstLie wsX7_firstLie) {res : (Int32 × St)} (R : zRi E Γ cX7_firstLie 2 .int (wModel E a res.2) res.1) : ∀ (n : Nat) (x1 : Int32) (S : St), f_X7_firstLie_2 n x1 S = some res → Zt E Γ 2 0 0 (wModel E a S) [(0, .ref (a 0)), (1, .int x1)] 2 [] := by
  intro n
  induction n with
  | zero =>
    intro x1 S h
    cases h
  | succ n ih =>
    intro x1 S h
    rw [f_X7_firstLie_2_s] at h
    refine z_iload_n C 1 rfl rfl dX7_firstLie_2 ?_
    refine z_aload_n C 0 rfl rfl dX7_firstLie_3 ?_
    refine z_get C 0 rfl (C := RX7) (T := TX7) (N := 38) (ci := 7) rfl inw_X7_firstLie_X7 32 (by decide) (ref := "EldestAgeModel") (List.mem_of_getElem? (i := 1) rfl) rfl (v := .int (S 32 0)) rfl dX7_firstLie_4 ?_
    refine z_icmp_ge C 53 (by decide) h dX7_firstLie_7 (fun hc h => ?_) (fun hc h => ?_)
    · refine z_bipush C (v := (-4 : Int32)) (by decide) dX7_firstLie_53 ?_
      obtain rfl := Option.some.inj h
      exact R rfl 55 _ dX7_firstLie_55
    · refine z_aload_n C 0 rfl rfl dX7_firstLie_10 ?_
      refine z_aload_n C 0 rfl rfl dX7_firstLie_11 ?_
      refine z_get C 0 rfl (C := RX7) (T := TX7) (N := 38) (ci := 7) rfl inw_X7_firstLie_X7 31 (by decide) (ref := "EldestAgeModel") (List.mem_of_getElem? (i := 2) rfl) rfl (v := .ref (a 12)) rfl dX7_firstLie_12 ?_
      refine z_iconst C (v := (3 : Int32)) (by decide) dX7_firstLie_15 ?_
      refine z_iload_n C 1 rfl rfl dX7_firstLie_16 ?_
      refine z_imul C dX7_firstLie_17 ?_
      refine z_iald C (N := 24) (f := (S 31)) 12 rfl h dX7_firstLie_18 (fun h => ?_)
      refine z_aload_n C 0 rfl rfl dX7_firstLie_19 ?_
      refine z_get C 0 rfl (C := RX7) (T := TX7) (N := 38) (ci := 7) rfl inw_X7_firstLie_X7 31 (by decide) (ref := "EldestAgeModel") (List.mem_of_getElem? (i := 2) rfl) rfl (v := .ref (a 12)) rfl dX7_firstLie_20 ?_
      refine z_iconst C (v := (3 : Int32)) (by decide) dX7_firstLie_23 ?_
      refine z_iload_n C 1 rfl rfl dX7_firstLie_24 ?_
      refine z_imul C dX7_firstLie_25 ?_
      refine z_iconst C (v := (1 : Int32)) (by decide) dX7_firstLie_26 ?_
      refine z_iadd C dX7_firstLie_27 ?_
      refine z_iald C (N := 24) (f := (S 31)) 12 rfl h dX7_firstLie_28 (fun h => ?_)
      obtain ⟨q1, e1, h⟩ := bd_e h
      refine z_callVi C (b := a 0) (As := [.int (S 31 (Int32.toNatClampNeg ((3 : Int32) * x1))), .int (S 31 (Int32.toNatClampNeg (((3 : Int32) * x1) + (1 : Int32))))]) (rest := []) (c_X7_numberNow E a (S 31 (Int32.toNatClampNeg ((3 : Int32) * x1))) (S 31 (Int32.toNatClampNeg (((3 : Int32) * x1) + (1 : Int32)))) S e1) rfl gX7_firstLie_X7_numberNow rfl rfl rfl 2 rfl (by decide +kernel) ⟨Nat.le_of_ble_eq_true rfl, Nat.le_of_ble_eq_true rfl⟩ [0, 1, 2, 3, 4, 5, 6, 7, 8, 9, 10, 11, 12, 13, 14, 15, 16] (wl_X7_firstLie_0 E a S) (by decide) (wl_X7_firstLie_1 E a _ _) (wModel E a q1.2) (wl_X7_firstLie_2 E a S q1.2) 0 7 rfl rfl rfl (Nat.le_of_ble_eq_true rfl) dX7_firstLie_29 ⟨Nat.zero_le _, Nat.zero_le _⟩ _ rfl ?_
      refine z_aload_n C 0 rfl rfl dX7_firstLie_32 ?_
      refine z_get C 0 rfl (C := RX7) (T := TX7) (N := 38) (ci := 7) rfl inw_X7_firstLie_X7 31 (by decide) (ref := "EldestAgeModel") (List.mem_of_getElem? (i := 2) rfl) rfl (v := .ref (a 12)) rfl dX7_firstLie_33 ?_
      refine z_iconst C (v := (3 : Int32)) (by decide) dX7_firstLie_36 ?_
      refine z_iload_n C 1 rfl rfl dX7_firstLie_37 ?_
      refine z_imul C dX7_firstLie_38 ?_
      refine z_iconst C (v := (2 : Int32)) (by decide) dX7_firstLie_39 ?_
      refine z_iadd C dX7_firstLie_40 ?_
      refine z_iald C (N := 24) (f := (q1.2 31)) 12 rfl h dX7_firstLie_41 (fun h => ?_)
      refine z_icmp_eq C 47 (by decide) h dX7_firstLie_42 (fun hc h => ?_) (fun hc h => ?_)
      · refine z_iinc C [(1, .int (x1 + (1 : Int32))), (0, .ref (a 0))] 1 rfl (by first | rfl | decide) (by decide) rfl dX7_firstLie_47 ?_
        refine z_goto C 2 (by decide) dX7_firstLie_50 ?_
        refine Zt_l [(0, .ref (a 0)), (1, .int (x1 + (1 : Int32)))] [1, 0] rfl ?_
        exact ih (x1 + (1 : Int32)) q1.2 h
      · refine z_iload_n C 1 rfl rfl dX7_firstLie_45 ?_
        obtain rfl := Option.some.inj h
        exact R rfl 46 _ dX7_firstLie_46

set_option maxHeartbeats 4000000 in
set_option maxRecDepth 100000 in
theorem L_X7_firstLie {E : zEnv} {Γ : zG} (a : Nat → Nat) (C : zC E Γ cX7_firstLie RX7 2 rm_X7_firstLie wsX7_firstLie) {res : (Int32 × St)} (R : zRi E Γ cX7_firstLie 2 .int (wModel E a res.2) res.1) (S : St) (h : f_X7_firstLie S = some res) : Zt E Γ 2 0 0 (wModel E a S) [(0, .ref (a 0))] 0 [] := by
  unfold f_X7_firstLie at h
  refine z_iconst C (v := (0 : Int32)) (by decide) dX7_firstLie_0 ?_
  refine z_istore_n C [(1, .int (0 : Int32)), (0, .ref (a 0))] rfl (by decide) rfl dX7_firstLie_1 ?_
  refine Zt_l [(0, .ref (a 0)), (1, .int (0 : Int32))] [1, 0] rfl ?_
  exact L_X7_firstLie_2 a C R 1000 (0 : Int32) S h

theorem c_X7_firstLie (E : zEnv) (a : Nat → Nat) (S : St) {res : (Int32 × St)} (h : f_X7_firstLie S = some res) : Kti E yX7_firstLie wsX7_firstLie rm_X7_firstLie (wModel E a S) (wModel E a res.2) [.ref (a 0)] res.1 :=
  z_enti (cc := cX7_firstLie) (maxL := 2) (rt := .int) (by decide +kernel) rfl (Nat.le_of_ble_eq_true rfl) (fun Γ C R => L_X7_firstLie a C R S h)

abbrev rm_X7_lie : Room := { frames := 6, cells := 0, slots := 0, locals := 138 }
theorem inw_X7_lie_X7 : ∀ w ∈ wsX70, w ∈ wsX7_lie := fun _ h => List.mem_cons_of_mem _ (List.mem_append_right _ h)
set_option maxHeartbeats 4000000 in
theorem wl_X7_lie_0 (E : zEnv) (a : Nat → Nat) (S : St) : ([0, 1, 2, 3, 4, 5, 6, 7, 8, 9, 10, 11, 12, 13, 14, 15, 16] : List Nat).map (fun i => (wModel E a S)[i]?) = (wModel E a S).map some := rfl
set_option maxHeartbeats 4000000 in
theorem wl_X7_lie_1 (E : zEnv) (a : Nat → Nat) (S U : St) : (wModel E a U).map (fun q => q.1) = (wModel E a S).map (fun q => q.1) := rfl
set_option maxHeartbeats 4000000 in
theorem wl_X7_lie_2 (E : zEnv) (a : Nat → Nat) (S U : St) : (wModel E a U) = zrep [0, 1, 2, 3, 4, 5, 6, 7, 8, 9, 10, 11, 12, 13, 14, 15, 16] (wModel E a U) (wModel E a S) := zrep_of (isR := []) 17 rfl [] rfl rfl rfl rfl (by decide +kernel) (by decide +kernel)
noncomputable def f_X7_lie (S : St) : Option (Int32 × St) := ((f_X7_firstLie S).bind (fun q1 => (some (q1.1, q1.2))))
set_option maxHeartbeats 4000000 in
set_option maxRecDepth 100000 in
theorem L_X7_lie {E : zEnv} {Γ : zG} (a : Nat → Nat) (C : zC E Γ cX7_lie RX7 1 rm_X7_lie wsX7_lie) {res : (Int32 × St)} (R : zRi E Γ cX7_lie 1 .int (wModel E a res.2) res.1) (S : St) (h : f_X7_lie S = some res) : Zt E Γ 1 0 0 (wModel E a S) [(0, .ref (a 0))] 0 [] := by
  unfold f_X7_lie at h
  refine z_aload_n C 0 rfl rfl dX7_lie_0 ?_
  obtain ⟨q1, e1, h⟩ := bd_e h
  refine z_callVi C (b := a 0) (As := []) (rest := []) (c_X7_firstLie E a S e1) rfl gX7_lie_X7_firstLie rfl rfl rfl 0 rfl (by decide +kernel) ⟨Nat.le_of_ble_eq_true rfl, Nat.le_of_ble_eq_true rfl⟩ [0, 1, 2, 3, 4, 5, 6, 7, 8, 9, 10, 11, 12, 13, 14, 15, 16] (wl_X7_lie_0 E a S) (by decide) (wl_X7_lie_1 E a _ _) (wModel E a q1.2) (wl_X7_lie_2 E a S q1.2) 0 7 rfl rfl rfl (Nat.le_of_ble_eq_true rfl) dX7_lie_1 ⟨Nat.zero_le _, Nat.zero_le _⟩ _ rfl ?_
  obtain rfl := Option.some.inj h
  exact R rfl 4 _ dX7_lie_4

theorem c_X7_lie (E : zEnv) (a : Nat → Nat) (S : St) {res : (Int32 × St)} (h : f_X7_lie S = some res) : Kti E yX7_lie wsX7_lie rm_X7_lie (wModel E a S) (wModel E a res.2) [.ref (a 0)] res.1 :=
  z_enti (cc := cX7_lie) (maxL := 1) (rt := .int) (by decide +kernel) rfl (Nat.le_of_ble_eq_true rfl) (fun Γ C R => L_X7_lie a C R S h)
