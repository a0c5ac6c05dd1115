def Z0 : St := fun _ _ => 0
theorem zlast {wr : va_W} {x : Nat × va_E} : [wr.length].map (fun i => (wr ++ [x])[i]?) = [x].map some ∧ (List.range wr.length).map (fun i => (wr ++ [x])[i]?) = wr.map some := by
  refine ⟨by simp, ?_⟩
  refine List.ext_getElem? fun j => ?_
  rw [List.getElem?_map, List.getElem?_map]
  by_cases h : j < wr.length
  · rw [List.getElem?_range h]
    simp [List.getElem?_append_left h, List.getElem?_eq_getElem h]
  · rw [List.getElem?_eq_none (by simp; omega), List.getElem?_eq_none (by omega)]
    rfl
theorem znd : ∀ (l : List Nat), l.Nodup → va_nd l = true
  | [], _ => rfl
  | x :: xs, h => by
    have h1 := List.nodup_cons.mp h
    simp [va_nd, h1.1, znd xs h1.2]
theorem zlast_d {n : Nat} : ∀ i ∈ List.range n, i ∉ [n] := by
  intro i hi h
  have h1 := List.mem_range.mp hi
  have h2 : i = n := by simpa using h
  omega
theorem z_callINe {E : zEnv} {Γ : zG} {cc : ByteArray} {own : String} {nL : Nat} {rm : Room} {Ts : List Cond} {k n : Nat} {lv : List (Nat × Value)} {pc : Nat} {rest : List Value} {y : MethodName} {wy wy' : List Cond} {rmy : Room} {mc ms : Nat} {wr : va_W} {x : Nat × va_E} {w1 : (Nat → Nat) → va_W} {ok : (Nat → Nat) → Prop} {As : List Value} {bytes : ByteArray} {maxL idx b : Nat} (C0 : zC E Γ cc own nL rm Ts) (hI : zI0 Γ) (Kc : Kta E y wy rmy mc ms [x] w1 ok (.ref b :: As)) (host : String) (hnest : Cond.methodLinkNest own idx y host ∈ zNest) (hini : Cond.initialized y.cls ∈ Ts) (hins : Cond.instanceMethod y ∈ Ts) (G : GoodIn Ts wy) (hwy : wy = Cond.code y bytes maxL none :: wy') (hyn : y.name = "<init>") (hrc : rmy.cells = mc) (hrs : rmy.slots = ms) (nn : Nat) (hnn : As.length = nn) (hdd : y.cls ≠ "java/lang/invoke/MethodHandle" ∧ y.cls ≠ "java/lang/invoke/VarHandle" ∧ (parseMethodDescriptor y.desc).map (fun d => d.parameters.length) = some nn) (hRR : rmy.frames + 1 ≤ rm.frames ∧ 8 + (maxL + 11) + rmy.locals ≤ rm.locals) (hst : (rest.map fun v => v.category).sum ≤ 8) (hd : decode cc pc = .ok (.invokespecial idx, 3)) (hkk : k + mc ≤ rm.cells ∧ n + ms ≤ rm.slots) (stk : List Value) (hstk : stk = As.reverse ++ .ref b :: rest) (K : ∀ u : Nat → Nat, ok u → Zt E Γ nL (k + mc) (n + ms) (wr ++ w1 u) (lv) (pc + 3) (rest)) : Zt E Γ nL (k) (n) (wr ++ [x]) (lv) (pc) (stk) :=
  z_callIN (wr := wr) C0 hI Kc host hnest hini hins G hwy hyn hrc hrs nn hnn hdd hRR [wr.length] (List.range wr.length) zlast.1 zlast.2 rfl (znd _ List.nodup_range) zlast_d hst hd hkk stk hstk K
theorem z_callIe {E : zEnv} {Γ : zG} {cc : ByteArray} {own : String} {nL : Nat} {rm : Room} {Ts : List Cond} {k n : Nat} {lv : List (Nat × Value)} {pc : Nat} {rest : List Value} {y : MethodName} {wy wy' : List Cond} {rmy : Room} {mc ms : Nat} {wr : va_W} {x : Nat × va_E} {w1 : (Nat → Nat) → va_W} {ok : (Nat → Nat) → Prop} {As : List Value} {bytes : ByteArray} {maxL idx b : Nat} (C0 : zC E Γ cc own nL rm Ts) (hXs : zXs Γ) (Kc : Kta E y wy rmy mc ms [x] w1 ok (.ref b :: As)) (hlk9 : Cond.methodLink own idx y ∈ Ts) (hini : Cond.initialized y.cls ∈ Ts) (hins : Cond.instanceMethod y ∈ Ts) (G : GoodIn Ts wy) (hwy : wy = Cond.code y bytes maxL none :: wy') (hyn : y.name = "<init>") (hrc : rmy.cells = mc) (hrs : rmy.slots = ms) (nn : Nat) (hnn : As.length = nn) (hdd : y.cls ≠ "java/lang/invoke/MethodHandle" ∧ y.cls ≠ "java/lang/invoke/VarHandle" ∧ (parseMethodDescriptor y.desc).map (fun d => d.parameters.length) = some nn) (hRR : rmy.frames + 1 ≤ rm.frames ∧ 8 + (maxL + 11) + rmy.locals ≤ rm.locals) (hst : (rest.map fun v => v.category).sum ≤ 8) (hd : decode cc pc = .ok (.invokespecial idx, 3)) (hkk : k + mc ≤ rm.cells ∧ n + ms ≤ rm.slots) (stk : List Value) (hstk : stk = As.reverse ++ .ref b :: rest) (K : ∀ u : Nat → Nat, ok u → Zt E Γ nL (k + mc) (n + ms) (wr ++ w1 u) (lv) (pc + 3) (rest)) : Zt E Γ nL (k) (n) (wr ++ [x]) (lv) (pc) (stk) :=
  z_callI (wr := wr) C0 hXs Kc hlk9 hini hins G hwy hyn hrc hrs nn hnn hdd hRR [wr.length] (List.range wr.length) zlast.1 zlast.2 rfl (znd _ List.nodup_range) zlast_d hst hd hkk stk hstk K
theorem ix_ok {i : Int32} {n : Nat} (h : 0 ≤ i.toInt ∧ i.toInt < n) : ix i n (some ()) = some () := if_pos h
theorem zdef_X0 : ∀ j, j < 8 → defaultValue (tyX0 j) = vp_V [.int 0, .null, .null, .null, .null, .null, .null, .null] j := by
  intro j hj
  have h9 : ∀ j : Fin 8, defaultValue (tyX0 j) = vp_V [.int 0, .null, .null, .null, .null, .null, .null, .null] j := by decide +kernel
  exact h9 ⟨j, hj⟩
theorem zdef_X1 : ∀ j, j < 3 → defaultValue (tyX1 j) = vp_V [.null, .null, .null] j := by
  intro j hj
  have h9 : ∀ j : Fin 3, defaultValue (tyX1 j) = vp_V [.null, .null, .null] j := by decide +kernel
  exact h9 ⟨j, hj⟩
theorem zdef_X2 : ∀ j, j < 4 → defaultValue (tyX2 j) = vp_V [.null, .null, .null, .null] j := by
  intro j hj
  have h9 : ∀ j : Fin 4, defaultValue (tyX2 j) = vp_V [.null, .null, .null, .null] j := by decide +kernel
  exact h9 ⟨j, hj⟩
theorem zdef_X3 : ∀ j, j < 12 → defaultValue (tyX3 j) = vp_V [.null, .int 0, .int 0, .int 0, .int 0, .int 0, .int 0, .int 0, .int 0, .int 0, .int 0, .int 0] j := by
  intro j hj
  have h9 : ∀ j : Fin 12, defaultValue (tyX3 j) = vp_V [.null, .int 0, .int 0, .int 0, .int 0, .int 0, .int 0, .int 0, .int 0, .int 0, .int 0, .int 0] j := by decide +kernel
  exact h9 ⟨j, hj⟩
theorem zdef_X4 : ∀ j, j < 5 → defaultValue (tyX4 j) = vp_V [.int 0, .null, .null, .null, .int 0] j := by
  intro j hj
  have h9 : ∀ j : Fin 5, defaultValue (tyX4 j) = vp_V [.int 0, .null, .null, .null, .int 0] j := by decide +kernel
  exact h9 ⟨j, hj⟩
theorem zdef_X5 : ∀ j, j < 16 → defaultValue (tyX5 j) = vp_V [.int 0, .int 0, .int 0, .null, .null, .null, .null, .int 0, .null, .null, .null, .int 0, .null, .null, .null, .null] j := by
  intro j hj
  have h9 : ∀ j : Fin 16, defaultValue (tyX5 j) = vp_V [.int 0, .int 0, .int 0, .null, .null, .null, .null, .int 0, .null, .null, .null, .int 0, .null, .null, .null, .null] j := by decide +kernel
  exact h9 ⟨j, hj⟩
theorem zdef_X6 : ∀ j, j < 11 → defaultValue (tyX6 j) = vp_V [.null, .null, .null, .null, .null, .null, .null, .null, .null, .int 0, .int 0] j := by
  intro j hj
  have h9 : ∀ j : Fin 11, defaultValue (tyX6 j) = vp_V [.null, .null, .null, .null, .null, .null, .null, .null, .null, .int 0, .int 0] j := by decide +kernel
  exact h9 ⟨j, hj⟩
theorem zdef_X7 : ∀ j, j < 38 → defaultValue (tyX7 j) = vp_V [.null, .int 0, .null, .int 0, .int 0, .int 0, .int 0, .int 0, .null, .int 0, .int 0, .int 0, .int 0, .int 0, .int 0, .int 0, .int 0, .null, .null, .int 0, .int 0, .int 0, .int 0, .null, .int 0, .null, .int 0, .null, .null, .null, .null, .null, .int 0, .null, .null, .null, .null, .int 0] j := by
  intro j hj
  have h9 : ∀ j : Fin 38, defaultValue (tyX7 j) = vp_V [.null, .int 0, .null, .int 0, .int 0, .int 0, .int 0, .int 0, .null, .int 0, .int 0, .int 0, .int 0, .int 0, .int 0, .int 0, .int 0, .null, .null, .int 0, .int 0, .int 0, .int 0, .null, .int 0, .null, .int 0, .null, .null, .null, .null, .null, .int 0, .null, .null, .null, .null, .int 0] j := by decide +kernel
  exact h9 ⟨j, hj⟩
abbrev rm_X2_init : Room := { frames := 1, cells := 4, slots := 32, locals := 12 }
theorem inw_X2_init_X2 : ∀ w ∈ wsX20, w ∈ wsX2_init := fun _ h => List.mem_cons_of_mem _ (List.mem_append_right _ h)
set_option maxHeartbeats 8000000 in
set_option maxRecDepth 100000 in
theorem c_X2_init (E : zEnv) (h0 : Nat) : Kta E yX2_init wsX2_init rm_X2_init 4 32 [(h0, .inr (2, [.null, .null, .null, .null]))] (fun u => wTally E u Z0) (fun u => u 0 = h0) [.ref h0] := z_enta (cc := cX2_init) (maxL := 1) (by decide +kernel) rfl rfl (Nat.le_of_ble_eq_true rfl) (fun Γ C hI R => by
  refine z_aload_n C 0 rfl rfl dX2_init_0 ?_
  refine z_objInit C (List.mem_of_getElem? (i := 1) rfl) (List.mem_of_getElem? (i := 2) rfl) (List.mem_of_getElem? (i := 3) rfl) (Nat.le_of_ble_eq_true rfl) (Nat.le_of_ble_eq_true rfl) dX2_init_1 ?_
  refine z_aload_n C 0 rfl rfl dX2_init_4 ?_
  refine z_bipush C (v := (8 : Int32)) (by decide) dX2_init_5 ?_
  refine z_newi C 8 (by decide) (by decide) (List.mem_of_getElem? (i := 4) rfl) (Nat.le_of_ble_eq_true rfl) (Nat.le_of_ble_eq_true rfl) (Nat.le_of_ble_eq_true rfl) dX2_init_7 (fun q7 => ?_)
  refine Zt_w ((h0, .inr (2, [.null, .null, .null, .null])) :: [(q7, .inl (zI E, 8, .inl (fun _ => 0)))]) rfl ?_
  refine z_putF C hI 0 rfl (C := RX2) (T := TX2) (N := 4) (ci := 2) rfl inw_X2_init_X2 tyX2 tyX2_ok nmX2 0 (by decide) (ref := "EldestAge$Tally") (List.mem_of_getElem? (i := 5) rfl) rfl rfl rfl (ty := .array .int) (v := .ref q7) (by decide +kernel) rfl rfl (Nat.le_of_ble_eq_true rfl) ((h0, .inr (2, [.ref q7, .null, .null, .null])) :: [(q7, .inl (zI E, 8, .inl (fun _ => 0)))]) rfl dX2_init_9 ?_
  refine z_aload_n C 0 rfl rfl dX2_init_12 ?_
  refine z_bipush C (v := (8 : Int32)) (by decide) dX2_init_13 ?_
  refine z_newi C 8 (by decide) (by decide) (List.mem_of_getElem? (i := 4) rfl) (Nat.le_of_ble_eq_true rfl) (Nat.le_of_ble_eq_true rfl) (Nat.le_of_ble_eq_true rfl) dX2_init_15 (fun q15 => ?_)
  refine Zt_w ((h0, .inr (2, [.ref q7, .null, .null, .null])) :: [(q7, .inl (zI E, 8, .inl (fun _ => 0))), (q15, .inl (zI E, 8, .inl (fun _ => 0)))]) rfl ?_
  refine z_putF C hI 0 rfl (C := RX2) (T := TX2) (N := 4) (ci := 2) rfl inw_X2_init_X2 tyX2 tyX2_ok nmX2 1 (by decide) (ref := "EldestAge$Tally") (List.mem_of_getElem? (i := 6) rfl) rfl rfl rfl (ty := .array .int) (v := .ref q15) (by decide +kernel) rfl rfl (Nat.le_of_ble_eq_true rfl) ((h0, .inr (2, [.ref q7, .ref q15, .null, .null])) :: [(q7, .inl (zI E, 8, .inl (fun _ => 0))), (q15, .inl (zI E, 8, .inl (fun _ => 0)))]) rfl dX2_init_17 ?_
  refine z_aload_n C 0 rfl rfl dX2_init_20 ?_
  refine z_bipush C (v := (8 : Int32)) (by decide) dX2_init_21 ?_
  refine z_newi C 8 (by decide) (by decide) (List.mem_of_getElem? (i := 4) rfl) (Nat.le_of_ble_eq_true rfl) (Nat.le_of_ble_eq_true rfl) (Nat.le_of_ble_eq_true rfl) dX2_init_23 (fun q23 => ?_)
  refine Zt_w ((h0, .inr (2, [.ref q7, .ref q15, .null, .null])) :: [(q7, .inl (zI E, 8, .inl (fun _ => 0))), (q15, .inl (zI E, 8, .inl (fun _ => 0))), (q23, .inl (zI E, 8, .inl (fun _ => 0)))]) rfl ?_
  refine z_putF C hI 0 rfl (C := RX2) (T := TX2) (N := 4) (ci := 2) rfl inw_X2_init_X2 tyX2 tyX2_ok nmX2 2 (by decide) (ref := "EldestAge$Tally") (List.mem_of_getElem? (i := 7) rfl) rfl rfl rfl (ty := .array .int) (v := .ref q23) (by decide +kernel) rfl rfl (Nat.le_of_ble_eq_true rfl) ((h0, .inr (2, [.ref q7, .ref q15, .ref q23, .null])) :: [(q7, .inl (zI E, 8, .inl (fun _ => 0))), (q15, .inl (zI E, 8, .inl (fun _ => 0))), (q23, .inl (zI E, 8, .inl (fun _ => 0)))]) rfl dX2_init_25 ?_
  refine z_aload_n C 0 rfl rfl dX2_init_28 ?_
  refine z_bipush C (v := (8 : Int32)) (by decide) dX2_init_29 ?_
  refine z_newi C 8 (by decide) (by decide) (List.mem_of_getElem? (i := 4) rfl) (Nat.le_of_ble_eq_true rfl) (Nat.le_of_ble_eq_true rfl) (Nat.le_of_ble_eq_true rfl) dX2_init_31 (fun q31 => ?_)
  refine Zt_w ((h0, .inr (2, [.ref q7, .ref q15, .ref q23, .null])) :: [(q7, .inl (zI E, 8, .inl (fun _ => 0))), (q15, .inl (zI E, 8, .inl (fun _ => 0))), (q23, .inl (zI E, 8, .inl (fun _ => 0))), (q31, .inl (zI E, 8, .inl (fun _ => 0)))]) rfl ?_
  refine z_putF C hI 0 rfl (C := RX2) (T := TX2) (N := 4) (ci := 2) rfl inw_X2_init_X2 tyX2 tyX2_ok nmX2 3 (by decide) (ref := "EldestAge$Tally") (List.mem_of_getElem? (i := 8) rfl) rfl rfl rfl (ty := .array .int) (v := .ref q31) (by decide +kernel) rfl rfl (Nat.le_of_ble_eq_true rfl) ((h0, .inr (2, [.ref q7, .ref q15, .ref q23, .ref q31])) :: [(q7, .inl (zI E, 8, .inl (fun _ => 0))), (q15, .inl (zI E, 8, .inl (fun _ => 0))), (q23, .inl (zI E, 8, .inl (fun _ => 0))), (q31, .inl (zI E, 8, .inl (fun _ => 0)))]) rfl dX2_init_33 ?_
  exact R ((fun k => [h0, q7, q15, q23, q31].getD k 0)) rfl 36 _ dX2_init_36)
abbrev rm_X5_init : Room := { frames := 2, cells := 15, slots := 140, locals := 32 }
theorem inw_X5_init_X5 : ∀ w ∈ wsX50, w ∈ wsX5_init := fun _ h => List.mem_cons_of_mem _ (List.mem_append_left _ (List.mem_append_right _ h))
theorem inw_X5_init_X2 : ∀ w ∈ wsX20, w ∈ wsX5_init := fun _ h => List.mem_cons_of_mem _ (List.mem_append_right _ h)
set_option maxHeartbeats 8000000 in
set_option maxRecDepth 100000 in
theorem c_X5_init (E : zEnv) (h0 : Nat) : Kta E yX5_init wsX5_init rm_X5_init 15 140 [(h0, .inr (5, [.int 0, .int 0, .int 0, .null, .null, .null, .null, .int 0, .null, .null, .null, .int 0, .null, .null, .null, .null]))] (fun u => wTown E u (st 0 (fun _ => 4) Z0)) (fun u => u 0 = h0) [.ref h0] := z_enta (cc := cX5_init) (maxL := 1) (by decide +kernel) rfl rfl (Nat.le_of_ble_eq_true rfl) (fun Γ C hI R => by
  refine z_aload_n C 0 rfl rfl dX5_init_0 ?_
  refine z_objInit C (List.mem_of_getElem? (i := 1) rfl) (List.mem_of_getElem? (i := 2) rfl) (List.mem_of_getElem? (i := 3) rfl) (Nat.le_of_ble_eq_true rfl) (Nat.le_of_ble_eq_true rfl) dX5_init_1 ?_
  refine z_aload_n C 0 rfl rfl dX5_init_4 ?_
  refine z_iconst C (v := (4 : Int32)) (by decide) dX5_init_5 ?_
  refine z_put C 0 rfl (C := RX5) (T := TX5) (N := 16) (ci := 5) rfl inw_X5_init_X5 tyX5 tyX5_ok nmX5 0 (by decide) (ref := "EldestAge$Town") (List.mem_of_getElem? (i := 4) rfl) rfl rfl (ty := .int) (v := .int (4 : Int32)) (by decide +kernel) rfl rfl (Nat.le_of_ble_eq_true rfl) ((h0, .inr (5, [.int (4 : Int32), .int 0, .int 0, .null, .null, .null, .null, .int 0, .null, .null, .null, .int 0, .null, .null, .null, .null])) :: []) rfl dX5_init_6 ?_
  refine z_aload_n C 0 rfl rfl dX5_init_9 ?_
  refine z_iconst C (v := (0 : Int32)) (by decide) dX5_init_10 ?_
  refine z_put C 0 rfl (C := RX5) (T := TX5) (N := 16) (ci := 5) rfl inw_X5_init_X5 tyX5 tyX5_ok nmX5 1 (by decide) (ref := "EldestAge$Town") (List.mem_of_getElem? (i := 5) rfl) rfl rfl (ty := .int) (v := .int (0 : Int32)) (by decide +kernel) rfl rfl (Nat.le_of_ble_eq_true rfl) ((h0, .inr (5, [.int (4 : Int32), .int (0 : Int32), .int 0, .null, .null, .null, .null, .int 0, .null, .null, .null, .int 0, .null, .null, .null, .null])) :: []) rfl dX5_init_11 ?_
  refine z_aload_n C 0 rfl rfl dX5_init_14 ?_
  refine z_iconst C (v := (0 : Int32)) (by decide) dX5_init_15 ?_
  refine z_put C 0 rfl (C := RX5) (T := TX5) (N := 16) (ci := 5) rfl inw_X5_init_X5 tyX5 tyX5_ok nmX5 2 (by decide) (ref := "EldestAge$Town") (List.mem_of_getElem? (i := 6) rfl) rfl rfl (ty := .int) (v := .int (0 : Int32)) (by decide +kernel) rfl rfl (Nat.le_of_ble_eq_true rfl) ((h0, .inr (5, [.int (4 : Int32), .int (0 : Int32), .int (0 : Int32), .null, .null, .null, .null, .int 0, .null, .null, .null, .int 0, .null, .null, .null, .null])) :: []) rfl dX5_init_16 ?_
  refine z_aload_n C 0 rfl rfl dX5_init_19 ?_
  refine z_bipush C (v := (14 : Int32)) (by decide) dX5_init_20 ?_
  refine z_newi C 14 (by decide) (by decide) (List.mem_of_getElem? (i := 7) rfl) (Nat.le_of_ble_eq_true rfl) (Nat.le_of_ble_eq_true rfl) (Nat.le_of_ble_eq_true rfl) dX5_init_22 (fun q22 => ?_)
  refine Zt_w ((h0, .inr (5, [.int (4 : Int32), .int (0 : Int32), .int (0 : Int32), .null, .null, .null, .null, .int 0, .null, .null, .null, .int 0, .null, .null, .null, .null])) :: [(q22, .inl (zI E, 14, .inl (fun _ => 0)))]) rfl ?_
  refine z_putF C hI 0 rfl (C := RX5) (T := TX5) (N := 16) (ci := 5) rfl inw_X5_init_X5 tyX5 tyX5_ok nmX5 3 (by decide) (ref := "EldestAge$Town") (List.mem_of_getElem? (i := 8) rfl) rfl rfl rfl (ty := .array .int) (v := .ref q22) (by decide +kernel) rfl rfl (Nat.le_of_ble_eq_true rfl) ((h0, .inr (5, [.int (4 : Int32), .int (0 : Int32), .int (0 : Int32), .ref q22, .null, .null, .null, .int 0, .null, .null, .null, .int 0, .null, .null, .null, .null])) :: [(q22, .inl (zI E, 14, .inl (fun _ => 0)))]) rfl dX5_init_24 ?_
  refine z_aload_n C 0 rfl rfl dX5_init_27 ?_
  refine z_bipush C (v := (14 : Int32)) (by decide) dX5_init_28 ?_
  refine z_newi C 14 (by decide) (by decide) (List.mem_of_getElem? (i := 7) rfl) (Nat.le_of_ble_eq_true rfl) (Nat.le_of_ble_eq_true rfl) (Nat.le_of_ble_eq_true rfl) dX5_init_30 (fun q30 => ?_)
  refine Zt_w ((h0, .inr (5, [.int (4 : Int32), .int (0 : Int32), .int (0 : Int32), .ref q22, .null, .null, .null, .int 0, .null, .null, .null, .int 0, .null, .null, .null, .null])) :: [(q22, .inl (zI E, 14, .inl (fun _ => 0))), (q30, .inl (zI E, 14, .inl (fun _ => 0)))]) rfl ?_
  refine z_putF C hI 0 rfl (C := RX5) (T := TX5) (N := 16) (ci := 5) rfl inw_X5_init_X5 tyX5 tyX5_ok nmX5 4 (by decide) (ref := "EldestAge$Town") (List.mem_of_getElem? (i := 9) rfl) rfl rfl rfl (ty := .array .int) (v := .ref q30) (by decide +kernel) rfl rfl (Nat.le_of_ble_eq_true rfl) ((h0, .inr (5, [.int (4 : Int32), .int (0 : Int32), .int (0 : Int32), .ref q22, .ref q30, .null, .null, .int 0, .null, .null, .null, .int 0, .null, .null, .null, .null])) :: [(q22, .inl (zI E, 14, .inl (fun _ => 0))), (q30, .inl (zI E, 14, .inl (fun _ => 0)))]) rfl dX5_init_32 ?_
  refine z_aload_n C 0 rfl rfl dX5_init_35 ?_
  refine z_bipush C (v := (14 : Int32)) (by decide) dX5_init_36 ?_
  refine z_newi C 14 (by decide) (by decide) (List.mem_of_getElem? (i := 7) rfl) (Nat.le_of_ble_eq_true rfl) (Nat.le_of_ble_eq_true rfl) (Nat.le_of_ble_eq_true rfl) dX5_init_38 (fun q38 => ?_)
  refine Zt_w ((h0, .inr (5, [.int (4 : Int32), .int (0 : Int32), .int (0 : Int32), .ref q22, .ref q30, .null, .null, .int 0, .null, .null, .null, .int 0, .null, .null, .null, .null])) :: [(q22, .inl (zI E, 14, .inl (fun _ => 0))), (q30, .inl (zI E, 14, .inl (fun _ => 0))), (q38, .inl (zI E, 14, .inl (fun _ => 0)))]) rfl ?_
  refine z_putF C hI 0 rfl (C := RX5) (T := TX5) (N := 16) (ci := 5) rfl inw_X5_init_X5 tyX5 tyX5_ok nmX5 5 (by decide) (ref := "EldestAge$Town") (List.mem_of_getElem? (i := 10) rfl) rfl rfl rfl (ty := .array .int) (v := .ref q38) (by decide +kernel) rfl rfl (Nat.le_of_ble_eq_true rfl) ((h0, .inr (5, [.int (4 : Int32), .int (0 : Int32), .int (0 : Int32), .ref q22, .ref q30, .ref q38, .null, .int 0, .null, .null, .null, .int 0, .null, .null, .null, .null])) :: [(q22, .inl (zI E, 14, .inl (fun _ => 0))), (q30, .inl (zI E, 14, .inl (fun _ => 0))), (q38, .inl (zI E, 14, .inl (fun _ => 0)))]) rfl dX5_init_40 ?_
  refine z_aload_n C 0 rfl rfl dX5_init_43 ?_
  refine z_bipush C (v := (14 : Int32)) (by decide) dX5_init_44 ?_
  refine z_newi C 14 (by decide) (by decide) (List.mem_of_getElem? (i := 7) rfl) (Nat.le_of_ble_eq_true rfl) (Nat.le_of_ble_eq_true rfl) (Nat.le_of_ble_eq_true rfl) dX5_init_46 (fun q46 => ?_)
  refine Zt_w ((h0, .inr (5, [.int (4 : Int32), .int (0 : Int32), .int (0 : Int32), .ref q22, .ref q30, .ref q38, .null, .int 0, .null, .null, .null, .int 0, .null, .null, .null, .null])) :: [(q22, .inl (zI E, 14, .inl (fun _ => 0))), (q30, .inl (zI E, 14, .inl (fun _ => 0))), (q38, .inl (zI E, 14, .inl (fun _ => 0))), (q46, .inl (zI E, 14, .inl (fun _ => 0)))]) rfl ?_
  refine z_putF C hI 0 rfl (C := RX5) (T := TX5) (N := 16) (ci := 5) rfl inw_X5_init_X5 tyX5 tyX5_ok nmX5 6 (by decide) (ref := "EldestAge$Town") (List.mem_of_getElem? (i := 11) rfl) rfl rfl rfl (ty := .array .int) (v := .ref q46) (by decide +kernel) rfl rfl (Nat.le_of_ble_eq_true rfl) ((h0, .inr (5, [.int (4 : Int32), .int (0 : Int32), .int (0 : Int32), .ref q22, .ref q30, .ref q38, .ref q46, .int 0, .null, .null, .null, .int 0, .null, .null, .null, .null])) :: [(q22, .inl (zI E, 14, .inl (fun _ => 0))), (q30, .inl (zI E, 14, .inl (fun _ => 0))), (q38, .inl (zI E, 14, .inl (fun _ => 0))), (q46, .inl (zI E, 14, .inl (fun _ => 0)))]) rfl dX5_init_48 ?_
  refine z_aload_n C 0 rfl rfl dX5_init_51 ?_
  refine z_iconst C (v := (0 : Int32)) (by decide) dX5_init_52 ?_
  refine z_put C 0 rfl (C := RX5) (T := TX5) (N := 16) (ci := 5) rfl inw_X5_init_X5 tyX5 tyX5_ok nmX5 7 (by decide) (ref := "EldestAge$Town") (List.mem_of_getElem? (i := 12) rfl) rfl rfl (ty := .int) (v := .int (0 : Int32)) (by decide +kernel) rfl rfl (Nat.le_of_ble_eq_true rfl) ((h0, .inr (5, [.int (4 : Int32), .int (0 : Int32), .int (0 : Int32), .ref q22, .ref q30, .ref q38, .ref q46, .int (0 : Int32), .null, .null, .null, .int 0, .null, .null, .null, .null])) :: [(q22, .inl (zI E, 14, .inl (fun _ => 0))), (q30, .inl (zI E, 14, .inl (fun _ => 0))), (q38, .inl (zI E, 14, .inl (fun _ => 0))), (q46, .inl (zI E, 14, .inl (fun _ => 0)))]) rfl dX5_init_53 ?_
  refine z_aload_n C 0 rfl rfl dX5_init_56 ?_
  refine z_bipush C (v := (12 : Int32)) (by decide) dX5_init_57 ?_
  refine z_newi C 12 (by decide) (by decide) (List.mem_of_getElem? (i := 7) rfl) (Nat.le_of_ble_eq_true rfl) (Nat.le_of_ble_eq_true rfl) (Nat.le_of_ble_eq_true rfl) dX5_init_59 (fun q59 => ?_)
  refine Zt_w ((h0, .inr (5, [.int (4 : Int32), .int (0 : Int32), .int (0 : Int32), .ref q22, .ref q30, .ref q38, .ref q46, .int (0 : Int32), .null, .null, .null, .int 0, .null, .null, .null, .null])) :: [(q22, .inl (zI E, 14, .inl (fun _ => 0))), (q30, .inl (zI E, 14, .inl (fun _ => 0))), (q38, .inl (zI E, 14, .inl (fun _ => 0))), (q46, .inl (zI E, 14, .inl (fun _ => 0))), (q59, .inl (zI E, 12, .inl (fun _ => 0)))]) rfl ?_
  refine z_putF C hI 0 rfl (C := RX5) (T := TX5) (N := 16) (ci := 5) rfl inw_X5_init_X5 tyX5 tyX5_ok nmX5 8 (by decide) (ref := "EldestAge$Town") (List.mem_of_getElem? (i := 13) rfl) rfl rfl rfl (ty := .array .int) (v := .ref q59) (by decide +kernel) rfl rfl (Nat.le_of_ble_eq_true rfl) ((h0, .inr (5, [.int (4 : Int32), .int (0 : Int32), .int (0 : Int32), .ref q22, .ref q30, .ref q38, .ref q46, .int (0 : Int32), .ref q59, .null, .null, .int 0, .null, .null, .null, .null])) :: [(q22, .inl (zI E, 14, .inl (fun _ => 0))), (q30, .inl (zI E, 14, .inl (fun _ => 0))), (q38, .inl (zI E, 14, .inl (fun _ => 0))), (q46, .inl (zI E, 14, .inl (fun _ => 0))), (q59, .inl (zI E, 12, .inl (fun _ => 0)))]) rfl dX5_init_61 ?_
  refine z_aload_n C 0 rfl rfl dX5_init_64 ?_
  refine z_bipush C (v := (12 : Int32)) (by decide) dX5_init_65 ?_
  refine z_newi C 12 (by decide) (by decide) (List.mem_of_getElem? (i := 7) rfl) (Nat.le_of_ble_eq_true rfl) (Nat.le_of_ble_eq_true rfl) (Nat.le_of_ble_eq_true rfl) dX5_init_67 (fun q67 => ?_)
  refine Zt_w ((h0, .inr (5, [.int (4 : Int32), .int (0 : Int32), .int (0 : Int32), .ref q22, .ref q30, .ref q38, .ref q46, .int (0 : Int32), .ref q59, .null, .null, .int 0, .null, .null, .null, .null])) :: [(q22, .inl (zI E, 14, .inl (fun _ => 0))), (q30, .inl (zI E, 14, .inl (fun _ => 0))), (q38, .inl (zI E, 14, .inl (fun _ => 0))), (q46, .inl (zI E, 14, .inl (fun _ => 0))), (q59, .inl (zI E, 12, .inl (fun _ => 0))), (q67, .inl (zI E, 12, .inl (fun _ => 0)))]) rfl ?_
  refine z_putF C hI 0 rfl (C := RX5) (T := TX5) (N := 16) (ci := 5) rfl inw_X5_init_X5 tyX5 tyX5_ok nmX5 9 (by decide) (ref := "EldestAge$Town") (List.mem_of_getElem? (i := 14) rfl) rfl rfl rfl (ty := .array .int) (v := .ref q67) (by decide +kernel) rfl rfl (Nat.le_of_ble_eq_true rfl) ((h0, .inr (5, [.int (4 : Int32), .int (0 : Int32), .int (0 : Int32), .ref q22, .ref q30, .ref q38, .ref q46, .int (0 : Int32), .ref q59, .ref q67, .null, .int 0, .null, .null, .null, .null])) :: [(q22, .inl (zI E, 14, .inl (fun _ => 0))), (q30, .inl (zI E, 14, .inl (fun _ => 0))), (q38, .inl (zI E, 14, .inl (fun _ => 0))), (q46, .inl (zI E, 14, .inl (fun _ => 0))), (q59, .inl (zI E, 12, .inl (fun _ => 0))), (q67, .inl (zI E, 12, .inl (fun _ => 0)))]) rfl dX5_init_69 ?_
  refine z_aload_n C 0 rfl rfl dX5_init_72 ?_
  refine z_bipush C (v := (12 : Int32)) (by decide) dX5_init_73 ?_
  refine z_newi C 12 (by decide) (by decide) (List.mem_of_getElem? (i := 7) rfl) (Nat.le_of_ble_eq_true rfl) (Nat.le_of_ble_eq_true rfl) (Nat.le_of_ble_eq_true rfl) dX5_init_75 (fun q75 => ?_)
  refine Zt_w ((h0, .inr (5, [.int (4 : Int32), .int (0 : Int32), .int (0 : Int32), .ref q22, .ref q30, .ref q38, .ref q46, .int (0 : Int32), .ref q59, .ref q67, .null, .int 0, .null, .null, .null, .null])) :: [(q22, .inl (zI E, 14, .inl (fun _ => 0))), (q30, .inl (zI E, 14, .inl (fun _ => 0))), (q38, .inl (zI E, 14, .inl (fun _ => 0))), (q46, .inl (zI E, 14, .inl (fun _ => 0))), (q59, .inl (zI E, 12, .inl (fun _ => 0))), (q67, .inl (zI E, 12, .inl (fun _ => 0))), (q75, .inl (zI E, 12, .inl (fun _ => 0)))]) rfl ?_
  refine z_putF C hI 0 rfl (C := RX5) (T := TX5) (N := 16) (ci := 5) rfl inw_X5_init_X5 tyX5 tyX5_ok nmX5 10 (by decide) (ref := "EldestAge$Town") (List.mem_of_getElem? (i := 15) rfl) rfl rfl rfl (ty := .array .int) (v := .ref q75) (by decide +kernel) rfl rfl (Nat.le_of_ble_eq_true rfl) ((h0, .inr (5, [.int (4 : Int32), .int (0 : Int32), .int (0 : Int32), .ref q22, .ref q30, .ref q38, .ref q46, .int (0 : Int32), .ref q59, .ref q67, .ref q75, .int 0, .null, .null, .null, .null])) :: [(q22, .inl (zI E, 14, .inl (fun _ => 0))), (q30, .inl (zI E, 14, .inl (fun _ => 0))), (q38, .inl (zI E, 14, .inl (fun _ => 0))), (q46, .inl (zI E, 14, .inl (fun _ => 0))), (q59, .inl (zI E, 12, .inl (fun _ => 0))), (q67, .inl (zI E, 12, .inl (fun _ => 0))), (q75, .inl (zI E, 12, .inl (fun _ => 0)))]) rfl dX5_init_77 ?_
  refine z_aload_n C 0 rfl rfl dX5_init_80 ?_
  refine z_iconst C (v := (0 : Int32)) (by decide) dX5_init_81 ?_
  refine z_put C 0 rfl (C := RX5) (T := TX5) (N := 16) (ci := 5) rfl inw_X5_init_X5 tyX5 tyX5_ok nmX5 11 (by decide) (ref := "EldestAge$Town") (List.mem_of_getElem? (i := 16) rfl) rfl rfl (ty := .int) (v := .int (0 : Int32)) (by decide +kernel) rfl rfl (Nat.le_of_ble_eq_true rfl) ((h0, .inr (5, [.int (4 : Int32), .int (0 : Int32), .int (0 : Int32), .ref q22, .ref q30, .ref q38, .ref q46, .int (0 : Int32), .ref q59, .ref q67, .ref q75, .int (0 : Int32), .null, .null, .null, .null])) :: [(q22, .inl (zI E, 14, .inl (fun _ => 0))), (q30, .inl (zI E, 14, .inl (fun _ => 0))), (q38, .inl (zI E, 14, .inl (fun _ => 0))), (q46, .inl (zI E, 14, .inl (fun _ => 0))), (q59, .inl (zI E, 12, .inl (fun _ => 0))), (q67, .inl (zI E, 12, .inl (fun _ => 0))), (q75, .inl (zI E, 12, .inl (fun _ => 0)))]) rfl dX5_init_82 ?_
  refine z_aload_n C 0 rfl rfl dX5_init_85 ?_
  refine z_iconst C (v := (4 : Int32)) (by decide) dX5_init_86 ?_
  refine z_newi C 4 (by decide) (by decide) (List.mem_of_getElem? (i := 7) rfl) (Nat.le_of_ble_eq_true rfl) (Nat.le_of_ble_eq_true rfl) (Nat.le_of_ble_eq_true rfl) dX5_init_87 (fun q87 => ?_)
  refine Zt_w ((h0, .inr (5, [.int (4 : Int32), .int (0 : Int32), .int (0 : Int32), .ref q22, .ref q30, .ref q38, .ref q46, .int (0 : Int32), .ref q59, .ref q67, .ref q75, .int (0 : Int32), .null, .null, .null, .null])) :: [(q22, .inl (zI E, 14, .inl (fun _ => 0))), (q30, .inl (zI E, 14, .inl (fun _ => 0))), (q38, .inl (zI E, 14, .inl (fun _ => 0))), (q46, .inl (zI E, 14, .inl (fun _ => 0))), (q59, .inl (zI E, 12, .inl (fun _ => 0))), (q67, .inl (zI E, 12, .inl (fun _ => 0))), (q75, .inl (zI E, 12, .inl (fun _ => 0))), (q87, .inl (zI E, 4, .inl (fun _ => 0)))]) rfl ?_
  refine z_putF C hI 0 rfl (C := RX5) (T := TX5) (N := 16) (ci := 5) rfl inw_X5_init_X5 tyX5 tyX5_ok nmX5 12 (by decide) (ref := "EldestAge$Town") (List.mem_of_getElem? (i := 17) rfl) rfl rfl rfl (ty := .array .int) (v := .ref q87) (by decide +kernel) rfl rfl (Nat.le_of_ble_eq_true rfl) ((h0, .inr (5, [.int (4 : Int32), .int (0 : Int32), .int (0 : Int32), .ref q22, .ref q30, .ref q38, .ref q46, .int (0 : Int32), .ref q59, .ref q67, .ref q75, .int (0 : Int32), .ref q87, .null, .null, .null])) :: [(q22, .inl (zI E, 14, .inl (fun _ => 0))), (q30, .inl (zI E, 14, .inl (fun _ => 0))), (q38, .inl (zI E, 14, .inl (fun _ => 0))), (q46, .inl (zI E, 14, .inl (fun _ => 0))), (q59, .inl (zI E, 12, .inl (fun _ => 0))), (q67, .inl (zI E, 12, .inl (fun _ => 0))), (q75, .inl (zI E, 12, .inl (fun _ => 0))), (q87, .inl (zI E, 4, .inl (fun _ => 0)))]) rfl dX5_init_89 ?_
  refine z_aload_n C 0 rfl rfl dX5_init_92 ?_
  refine z_iconst C (v := (4 : Int32)) (by decide) dX5_init_93 ?_
  refine z_newi C 4 (by decide) (by decide) (List.mem_of_getElem? (i := 7) rfl) (Nat.le_of_ble_eq_true rfl) (Nat.le_of_ble_eq_true rfl) (Nat.le_of_ble_eq_true rfl) dX5_init_94 (fun q94 => ?_)
  refine Zt_w ((h0, .inr (5, [.int (4 : Int32), .int (0 : Int32), .int (0 : Int32), .ref q22, .ref q30, .ref q38, .ref q46, .int (0 : Int32), .ref q59, .ref q67, .ref q75, .int (0 : Int32), .ref q87, .null, .null, .null])) :: [(q22, .inl (zI E, 14, .inl (fun _ => 0))), (q30, .inl (zI E, 14, .inl (fun _ => 0))), (q38, .inl (zI E, 14, .inl (fun _ => 0))), (q46, .inl (zI E, 14, .inl (fun _ => 0))), (q59, .inl (zI E, 12, .inl (fun _ => 0))), (q67, .inl (zI E, 12, .inl (fun _ => 0))), (q75, .inl (zI E, 12, .inl (fun _ => 0))), (q87, .inl (zI E, 4, .inl (fun _ => 0))), (q94, .inl (zI E, 4, .inl (fun _ => 0)))]) rfl ?_
  refine z_putF C hI 0 rfl (C := RX5) (T := TX5) (N := 16) (ci := 5) rfl inw_X5_init_X5 tyX5 tyX5_ok nmX5 13 (by decide) (ref := "EldestAge$Town") (List.mem_of_getElem? (i := 18) rfl) rfl rfl rfl (ty := .array .int) (v := .ref q94) (by decide +kernel) rfl rfl (Nat.le_of_ble_eq_true rfl) ((h0, .inr (5, [.int (4 : Int32), .int (0 : Int32), .int (0 : Int32), .ref q22, .ref q30, .ref q38, .ref q46, .int (0 : Int32), .ref q59, .ref q67, .ref q75, .int (0 : Int32), .ref q87, .ref q94, .null, .null])) :: [(q22, .inl (zI E, 14, .inl (fun _ => 0))), (q30, .inl (zI E, 14, .inl (fun _ => 0))), (q38, .inl (zI E, 14, .inl (fun _ => 0))), (q46, .inl (zI E, 14, .inl (fun _ => 0))), (q59, .inl (zI E, 12, .inl (fun _ => 0))), (q67, .inl (zI E, 12, .inl (fun _ => 0))), (q75, .inl (zI E, 12, .inl (fun _ => 0))), (q87, .inl (zI E, 4, .inl (fun _ => 0))), (q94, .inl (zI E, 4, .inl (fun _ => 0)))]) rfl dX5_init_96 ?_
  refine z_aload_n C 0 rfl rfl dX5_init_99 ?_
  refine z_iconst C (v := (4 : Int32)) (by decide) dX5_init_100 ?_
  refine z_newi C 4 (by decide) (by decide) (List.mem_of_getElem? (i := 7) rfl) (Nat.le_of_ble_eq_true rfl) (Nat.le_of_ble_eq_true rfl) (Nat.le_of_ble_eq_true rfl) dX5_init_101 (fun q101 => ?_)
  refine Zt_w ((h0, .inr (5, [.int (4 : Int32), .int (0 : Int32), .int (0 : Int32), .ref q22, .ref q30, .ref q38, .ref q46, .int (0 : Int32), .ref q59, .ref q67, .ref q75, .int (0 : Int32), .ref q87, .ref q94, .null, .null])) :: [(q22, .inl (zI E, 14, .inl (fun _ => 0))), (q30, .inl (zI E, 14, .inl (fun _ => 0))), (q38, .inl (zI E, 14, .inl (fun _ => 0))), (q46, .inl (zI E, 14, .inl (fun _ => 0))), (q59, .inl (zI E, 12, .inl (fun _ => 0))), (q67, .inl (zI E, 12, .inl (fun _ => 0))), (q75, .inl (zI E, 12, .inl (fun _ => 0))), (q87, .inl (zI E, 4, .inl (fun _ => 0))), (q94, .inl (zI E, 4, .inl (fun _ => 0))), (q101, .inl (zI E, 4, .inl (fun _ => 0)))]) rfl ?_
  refine z_putF C hI 0 rfl (C := RX5) (T := TX5) (N := 16) (ci := 5) rfl inw_X5_init_X5 tyX5 tyX5_ok nmX5 14 (by decide) (ref := "EldestAge$Town") (List.mem_of_getElem? (i := 19) rfl) rfl rfl rfl (ty := .array .int) (v := .ref q101) (by decide +kernel) rfl rfl (Nat.le_of_ble_eq_true rfl) ((h0, .inr (5, [.int (4 : Int32), .int (0 : Int32), .int (0 : Int32), .ref q22, .ref q30, .ref q38, .ref q46, .int (0 : Int32), .ref q59, .ref q67, .ref q75, .int (0 : Int32), .ref q87, .ref q94, .ref q101, .null])) :: [(q22, .inl (zI E, 14, .inl (fun _ => 0))), (q30, .inl (zI E, 14, .inl (fun _ => 0))), (q38, .inl (zI E, 14, .inl (fun _ => 0))), (q46, .inl (zI E, 14, .inl (fun _ => 0))), (q59, .inl (zI E, 12, .inl (fun _ => 0))), (q67, .inl (zI E, 12, .inl (fun _ => 0))), (q75, .inl (zI E, 12, .inl (fun _ => 0))), (q87, .inl (zI E, 4, .inl (fun _ => 0))), (q94, .inl (zI E, 4, .inl (fun _ => 0))), (q101, .inl (zI E, 4, .inl (fun _ => 0)))]) rfl dX5_init_103 ?_
  refine z_aload_n C 0 rfl rfl dX5_init_106 ?_
  refine z_new C (C := RX2) (T := TX2) (N := 4) (ci := 2) rfl inw_X5_init_X2 tyX2 tyX2_ok (List.mem_of_getElem? (i := 20) rfl) (List.mem_of_getElem? (i := 21) rfl) (List.mem_of_getElem? (i := 22) rfl) [.null, .null, .null, .null] (zdef_X2) (Nat.le_of_ble_eq_true rfl) (Nat.le_of_ble_eq_true rfl) dX5_init_107 (fun q107_1 => ?_)
  refine z_dup C rfl dX5_init_110 ?_
  refine z_callINe C (rest := [.ref q107_1, .ref h0]) (As := []) hI (c_X2_init E q107_1) "EldestAge" (by decide +kernel) (List.mem_of_getElem? (i := 22) rfl) (List.mem_of_getElem? (i := 24) rfl) gX5_init_X2_init_n60 rfl rfl rfl rfl 0 rfl (by decide +kernel) ⟨Nat.le_of_ble_eq_true rfl, Nat.le_of_ble_eq_true rfl⟩ (Nat.le_of_ble_eq_true rfl) dX5_init_111 ⟨Nat.le_of_ble_eq_true rfl, Nat.le_of_ble_eq_true rfl⟩ _ rfl (fun u2 hu2 => ?_)
  subst hu2
  refine Zt_w ((h0, .inr (5, [.int (4 : Int32), .int (0 : Int32), .int (0 : Int32), .ref q22, .ref q30, .ref q38, .ref q46, .int (0 : Int32), .ref q59, .ref q67, .ref q75, .int (0 : Int32), .ref q87, .ref q94, .ref q101, .null])) :: ([(q22, .inl (zI E, 14, .inl (fun _ => 0))), (q30, .inl (zI E, 14, .inl (fun _ => 0))), (q38, .inl (zI E, 14, .inl (fun _ => 0))), (q46, .inl (zI E, 14, .inl (fun _ => 0))), (q59, .inl (zI E, 12, .inl (fun _ => 0))), (q67, .inl (zI E, 12, .inl (fun _ => 0))), (q75, .inl (zI E, 12, .inl (fun _ => 0))), (q87, .inl (zI E, 4, .inl (fun _ => 0))), (q94, .inl (zI E, 4, .inl (fun _ => 0))), (q101, .inl (zI E, 4, .inl (fun _ => 0)))] ++ wTally E u2 Z0)) rfl ?_
  refine z_putF C hI 0 rfl (C := RX5) (T := TX5) (N := 16) (ci := 5) rfl inw_X5_init_X5 tyX5 tyX5_ok nmX5 15 (by decide) (ref := "EldestAge$Town") (List.mem_of_getElem? (i := 23) rfl) rfl rfl rfl (ty := .object "EldestAge$Tally") (v := .ref (u2 0)) (by decide +kernel) rfl rfl (Nat.le_of_ble_eq_true rfl) ((h0, .inr (5, [.int (4 : Int32), .int (0 : Int32), .int (0 : Int32), .ref q22, .ref q30, .ref q38, .ref q46, .int (0 : Int32), .ref q59, .ref q67, .ref q75, .int (0 : Int32), .ref q87, .ref q94, .ref q101, .ref (u2 0)])) :: ([(q22, .inl (zI E, 14, .inl (fun _ => 0))), (q30, .inl (zI E, 14, .inl (fun _ => 0))), (q38, .inl (zI E, 14, .inl (fun _ => 0))), (q46, .inl (zI E, 14, .inl (fun _ => 0))), (q59, .inl (zI E, 12, .inl (fun _ => 0))), (q67, .inl (zI E, 12, .inl (fun _ => 0))), (q75, .inl (zI E, 12, .inl (fun _ => 0))), (q87, .inl (zI E, 4, .inl (fun _ => 0))), (q94, .inl (zI E, 4, .inl (fun _ => 0))), (q101, .inl (zI E, 4, .inl (fun _ => 0)))] ++ wTally E u2 Z0)) rfl dX5_init_114 ?_
  exact R (ja 11 (fun k => [h0, q22, q30, q38, q46, q59, q67, q75, q87, q94, q101].getD k 0) u2) rfl 117 _ dX5_init_117)
abbrev rm_X4_init_4 : Room := { frames := 1, cells := 3, slots := 12, locals := 21 }
theorem inw_X4_init_4_X4 : ∀ w ∈ wsX40, w ∈ wsX4_init := fun _ h => List.mem_cons_of_mem _ (List.mem_append_right _ h)
set_option maxHeartbeats 8000000 in
set_option maxRecDepth 100000 in
theorem c_X4_init_4 (E : zEnv) (h0 : Nat) : Kta E yX4_init wsX4_init rm_X4_init_4 3 12 [(h0, .inr (4, [.int 0, .null, .null, .null, .int 0]))] (fun u => wTold E 4 u (st 0 (fun _ => 4) Z0)) (fun u => u 0 = h0) [.ref h0, .int (4 : Int32)] := z_enta (cc := cX4_init) (maxL := 2) (by decide +kernel) rfl rfl (Nat.le_of_ble_eq_true rfl) (fun Γ C hI R => by
  refine z_aload_n C 0 rfl rfl dX4_init_0 ?_
  refine z_objInit C (List.mem_of_getElem? (i := 1) rfl) (List.mem_of_getElem? (i := 2) rfl) (List.mem_of_getElem? (i := 3) rfl) (Nat.le_of_ble_eq_true rfl) (Nat.le_of_ble_eq_true rfl) dX4_init_1 ?_
  refine z_aload_n C 0 rfl rfl dX4_init_4 ?_
  refine z_iconst C (v := (0 : Int32)) (by decide) dX4_init_5 ?_
  refine z_put C 0 rfl (C := RX4) (T := TX4) (N := 5) (ci := 4) rfl inw_X4_init_4_X4 tyX4 tyX4_ok nmX4 4 (by decide) (ref := "EldestAge$Told") (List.mem_of_getElem? (i := 4) rfl) rfl rfl (ty := .int) (v := .int (0 : Int32)) (by decide +kernel) rfl rfl (Nat.le_of_ble_eq_true rfl) ((h0, .inr (4, [.int 0, .null, .null, .null, .int (0 : Int32)])) :: []) rfl dX4_init_6 ?_
  refine z_aload_n C 0 rfl rfl dX4_init_9 ?_
  refine z_iconst C (v := (0 : Int32)) (by decide) dX4_init_10 ?_
  refine z_iload_n C 1 rfl rfl dX4_init_11 ?_
  refine z_max C (List.mem_of_getElem? (i := 5) rfl) (List.mem_of_getElem? (i := 6) rfl) (List.mem_of_getElem? (i := 7) rfl) (List.mem_of_getElem? (i := 8) rfl) (Nat.le_of_ble_eq_true rfl) (Nat.le_of_ble_eq_true rfl) (Nat.le_of_ble_eq_true rfl) (Nat.le_of_ble_eq_true rfl) dX4_init_12 ?_
  rw [show zmax (0 : Int32) (4 : Int32) = (4 : Int32) from by decide +kernel]
  refine z_putF C hI 0 rfl (C := RX4) (T := TX4) (N := 5) (ci := 4) rfl inw_X4_init_4_X4 tyX4 tyX4_ok nmX4 0 (by decide) (ref := "EldestAge$Told") (List.mem_of_getElem? (i := 9) rfl) rfl rfl rfl (ty := .int) (v := .int (4 : Int32)) (by decide +kernel) rfl rfl (Nat.le_of_ble_eq_true rfl) ((h0, .inr (4, [.int (4 : Int32), .null, .null, .null, .int (0 : Int32)])) :: []) rfl dX4_init_15 ?_
  refine z_aload_n C 0 rfl rfl dX4_init_18 ?_
  refine z_aload_n C 0 rfl rfl dX4_init_19 ?_
  refine z_get C 0 rfl (C := RX4) (T := TX4) (N := 5) (ci := 4) rfl inw_X4_init_4_X4 0 (by decide) (ref := "EldestAge$Told") (List.mem_of_getElem? (i := 9) rfl) rfl (v := .int (4 : Int32)) rfl dX4_init_20 ?_
  refine z_newi C 4 (by decide) (by decide) (List.mem_of_getElem? (i := 10) rfl) (Nat.le_of_ble_eq_true rfl) (Nat.le_of_ble_eq_true rfl) (Nat.le_of_ble_eq_true rfl) dX4_init_23 (fun q23 => ?_)
  refine Zt_w ((h0, .inr (4, [.int (4 : Int32), .null, .null, .null, .int (0 : Int32)])) :: [(q23, .inl (zI E, 4, .inl (fun _ => 0)))]) rfl ?_
  refine z_putF C hI 0 rfl (C := RX4) (T := TX4) (N := 5) (ci := 4) rfl inw_X4_init_4_X4 tyX4 tyX4_ok nmX4 1 (by decide) (ref := "EldestAge$Told") (List.mem_of_getElem? (i := 11) rfl) rfl rfl rfl (ty := .array .int) (v := .ref q23) (by decide +kernel) rfl rfl (Nat.le_of_ble_eq_true rfl) ((h0, .inr (4, [.int (4 : Int32), .ref q23, .null, .null, .int (0 : Int32)])) :: [(q23, .inl (zI E, 4, .inl (fun _ => 0)))]) rfl dX4_init_25 ?_
  refine z_aload_n C 0 rfl rfl dX4_init_28 ?_
  refine z_aload_n C 0 rfl rfl dX4_init_29 ?_
  refine z_get C 0 rfl (C := RX4) (T := TX4) (N := 5) (ci := 4) rfl inw_X4_init_4_X4 0 (by decide) (ref := "EldestAge$Told") (List.mem_of_getElem? (i := 9) rfl) rfl (v := .int (4 : Int32)) rfl dX4_init_30 ?_
  refine z_newi C 4 (by decide) (by decide) (List.mem_of_getElem? (i := 10) rfl) (Nat.le_of_ble_eq_true rfl) (Nat.le_of_ble_eq_true rfl) (Nat.le_of_ble_eq_true rfl) dX4_init_33 (fun q33 => ?_)
  refine Zt_w ((h0, .inr (4, [.int (4 : Int32), .ref q23, .null, .null, .int (0 : Int32)])) :: [(q23, .inl (zI E, 4, .inl (fun _ => 0))), (q33, .inl (zI E, 4, .inl (fun _ => 0)))]) rfl ?_
  refine z_putF C hI 0 rfl (C := RX4) (T := TX4) (N := 5) (ci := 4) rfl inw_X4_init_4_X4 tyX4 tyX4_ok nmX4 2 (by decide) (ref := "EldestAge$Told") (List.mem_of_getElem? (i := 12) rfl) rfl rfl rfl (ty := .array .int) (v := .ref q33) (by decide +kernel) rfl rfl (Nat.le_of_ble_eq_true rfl) ((h0, .inr (4, [.int (4 : Int32), .ref q23, .ref q33, .null, .int (0 : Int32)])) :: [(q23, .inl (zI E, 4, .inl (fun _ => 0))), (q33, .inl (zI E, 4, .inl (fun _ => 0)))]) rfl dX4_init_35 ?_
  refine z_aload_n C 0 rfl rfl dX4_init_38 ?_
  refine z_aload_n C 0 rfl rfl dX4_init_39 ?_
  refine z_get C 0 rfl (C := RX4) (T := TX4) (N := 5) (ci := 4) rfl inw_X4_init_4_X4 0 (by decide) (ref := "EldestAge$Told") (List.mem_of_getElem? (i := 9) rfl) rfl (v := .int (4 : Int32)) rfl dX4_init_40 ?_
  refine z_newi C 4 (by decide) (by decide) (List.mem_of_getElem? (i := 10) rfl) (Nat.le_of_ble_eq_true rfl) (Nat.le_of_ble_eq_true rfl) (Nat.le_of_ble_eq_true rfl) dX4_init_43 (fun q43 => ?_)
  refine Zt_w ((h0, .inr (4, [.int (4 : Int32), .ref q23, .ref q33, .null, .int (0 : Int32)])) :: [(q23, .inl (zI E, 4, .inl (fun _ => 0))), (q33, .inl (zI E, 4, .inl (fun _ => 0))), (q43, .inl (zI E, 4, .inl (fun _ => 0)))]) rfl ?_
  refine z_putF C hI 0 rfl (C := RX4) (T := TX4) (N := 5) (ci := 4) rfl inw_X4_init_4_X4 tyX4 tyX4_ok nmX4 3 (by decide) (ref := "EldestAge$Told") (List.mem_of_getElem? (i := 13) rfl) rfl rfl rfl (ty := .array .int) (v := .ref q43) (by decide +kernel) rfl rfl (Nat.le_of_ble_eq_true rfl) ((h0, .inr (4, [.int (4 : Int32), .ref q23, .ref q33, .ref q43, .int (0 : Int32)])) :: [(q23, .inl (zI E, 4, .inl (fun _ => 0))), (q33, .inl (zI E, 4, .inl (fun _ => 0))), (q43, .inl (zI E, 4, .inl (fun _ => 0)))]) rfl dX4_init_45 ?_
  exact R ((fun k => [h0, q23, q33, q43].getD k 0)) rfl 48 _ dX4_init_48)
abbrev rm_X4_init_8 : Room := { frames := 1, cells := 3, slots := 24, locals := 21 }
theorem inw_X4_init_8_X4 : ∀ w ∈ wsX40, w ∈ wsX4_init := fun _ h => List.mem_cons_of_mem _ (List.mem_append_right _ h)
set_option maxHeartbeats 8000000 in
set_option maxRecDepth 100000 in
theorem c_X4_init_8 (E : zEnv) (h0 : Nat) : Kta E yX4_init wsX4_init rm_X4_init_8 3 24 [(h0, .inr (4, [.int 0, .null, .null, .null, .int 0]))] (fun u => wTold E 8 u (st 0 (fun _ => 8) Z0)) (fun u => u 0 = h0) [.ref h0, .int (8 : Int32)] := z_enta (cc := cX4_init) (maxL := 2) (by decide +kernel) rfl rfl (Nat.le_of_ble_eq_true rfl) (fun Γ C hI R => by
  refine z_aload_n C 0 rfl rfl dX4_init_0 ?_
  refine z_objInit C (List.mem_of_getElem? (i := 1) rfl) (List.mem_of_getElem? (i := 2) rfl) (List.mem_of_getElem? (i := 3) rfl) (Nat.le_of_ble_eq_true rfl) (Nat.le_of_ble_eq_true rfl) dX4_init_1 ?_
  refine z_aload_n C 0 rfl rfl dX4_init_4 ?_
  refine z_iconst C (v := (0 : Int32)) (by decide) dX4_init_5 ?_
  refine z_put C 0 rfl (C := RX4) (T := TX4) (N := 5) (ci := 4) rfl inw_X4_init_8_X4 tyX4 tyX4_ok nmX4 4 (by decide) (ref := "EldestAge$Told") (List.mem_of_getElem? (i := 4) rfl) rfl rfl (ty := .int) (v := .int (0 : Int32)) (by decide +kernel) rfl rfl (Nat.le_of_ble_eq_true rfl) ((h0, .inr (4, [.int 0, .null, .null, .null, .int (0 : Int32)])) :: []) rfl dX4_init_6 ?_
  refine z_aload_n C 0 rfl rfl dX4_init_9 ?_
  refine z_iconst C (v := (0 : Int32)) (by decide) dX4_init_10 ?_
  refine z_iload_n C 1 rfl rfl dX4_init_11 ?_
  refine z_max C (List.mem_of_getElem? (i := 5) rfl) (List.mem_of_getElem? (i := 6) rfl) (List.mem_of_getElem? (i := 7) rfl) (List.mem_of_getElem? (i := 8) rfl) (Nat.le_of_ble_eq_true rfl) (Nat.le_of_ble_eq_true rfl) (Nat.le_of_ble_eq_true rfl) (Nat.le_of_ble_eq_true rfl) dX4_init_12 ?_
  rw [show zmax (0 : Int32) (8 : Int32) = (8 : Int32) from by decide +kernel]
  refine z_putF C hI 0 rfl (C := RX4) (T := TX4) (N := 5) (ci := 4) rfl inw_X4_init_8_X4 tyX4 tyX4_ok nmX4 0 (by decide) (ref := "EldestAge$Told") (List.mem_of_getElem? (i := 9) rfl) rfl rfl rfl (ty := .int) (v := .int (8 : Int32)) (by decide +kernel) rfl rfl (Nat.le_of_ble_eq_true rfl) ((h0, .inr (4, [.int (8 : Int32), .null, .null, .null, .int (0 : Int32)])) :: []) rfl dX4_init_15 ?_
  refine z_aload_n C 0 rfl rfl dX4_init_18 ?_
  refine z_aload_n C 0 rfl rfl dX4_init_19 ?_
  refine z_get C 0 rfl (C := RX4) (T := TX4) (N := 5) (ci := 4) rfl inw_X4_init_8_X4 0 (by decide) (ref := "EldestAge$Told") (List.mem_of_getElem? (i := 9) rfl) rfl (v := .int (8 : Int32)) rfl dX4_init_20 ?_
  refine z_newi C 8 (by decide) (by decide) (List.mem_of_getElem? (i := 10) rfl) (Nat.le_of_ble_eq_true rfl) (Nat.le_of_ble_eq_true rfl) (Nat.le_of_ble_eq_true rfl) dX4_init_23 (fun q23 => ?_)
  refine Zt_w ((h0, .inr (4, [.int (8 : Int32), .null, .null, .null, .int (0 : Int32)])) :: [(q23, .inl (zI E, 8, .inl (fun _ => 0)))]) rfl ?_
  refine z_putF C hI 0 rfl (C := RX4) (T := TX4) (N := 5) (ci := 4) rfl inw_X4_init_8_X4 tyX4 tyX4_ok nmX4 1 (by decide) (ref := "EldestAge$Told") (List.mem_of_getElem? (i := 11) rfl) rfl rfl rfl (ty := .array .int) (v := .ref q23) (by decide +kernel) rfl rfl (Nat.le_of_ble_eq_true rfl) ((h0, .inr (4, [.int (8 : Int32), .ref q23, .null, .null, .int (0 : Int32)])) :: [(q23, .inl (zI E, 8, .inl (fun _ => 0)))]) rfl dX4_init_25 ?_
  refine z_aload_n C 0 rfl rfl dX4_init_28 ?_
  refine z_aload_n C 0 rfl rfl dX4_init_29 ?_
  refine z_get C 0 rfl (C := RX4) (T := TX4) (N := 5) (ci := 4) rfl inw_X4_init_8_X4 0 (by decide) (ref := "EldestAge$Told") (List.mem_of_getElem? (i := 9) rfl) rfl (v := .int (8 : Int32)) rfl dX4_init_30 ?_
  refine z_newi C 8 (by decide) (by decide) (List.mem_of_getElem? (i := 10) rfl) (Nat.le_of_ble_eq_true rfl) (Nat.le_of_ble_eq_true rfl) (Nat.le_of_ble_eq_true rfl) dX4_init_33 (fun q33 => ?_)
  refine Zt_w ((h0, .inr (4, [.int (8 : Int32), .ref q23, .null, .null, .int (0 : Int32)])) :: [(q23, .inl (zI E, 8, .inl (fun _ => 0))), (q33, .inl (zI E, 8, .inl (fun _ => 0)))]) rfl ?_
  refine z_putF C hI 0 rfl (C := RX4) (T := TX4) (N := 5) (ci := 4) rfl inw_X4_init_8_X4 tyX4 tyX4_ok nmX4 2 (by decide) (ref := "EldestAge$Told") (List.mem_of_getElem? (i := 12) rfl) rfl rfl rfl (ty := .array .int) (v := .ref q33) (by decide +kernel) rfl rfl (Nat.le_of_ble_eq_true rfl) ((h0, .inr (4, [.int (8 : Int32), .ref q23, .ref q33, .null, .int (0 : Int32)])) :: [(q23, .inl (zI E, 8, .inl (fun _ => 0))), (q33, .inl (zI E, 8, .inl (fun _ => 0)))]) rfl dX4_init_35 ?_
  refine z_aload_n C 0 rfl rfl dX4_init_38 ?_
  refine z_aload_n C 0 rfl rfl dX4_init_39 ?_
  refine z_get C 0 rfl (C := RX4) (T := TX4) (N := 5) (ci := 4) rfl inw_X4_init_8_X4 0 (by decide) (ref := "EldestAge$Told") (List.mem_of_getElem? (i := 9) rfl) rfl (v := .int (8 : Int32)) rfl dX4_init_40 ?_
  refine z_newi C 8 (by decide) (by decide) (List.mem_of_getElem? (i := 10) rfl) (Nat.le_of_ble_eq_true rfl) (Nat.le_of_ble_eq_true rfl) (Nat.le_of_ble_eq_true rfl) dX4_init_43 (fun q43 => ?_)
  refine Zt_w ((h0, .inr (4, [.int (8 : Int32), .ref q23, .ref q33, .null, .int (0 : Int32)])) :: [(q23, .inl (zI E, 8, .inl (fun _ => 0))), (q33, .inl (zI E, 8, .inl (fun _ => 0))), (q43, .inl (zI E, 8, .inl (fun _ => 0)))]) rfl ?_
  refine z_putF C hI 0 rfl (C := RX4) (T := TX4) (N := 5) (ci := 4) rfl inw_X4_init_8_X4 tyX4 tyX4_ok nmX4 3 (by decide) (ref := "EldestAge$Told") (List.mem_of_getElem? (i := 13) rfl) rfl rfl rfl (ty := .array .int) (v := .ref q43) (by decide +kernel) rfl rfl (Nat.le_of_ble_eq_true rfl) ((h0, .inr (4, [.int (8 : Int32), .ref q23, .ref q33, .ref q43, .int (0 : Int32)])) :: [(q23, .inl (zI E, 8, .inl (fun _ => 0))), (q33, .inl (zI E, 8, .inl (fun _ => 0))), (q43, .inl (zI E, 8, .inl (fun _ => 0)))]) rfl dX4_init_45 ?_
  exact R ((fun k => [h0, q23, q33, q43].getD k 0)) rfl 48 _ dX4_init_48)
abbrev rm_X0_init : Room := { frames := 2, cells := 15, slots := 92, locals := 32 }
theorem inw_X0_init_X0 : ∀ w ∈ wsX00, w ∈ wsX0_init := fun _ h => List.mem_cons_of_mem _ (List.mem_append_left _ (List.mem_append_right _ h))
theorem inw_X0_init_X2 : ∀ w ∈ wsX20, w ∈ wsX0_init := fun _ h => List.mem_cons_of_mem _ (List.mem_append_right _ h)
set_option maxHeartbeats 8000000 in
set_option maxRecDepth 100000 in
theorem c_X0_init (E : zEnv) (h0 : Nat) : Kta E yX0_init wsX0_init rm_X0_init 15 92 [(h0, .inr (0, [.int 0, .null, .null, .null, .null, .null, .null, .null]))] (fun u => wSearch E u Z0) (fun u => u 0 = h0) [.ref h0] := z_enta (cc := cX0_init) (maxL := 1) (by decide +kernel) rfl rfl (Nat.le_of_ble_eq_true rfl) (fun Γ C hI R => by
  refine z_aload_n C 0 rfl rfl dX0_init_0 ?_
  refine z_objInit C (List.mem_of_getElem? (i := 1) rfl) (List.mem_of_getElem? (i := 2) rfl) (List.mem_of_getElem? (i := 3) rfl) (Nat.le_of_ble_eq_true rfl) (Nat.le_of_ble_eq_true rfl) dX0_init_1 ?_
  refine z_aload_n C 0 rfl rfl dX0_init_4 ?_
  refine z_iconst C (v := (0 : Int32)) (by decide) dX0_init_5 ?_
  refine z_put C 0 rfl (C := RX0) (T := TX0) (N := 8) (ci := 0) rfl inw_X0_init_X0 tyX0 tyX0_ok nmX0 0 (by decide) (ref := "EldestAge$Search") (List.mem_of_getElem? (i := 4) rfl) rfl rfl (ty := .int) (v := .int (0 : Int32)) (by decide +kernel) rfl rfl (Nat.le_of_ble_eq_true rfl) ((h0, .inr (0, [.int (0 : Int32), .null, .null, .null, .null, .null, .null, .null])) :: []) rfl dX0_init_6 ?_
  refine z_aload_n C 0 rfl rfl dX0_init_9 ?_
  refine z_iconst C (v := (4 : Int32)) (by decide) dX0_init_10 ?_
  refine z_newi C 4 (by decide) (by decide) (List.mem_of_getElem? (i := 5) rfl) (Nat.le_of_ble_eq_true rfl) (Nat.le_of_ble_eq_true rfl) (Nat.le_of_ble_eq_true rfl) dX0_init_11 (fun q11 => ?_)
  refine Zt_w ((h0, .inr (0, [.int (0 : Int32), .null, .null, .null, .null, .null, .null, .null])) :: [(q11, .inl (zI E, 4, .inl (fun _ => 0)))]) rfl ?_
  refine z_putF C hI 0 rfl (C := RX0) (T := TX0) (N := 8) (ci := 0) rfl inw_X0_init_X0 tyX0 tyX0_ok nmX0 1 (by decide) (ref := "EldestAge$Search") (List.mem_of_getElem? (i := 6) rfl) rfl rfl rfl (ty := .array .int) (v := .ref q11) (by decide +kernel) rfl rfl (Nat.le_of_ble_eq_true rfl) ((h0, .inr (0, [.int (0 : Int32), .ref q11, .null, .null, .null, .null, .null, .null])) :: [(q11, .inl (zI E, 4, .inl (fun _ => 0)))]) rfl dX0_init_13 ?_
  refine z_aload_n C 0 rfl rfl dX0_init_16 ?_
  refine z_iconst C (v := (4 : Int32)) (by decide) dX0_init_17 ?_
  refine z_newi C 4 (by decide) (by decide) (List.mem_of_getElem? (i := 5) rfl) (Nat.le_of_ble_eq_true rfl) (Nat.le_of_ble_eq_true rfl) (Nat.le_of_ble_eq_true rfl) dX0_init_18 (fun q18 => ?_)
  refine Zt_w ((h0, .inr (0, [.int (0 : Int32), .ref q11, .null, .null, .null, .null, .null, .null])) :: [(q11, .inl (zI E, 4, .inl (fun _ => 0))), (q18, .inl (zI E, 4, .inl (fun _ => 0)))]) rfl ?_
  refine z_putF C hI 0 rfl (C := RX0) (T := TX0) (N := 8) (ci := 0) rfl inw_X0_init_X0 tyX0 tyX0_ok nmX0 2 (by decide) (ref := "EldestAge$Search") (List.mem_of_getElem? (i := 7) rfl) rfl rfl rfl (ty := .array .int) (v := .ref q18) (by decide +kernel) rfl rfl (Nat.le_of_ble_eq_true rfl) ((h0, .inr (0, [.int (0 : Int32), .ref q11, .ref q18, .null, .null, .null, .null, .null])) :: [(q11, .inl (zI E, 4, .inl (fun _ => 0))), (q18, .inl (zI E, 4, .inl (fun _ => 0)))]) rfl dX0_init_20 ?_
  refine z_aload_n C 0 rfl rfl dX0_init_23 ?_
  refine z_iconst C (v := (4 : Int32)) (by decide) dX0_init_24 ?_
  refine z_newi C 4 (by decide) (by decide) (List.mem_of_getElem? (i := 5) rfl) (Nat.le_of_ble_eq_true rfl) (Nat.le_of_ble_eq_true rfl) (Nat.le_of_ble_eq_true rfl) dX0_init_25 (fun q25 => ?_)
  refine Zt_w ((h0, .inr (0, [.int (0 : Int32), .ref q11, .ref q18, .null, .null, .null, .null, .null])) :: [(q11, .inl (zI E, 4, .inl (fun _ => 0))), (q18, .inl (zI E, 4, .inl (fun _ => 0))), (q25, .inl (zI E, 4, .inl (fun _ => 0)))]) rfl ?_
  refine z_putF C hI 0 rfl (C := RX0) (T := TX0) (N := 8) (ci := 0) rfl inw_X0_init_X0 tyX0 tyX0_ok nmX0 3 (by decide) (ref := "EldestAge$Search") (List.mem_of_getElem? (i := 8) rfl) rfl rfl rfl (ty := .array .int) (v := .ref q25) (by decide +kernel) rfl rfl (Nat.le_of_ble_eq_true rfl) ((h0, .inr (0, [.int (0 : Int32), .ref q11, .ref q18, .ref q25, .null, .null, .null, .null])) :: [(q11, .inl (zI E, 4, .inl (fun _ => 0))), (q18, .inl (zI E, 4, .inl (fun _ => 0))), (q25, .inl (zI E, 4, .inl (fun _ => 0)))]) rfl dX0_init_27 ?_
  refine z_aload_n C 0 rfl rfl dX0_init_30 ?_
  refine z_iconst C (v := (4 : Int32)) (by decide) dX0_init_31 ?_
  refine z_newi C 4 (by decide) (by decide) (List.mem_of_getElem? (i := 5) rfl) (Nat.le_of_ble_eq_true rfl) (Nat.le_of_ble_eq_true rfl) (Nat.le_of_ble_eq_true rfl) dX0_init_32 (fun q32 => ?_)
  refine Zt_w ((h0, .inr (0, [.int (0 : Int32), .ref q11, .ref q18, .ref q25, .null, .null, .null, .null])) :: [(q11, .inl (zI E, 4, .inl (fun _ => 0))), (q18, .inl (zI E, 4, .inl (fun _ => 0))), (q25, .inl (zI E, 4, .inl (fun _ => 0))), (q32, .inl (zI E, 4, .inl (fun _ => 0)))]) rfl ?_
  refine z_putF C hI 0 rfl (C := RX0) (T := TX0) (N := 8) (ci := 0) rfl inw_X0_init_X0 tyX0 tyX0_ok nmX0 4 (by decide) (ref := "EldestAge$Search") (List.mem_of_getElem? (i := 9) rfl) rfl rfl rfl (ty := .array .int) (v := .ref q32) (by decide +kernel) rfl rfl (Nat.le_of_ble_eq_true rfl) ((h0, .inr (0, [.int (0 : Int32), .ref q11, .ref q18, .ref q25, .ref q32, .null, .null, .null])) :: [(q11, .inl (zI E, 4, .inl (fun _ => 0))), (q18, .inl (zI E, 4, .inl (fun _ => 0))), (q25, .inl (zI E, 4, .inl (fun _ => 0))), (q32, .inl (zI E, 4, .inl (fun _ => 0)))]) rfl dX0_init_34 ?_
  refine z_aload_n C 0 rfl rfl dX0_init_37 ?_
  refine z_iconst C (v := (4 : Int32)) (by decide) dX0_init_38 ?_
  refine z_newi C 4 (by decide) (by decide) (List.mem_of_getElem? (i := 5) rfl) (Nat.le_of_ble_eq_true rfl) (Nat.le_of_ble_eq_true rfl) (Nat.le_of_ble_eq_true rfl) dX0_init_39 (fun q39 => ?_)
  refine Zt_w ((h0, .inr (0, [.int (0 : Int32), .ref q11, .ref q18, .ref q25, .ref q32, .null, .null, .null])) :: [(q11, .inl (zI E, 4, .inl (fun _ => 0))), (q18, .inl (zI E, 4, .inl (fun _ => 0))), (q25, .inl (zI E, 4, .inl (fun _ => 0))), (q32, .inl (zI E, 4, .inl (fun _ => 0))), (q39, .inl (zI E, 4, .inl (fun _ => 0)))]) rfl ?_
  refine z_putF C hI 0 rfl (C := RX0) (T := TX0) (N := 8) (ci := 0) rfl inw_X0_init_X0 tyX0 tyX0_ok nmX0 5 (by decide) (ref := "EldestAge$Search") (List.mem_of_getElem? (i := 10) rfl) rfl rfl rfl (ty := .array .int) (v := .ref q39) (by decide +kernel) rfl rfl (Nat.le_of_ble_eq_true rfl) ((h0, .inr (0, [.int (0 : Int32), .ref q11, .ref q18, .ref q25, .ref q32, .ref q39, .null, .null])) :: [(q11, .inl (zI E, 4, .inl (fun _ => 0))), (q18, .inl (zI E, 4, .inl (fun _ => 0))), (q25, .inl (zI E, 4, .inl (fun _ => 0))), (q32, .inl (zI E, 4, .inl (fun _ => 0))), (q39, .inl (zI E, 4, .inl (fun _ => 0)))]) rfl dX0_init_41 ?_
  refine z_aload_n C 0 rfl rfl dX0_init_44 ?_
  refine z_new C (C := RX2) (T := TX2) (N := 4) (ci := 2) rfl inw_X0_init_X2 tyX2 tyX2_ok (List.mem_of_getElem? (i := 11) rfl) (List.mem_of_getElem? (i := 12) rfl) (List.mem_of_getElem? (i := 13) rfl) [.null, .null, .null, .null] (zdef_X2) (Nat.le_of_ble_eq_true rfl) (Nat.le_of_ble_eq_true rfl) dX0_init_45 (fun q45_1 => ?_)
  refine z_dup C rfl dX0_init_48 ?_
  refine z_callINe C (rest := [.ref q45_1, .ref h0]) (As := []) hI (c_X2_init E q45_1) "EldestAge" (by decide +kernel) (List.mem_of_getElem? (i := 13) rfl) (List.mem_of_getElem? (i := 16) rfl) gX0_init_X2_init_n33 rfl rfl rfl rfl 0 rfl (by decide +kernel) ⟨Nat.le_of_ble_eq_true rfl, Nat.le_of_ble_eq_true rfl⟩ (Nat.le_of_ble_eq_true rfl) dX0_init_49 ⟨Nat.le_of_ble_eq_true rfl, Nat.le_of_ble_eq_true rfl⟩ _ rfl (fun u2 hu2 => ?_)
  subst hu2
  refine Zt_w ((h0, .inr (0, [.int (0 : Int32), .ref q11, .ref q18, .ref q25, .ref q32, .ref q39, .null, .null])) :: ([(q11, .inl (zI E, 4, .inl (fun _ => 0))), (q18, .inl (zI E, 4, .inl (fun _ => 0))), (q25, .inl (zI E, 4, .inl (fun _ => 0))), (q32, .inl (zI E, 4, .inl (fun _ => 0))), (q39, .inl (zI E, 4, .inl (fun _ => 0)))] ++ wTally E u2 Z0)) rfl ?_
  refine z_putF C hI 0 rfl (C := RX0) (T := TX0) (N := 8) (ci := 0) rfl inw_X0_init_X0 tyX0 tyX0_ok nmX0 6 (by decide) (ref := "EldestAge$Search") (List.mem_of_getElem? (i := 14) rfl) rfl rfl rfl (ty := .object "EldestAge$Tally") (v := .ref (u2 0)) (by decide +kernel) rfl rfl (Nat.le_of_ble_eq_true rfl) ((h0, .inr (0, [.int (0 : Int32), .ref q11, .ref q18, .ref q25, .ref q32, .ref q39, .ref (u2 0), .null])) :: ([(q11, .inl (zI E, 4, .inl (fun _ => 0))), (q18, .inl (zI E, 4, .inl (fun _ => 0))), (q25, .inl (zI E, 4, .inl (fun _ => 0))), (q32, .inl (zI E, 4, .inl (fun _ => 0))), (q39, .inl (zI E, 4, .inl (fun _ => 0)))] ++ wTally E u2 Z0)) rfl dX0_init_52 ?_
  refine z_aload_n C 0 rfl rfl dX0_init_55 ?_
  refine z_new C (C := RX2) (T := TX2) (N := 4) (ci := 2) rfl inw_X0_init_X2 tyX2 tyX2_ok (List.mem_of_getElem? (i := 11) rfl) (List.mem_of_getElem? (i := 12) rfl) (List.mem_of_getElem? (i := 13) rfl) [.null, .null, .null, .null] (zdef_X2) (Nat.le_of_ble_eq_true rfl) (Nat.le_of_ble_eq_true rfl) dX0_init_56 (fun q56_3 => ?_)
  refine z_dup C rfl dX0_init_59 ?_
  refine z_callINe C (rest := [.ref q56_3, .ref h0]) (As := []) hI (c_X2_init E q56_3) "EldestAge" (by decide +kernel) (List.mem_of_getElem? (i := 13) rfl) (List.mem_of_getElem? (i := 16) rfl) gX0_init_X2_init_n33 rfl rfl rfl rfl 0 rfl (by decide +kernel) ⟨Nat.le_of_ble_eq_true rfl, Nat.le_of_ble_eq_true rfl⟩ (Nat.le_of_ble_eq_true rfl) dX0_init_60 ⟨Nat.le_of_ble_eq_true rfl, Nat.le_of_ble_eq_true rfl⟩ _ rfl (fun u4 hu4 => ?_)
  subst hu4
  refine Zt_w ((h0, .inr (0, [.int (0 : Int32), .ref q11, .ref q18, .ref q25, .ref q32, .ref q39, .ref (u2 0), .null])) :: (([(q11, .inl (zI E, 4, .inl (fun _ => 0))), (q18, .inl (zI E, 4, .inl (fun _ => 0))), (q25, .inl (zI E, 4, .inl (fun _ => 0))), (q32, .inl (zI E, 4, .inl (fun _ => 0))), (q39, .inl (zI E, 4, .inl (fun _ => 0)))] ++ wTally E u2 Z0) ++ wTally E u4 Z0)) rfl ?_
  refine z_putF C hI 0 rfl (C := RX0) (T := TX0) (N := 8) (ci := 0) rfl inw_X0_init_X0 tyX0 tyX0_ok nmX0 7 (by decide) (ref := "EldestAge$Search") (List.mem_of_getElem? (i := 15) rfl) rfl rfl rfl (ty := .object "EldestAge$Tally") (v := .ref (u4 0)) (by decide +kernel) rfl rfl (Nat.le_of_ble_eq_true rfl) ((h0, .inr (0, [.int (0 : Int32), .ref q11, .ref q18, .ref q25, .ref q32, .ref q39, .ref (u2 0), .ref (u4 0)])) :: (([(q11, .inl (zI E, 4, .inl (fun _ => 0))), (q18, .inl (zI E, 4, .inl (fun _ => 0))), (q25, .inl (zI E, 4, .inl (fun _ => 0))), (q32, .inl (zI E, 4, .inl (fun _ => 0))), (q39, .inl (zI E, 4, .inl (fun _ => 0)))] ++ wTally E u2 Z0) ++ wTally E u4 Z0)) rfl dX0_init_63 ?_
  exact R (ja 6 (fun k => [h0, q11, q18, q25, q32, q39].getD k 0) (ja 5 u2 u4)) rfl 66 _ dX0_init_66)
abbrev rm_X3_init : Room := { frames := 1, cells := 1, slots := 400, locals := 12 }
theorem inw_X3_init_X3 : ∀ w ∈ wsX30, w ∈ wsX3_init := fun _ h => List.mem_cons_of_mem _ (List.mem_append_right _ h)
set_option maxHeartbeats 8000000 in
set_option maxRecDepth 100000 in
theorem c_X3_init (E : zEnv) (h0 : Nat) : Kta E yX3_init wsX3_init rm_X3_init 1 400 [(h0, .inr (3, [.null, .int 0, .int 0, .int 0, .int 0, .int 0, .int 0, .int 0, .int 0, .int 0, .int 0, .int 0]))] (fun u => wTape E u Z0) (fun u => u 0 = h0) [.ref h0] := z_enta (cc := cX3_init) (maxL := 1) (by decide +kernel) rfl rfl (Nat.le_of_ble_eq_true rfl) (fun Γ C hI R => by
  refine z_aload_n C 0 rfl rfl dX3_init_0 ?_
  refine z_objInit C (List.mem_of_getElem? (i := 1) rfl) (List.mem_of_getElem? (i := 2) rfl) (List.mem_of_getElem? (i := 3) rfl) (Nat.le_of_ble_eq_true rfl) (Nat.le_of_ble_eq_true rfl) dX3_init_1 ?_
  refine z_aload_n C 0 rfl rfl dX3_init_4 ?_
  refine z_sipush C (v := (400 : Int32)) (by decide) dX3_init_5 ?_
  refine z_newi C 400 (by decide) (by decide) (List.mem_of_getElem? (i := 4) rfl) (Nat.le_of_ble_eq_true rfl) (Nat.le_of_ble_eq_true rfl) (Nat.le_of_ble_eq_true rfl) dX3_init_8 (fun q8 => ?_)
  refine Zt_w ((h0, .inr (3, [.null, .int 0, .int 0, .int 0, .int 0, .int 0, .int 0, .int 0, .int 0, .int 0, .int 0, .int 0])) :: [(q8, .inl (zI E, 400, .inl (fun _ => 0)))]) rfl ?_
  refine z_putF C hI 0 rfl (C := RX3) (T := TX3) (N := 12) (ci := 3) rfl inw_X3_init_X3 tyX3 tyX3_ok nmX3 0 (by decide) (ref := "EldestAge$Tape") (List.mem_of_getElem? (i := 5) rfl) rfl rfl rfl (ty := .array .int) (v := .ref q8) (by decide +kernel) rfl rfl (Nat.le_of_ble_eq_true rfl) ((h0, .inr (3, [.ref q8, .int 0, .int 0, .int 0, .int 0, .int 0, .int 0, .int 0, .int 0, .int 0, .int 0, .int 0])) :: [(q8, .inl (zI E, 400, .inl (fun _ => 0)))]) rfl dX3_init_10 ?_
  refine z_aload_n C 0 rfl rfl dX3_init_13 ?_
  refine z_iconst C (v := (0 : Int32)) (by decide) dX3_init_14 ?_
  refine z_put C 0 rfl (C := RX3) (T := TX3) (N := 12) (ci := 3) rfl inw_X3_init_X3 tyX3 tyX3_ok nmX3 1 (by decide) (ref := "EldestAge$Tape") (List.mem_of_getElem? (i := 6) rfl) rfl rfl (ty := .int) (v := .int (0 : Int32)) (by decide +kernel) rfl rfl (Nat.le_of_ble_eq_true rfl) ((h0, .inr (3, [.ref q8, .int (0 : Int32), .int 0, .int 0, .int 0, .int 0, .int 0, .int 0, .int 0, .int 0, .int 0, .int 0])) :: [(q8, .inl (zI E, 400, .inl (fun _ => 0)))]) rfl dX3_init_15 ?_
  refine z_aload_n C 0 rfl rfl dX3_init_18 ?_
  refine z_iconst C (v := (0 : Int32)) (by decide) dX3_init_19 ?_
  refine z_put C 0 rfl (C := RX3) (T := TX3) (N := 12) (ci := 3) rfl inw_X3_init_X3 tyX3 tyX3_ok nmX3 2 (by decide) (ref := "EldestAge$Tape") (List.mem_of_getElem? (i := 7) rfl) rfl rfl (ty := .int) (v := .int (0 : Int32)) (by decide +kernel) rfl rfl (Nat.le_of_ble_eq_true rfl) ((h0, .inr (3, [.ref q8, .int (0 : Int32), .int (0 : Int32), .int 0, .int 0, .int 0, .int 0, .int 0, .int 0, .int 0, .int 0, .int 0])) :: [(q8, .inl (zI E, 400, .inl (fun _ => 0)))]) rfl dX3_init_20 ?_
  refine z_aload_n C 0 rfl rfl dX3_init_23 ?_
  refine z_iconst C (v := (0 : Int32)) (by decide) dX3_init_24 ?_
  refine z_put C 0 rfl (C := RX3) (T := TX3) (N := 12) (ci := 3) rfl inw_X3_init_X3 tyX3 tyX3_ok nmX3 3 (by decide) (ref := "EldestAge$Tape") (List.mem_of_getElem? (i := 8) rfl) rfl rfl (ty := .int) (v := .int (0 : Int32)) (by decide +kernel) rfl rfl (Nat.le_of_ble_eq_true rfl) ((h0, .inr (3, [.ref q8, .int (0 : Int32), .int (0 : Int32), .int (0 : Int32), .int 0, .int 0, .int 0, .int 0, .int 0, .int 0, .int 0, .int 0])) :: [(q8, .inl (zI E, 400, .inl (fun _ => 0)))]) rfl dX3_init_25 ?_
  refine z_aload_n C 0 rfl rfl dX3_init_28 ?_
  refine z_iconst C (v := (0 : Int32)) (by decide) dX3_init_29 ?_
  refine z_put C 0 rfl (C := RX3) (T := TX3) (N := 12) (ci := 3) rfl inw_X3_init_X3 tyX3 tyX3_ok nmX3 4 (by decide) (ref := "EldestAge$Tape") (List.mem_of_getElem? (i := 9) rfl) rfl rfl (ty := .int) (v := .int (0 : Int32)) (by decide +kernel) rfl rfl (Nat.le_of_ble_eq_true rfl) ((h0, .inr (3, [.ref q8, .int (0 : Int32), .int (0 : Int32), .int (0 : Int32), .int (0 : Int32), .int 0, .int 0, .int 0, .int 0, .int 0, .int 0, .int 0])) :: [(q8, .inl (zI E, 400, .inl (fun _ => 0)))]) rfl dX3_init_30 ?_
  refine z_aload_n C 0 rfl rfl dX3_init_33 ?_
  refine z_iconst C (v := (0 : Int32)) (by decide) dX3_init_34 ?_
  refine z_put C 0 rfl (C := RX3) (T := TX3) (N := 12) (ci := 3) rfl inw_X3_init_X3 tyX3 tyX3_ok nmX3 5 (by decide) (ref := "EldestAge$Tape") (List.mem_of_getElem? (i := 10) rfl) rfl rfl (ty := .int) (v := .int (0 : Int32)) (by decide +kernel) rfl rfl (Nat.le_of_ble_eq_true rfl) ((h0, .inr (3, [.ref q8, .int (0 : Int32), .int (0 : Int32), .int (0 : Int32), .int (0 : Int32), .int (0 : Int32), .int 0, .int 0, .int 0, .int 0, .int 0, .int 0])) :: [(q8, .inl (zI E, 400, .inl (fun _ => 0)))]) rfl dX3_init_35 ?_
  refine z_aload_n C 0 rfl rfl dX3_init_38 ?_
  refine z_iconst C (v := (0 : Int32)) (by decide) dX3_init_39 ?_
  refine z_put C 0 rfl (C := RX3) (T := TX3) (N := 12) (ci := 3) rfl inw_X3_init_X3 tyX3 tyX3_ok nmX3 6 (by decide) (ref := "EldestAge$Tape") (List.mem_of_getElem? (i := 11) rfl) rfl rfl (ty := .int) (v := .int (0 : Int32)) (by decide +kernel) rfl rfl (Nat.le_of_ble_eq_true rfl) ((h0, .inr (3, [.ref q8, .int (0 : Int32), .int (0 : Int32), .int (0 : Int32), .int (0 : Int32), .int (0 : Int32), .int (0 : Int32), .int 0, .int 0, .int 0, .int 0, .int 0])) :: [(q8, .inl (zI E, 400, .inl (fun _ => 0)))]) rfl dX3_init_40 ?_
  refine z_aload_n C 0 rfl rfl dX3_init_43 ?_
  refine z_iconst C (v := (0 : Int32)) (by decide) dX3_init_44 ?_
  refine z_put C 0 rfl (C := RX3) (T := TX3) (N := 12) (ci := 3) rfl inw_X3_init_X3 tyX3 tyX3_ok nmX3 7 (by decide) (ref := "EldestAge$Tape") (List.mem_of_getElem? (i := 12) rfl) rfl rfl (ty := .int) (v := .int (0 : Int32)) (by decide +kernel) rfl rfl (Nat.le_of_ble_eq_true rfl) ((h0, .inr (3, [.ref q8, .int (0 : Int32), .int (0 : Int32), .int (0 : Int32), .int (0 : Int32), .int (0 : Int32), .int (0 : Int32), .int (0 : Int32), .int 0, .int 0, .int 0, .int 0])) :: [(q8, .inl (zI E, 400, .inl (fun _ => 0)))]) rfl dX3_init_45 ?_
  refine z_aload_n C 0 rfl rfl dX3_init_48 ?_
  refine z_iconst C (v := (0 : Int32)) (by decide) dX3_init_49 ?_
  refine z_put C 0 rfl (C := RX3) (T := TX3) (N := 12) (ci := 3) rfl inw_X3_init_X3 tyX3 tyX3_ok nmX3 8 (by decide) (ref := "EldestAge$Tape") (List.mem_of_getElem? (i := 13) rfl) rfl rfl (ty := .int) (v := .int (0 : Int32)) (by decide +kernel) rfl rfl (Nat.le_of_ble_eq_true rfl) ((h0, .inr (3, [.ref q8, .int (0 : Int32), .int (0 : Int32), .int (0 : Int32), .int (0 : Int32), .int (0 : Int32), .int (0 : Int32), .int (0 : Int32), .int (0 : Int32), .int 0, .int 0, .int 0])) :: [(q8, .inl (zI E, 400, .inl (fun _ => 0)))]) rfl dX3_init_50 ?_
  refine z_aload_n C 0 rfl rfl dX3_init_53 ?_
  refine z_iconst C (v := (0 : Int32)) (by decide) dX3_init_54 ?_
  refine z_put C 0 rfl (C := RX3) (T := TX3) (N := 12) (ci := 3) rfl inw_X3_init_X3 tyX3 tyX3_ok nmX3 9 (by decide) (ref := "EldestAge$Tape") (List.mem_of_getElem? (i := 14) rfl) rfl rfl (ty := .int) (v := .int (0 : Int32)) (by decide +kernel) rfl rfl (Nat.le_of_ble_eq_true rfl) ((h0, .inr (3, [.ref q8, .int (0 : Int32), .int (0 : Int32), .int (0 : Int32), .int (0 : Int32), .int (0 : Int32), .int (0 : Int32), .int (0 : Int32), .int (0 : Int32), .int (0 : Int32), .int 0, .int 0])) :: [(q8, .inl (zI E, 400, .inl (fun _ => 0)))]) rfl dX3_init_55 ?_
  refine z_aload_n C 0 rfl rfl dX3_init_58 ?_
  refine z_iconst C (v := (0 : Int32)) (by decide) dX3_init_59 ?_
  refine z_put C 0 rfl (C := RX3) (T := TX3) (N := 12) (ci := 3) rfl inw_X3_init_X3 tyX3 tyX3_ok nmX3 10 (by decide) (ref := "EldestAge$Tape") (List.mem_of_getElem? (i := 15) rfl) rfl rfl (ty := .boolean) (v := .int (0 : Int32)) (by decide +kernel) (by decide +kernel) rfl (Nat.le_of_ble_eq_true rfl) ((h0, .inr (3, [.ref q8, .int (0 : Int32), .int (0 : Int32), .int (0 : Int32), .int (0 : Int32), .int (0 : Int32), .int (0 : Int32), .int (0 : Int32), .int (0 : Int32), .int (0 : Int32), .int (0 : Int32), .int 0])) :: [(q8, .inl (zI E, 400, .inl (fun _ => 0)))]) rfl dX3_init_60 ?_
  refine z_aload_n C 0 rfl rfl dX3_init_63 ?_
  refine z_iconst C (v := (0 : Int32)) (by decide) dX3_init_64 ?_
  refine z_put C 0 rfl (C := RX3) (T := TX3) (N := 12) (ci := 3) rfl inw_X3_init_X3 tyX3 tyX3_ok nmX3 11 (by decide) (ref := "EldestAge$Tape") (List.mem_of_getElem? (i := 16) rfl) rfl rfl (ty := .boolean) (v := .int (0 : Int32)) (by decide +kernel) (by decide +kernel) rfl (Nat.le_of_ble_eq_true rfl) ((h0, .inr (3, [.ref q8, .int (0 : Int32), .int (0 : Int32), .int (0 : Int32), .int (0 : Int32), .int (0 : Int32), .int (0 : Int32), .int (0 : Int32), .int (0 : Int32), .int (0 : Int32), .int (0 : Int32), .int (0 : Int32)])) :: [(q8, .inl (zI E, 400, .inl (fun _ => 0)))]) rfl dX3_init_65 ?_
  exact R ((fun k => [h0, q8].getD k 0)) rfl 68 _ dX3_init_68)
