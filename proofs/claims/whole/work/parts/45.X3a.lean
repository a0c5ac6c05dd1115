abbrev rm_X3_append : Room := { frames := 0, cells := 0, slots := 0, locals := 0 }
theorem inw_X3_append_X3 : ∀ w ∈ wsX30, w ∈ wsX3_append := fun _ h => List.mem_cons_of_mem _ (List.mem_append_right _ h)
set_option maxHeartbeats 4000000 in
theorem wl_X3_append_0 (E : zEnv) (a : Nat → Nat) (S : St) (f : Nat → Int32) : (wTape E a (st 0 f S)) = (wTape E a S).set 1 (a 1, .inl (zI E, 400, .inl f)) := rfl
set_option maxHeartbeats 4000000 in
theorem wl_X3_append_1 (E : zEnv) (a : Nat → Nat) (S : St) (v : Int32) : (wTape E a (st 1 (fun _ => v) S)) = (wTape E a S).set 0 (a 0, .inr (3, List.set [.ref (a 1), .int (S 1 0), .int (S 2 0), .int (S 3 0), .int (S 4 0), .int (S 5 0), .int (S 6 0), .int (S 7 0), .int (S 8 0), .int (S 9 0), .int (S 10 0), .int (S 11 0)] 1 (.int v))) := rfl
noncomputable def f_X3_append_18 (n : Nat) : Int64 → Int32 → St → Option (Int32 × St) := Nat.rec (motive := fun _ => Int64 → Int32 → St → Option (Int32 × St)) (fun _ _ _ => none) (fun _ ih => fun x1 x3 S => (if x3 < 0 then (some ((1 : Int32), S)) else (ix (S 1 0) 400 (ih x1 (x3 + (-8 : Int32)) (st 1 (fun _ => ((S 1 0) + (1 : Int32))) (st 0 (upd (S 0) (Int32.toNatClampNeg (S 1 0)) ((Int64.toInt32 (zlushr x1 x3)) &&& (255 : Int32))) S)))))) n
theorem f_X3_append_18_s (n : Nat) (x1 : Int64) (x3 : Int32) (S : St) : f_X3_append_18 (n + 1) x1 x3 S = (if x3 < 0 then (some ((1 : Int32), S)) else (ix (S 1 0) 400 ((f_X3_append_18 n) x1 (x3 + (-8 : Int32)) (st 1 (fun _ => ((S 1 0) + (1 : Int32))) (st 0 (upd (S 0) (Int32.toNatClampNeg (S 1 0)) ((Int64.toInt32 (zlushr x1 x3)) &&& (255 : Int32))) S))))) := rfl
noncomputable def f_X3_append (x1 : Int64) (S : St) : Option (Int32 × St) := (if ((S 1 0) + (8 : Int32)) ≤ (400 : Int32) then (f_X3_append_18 1000 x1 (56 : Int32) S) else (some ((0 : Int32), S)))
set_option maxHeartbeats 4000000 in
set_option maxRecDepth 100000 in
theorem L_X3_append_18 {E : zEnv} {Γ : zG} (a : Nat → Nat) (C : zC E Γ cX3_append RX3 4 rm_X3_append wsX3_append) {res : (Int32 × St)} (R : zRi E Γ cX3_append 4 .boolean (wTape E a res.2) res.1) : ∀ (n : Nat) (x1 : Int64) (x3 : Int32) (S : St), f_X3_append_18 n x1 x3 S = some res → Zt E Γ 4 0 0 (wTape E a S) [(0, .ref (a 0)), (1, .long x1), (3, .int x3)] 18 [] := by
  intro n
  induction n with
  | zero =>
    intro x1 x3 S h
    cases h
  | succ n ih =>
    intro x1 x3 S h
    rw [f_X3_append_18_s] at h
    refine z_iload_n C 2 rfl rfl dX3_append_18 ?_
    refine z_if_lt C 55 (by decide) h dX3_append_19 (fun hc h => ?_) (fun hc h => ?_)
    · refine z_iconst C (v := (1 : Int32)) (by decide) dX3_append_55 ?_
      obtain rfl := Option.some.inj h
      exact R z_n1 56 _ dX3_append_56
    · refine z_aload_n C 0 rfl rfl dX3_append_22 ?_
      refine z_get C 0 rfl (C := RX3) (T := TX3) (N := 12) (ci := 3) rfl inw_X3_append_X3 0 (by decide) (ref := "EldestAge$Tape") (List.mem_of_getElem? (i := 2) rfl) rfl (v := .ref (a 1)) rfl dX3_append_23 ?_
      refine z_aload_n C 0 rfl rfl dX3_append_26 ?_
      refine z_get C 0 rfl (C := RX3) (T := TX3) (N := 12) (ci := 3) rfl inw_X3_append_X3 1 (by decide) (ref := "EldestAge$Tape") (List.mem_of_getElem? (i := 1) rfl) rfl (v := .int (S 1 0)) rfl dX3_append_27 ?_
      refine z_lload_n C 1 rfl rfl dX3_append_30 ?_
      refine z_iload_n C 2 rfl rfl dX3_append_31 ?_
      refine z_lushr C dX3_append_32 ?_
      refine z_l2i C dX3_append_33 ?_
      refine z_sipush C (v := (255 : Int32)) (by decide) dX3_append_34 ?_
      refine z_iand C dX3_append_37 ?_
      refine z_iast C (N := 400) (f := (S 0)) 1 rfl h (wTape E a (st 0 (upd (S 0) (Int32.toNatClampNeg (S 1 0)) ((Int64.toInt32 (zlushr x1 x3)) &&& (255 : Int32))) S)) (wl_X3_append_0 E a S (upd (S 0) (Int32.toNatClampNeg (S 1 0)) ((Int64.toInt32 (zlushr x1 x3)) &&& (255 : Int32)))) dX3_append_38 (fun h => ?_)
      refine z_aload_n C 0 rfl rfl dX3_append_39 ?_
      refine z_dup C rfl dX3_append_40 ?_
      refine z_get C 0 rfl (C := RX3) (T := TX3) (N := 12) (ci := 3) rfl inw_X3_append_X3 1 (by decide) (ref := "EldestAge$Tape") (List.mem_of_getElem? (i := 1) rfl) rfl (v := .int (S 1 0)) rfl dX3_append_41 ?_
      refine z_iconst C (v := (1 : Int32)) (by decide) dX3_append_44 ?_
      refine z_iadd C dX3_append_45 ?_
      refine z_put C 0 rfl (C := RX3) (T := TX3) (N := 12) (ci := 3) rfl inw_X3_append_X3 tyX3 tyX3_ok nmX3 1 (by decide) (ref := "EldestAge$Tape") (List.mem_of_getElem? (i := 1) rfl) rfl rfl (ty := .int) (v := .int ((S 1 0) + (1 : Int32))) (by decide +kernel) rfl rfl (Nat.le_of_ble_eq_true rfl) (wTape E a (st 1 (fun _ => ((S 1 0) + (1 : Int32))) (st 0 (upd (S 0) (Int32.toNatClampNeg (S 1 0)) ((Int64.toInt32 (zlushr x1 x3)) &&& (255 : Int32))) S))) (wl_X3_append_1 E a (st 0 (upd (S 0) (Int32.toNatClampNeg (S 1 0)) ((Int64.toInt32 (zlushr x1 x3)) &&& (255 : Int32))) S) ((S 1 0) + (1 : Int32))) dX3_append_46 ?_
      refine z_iinc C [(3, .int (x3 + (-8 : Int32))), (0, .ref (a 0)), (1, .long x1)] 2 rfl (by first | rfl | decide) (by decide) rfl dX3_append_49 ?_
      refine z_goto C 18 (by decide) dX3_append_52 ?_
      refine Zt_l [(0, .ref (a 0)), (1, .long x1), (3, .int (x3 + (-8 : Int32)))] [1, 2, 0] rfl ?_
      exact ih x1 (x3 + (-8 : Int32)) (st 1 (fun _ => ((S 1 0) + (1 : Int32))) (st 0 (upd (S 0) (Int32.toNatClampNeg (S 1 0)) ((Int64.toInt32 (zlushr x1 x3)) &&& (255 : Int32))) S)) h

set_option maxHeartbeats 4000000 in
set_option maxRecDepth 100000 in
theorem L_X3_append {E : zEnv} {Γ : zG} (a : Nat → Nat) (C : zC E Γ cX3_append RX3 4 rm_X3_append wsX3_append) {res : (Int32 × St)} (R : zRi E Γ cX3_append 4 .boolean (wTape E a res.2) res.1) (x1 : Int64) (S : St) (h : f_X3_append x1 S = some res) : Zt E Γ 4 0 0 (wTape E a S) [(0, .ref (a 0)), (1, .long x1)] 0 [] := by
  unfold f_X3_append at h
  refine z_aload_n C 0 rfl rfl dX3_append_0 ?_
  refine z_get C 0 rfl (C := RX3) (T := TX3) (N := 12) (ci := 3) rfl inw_X3_append_X3 1 (by decide) (ref := "EldestAge$Tape") (List.mem_of_getElem? (i := 1) rfl) rfl (v := .int (S 1 0)) rfl dX3_append_1 ?_
  refine z_bipush C (v := (8 : Int32)) (by decide) dX3_append_4 ?_
  refine z_iadd C dX3_append_6 ?_
  refine z_sipush C (v := (400 : Int32)) (by decide) dX3_append_7 ?_
  refine z_icmp_le C 15 (by decide) h dX3_append_10 (fun hc h => ?_) (fun hc h => ?_)
  · refine z_bipush C (v := (56 : Int32)) (by decide) dX3_append_15 ?_
    refine z_istore_n C [(3, .int (56 : Int32)), (0, .ref (a 0)), (1, .long x1)] rfl (by decide) rfl dX3_append_17 ?_
    refine Zt_l [(0, .ref (a 0)), (1, .long x1), (3, .int (56 : Int32))] [1, 2, 0] rfl ?_
    exact L_X3_append_18 a C R 1000 x1 (56 : Int32) S h
  · refine z_iconst C (v := (0 : Int32)) (by decide) dX3_append_13 ?_
    obtain rfl := Option.some.inj h
    exact R z_n0 14 _ dX3_append_14

theorem c_X3_append (E : zEnv) (a : Nat → Nat) (x1 : Int64) (S : St) {res : (Int32 × St)} (h : f_X3_append x1 S = some res) : Kti E yX3_append wsX3_append rm_X3_append (wTape E a S) (wTape E a res.2) [.ref (a 0), .long x1] res.1 :=
  z_enti (cc := cX3_append) (maxL := 4) (rt := .boolean) (by decide +kernel) rfl (Nat.le_of_ble_eq_true rfl) (fun Γ C R => L_X3_append a C R x1 S h)

abbrev rm_X3_fail : Room := { frames := 0, cells := 0, slots := 0, locals := 0 }
theorem inw_X3_fail_X3 : ∀ w ∈ wsX30, w ∈ wsX3_fail := fun _ h => List.mem_cons_of_mem _ (List.mem_append_right _ h)
set_option maxHeartbeats 4000000 in
theorem wl_X3_fail_0 (E : zEnv) (a : Nat → Nat) (S : St) (v : Int32) : (wTape E a (st 3 (fun _ => v) S)) = (wTape E a S).set 0 (a 0, .inr (3, List.set [.ref (a 1), .int (S 1 0), .int (S 2 0), .int (S 3 0), .int (S 4 0), .int (S 5 0), .int (S 6 0), .int (S 7 0), .int (S 8 0), .int (S 9 0), .int (S 10 0), .int (S 11 0)] 3 (.int v))) := rfl
set_option maxHeartbeats 4000000 in
theorem wl_X3_fail_1 (E : zEnv) (a : Nat → Nat) (S : St) (v : Int32) : (wTape E a (st 4 (fun _ => v) S)) = (wTape E a S).set 0 (a 0, .inr (3, List.set [.ref (a 1), .int (S 1 0), .int (S 2 0), .int (S 3 0), .int (S 4 0), .int (S 5 0), .int (S 6 0), .int (S 7 0), .int (S 8 0), .int (S 9 0), .int (S 10 0), .int (S 11 0)] 4 (.int v))) := rfl
noncomputable def f_X3_fail (x1 : Int32) (x2 : Int32) (S : St) : Option (Int32 × St) := (some ((0 : Int32), (st 4 (fun _ => x2) (st 3 (fun _ => x1) S))))
set_option maxHeartbeats 4000000 in
set_option maxRecDepth 100000 in
theorem L_X3_fail {E : zEnv} {Γ : zG} (a : Nat → Nat) (C : zC E Γ cX3_fail RX3 3 rm_X3_fail wsX3_fail) {res : (Int32 × St)} (R : zRi E Γ cX3_fail 3 .boolean (wTape E a res.2) res.1) (x1 : Int32) (x2 : Int32) (S : St) (h : f_X3_fail x1 x2 S = some res) : Zt E Γ 3 0 0 (wTape E a S) [(0, .ref (a 0)), (1, .int x1), (2, .int x2)] 0 [] := by
  unfold f_X3_fail at h
  refine z_aload_n C 0 rfl rfl dX3_fail_0 ?_
  refine z_iload_n C 1 rfl rfl dX3_fail_1 ?_
  refine z_put C 0 rfl (C := RX3) (T := TX3) (N := 12) (ci := 3) rfl inw_X3_fail_X3 tyX3 tyX3_ok nmX3 3 (by decide) (ref := "EldestAge$Tape") (List.mem_of_getElem? (i := 1) rfl) rfl rfl (ty := .int) (v := .int x1) (by decide +kernel) rfl rfl (Nat.le_of_ble_eq_true rfl) (wTape E a (st 3 (fun _ => x1) S)) (wl_X3_fail_0 E a S x1) dX3_fail_2 ?_
  refine z_aload_n C 0 rfl rfl dX3_fail_5 ?_
  refine z_iload_n C 2 rfl rfl dX3_fail_6 ?_
  refine z_put C 0 rfl (C := RX3) (T := TX3) (N := 12) (ci := 3) rfl inw_X3_fail_X3 tyX3 tyX3_ok nmX3 4 (by decide) (ref := "EldestAge$Tape") (List.mem_of_getElem? (i := 2) rfl) rfl rfl (ty := .int) (v := .int x2) (by decide +kernel) rfl rfl (Nat.le_of_ble_eq_true rfl) (wTape E a (st 4 (fun _ => x2) (st 3 (fun _ => x1) S))) (wl_X3_fail_1 E a (st 3 (fun _ => x1) S) x2) dX3_fail_7 ?_
  refine z_iconst C (v := (0 : Int32)) (by decide) dX3_fail_10 ?_
  obtain rfl := Option.some.inj h
  exact R z_n0 11 _ dX3_fail_11

theorem c_X3_fail (E : zEnv) (a : Nat → Nat) (x1 : Int32) (x2 : Int32) (S : St) {res : (Int32 × St)} (h : f_X3_fail x1 x2 S = some res) : Kti E yX3_fail wsX3_fail rm_X3_fail (wTape E a S) (wTape E a res.2) [.ref (a 0), .int x1, .int x2] res.1 :=
  z_enti (cc := cX3_fail) (maxL := 3) (rt := .boolean) (by decide +kernel) rfl (Nat.le_of_ble_eq_true rfl) (fun Γ C R => L_X3_fail a C R x1 x2 S h)

abbrev rm_X3_isLetter : Room := { frames := 0, cells := 0, slots := 0, locals := 0 }
noncomputable def f_X3_isLetter (x0 : Int32) : Option Int32 := (if x0 < (97 : Int32) then (some (0 : Int32)) else (if (122 : Int32) < x0 then (some (0 : Int32)) else (some (1 : Int32))))
set_option maxHeartbeats 4000000 in
set_option maxRecDepth 100000 in
theorem L_X3_isLetter {E : zEnv} {Γ : zG} (C : zC E Γ cX3_isLetter RX3 1 rm_X3_isLetter wsX3_isLetter) {res : Int32} (R : zRi E Γ cX3_isLetter 1 .boolean [] res) (x0 : Int32) (h : f_X3_isLetter x0 = some res) : Zt E Γ 1 0 0 [] [(0, .int x0)] 0 [] := by
  unfold f_X3_isLetter at h
  refine z_iload_n C 0 rfl rfl dX3_isLetter_0 ?_
  refine z_bipush C (v := (97 : Int32)) (by decide) dX3_isLetter_1 ?_
  refine z_icmp_lt C 16 (by decide) h dX3_isLetter_3 (fun hc h => ?_) (fun hc h => ?_)
  · refine z_iconst C (v := (0 : Int32)) (by decide) dX3_isLetter_16 ?_
    obtain rfl := Option.some.inj h
    exact R z_n0 17 _ dX3_isLetter_17
  · refine z_iload_n C 0 rfl rfl dX3_isLetter_6 ?_
    refine z_bipush C (v := (122 : Int32)) (by decide) dX3_isLetter_7 ?_
    refine z_icmp_gt C 16 (by decide) h dX3_isLetter_9 (fun hc h => ?_) (fun hc h => ?_)
    · refine z_iconst C (v := (0 : Int32)) (by decide) dX3_isLetter_16 ?_
      obtain rfl := Option.some.inj h
      exact R z_n0 17 _ dX3_isLetter_17
    · refine z_iconst C (v := (1 : Int32)) (by decide) dX3_isLetter_12 ?_
      refine z_goto C 17 (by decide) dX3_isLetter_13 ?_
      obtain rfl := Option.some.inj h
      exact R z_n1 17 _ dX3_isLetter_17

theorem c_X3_isLetter (E : zEnv) (x0 : Int32) {res : Int32} (h : f_X3_isLetter x0 = some res) : Kti E yX3_isLetter wsX3_isLetter rm_X3_isLetter [] [] [.int x0] res :=
  z_enti (cc := cX3_isLetter) (maxL := 1) (rt := .boolean) (by decide +kernel) rfl (Nat.le_of_ble_eq_true rfl) (fun Γ C R => L_X3_isLetter C R x0 h)

abbrev rm_X3_nextNumber : Room := { frames := 0, cells := 0, slots := 0, locals := 0 }
theorem inw_X3_nextNumber_X3 : ∀ w ∈ wsX30, w ∈ wsX3_nextNumber := fun _ h => List.mem_cons_of_mem _ (List.mem_append_right _ h)
set_option maxHeartbeats 4000000 in
theorem wl_X3_nextNumber_0 (E : zEnv) (a : Nat → Nat) (S : St) (v : Int32) : (wTape E a (st 5 (fun _ => v) S)) = (wTape E a S).set 0 (a 0, .inr (3, List.set [.ref (a 1), .int (S 1 0), .int (S 2 0), .int (S 3 0), .int (S 4 0), .int (S 5 0), .int (S 6 0), .int (S 7 0), .int (S 8 0), .int (S 9 0), .int (S 10 0), .int (S 11 0)] 5 (.int v))) := rfl
set_option maxHeartbeats 4000000 in
theorem wl_X3_nextNumber_1 (E : zEnv) (a : Nat → Nat) (S : St) (v : Int32) : (wTape E a (st 8 (fun _ => v) S)) = (wTape E a S).set 0 (a 0, .inr (3, List.set [.ref (a 1), .int (S 1 0), .int (S 2 0), .int (S 3 0), .int (S 4 0), .int (S 5 0), .int (S 6 0), .int (S 7 0), .int (S 8 0), .int (S 9 0), .int (S 10 0), .int (S 11 0)] 8 (.int v))) := rfl
set_option maxHeartbeats 4000000 in
theorem wl_X3_nextNumber_2 (E : zEnv) (a : Nat → Nat) (S : St) (v : Int32) : (wTape E a (st 6 (fun _ => v) S)) = (wTape E a S).set 0 (a 0, .inr (3, List.set [.ref (a 1), .int (S 1 0), .int (S 2 0), .int (S 3 0), .int (S 4 0), .int (S 5 0), .int (S 6 0), .int (S 7 0), .int (S 8 0), .int (S 9 0), .int (S 10 0), .int (S 11 0)] 6 (.int v))) := rfl
noncomputable def f_X3_nextNumber_81 (k5 : St → Option (Int32 × St)) (S : St) : Option (Int32 × St) := (k5  (st 5 (fun _ => ((S 5 0) + (1 : Int32))) S))
noncomputable def f_X3_nextNumber_94 (S : St) : Option (Int32 × St) := (if (S 5 0) ≤ (S 7 0) then (some ((0 : Int32), S)) else (if (3 : Int32) < ((S 5 0) - (S 7 0)) then (some ((0 : Int32), S)) else (some ((1 : Int32), S))))
noncomputable def f_X3_nextNumber_5 (n : Nat) : St → Option (Int32 × St) := Nat.rec (motive := fun _ => St → Option (Int32 × St)) (fun _ => none) (fun _ ih => fun S => (if (S 1 0) ≤ (S 5 0) then (f_X3_nextNumber_94 S) else (ix (S 5 0) 400 (if (S 0 (Int32.toNatClampNeg (S 5 0))) < (48 : Int32) then (f_X3_nextNumber_94 S) else (ix (S 5 0) 400 (if (57 : Int32) < (S 0 (Int32.toNatClampNeg (S 5 0))) then (f_X3_nextNumber_94 S) else (if (3 : Int32) ≤ ((S 5 0) - (S 7 0)) then (f_X3_nextNumber_81 ih S) else (ix (S 5 0) 400 (f_X3_nextNumber_81 ih (st 8 (fun _ => ((((S 8 0) * (10 : Int32)) + (S 0 (Int32.toNatClampNeg (S 5 0)))) - (48 : Int32))) S)))))))))) n
theorem f_X3_nextNumber_5_s (n : Nat) (S : St) : f_X3_nextNumber_5 (n + 1) S = (if (S 1 0) ≤ (S 5 0) then (f_X3_nextNumber_94 S) else (ix (S 5 0) 400 (if (S 0 (Int32.toNatClampNeg (S 5 0))) < (48 : Int32) then (f_X3_nextNumber_94 S) else (ix (S 5 0) 400 (if (57 : Int32) < (S 0 (Int32.toNatClampNeg (S 5 0))) then (f_X3_nextNumber_94 S) else (if (3 : Int32) ≤ ((S 5 0) - (S 7 0)) then (f_X3_nextNumber_81 (f_X3_nextNumber_5 n) S) else (ix (S 5 0) 400 (f_X3_nextNumber_81 (f_X3_nextNumber_5 n) (st 8 (fun _ => ((((S 8 0) * (10 : Int32)) + (S 0 (Int32.toNatClampNeg (S 5 0)))) - (48 : Int32))) S))))))))) := rfl
noncomputable def f_X3_nextNumber (S : St) : Option (Int32 × St) := (f_X3_nextNumber_5 1000 (st 6 (fun _ => (2 : Int32)) S))
set_option maxHeartbeats 4000000 in
set_option maxRecDepth 100000 in
theorem L_X3_nextNumber_81 {E : zEnv} {Γ : zG} (a : Nat → Nat) (C : zC E Γ cX3_nextNumber RX3 1 rm_X3_nextNumber wsX3_nextNumber) {res : (Int32 × St)} (R : zRi E Γ cX3_nextNumber 1 .boolean (wTape E a res.2) res.1) (k5 : St → Option (Int32 × St)) (hk5 : ∀ (S : St), k5 S = some res → Zt E Γ 1 0 0 (wTape E a S) [(0, .ref (a 0))] 5 []) (S : St) (h : f_X3_nextNumber_81 k5 S = some res) : Zt E Γ 1 0 0 (wTape E a S) [(0, .ref (a 0))] 81 [] := by
  unfold f_X3_nextNumber_81 at h
  refine z_aload_n C 0 rfl rfl dX3_nextNumber_81 ?_
  refine z_dup C rfl dX3_nextNumber_82 ?_
  refine z_get C 0 rfl (C := RX3) (T := TX3) (N := 12) (ci := 3) rfl inw_X3_nextNumber_X3 5 (by decide) (ref := "EldestAge$Tape") (List.mem_of_getElem? (i := 2) rfl) rfl (v := .int (S 5 0)) rfl dX3_nextNumber_83 ?_
  refine z_iconst C (v := (1 : Int32)) (by decide) dX3_nextNumber_86 ?_
  refine z_iadd C dX3_nextNumber_87 ?_
  refine z_put C 0 rfl (C := RX3) (T := TX3) (N := 12) (ci := 3) rfl inw_X3_nextNumber_X3 tyX3 tyX3_ok nmX3 5 (by decide) (ref := "EldestAge$Tape") (List.mem_of_getElem? (i := 2) rfl) rfl rfl (ty := .int) (v := .int ((S 5 0) + (1 : Int32))) (by decide +kernel) rfl rfl (Nat.le_of_ble_eq_true rfl) (wTape E a (st 5 (fun _ => ((S 5 0) + (1 : Int32))) S)) (wl_X3_nextNumber_0 E a S ((S 5 0) + (1 : Int32))) dX3_nextNumber_88 ?_
  refine z_goto C 5 (by decide) dX3_nextNumber_91 ?_
  exact hk5 (st 5 (fun _ => ((S 5 0) + (1 : Int32))) S) h

set_option maxHeartbeats 4000000 in
set_option maxRecDepth 100000 in
theorem L_X3_nextNumber_94 {E : zEnv} {Γ : zG} (a : Nat → Nat) (C : zC E Γ cX3_nextNumber RX3 1 rm_X3_nextNumber wsX3_nextNumber) {res : (Int32 × St)} (R : zRi E Γ cX3_nextNumber 1 .boolean (wTape E a res.2) res.1) (S : St) (h : f_X3_nextNumber_94 S = some res) : Zt E Γ 1 0 0 (wTape E a S) [(0, .ref (a 0))] 94 [] := by
  unfold f_X3_nextNumber_94 at h
  refine z_aload_n C 0 rfl rfl dX3_nextNumber_94 ?_
  refine z_get C 0 rfl (C := RX3) (T := TX3) (N := 12) (ci := 3) rfl inw_X3_nextNumber_X3 5 (by decide) (ref := "EldestAge$Tape") (List.mem_of_getElem? (i := 2) rfl) rfl (v := .int (S 5 0)) rfl dX3_nextNumber_95 ?_
  refine z_aload_n C 0 rfl rfl dX3_nextNumber_98 ?_
  refine z_get C 0 rfl (C := RX3) (T := TX3) (N := 12) (ci := 3) rfl inw_X3_nextNumber_X3 7 (by decide) (ref := "EldestAge$Tape") (List.mem_of_getElem? (i := 5) rfl) rfl (v := .int (S 7 0)) rfl dX3_nextNumber_99 ?_
  refine z_icmp_le C 122 (by decide) h dX3_nextNumber_102 (fun hc h => ?_) (fun hc h => ?_)
  · refine z_iconst C (v := (0 : Int32)) (by decide) dX3_nextNumber_122 ?_
    obtain rfl := Option.some.inj h
    exact R z_n0 123 _ dX3_nextNumber_123
  · refine z_aload_n C 0 rfl rfl dX3_nextNumber_105 ?_
    refine z_get C 0 rfl (C := RX3) (T := TX3) (N := 12) (ci := 3) rfl inw_X3_nextNumber_X3 5 (by decide) (ref := "EldestAge$Tape") (List.mem_of_getElem? (i := 2) rfl) rfl (v := .int (S 5 0)) rfl dX3_nextNumber_106 ?_
    refine z_aload_n C 0 rfl rfl dX3_nextNumber_109 ?_
    refine z_get C 0 rfl (C := RX3) (T := TX3) (N := 12) (ci := 3) rfl inw_X3_nextNumber_X3 7 (by decide) (ref := "EldestAge$Tape") (List.mem_of_getElem? (i := 5) rfl) rfl (v := .int (S 7 0)) rfl dX3_nextNumber_110 ?_
    refine z_isub C dX3_nextNumber_113 ?_
    refine z_iconst C (v := (3 : Int32)) (by decide) dX3_nextNumber_114 ?_
    refine z_icmp_gt C 122 (by decide) h dX3_nextNumber_115 (fun hc h => ?_) (fun hc h => ?_)
    · refine z_iconst C (v := (0 : Int32)) (by decide) dX3_nextNumber_122 ?_
      obtain rfl := Option.some.inj h
      exact R z_n0 123 _ dX3_nextNumber_123
    · refine z_iconst C (v := (1 : Int32)) (by decide) dX3_nextNumber_118 ?_
      refine z_goto C 123 (by decide) dX3_nextNumber_119 ?_
      obtain rfl := Option.some.inj h
      exact R z_n1 123 _ dX3_nextNumber_123

set_option maxHeartbeats 4000000 in
set_option maxRecDepth 100000 in
theorem L_X3_nextNumber_5 {E : zEnv} {Γ : zG} (a : Nat → Nat) (C : zC E Γ cX3_nextNumber RX3 1 rm_X3_nextNumber wsX3_nextNumber) {res : (Int32 × St)} (R : zRi E Γ cX3_nextNumber 1 .boolean (wTape E a res.2) res.1) : ∀ (n : Nat) (S : St), f_X3_nextNumber_5 n S = some res → Zt E Γ 1 0 0 (wTape E a S) [(0, .ref (a 0))] 5 [] := by
  intro n
  induction n with
  | zero =>
    intro S h
    cases h
  | succ n ih =>
    intro S h
    rw [f_X3_nextNumber_5_s] at h
    refine z_aload_n C 0 rfl rfl dX3_nextNumber_5 ?_
    refine z_get C 0 rfl (C := RX3) (T := TX3) (N := 12) (ci := 3) rfl inw_X3_nextNumber_X3 5 (by decide) (ref := "EldestAge$Tape") (List.mem_of_getElem? (i := 2) rfl) rfl (v := .int (S 5 0)) rfl dX3_nextNumber_6 ?_
    refine z_aload_n C 0 rfl rfl dX3_nextNumber_9 ?_
    refine z_get C 0 rfl (C := RX3) (T := TX3) (N := 12) (ci := 3) rfl inw_X3_nextNumber_X3 1 (by decide) (ref := "EldestAge$Tape") (List.mem_of_getElem? (i := 3) rfl) rfl (v := .int (S 1 0)) rfl dX3_nextNumber_10 ?_
    refine z_icmp_ge C 94 (by decide) h dX3_nextNumber_13 (fun hc h => ?_) (fun hc h => ?_)
    · exact L_X3_nextNumber_94 a C R S h
    · refine z_aload_n C 0 rfl rfl dX3_nextNumber_16 ?_
      refine z_get C 0 rfl (C := RX3) (T := TX3) (N := 12) (ci := 3) rfl inw_X3_nextNumber_X3 0 (by decide) (ref := "EldestAge$Tape") (List.mem_of_getElem? (i := 4) rfl) rfl (v := .ref (a 1)) rfl dX3_nextNumber_17 ?_
      refine z_aload_n C 0 rfl rfl dX3_nextNumber_20 ?_
      refine z_get C 0 rfl (C := RX3) (T := TX3) (N := 12) (ci := 3) rfl inw_X3_nextNumber_X3 5 (by decide) (ref := "EldestAge$Tape") (List.mem_of_getElem? (i := 2) rfl) rfl (v := .int (S 5 0)) rfl dX3_nextNumber_21 ?_
      refine z_iald C (N := 400) (f := (S 0)) 1 rfl h dX3_nextNumber_24 (fun h => ?_)
      refine z_bipush C (v := (48 : Int32)) (by decide) dX3_nextNumber_25 ?_
      refine z_icmp_lt C 94 (by decide) h dX3_nextNumber_27 (fun hc h => ?_) (fun hc h => ?_)
      · exact L_X3_nextNumber_94 a C R S h
      · refine z_aload_n C 0 rfl rfl dX3_nextNumber_30 ?_
        refine z_get C 0 rfl (C := RX3) (T := TX3) (N := 12) (ci := 3) rfl inw_X3_nextNumber_X3 0 (by decide) (ref := "EldestAge$Tape") (List.mem_of_getElem? (i := 4) rfl) rfl (v := .ref (a 1)) rfl dX3_nextNumber_31 ?_
        refine z_aload_n C 0 rfl rfl dX3_nextNumber_34 ?_
        refine z_get C 0 rfl (C := RX3) (T := TX3) (N := 12) (ci := 3) rfl inw_X3_nextNumber_X3 5 (by decide) (ref := "EldestAge$Tape") (List.mem_of_getElem? (i := 2) rfl) rfl (v := .int (S 5 0)) rfl dX3_nextNumber_35 ?_
        refine z_iald C (N := 400) (f := (S 0)) 1 rfl h dX3_nextNumber_38 (fun h => ?_)
        refine z_bipush C (v := (57 : Int32)) (by decide) dX3_nextNumber_39 ?_
        refine z_icmp_gt C 94 (by decide) h dX3_nextNumber_41 (fun hc h => ?_) (fun hc h => ?_)
        · exact L_X3_nextNumber_94 a C R S h
        · refine z_aload_n C 0 rfl rfl dX3_nextNumber_44 ?_
          refine z_get C 0 rfl (C := RX3) (T := TX3) (N := 12) (ci := 3) rfl inw_X3_nextNumber_X3 5 (by decide) (ref := "EldestAge$Tape") (List.mem_of_getElem? (i := 2) rfl) rfl (v := .int (S 5 0)) rfl dX3_nextNumber_45 ?_
          refine z_aload_n C 0 rfl rfl dX3_nextNumber_48 ?_
          refine z_get C 0 rfl (C := RX3) (T := TX3) (N := 12) (ci := 3) rfl inw_X3_nextNumber_X3 7 (by decide) (ref := "EldestAge$Tape") (List.mem_of_getElem? (i := 5) rfl) rfl (v := .int (S 7 0)) rfl dX3_nextNumber_49 ?_
          refine z_isub C dX3_nextNumber_52 ?_
          refine z_iconst C (v := (3 : Int32)) (by decide) dX3_nextNumber_53 ?_
          refine z_icmp_ge C 81 (by decide) h dX3_nextNumber_54 (fun hc h => ?_) (fun hc h => ?_)
          · exact L_X3_nextNumber_81 a C R _ ih S h
          · refine z_aload_n C 0 rfl rfl dX3_nextNumber_57 ?_
            refine z_aload_n C 0 rfl rfl dX3_nextNumber_58 ?_
            refine z_get C 0 rfl (C := RX3) (T := TX3) (N := 12) (ci := 3) rfl inw_X3_nextNumber_X3 8 (by decide) (ref := "EldestAge$Tape") (List.mem_of_getElem? (i := 6) rfl) rfl (v := .int (S 8 0)) rfl dX3_nextNumber_59 ?_
            refine z_bipush C (v := (10 : Int32)) (by decide) dX3_nextNumber_62 ?_
            refine z_imul C dX3_nextNumber_64 ?_
            refine z_aload_n C 0 rfl rfl dX3_nextNumber_65 ?_
            refine z_get C 0 rfl (C := RX3) (T := TX3) (N := 12) (ci := 3) rfl inw_X3_nextNumber_X3 0 (by decide) (ref := "EldestAge$Tape") (List.mem_of_getElem? (i := 4) rfl) rfl (v := .ref (a 1)) rfl dX3_nextNumber_66 ?_
            refine z_aload_n C 0 rfl rfl dX3_nextNumber_69 ?_
            refine z_get C 0 rfl (C := RX3) (T := TX3) (N := 12) (ci := 3) rfl inw_X3_nextNumber_X3 5 (by decide) (ref := "EldestAge$Tape") (List.mem_of_getElem? (i := 2) rfl) rfl (v := .int (S 5 0)) rfl dX3_nextNumber_70 ?_
            refine z_iald C (N := 400) (f := (S 0)) 1 rfl h dX3_nextNumber_73 (fun h => ?_)
            refine z_iadd C dX3_nextNumber_74 ?_
            refine z_bipush C (v := (48 : Int32)) (by decide) dX3_nextNumber_75 ?_
            refine z_isub C dX3_nextNumber_77 ?_
            refine z_put C 0 rfl (C := RX3) (T := TX3) (N := 12) (ci := 3) rfl inw_X3_nextNumber_X3 tyX3 tyX3_ok nmX3 8 (by decide) (ref := "EldestAge$Tape") (List.mem_of_getElem? (i := 6) rfl) rfl rfl (ty := .int) (v := .int ((((S 8 0) * (10 : Int32)) + (S 0 (Int32.toNatClampNeg (S 5 0)))) - (48 : Int32))) (by decide +kernel) rfl rfl (Nat.le_of_ble_eq_true rfl) (wTape E a (st 8 (fun _ => ((((S 8 0) * (10 : Int32)) + (S 0 (Int32.toNatClampNeg (S 5 0)))) - (48 : Int32))) S)) (wl_X3_nextNumber_1 E a S ((((S 8 0) * (10 : Int32)) + (S 0 (Int32.toNatClampNeg (S 5 0)))) - (48 : Int32))) dX3_nextNumber_78 ?_
            exact L_X3_nextNumber_81 a C R _ ih (st 8 (fun _ => ((((S 8 0) * (10 : Int32)) + (S 0 (Int32.toNatClampNeg (S 5 0)))) - (48 : Int32))) S) h

set_option maxHeartbeats 4000000 in
set_option maxRecDepth 100000 in
theorem L_X3_nextNumber {E : zEnv} {Γ : zG} (a : Nat → Nat) (C : zC E Γ cX3_nextNumber RX3 1 rm_X3_nextNumber wsX3_nextNumber) {res : (Int32 × St)} (R : zRi E Γ cX3_nextNumber 1 .boolean (wTape E a res.2) res.1) (S : St) (h : f_X3_nextNumber S = some res) : Zt E Γ 1 0 0 (wTape E a S) [(0, .ref (a 0))] 0 [] := by
  unfold f_X3_nextNumber at h
  refine z_aload_n C 0 rfl rfl dX3_nextNumber_0 ?_
  refine z_iconst C (v := (2 : Int32)) (by decide) dX3_nextNumber_1 ?_
  refine z_put C 0 rfl (C := RX3) (T := TX3) (N := 12) (ci := 3) rfl inw_X3_nextNumber_X3 tyX3 tyX3_ok nmX3 6 (by decide) (ref := "EldestAge$Tape") (List.mem_of_getElem? (i := 1) rfl) rfl rfl (ty := .int) (v := .int (2 : Int32)) (by decide +kernel) rfl rfl (Nat.le_of_ble_eq_true rfl) (wTape E a (st 6 (fun _ => (2 : Int32)) S)) (wl_X3_nextNumber_2 E a S (2 : Int32)) dX3_nextNumber_2 ?_
  exact L_X3_nextNumber_5 a C R 1000 (st 6 (fun _ => (2 : Int32)) S) h

theorem c_X3_nextNumber (E : zEnv) (a : Nat → Nat) (S : St) {res : (Int32 × St)} (h : f_X3_nextNumber S = some res) : Kti E yX3_nextNumber wsX3_nextNumber rm_X3_nextNumber (wTape E a S) (wTape E a res.2) [.ref (a 0)] res.1 :=
  z_enti (cc := cX3_nextNumber) (maxL := 1) (rt := .boolean) (by decide +kernel) rfl (Nat.le_of_ble_eq_true rfl) (fun Γ C R => L_X3_nextNumber a C R S h)

abbrev rm_X3_next : Room := { frames := 1, cells := 0, slots := 0, locals := 22 }
theorem inw_X3_next_X3 : ∀ w ∈ wsX30, w ∈ wsX3_next := fun _ h => List.mem_cons_of_mem _ (List.mem_append_right _ h)
set_option maxHeartbeats 4000000 in
theorem wl_X3_next_0 (E : zEnv) (a : Nat → Nat) (S : St) : ([0, 1] : List Nat).map (fun i => (wTape E a S)[i]?) = (wTape E a S).map some := rfl
set_option maxHeartbeats 4000000 in
theorem wl_X3_next_1 (E : zEnv) (a : Nat → Nat) (S U : St) : (wTape E a U).map (fun q => q.1) = (wTape E a S).map (fun q => q.1) := rfl
set_option maxHeartbeats 4000000 in
theorem wl_X3_next_2 (E : zEnv) (a : Nat → Nat) (S U : St) : (wTape E a U) = zrep [0, 1] (wTape E a U) (wTape E a S) := zrep_of (isR := []) 2 rfl [] rfl rfl rfl rfl (by decide +kernel) (by decide +kernel)
set_option maxHeartbeats 4000000 in
theorem wl_X3_next_3 (E : zEnv) (a : Nat → Nat) (S : St) (v : Int32) : (wTape E a (st 6 (fun _ => v) S)) = (wTape E a S).set 0 (a 0, .inr (3, List.set [.ref (a 1), .int (S 1 0), .int (S 2 0), .int (S 3 0), .int (S 4 0), .int (S 5 0), .int (S 6 0), .int (S 7 0), .int (S 8 0), .int (S 9 0), .int (S 10 0), .int (S 11 0)] 6 (.int v))) := rfl
set_option maxHeartbeats 4000000 in
theorem wl_X3_next_4 (E : zEnv) (a : Nat → Nat) (S : St) (v : Int32) : (wTape E a (st 5 (fun _ => v) S)) = (wTape E a S).set 0 (a 0, .inr (3, List.set [.ref (a 1), .int (S 1 0), .int (S 2 0), .int (S 3 0), .int (S 4 0), .int (S 5 0), .int (S 6 0), .int (S 7 0), .int (S 8 0), .int (S 9 0), .int (S 10 0), .int (S 11 0)] 5 (.int v))) := rfl
set_option maxHeartbeats 4000000 in
theorem wl_X3_next_5 (E : zEnv) (a : Nat → Nat) (S : St) (v : Int32) : (wTape E a (st 7 (fun _ => v) S)) = (wTape E a S).set 0 (a 0, .inr (3, List.set [.ref (a 1), .int (S 1 0), .int (S 2 0), .int (S 3 0), .int (S 4 0), .int (S 5 0), .int (S 6 0), .int (S 7 0), .int (S 8 0), .int (S 9 0), .int (S 10 0), .int (S 11 0)] 7 (.int v))) := rfl
set_option maxHeartbeats 4000000 in
theorem wl_X3_next_6 (E : zEnv) (a : Nat → Nat) (S : St) (v : Int32) : (wTape E a (st 8 (fun _ => v) S)) = (wTape E a S).set 0 (a 0, .inr (3, List.set [.ref (a 1), .int (S 1 0), .int (S 2 0), .int (S 3 0), .int (S 4 0), .int (S 5 0), .int (S 6 0), .int (S 7 0), .int (S 8 0), .int (S 9 0), .int (S 10 0), .int (S 11 0)] 8 (.int v))) := rfl
noncomputable def f_X3_next_176 (S : St) : Option (Int32 × St) := (some ((1 : Int32), S))
noncomputable def f_X3_next_139 (S : St) : Option (Int32 × St) := (if (S 5 0) ≤ (S 7 0) then ((f_X3_nextNumber S).bind (fun q1 => (if q1.1 = 0 then ((f_X3_fail (1 : Int32) (q1.2 7 0) q1.2).bind (fun q2 => (if q2.1 = 0 then (some ((0 : Int32), q2.2)) else (f_X3_next_176 q2.2)))) else (f_X3_next_176 q1.2)))) else (some ((1 : Int32), (st 6 (fun _ => (1 : Int32)) S))))
noncomputable def f_X3_next_100 (n : Nat) : St → Option (Int32 × St) := Nat.rec (motive := fun _ => St → Option (Int32 × St)) (fun _ => none) (fun _ ih => fun S => (if (S 1 0) ≤ (S 5 0) then (f_X3_next_139 S) else (ix (S 5 0) 400 ((f_X3_isLetter (S 0 (Int32.toNatClampNeg (S 5 0)))).bind (fun q3 => (if q3 = 0 then (f_X3_next_139 S) else (ih  (st 5 (fun _ => ((S 5 0) + (1 : Int32))) S)))))))) n
theorem f_X3_next_100_s (n : Nat) (S : St) : f_X3_next_100 (n + 1) S = (if (S 1 0) ≤ (S 5 0) then (f_X3_next_139 S) else (ix (S 5 0) 400 ((f_X3_isLetter (S 0 (Int32.toNatClampNeg (S 5 0)))).bind (fun q3 => (if q3 = 0 then (f_X3_next_139 S) else ((f_X3_next_100 n)  (st 5 (fun _ => ((S 5 0) + (1 : Int32))) S))))))) := rfl
noncomputable def f_X3_next_38 (S : St) : Option (Int32 × St) := (if (S 5 0) < (S 1 0) then (ix (S 5 0) 400 (if (S 0 (Int32.toNatClampNeg (S 5 0))) = (59 : Int32) then (some ((1 : Int32), (st 5 (fun _ => ((S 5 0) + (1 : Int32))) (st 6 (fun _ => (3 : Int32)) (st 8 (fun _ => (0 : Int32)) (st 7 (fun _ => (S 5 0)) S)))))) else (f_X3_next_100 1000 (st 8 (fun _ => (0 : Int32)) (st 7 (fun _ => (S 5 0)) S))))) else (some ((1 : Int32), (st 6 (fun _ => (0 : Int32)) (st 8 (fun _ => (0 : Int32)) (st 7 (fun _ => (S 5 0)) S))))))
noncomputable def f_X3_next_0 (n : Nat) : St → Option (Int32 × St) := Nat.rec (motive := fun _ => St → Option (Int32 × St)) (fun _ => none) (fun _ ih => fun S => (if (S 1 0) ≤ (S 5 0) then (f_X3_next_38 S) else (ix (S 5 0) 400 (if (S 0 (Int32.toNatClampNeg (S 5 0))) = (32 : Int32) then (ih  (st 5 (fun _ => ((S 5 0) + (1 : Int32))) S)) else (f_X3_next_38 S))))) n
theorem f_X3_next_0_s (n : Nat) (S : St) : f_X3_next_0 (n + 1) S = (if (S 1 0) ≤ (S 5 0) then (f_X3_next_38 S) else (ix (S 5 0) 400 (if (S 0 (Int32.toNatClampNeg (S 5 0))) = (32 : Int32) then ((f_X3_next_0 n)  (st 5 (fun _ => ((S 5 0) + (1 : Int32))) S)) else (f_X3_next_38 S)))) := rfl
set_option maxHeartbeats 4000000 in
set_option maxRecDepth 100000 in
theorem L_X3_next_176 {E : zEnv} {Γ : zG} (a : Nat → Nat) (C : zC E Γ cX3_next RX3 1 rm_X3_next wsX3_next) {res : (Int32 × St)} (R : zRi E Γ cX3_next 1 .boolean (wTape E a res.2) res.1) (S : St) (h : f_X3_next_176 S = some res) : Zt E Γ 1 0 0 (wTape E a S) [] 176 [] := by
  unfold f_X3_next_176 at h
  refine z_iconst C (v := (1 : Int32)) (by decide) dX3_next_176 ?_
  refine z_goto C 181 (by decide) dX3_next_177 ?_
  obtain rfl := Option.some.inj h
  exact R z_n1 181 _ dX3_next_181

set_option maxHeartbeats 4000000 in
set_option maxRecDepth 100000 in
theorem L_X3_next_139 {E : zEnv} {Γ : zG} (a : Nat → Nat) (C : zC E Γ cX3_next RX3 1 rm_X3_next wsX3_next) {res : (Int32 × St)} (R : zRi E Γ cX3_next 1 .boolean (wTape E a res.2) res.1) (S : St) (h : f_X3_next_139 S = some res) : Zt E Γ 1 0 0 (wTape E a S) [(0, .ref (a 0))] 139 [] := by
  unfold f_X3_next_139 at h
  refine z_aload_n C 0 rfl rfl dX3_next_139 ?_
  refine z_get C 0 rfl (C := RX3) (T := TX3) (N := 12) (ci := 3) rfl inw_X3_next_X3 5 (by decide) (ref := "EldestAge$Tape") (List.mem_of_getElem? (i := 1) rfl) rfl (v := .int (S 5 0)) rfl dX3_next_140 ?_
  refine z_aload_n C 0 rfl rfl dX3_next_143 ?_
  refine z_get C 0 rfl (C := RX3) (T := TX3) (N := 12) (ci := 3) rfl inw_X3_next_X3 7 (by decide) (ref := "EldestAge$Tape") (List.mem_of_getElem? (i := 4) rfl) rfl (v := .int (S 7 0)) rfl dX3_next_144 ?_
  refine z_icmp_le C 157 (by decide) h dX3_next_147 (fun hc h => ?_) (fun hc h => ?_)
  · refine z_aload_n C 0 rfl rfl dX3_next_157 ?_
    obtain ⟨q1, e1, h⟩ := bd_e h
    refine z_callVi C (b := a 0) (As := []) (rest := []) (c_X3_nextNumber E a S e1) rfl gX3_next_X3_nextNumber rfl rfl rfl 0 rfl (by decide +kernel) ⟨Nat.le_of_ble_eq_true rfl, Nat.le_of_ble_eq_true rfl⟩ [0, 1] (wl_X3_next_0 E a S) (by decide) (wl_X3_next_1 E a _ _) (wTape E a q1.2) (wl_X3_next_2 E a S q1.2) 0 3 rfl rfl rfl (Nat.le_of_ble_eq_true rfl) dX3_next_158 ⟨Nat.zero_le _, Nat.zero_le _⟩ _ rfl ?_
    refine z_if_ne C 176 (by decide) h dX3_next_161 (fun hc h => ?_) (fun hc h => ?_)
    · refine z_aload_n C 0 rfl rfl dX3_next_164 ?_
      refine z_iconst C (v := (1 : Int32)) (by decide) dX3_next_165 ?_
      refine z_aload_n C 0 rfl rfl dX3_next_166 ?_
      refine z_get C 0 rfl (C := RX3) (T := TX3) (N := 12) (ci := 3) rfl inw_X3_next_X3 7 (by decide) (ref := "EldestAge$Tape") (List.mem_of_getElem? (i := 4) rfl) rfl (v := .int (q1.2 7 0)) rfl dX3_next_167 ?_
      obtain ⟨q2, e2, h⟩ := bd_e h
      refine z_callVi C (b := a 0) (As := [.int (1 : Int32), .int (q1.2 7 0)]) (rest := []) (c_X3_fail E a (1 : Int32) (q1.2 7 0) q1.2 e2) rfl gX3_next_X3_fail rfl rfl rfl 2 rfl (by decide +kernel) ⟨Nat.le_of_ble_eq_true rfl, Nat.le_of_ble_eq_true rfl⟩ [0, 1] (wl_X3_next_0 E a q1.2) (by decide) (wl_X3_next_1 E a _ _) (wTape E a q2.2) (wl_X3_next_2 E a q1.2 q2.2) 0 3 rfl rfl rfl (Nat.le_of_ble_eq_true rfl) dX3_next_170 ⟨Nat.zero_le _, Nat.zero_le _⟩ _ rfl ?_
      refine z_if_eq C 180 (by decide) h dX3_next_173 (fun hc h => ?_) (fun hc h => ?_)
      · refine z_iconst C (v := (0 : Int32)) (by decide) dX3_next_180 ?_
        obtain rfl := Option.some.inj h
        exact R z_n0 181 _ dX3_next_181
      · refine Zt_l [] [] rfl ?_
        exact L_X3_next_176 a C R q2.2 h
    · refine Zt_l [] [] rfl ?_
      exact L_X3_next_176 a C R q1.2 h
  · refine z_aload_n C 0 rfl rfl dX3_next_150 ?_
    refine z_iconst C (v := (1 : Int32)) (by decide) dX3_next_151 ?_
    refine z_put C 0 rfl (C := RX3) (T := TX3) (N := 12) (ci := 3) rfl inw_X3_next_X3 tyX3 tyX3_ok nmX3 6 (by decide) (ref := "EldestAge$Tape") (List.mem_of_getElem? (i := 6) rfl) rfl rfl (ty := .int) (v := .int (1 : Int32)) (by decide +kernel) rfl rfl (Nat.le_of_ble_eq_true rfl) (wTape E a (st 6 (fun _ => (1 : Int32)) S)) (wl_X3_next_3 E a S (1 : Int32)) dX3_next_152 ?_
    refine z_iconst C (v := (1 : Int32)) (by decide) dX3_next_155 ?_
    obtain rfl := Option.some.inj h
    exact R z_n1 156 _ dX3_next_156

set_option maxHeartbeats 4000000 in
set_option maxRecDepth 100000 in
theorem L_X3_next_100 {E : zEnv} {Γ : zG} (a : Nat → Nat) (C : zC E Γ cX3_next RX3 1 rm_X3_next wsX3_next) {res : (Int32 × St)} (R : zRi E Γ cX3_next 1 .boolean (wTape E a res.2) res.1) : ∀ (n : Nat) (S : St), f_X3_next_100 n S = some res → Zt E Γ 1 0 0 (wTape E a S) [(0, .ref (a 0))] 100 [] := by
  intro n
  induction n with
  | zero =>
    intro S h
    cases h
  | succ n ih =>
    intro S h
    rw [f_X3_next_100_s] at h
    refine z_aload_n C 0 rfl rfl dX3_next_100 ?_
    refine z_get C 0 rfl (C := RX3) (T := TX3) (N := 12) (ci := 3) rfl inw_X3_next_X3 5 (by decide) (ref := "EldestAge$Tape") (List.mem_of_getElem? (i := 1) rfl) rfl (v := .int (S 5 0)) rfl dX3_next_101 ?_
    refine z_aload_n C 0 rfl rfl dX3_next_104 ?_
    refine z_get C 0 rfl (C := RX3) (T := TX3) (N := 12) (ci := 3) rfl inw_X3_next_X3 1 (by decide) (ref := "EldestAge$Tape") (List.mem_of_getElem? (i := 2) rfl) rfl (v := .int (S 1 0)) rfl dX3_next_105 ?_
    refine z_icmp_ge C 139 (by decide) h dX3_next_108 (fun hc h => ?_) (fun hc h => ?_)
    · exact L_X3_next_139 a C R S h
    · refine z_aload_n C 0 rfl rfl dX3_next_111 ?_
      refine z_get C 0 rfl (C := RX3) (T := TX3) (N := 12) (ci := 3) rfl inw_X3_next_X3 0 (by decide) (ref := "EldestAge$Tape") (List.mem_of_getElem? (i := 3) rfl) rfl (v := .ref (a 1)) rfl dX3_next_112 ?_
      refine z_aload_n C 0 rfl rfl dX3_next_115 ?_
      refine z_get C 0 rfl (C := RX3) (T := TX3) (N := 12) (ci := 3) rfl inw_X3_next_X3 5 (by decide) (ref := "EldestAge$Tape") (List.mem_of_getElem? (i := 1) rfl) rfl (v := .int (S 5 0)) rfl dX3_next_116 ?_
      refine z_iald C (N := 400) (f := (S 0)) 1 rfl h dX3_next_119 (fun h => ?_)
      obtain ⟨q3, e3, h⟩ := bd_e h
      refine z_callSi C (rest := []) (c_X3_isLetter E (S 0 (Int32.toNatClampNeg (S 5 0))) e3) gX3_next_X3_isLetter rfl rfl rfl 1 rfl (by decide +kernel) ⟨Nat.le_of_ble_eq_true rfl, Nat.le_of_ble_eq_true rfl⟩ [] rfl (by decide) rfl (wTape E a S) rfl (Nat.le_of_ble_eq_true rfl) dX3_next_120 ⟨Nat.zero_le _, Nat.zero_le _⟩ _ rfl ?_
      refine z_if_eq C 139 (by decide) h dX3_next_123 (fun hc h => ?_) (fun hc h => ?_)
      · exact L_X3_next_139 a C R S h
      · refine z_aload_n C 0 rfl rfl dX3_next_126 ?_
        refine z_dup C rfl dX3_next_127 ?_
        refine z_get C 0 rfl (C := RX3) (T := TX3) (N := 12) (ci := 3) rfl inw_X3_next_X3 5 (by decide) (ref := "EldestAge$Tape") (List.mem_of_getElem? (i := 1) rfl) rfl (v := .int (S 5 0)) rfl dX3_next_128 ?_
        refine z_iconst C (v := (1 : Int32)) (by decide) dX3_next_131 ?_
        refine z_iadd C dX3_next_132 ?_
        refine z_put C 0 rfl (C := RX3) (T := TX3) (N := 12) (ci := 3) rfl inw_X3_next_X3 tyX3 tyX3_ok nmX3 5 (by decide) (ref := "EldestAge$Tape") (List.mem_of_getElem? (i := 1) rfl) rfl rfl (ty := .int) (v := .int ((S 5 0) + (1 : Int32))) (by decide +kernel) rfl rfl (Nat.le_of_ble_eq_true rfl) (wTape E a (st 5 (fun _ => ((S 5 0) + (1 : Int32))) S)) (wl_X3_next_4 E a S ((S 5 0) + (1 : Int32))) dX3_next_133 ?_
        refine z_goto C 100 (by decide) dX3_next_136 ?_
        exact ih (st 5 (fun _ => ((S 5 0) + (1 : Int32))) S) h

set_option maxHeartbeats 4000000 in
set_option maxRecDepth 100000 in
theorem L_X3_next_38 {E : zEnv} {Γ : zG} (a : Nat → Nat) (C : zC E Γ cX3_next RX3 1 rm_X3_next wsX3_next) {res : (Int32 × St)} (R : zRi E Γ cX3_next 1 .boolean (wTape E a res.2) res.1) (S : St) (h : f_X3_next_38 S = some res) : Zt E Γ 1 0 0 (wTape E a S) [(0, .ref (a 0))] 38 [] := by
  unfold f_X3_next_38 at h
  refine z_aload_n C 0 rfl rfl dX3_next_38 ?_
  refine z_aload_n C 0 rfl rfl dX3_next_39 ?_
  refine z_get C 0 rfl (C := RX3) (T := TX3) (N := 12) (ci := 3) rfl inw_X3_next_X3 5 (by decide) (ref := "EldestAge$Tape") (List.mem_of_getElem? (i := 1) rfl) rfl (v := .int (S 5 0)) rfl dX3_next_40 ?_
  refine z_put C 0 rfl (C := RX3) (T := TX3) (N := 12) (ci := 3) rfl inw_X3_next_X3 tyX3 tyX3_ok nmX3 7 (by decide) (ref := "EldestAge$Tape") (List.mem_of_getElem? (i := 4) rfl) rfl rfl (ty := .int) (v := .int (S 5 0)) (by decide +kernel) rfl rfl (Nat.le_of_ble_eq_true rfl) (wTape E a (st 7 (fun _ => (S 5 0)) S)) (wl_X3_next_5 E a S (S 5 0)) dX3_next_43 ?_
  refine z_aload_n C 0 rfl rfl dX3_next_46 ?_
  refine z_iconst C (v := (0 : Int32)) (by decide) dX3_next_47 ?_
  refine z_put C 0 rfl (C := RX3) (T := TX3) (N := 12) (ci := 3) rfl inw_X3_next_X3 tyX3 tyX3_ok nmX3 8 (by decide) (ref := "EldestAge$Tape") (List.mem_of_getElem? (i := 5) rfl) rfl rfl (ty := .int) (v := .int (0 : Int32)) (by decide +kernel) rfl rfl (Nat.le_of_ble_eq_true rfl) (wTape E a (st 8 (fun _ => (0 : Int32)) (st 7 (fun _ => (S 5 0)) S))) (wl_X3_next_6 E a (st 7 (fun _ => (S 5 0)) S) (0 : Int32)) dX3_next_48 ?_
  refine z_aload_n C 0 rfl rfl dX3_next_51 ?_
  refine z_get C 0 rfl (C := RX3) (T := TX3) (N := 12) (ci := 3) rfl inw_X3_next_X3 5 (by decide) (ref := "EldestAge$Tape") (List.mem_of_getElem? (i := 1) rfl) rfl (v := .int (S 5 0)) rfl dX3_next_52 ?_
  refine z_aload_n C 0 rfl rfl dX3_next_55 ?_
  refine z_get C 0 rfl (C := RX3) (T := TX3) (N := 12) (ci := 3) rfl inw_X3_next_X3 1 (by decide) (ref := "EldestAge$Tape") (List.mem_of_getElem? (i := 2) rfl) rfl (v := .int (S 1 0)) rfl dX3_next_56 ?_
  refine z_icmp_lt C 69 (by decide) h dX3_next_59 (fun hc h => ?_) (fun hc h => ?_)
  · refine z_aload_n C 0 rfl rfl dX3_next_69 ?_
    refine z_get C 0 rfl (C := RX3) (T := TX3) (N := 12) (ci := 3) rfl inw_X3_next_X3 0 (by decide) (ref := "EldestAge$Tape") (List.mem_of_getElem? (i := 3) rfl) rfl (v := .ref (a 1)) rfl dX3_next_70 ?_
    refine z_aload_n C 0 rfl rfl dX3_next_73 ?_
    refine z_get C 0 rfl (C := RX3) (T := TX3) (N := 12) (ci := 3) rfl inw_X3_next_X3 5 (by decide) (ref := "EldestAge$Tape") (List.mem_of_getElem? (i := 1) rfl) rfl (v := .int (S 5 0)) rfl dX3_next_74 ?_
    refine z_iald C (N := 400) (f := (S 0)) 1 rfl h dX3_next_77 (fun h => ?_)
    refine z_bipush C (v := (59 : Int32)) (by decide) dX3_next_78 ?_
    refine z_icmp_ne C 100 (by decide) h dX3_next_80 (fun hc h => ?_) (fun hc h => ?_)
    · refine z_aload_n C 0 rfl rfl dX3_next_83 ?_
      refine z_iconst C (v := (3 : Int32)) (by decide) dX3_next_84 ?_
      refine z_put C 0 rfl (C := RX3) (T := TX3) (N := 12) (ci := 3) rfl inw_X3_next_X3 tyX3 tyX3_ok nmX3 6 (by decide) (ref := "EldestAge$Tape") (List.mem_of_getElem? (i := 6) rfl) rfl rfl (ty := .int) (v := .int (3 : Int32)) (by decide +kernel) rfl rfl (Nat.le_of_ble_eq_true rfl) (wTape E a (st 6 (fun _ => (3 : Int32)) (st 8 (fun _ => (0 : Int32)) (st 7 (fun _ => (S 5 0)) S)))) (wl_X3_next_3 E a (st 8 (fun _ => (0 : Int32)) (st 7 (fun _ => (S 5 0)) S)) (3 : Int32)) dX3_next_85 ?_
      refine z_aload_n C 0 rfl rfl dX3_next_88 ?_
      refine z_dup C rfl dX3_next_89 ?_
      refine z_get C 0 rfl (C := RX3) (T := TX3) (N := 12) (ci := 3) rfl inw_X3_next_X3 5 (by decide) (ref := "EldestAge$Tape") (List.mem_of_getElem? (i := 1) rfl) rfl (v := .int (S 5 0)) rfl dX3_next_90 ?_
      refine z_iconst C (v := (1 : Int32)) (by decide) dX3_next_93 ?_
      refine z_iadd C dX3_next_94 ?_
      refine z_put C 0 rfl (C := RX3) (T := TX3) (N := 12) (ci := 3) rfl inw_X3_next_X3 tyX3 tyX3_ok nmX3 5 (by decide) (ref := "EldestAge$Tape") (List.mem_of_getElem? (i := 1) rfl) rfl rfl (ty := .int) (v := .int ((S 5 0) + (1 : Int32))) (by decide +kernel) rfl rfl (Nat.le_of_ble_eq_true rfl) (wTape E a (st 5 (fun _ => ((S 5 0) + (1 : Int32))) (st 6 (fun _ => (3 : Int32)) (st 8 (fun _ => (0 : Int32)) (st 7 (fun _ => (S 5 0)) S))))) (wl_X3_next_4 E a (st 6 (fun _ => (3 : Int32)) (st 8 (fun _ => (0 : Int32)) (st 7 (fun _ => (S 5 0)) S))) ((S 5 0) + (1 : Int32))) dX3_next_95 ?_
      refine z_iconst C (v := (1 : Int32)) (by decide) dX3_next_98 ?_
      obtain rfl := Option.some.inj h
      exact R z_n1 99 _ dX3_next_99
    · exact L_X3_next_100 a C R 1000 (st 8 (fun _ => (0 : Int32)) (st 7 (fun _ => (S 5 0)) S)) h
  · refine z_aload_n C 0 rfl rfl dX3_next_62 ?_
    refine z_iconst C (v := (0 : Int32)) (by decide) dX3_next_63 ?_
    refine z_put C 0 rfl (C := RX3) (T := TX3) (N := 12) (ci := 3) rfl inw_X3_next_X3 tyX3 tyX3_ok nmX3 6 (by decide) (ref := "EldestAge$Tape") (List.mem_of_getElem? (i := 6) rfl) rfl rfl (ty := .int) (v := .int (0 : Int32)) (by decide +kernel) rfl rfl (Nat.le_of_ble_eq_true rfl) (wTape E a (st 6 (fun _ => (0 : Int32)) (st 8 (fun _ => (0 : Int32)) (st 7 (fun _ => (S 5 0)) S)))) (wl_X3_next_3 E a (st 8 (fun _ => (0 : Int32)) (st 7 (fun _ => (S 5 0)) S)) (0 : Int32)) dX3_next_64 ?_
    refine z_iconst C (v := (1 : Int32)) (by decide) dX3_next_67 ?_
    obtain rfl := Option.some.inj h
    exact R z_n1 68 _ dX3_next_68

set_option maxHeartbeats 4000000 in
set_option maxRecDepth 100000 in
theorem L_X3_next_0 {E : zEnv} {Γ : zG} (a : Nat → Nat) (C : zC E Γ cX3_next RX3 1 rm_X3_next wsX3_next) {res : (Int32 × St)} (R : zRi E Γ cX3_next 1 .boolean (wTape E a res.2) res.1) : ∀ (n : Nat) (S : St), f_X3_next_0 n S = some res → Zt E Γ 1 0 0 (wTape E a S) [(0, .ref (a 0))] 0 [] := by
  intro n
  induction n with
  | zero =>
    intro S h
    cases h
  | succ n ih =>
    intro S h
    rw [f_X3_next_0_s] at h
    refine z_aload_n C 0 rfl rfl dX3_next_0 ?_
    refine z_get C 0 rfl (C := RX3) (T := TX3) (N := 12) (ci := 3) rfl inw_X3_next_X3 5 (by decide) (ref := "EldestAge$Tape") (List.mem_of_getElem? (i := 1) rfl) rfl (v := .int (S 5 0)) rfl dX3_next_1 ?_
    refine z_aload_n C 0 rfl rfl dX3_next_4 ?_
    refine z_get C 0 rfl (C := RX3) (T := TX3) (N := 12) (ci := 3) rfl inw_X3_next_X3 1 (by decide) (ref := "EldestAge$Tape") (List.mem_of_getElem? (i := 2) rfl) rfl (v := .int (S 1 0)) rfl dX3_next_5 ?_
    refine z_icmp_ge C 38 (by decide) h dX3_next_8 (fun hc h => ?_) (fun hc h => ?_)
    · exact L_X3_next_38 a C R S h
    · refine z_aload_n C 0 rfl rfl dX3_next_11 ?_
      refine z_get C 0 rfl (C := RX3) (T := TX3) (N := 12) (ci := 3) rfl inw_X3_next_X3 0 (by decide) (ref := "EldestAge$Tape") (List.mem_of_getElem? (i := 3) rfl) rfl (v := .ref (a 1)) rfl dX3_next_12 ?_
      refine z_aload_n C 0 rfl rfl dX3_next_15 ?_
      refine z_get C 0 rfl (C := RX3) (T := TX3) (N := 12) (ci := 3) rfl inw_X3_next_X3 5 (by decide) (ref := "EldestAge$Tape") (List.mem_of_getElem? (i := 1) rfl) rfl (v := .int (S 5 0)) rfl dX3_next_16 ?_
      refine z_iald C (N := 400) (f := (S 0)) 1 rfl h dX3_next_19 (fun h => ?_)
      refine z_bipush C (v := (32 : Int32)) (by decide) dX3_next_20 ?_
      refine z_icmp_ne C 38 (by decide) h dX3_next_22 (fun hc h => ?_) (fun hc h => ?_)
      · refine z_aload_n C 0 rfl rfl dX3_next_25 ?_
        refine z_dup C rfl dX3_next_26 ?_
        refine z_get C 0 rfl (C := RX3) (T := TX3) (N := 12) (ci := 3) rfl inw_X3_next_X3 5 (by decide) (ref := "EldestAge$Tape") (List.mem_of_getElem? (i := 1) rfl) rfl (v := .int (S 5 0)) rfl dX3_next_27 ?_
        refine z_iconst C (v := (1 : Int32)) (by decide) dX3_next_30 ?_
        refine z_iadd C dX3_next_31 ?_
        refine z_put C 0 rfl (C := RX3) (T := TX3) (N := 12) (ci := 3) rfl inw_X3_next_X3 tyX3 tyX3_ok nmX3 5 (by decide) (ref := "EldestAge$Tape") (List.mem_of_getElem? (i := 1) rfl) rfl rfl (ty := .int) (v := .int ((S 5 0) + (1 : Int32))) (by decide +kernel) rfl rfl (Nat.le_of_ble_eq_true rfl) (wTape E a (st 5 (fun _ => ((S 5 0) + (1 : Int32))) S)) (wl_X3_next_4 E a S ((S 5 0) + (1 : Int32))) dX3_next_32 ?_
        refine z_goto C 0 (by decide) dX3_next_35 ?_
        exact ih (st 5 (fun _ => ((S 5 0) + (1 : Int32))) S) h
      · exact L_X3_next_38 a C R S h

noncomputable def f_X3_next (S : St) : Option (Int32 × St) := f_X3_next_0 1000 S
theorem L_X3_next {E : zEnv} {Γ : zG} (a : Nat → Nat) (C : zC E Γ cX3_next RX3 1 rm_X3_next wsX3_next) {res : (Int32 × St)} (R : zRi E Γ cX3_next 1 .boolean (wTape E a res.2) res.1) (S : St) (h : f_X3_next S = some res) : Zt E Γ 1 0 0 (wTape E a S) [(0, .ref (a 0))] 0 [] := by
  unfold f_X3_next at h
  refine Zt_l [(0, .ref (a 0))] [0] rfl ?_
  exact L_X3_next_0 a C R 1000 S h
theorem c_X3_next (E : zEnv) (a : Nat → Nat) (S : St) {res : (Int32 × St)} (h : f_X3_next S = some res) : Kti E yX3_next wsX3_next rm_X3_next (wTape E a S) (wTape E a res.2) [.ref (a 0)] res.1 :=
  z_enti (cc := cX3_next) (maxL := 1) (rt := .boolean) (by decide +kernel) rfl (Nat.le_of_ble_eq_true rfl) (fun Γ C R => L_X3_next a C R S h)

abbrev rm_X3_isName : Room := { frames := 4, cells := 0, slots := 0, locals := 85 }
theorem inw_X3_isName_X3 : ∀ w ∈ wsX30, w ∈ wsX3_isName := fun _ h => List.mem_cons_of_mem _ (List.mem_append_right _ h)
noncomputable def f_X3_isName_28 (n : Nat) : Nat → Int32 → St → Option Int32 := Nat.rec (motive := fun _ => Nat → Int32 → St → Option Int32) (fun _ _ _ => none) (fun _ ih => fun si x2 S => (sx si (if (zlen si) ≤ x2 then (some (1 : Int32)) else (ix ((S 7 0) + x2) 400 (sx si (ix x2 (zLen.getD si 0) (if (S 0 (Int32.toNatClampNeg ((S 7 0) + x2))) = (zch si x2) then (ih si (x2 + (1 : Int32)) S) else (some (0 : Int32))))))))) n
theorem f_X3_isName_28_s (n : Nat) (si : Nat) (x2 : Int32) (S : St) : f_X3_isName_28 (n + 1) si x2 S = (sx si (if (zlen si) ≤ x2 then (some (1 : Int32)) else (ix ((S 7 0) + x2) 400 (sx si (ix x2 (zLen.getD si 0) (if (S 0 (Int32.toNatClampNeg ((S 7 0) + x2))) = (zch si x2) then ((f_X3_isName_28 n) si (x2 + (1 : Int32)) S) else (some (0 : Int32)))))))) := rfl
noncomputable def f_X3_isName (si : Nat) (S : St) : Option Int32 := (if (S 6 0) = (1 : Int32) then (sx si (if ((S 5 0) - (S 7 0)) = (zlen si) then (f_X3_isName_28 1000 si (0 : Int32) S) else (some (0 : Int32)))) else (some (0 : Int32)))
set_option maxHeartbeats 4000000 in
set_option maxRecDepth 100000 in
theorem L_X3_isName_28 {E : zEnv} {Γ : zG} (a : Nat → Nat) (C : zC E Γ cX3_isName RX3 3 rm_X3_isName wsX3_isName) {res : Int32} {S : St} (R : zRi E Γ cX3_isName 3 .boolean (wTape E a S) res) : ∀ (n : Nat) (si : Nat) (x2 : Int32), f_X3_isName_28 n si x2 S = some res → Zt E Γ 3 0 0 (wTape E a S) [(0, .ref (a 0)), (1, .ref (E.2.2.2.1 si)), (2, .int x2)] 28 [] := by
  intro n
  induction n with
  | zero =>
    intro si x2 h
    cases h
  | succ n ih =>
    intro si x2 h
    rw [f_X3_isName_28_s] at h
    refine z_iload_n C 2 rfl rfl dX3_isName_28 ?_
    refine z_aload_n C 1 rfl rfl dX3_isName_29 ?_
    refine z_callVsi C (rest := [.int x2]) (As := []) (sx_e h).1 (c_J0_length_8abf5 E (sx_e h).1) gX3_isName_J0_length_8abf5 rfl rfl rfl 0 rfl (by decide +kernel) ⟨Nat.le_of_ble_eq_true rfl, Nat.le_of_ble_eq_true rfl⟩ (Nat.le_of_ble_eq_true rfl) dX3_isName_30 ⟨Nat.zero_le _, Nat.zero_le _⟩ _ rfl ?_
    replace h := (sx_e h).2
    refine z_icmp_ge C 63 (by decide) h dX3_isName_33 (fun hc h => ?_) (fun hc h => ?_)
    · refine z_iconst C (v := (1 : Int32)) (by decide) dX3_isName_63 ?_
      obtain rfl := Option.some.inj h
      exact R z_n1 64 _ dX3_isName_64
    · refine z_aload_n C 0 rfl rfl dX3_isName_36 ?_
      refine z_get C 0 rfl (C := RX3) (T := TX3) (N := 12) (ci := 3) rfl inw_X3_isName_X3 0 (by decide) (ref := "EldestAge$Tape") (List.mem_of_getElem? (i := 4) rfl) rfl (v := .ref (a 1)) rfl dX3_isName_37 ?_
      refine z_aload_n C 0 rfl rfl dX3_isName_40 ?_
      refine z_get C 0 rfl (C := RX3) (T := TX3) (N := 12) (ci := 3) rfl inw_X3_isName_X3 7 (by decide) (ref := "EldestAge$Tape") (List.mem_of_getElem? (i := 3) rfl) rfl (v := .int (S 7 0)) rfl dX3_isName_41 ?_
      refine z_iload_n C 2 rfl rfl dX3_isName_44 ?_
      refine z_iadd C dX3_isName_45 ?_
      refine z_iald C (N := 400) (f := (S 0)) 1 rfl h dX3_isName_46 (fun h => ?_)
      refine z_aload_n C 1 rfl rfl dX3_isName_47 ?_
      refine z_iload_n C 2 rfl rfl dX3_isName_48 ?_
      refine z_callVsi C (rest := [.int (S 0 (Int32.toNatClampNeg ((S 7 0) + x2)))]) (As := [.int x2]) (sx_e h).1 (c_J0_charAt_5068e E (sx_e h).1 (ix_e (sx_e h).2).1) gX3_isName_J0_charAt_5068e rfl rfl rfl 1 rfl (by decide +kernel) ⟨Nat.le_of_ble_eq_true rfl, Nat.le_of_ble_eq_true rfl⟩ (Nat.le_of_ble_eq_true rfl) dX3_isName_49 ⟨Nat.zero_le _, Nat.zero_le _⟩ _ rfl ?_
      replace h := (ix_e (sx_e h).2).2
      refine z_icmp_eq C 57 (by decide) h dX3_isName_52 (fun hc h => ?_) (fun hc h => ?_)
      · refine z_iinc C [(2, .int (x2 + (1 : Int32))), (0, .ref (a 0)), (1, .ref (E.2.2.2.1 si))] 2 rfl (by first | rfl | decide) (by decide) rfl dX3_isName_57 ?_
        refine z_goto C 28 (by decide) dX3_isName_60 ?_
        refine Zt_l [(0, .ref (a 0)), (1, .ref (E.2.2.2.1 si)), (2, .int (x2 + (1 : Int32)))] [1, 2, 0] rfl ?_
        exact ih si (x2 + (1 : Int32)) h
      · refine z_iconst C (v := (0 : Int32)) (by decide) dX3_isName_55 ?_
        obtain rfl := Option.some.inj h
        exact R z_n0 56 _ dX3_isName_56

set_option maxHeartbeats 4000000 in
set_option maxRecDepth 100000 in
theorem L_X3_isName {E : zEnv} {Γ : zG} (a : Nat → Nat) (C : zC E Γ cX3_isName RX3 3 rm_X3_isName wsX3_isName) {res : Int32} {S : St} (R : zRi E Γ cX3_isName 3 .boolean (wTape E a S) res) (si : Nat) (h : f_X3_isName si S = some res) : Zt E Γ 3 0 0 (wTape E a S) [(0, .ref (a 0)), (1, .ref (E.2.2.2.1 si))] 0 [] := by
  unfold f_X3_isName at h
  refine z_aload_n C 0 rfl rfl dX3_isName_0 ?_
  refine z_get C 0 rfl (C := RX3) (T := TX3) (N := 12) (ci := 3) rfl inw_X3_isName_X3 6 (by decide) (ref := "EldestAge$Tape") (List.mem_of_getElem? (i := 1) rfl) rfl (v := .int (S 6 0)) rfl dX3_isName_1 ?_
  refine z_iconst C (v := (1 : Int32)) (by decide) dX3_isName_4 ?_
  refine z_icmp_ne C 24 (by decide) h dX3_isName_5 (fun hc h => ?_) (fun hc h => ?_)
  · refine z_aload_n C 0 rfl rfl dX3_isName_8 ?_
    refine z_get C 0 rfl (C := RX3) (T := TX3) (N := 12) (ci := 3) rfl inw_X3_isName_X3 5 (by decide) (ref := "EldestAge$Tape") (List.mem_of_getElem? (i := 2) rfl) rfl (v := .int (S 5 0)) rfl dX3_isName_9 ?_
    refine z_aload_n C 0 rfl rfl dX3_isName_12 ?_
    refine z_get C 0 rfl (C := RX3) (T := TX3) (N := 12) (ci := 3) rfl inw_X3_isName_X3 7 (by decide) (ref := "EldestAge$Tape") (List.mem_of_getElem? (i := 3) rfl) rfl (v := .int (S 7 0)) rfl dX3_isName_13 ?_
    refine z_isub C dX3_isName_16 ?_
    refine z_aload_n C 1 rfl rfl dX3_isName_17 ?_
    refine z_callVsi C (rest := [.int ((S 5 0) - (S 7 0))]) (As := []) (sx_e h).1 (c_J0_length_8abf5 E (sx_e h).1) gX3_isName_J0_length_8abf5 rfl rfl rfl 0 rfl (by decide +kernel) ⟨Nat.le_of_ble_eq_true rfl, Nat.le_of_ble_eq_true rfl⟩ (Nat.le_of_ble_eq_true rfl) dX3_isName_18 ⟨Nat.zero_le _, Nat.zero_le _⟩ _ rfl ?_
    replace h := (sx_e h).2
    refine z_icmp_eq C 26 (by decide) h dX3_isName_21 (fun hc h => ?_) (fun hc h => ?_)
    · refine z_iconst C (v := (0 : Int32)) (by decide) dX3_isName_26 ?_
      refine z_istore_n C [(2, .int (0 : Int32)), (0, .ref (a 0)), (1, .ref (E.2.2.2.1 si))] rfl (by decide) rfl dX3_isName_27 ?_
      refine Zt_l [(0, .ref (a 0)), (1, .ref (E.2.2.2.1 si)), (2, .int (0 : Int32))] [1, 2, 0] rfl ?_
      exact L_X3_isName_28 a C R 1000 si (0 : Int32) h
    · refine z_iconst C (v := (0 : Int32)) (by decide) dX3_isName_24 ?_
      obtain rfl := Option.some.inj h
      exact R z_n0 25 _ dX3_isName_25
  · refine z_iconst C (v := (0 : Int32)) (by decide) dX3_isName_24 ?_
    obtain rfl := Option.some.inj h
    exact R z_n0 25 _ dX3_isName_25

theorem c_X3_isName (E : zEnv) (a : Nat → Nat) (si : Nat) (S : St) {res : Int32} (h : f_X3_isName si S = some res) : Kti E yX3_isName wsX3_isName rm_X3_isName (wTape E a S) (wTape E a S) [.ref (a 0), .ref (E.2.2.2.1 si)] res :=
  z_enti (cc := cX3_isName) (maxL := 3) (rt := .boolean) (by decide +kernel) rfl (Nat.le_of_ble_eq_true rfl) (fun Γ C R => L_X3_isName a C R si h)

abbrev rm_X3_figure : Room := { frames := 2, cells := 0, slots := 0, locals := 42 }
theorem inw_X3_figure_X3 : ∀ w ∈ wsX30, w ∈ wsX3_figure := fun _ h => List.mem_cons_of_mem _ (List.mem_append_right _ h)
set_option maxHeartbeats 4000000 in
theorem wl_X3_figure_0 (E : zEnv) (a : Nat → Nat) (S : St) : ([0, 1] : List Nat).map (fun i => (wTape E a S)[i]?) = (wTape E a S).map some := rfl
set_option maxHeartbeats 4000000 in
theorem wl_X3_figure_1 (E : zEnv) (a : Nat → Nat) (S U : St) : (wTape E a U).map (fun q => q.1) = (wTape E a S).map (fun q => q.1) := rfl
set_option maxHeartbeats 4000000 in
theorem wl_X3_figure_2 (E : zEnv) (a : Nat → Nat) (S U : St) : (wTape E a U) = zrep [0, 1] (wTape E a U) (wTape E a S) := zrep_of (isR := []) 2 rfl [] rfl rfl rfl rfl (by decide +kernel) (by decide +kernel)
noncomputable def f_X3_figure_55 (S : St) : Option (Int32 × St) := (some ((1 : Int32), S))
noncomputable def f_X3_figure_43 (S : St) : Option (Int32 × St) := ((f_X3_fail (3 : Int32) (S 7 0) S).bind (fun q1 => (if q1.1 = 0 then (some ((0 : Int32), q1.2)) else (f_X3_figure_55 q1.2))))
noncomputable def f_X3_figure (x1 : Int32) (x2 : Int32) (S : St) : Option (Int32 × St) := ((f_X3_next S).bind (fun q2 => (if q2.1 = 0 then (some ((0 : Int32), q2.2)) else (if (q2.2 6 0) = (2 : Int32) then (if (q2.2 8 0) < x1 then (f_X3_figure_43 q2.2) else (if (q2.2 8 0) ≤ x2 then (f_X3_figure_55 q2.2) else (f_X3_figure_43 q2.2))) else ((f_X3_fail (2 : Int32) (q2.2 7 0) q2.2).bind (fun q3 => (zb q3.1 (some (q3.1, q3.2)))))))))
set_option maxHeartbeats 4000000 in
set_option maxRecDepth 100000 in
theorem L_X3_figure_55 {E : zEnv} {Γ : zG} (a : Nat → Nat) (C : zC E Γ cX3_figure RX3 3 rm_X3_figure wsX3_figure) {res : (Int32 × St)} (R : zRi E Γ cX3_figure 3 .boolean (wTape E a res.2) res.1) (S : St) (h : f_X3_figure_55 S = some res) : Zt E Γ 3 0 0 (wTape E a S) [] 55 [] := by
  unfold f_X3_figure_55 at h
  refine z_iconst C (v := (1 : Int32)) (by decide) dX3_figure_55 ?_
  refine z_goto C 60 (by decide) dX3_figure_56 ?_
  obtain rfl := Option.some.inj h
  exact R z_n1 60 _ dX3_figure_60

set_option maxHeartbeats 4000000 in
set_option maxRecDepth 100000 in
theorem L_X3_figure_43 {E : zEnv} {Γ : zG} (a : Nat → Nat) (C : zC E Γ cX3_figure RX3 3 rm_X3_figure wsX3_figure) {res : (Int32 × St)} (R : zRi E Γ cX3_figure 3 .boolean (wTape E a res.2) res.1) (S : St) (h : f_X3_figure_43 S = some res) : Zt E Γ 3 0 0 (wTape E a S) [(0, .ref (a 0))] 43 [] := by
  unfold f_X3_figure_43 at h
  refine z_aload_n C 0 rfl rfl dX3_figure_43 ?_
  refine z_iconst C (v := (3 : Int32)) (by decide) dX3_figure_44 ?_
  refine z_aload_n C 0 rfl rfl dX3_figure_45 ?_
  refine z_get C 0 rfl (C := RX3) (T := TX3) (N := 12) (ci := 3) rfl inw_X3_figure_X3 7 (by decide) (ref := "EldestAge$Tape") (List.mem_of_getElem? (i := 2) rfl) rfl (v := .int (S 7 0)) rfl dX3_figure_46 ?_
  obtain ⟨q1, e1, h⟩ := bd_e h
  refine z_callVi C (b := a 0) (As := [.int (3 : Int32), .int (S 7 0)]) (rest := []) (c_X3_fail E a (3 : Int32) (S 7 0) S e1) rfl gX3_figure_X3_fail rfl rfl rfl 2 rfl (by decide +kernel) ⟨Nat.le_of_ble_eq_true rfl, Nat.le_of_ble_eq_true rfl⟩ [0, 1] (wl_X3_figure_0 E a S) (by decide) (wl_X3_figure_1 E a _ _) (wTape E a q1.2) (wl_X3_figure_2 E a S q1.2) 0 3 rfl rfl rfl (Nat.le_of_ble_eq_true rfl) dX3_figure_49 ⟨Nat.zero_le _, Nat.zero_le _⟩ _ rfl ?_
  refine z_if_eq C 59 (by decide) h dX3_figure_52 (fun hc h => ?_) (fun hc h => ?_)
  · refine z_iconst C (v := (0 : Int32)) (by decide) dX3_figure_59 ?_
    obtain rfl := Option.some.inj h
    exact R z_n0 60 _ dX3_figure_60
  · refine Zt_l [] [] rfl ?_
    exact L_X3_figure_55 a C R q1.2 h

set_option maxHeartbeats 4000000 in
set_option maxRecDepth 100000 in
theorem L_X3_figure {E : zEnv} {Γ : zG} (a : Nat → Nat) (C : zC E Γ cX3_figure RX3 3 rm_X3_figure wsX3_figure) {res : (Int32 × St)} (R : zRi E Γ cX3_figure 3 .boolean (wTape E a res.2) res.1) (x1 : Int32) (x2 : Int32) (S : St) (h : f_X3_figure x1 x2 S = some res) : Zt E Γ 3 0 0 (wTape E a S) [(0, .ref (a 0)), (1, .int x1), (2, .int x2)] 0 [] := by
  unfold f_X3_figure at h
  refine z_aload_n C 0 rfl rfl dX3_figure_0 ?_
  obtain ⟨q2, e2, h⟩ := bd_e h
  refine z_callVi C (b := a 0) (As := []) (rest := []) (c_X3_next E a S e2) rfl gX3_figure_X3_next rfl rfl rfl 0 rfl (by decide +kernel) ⟨Nat.le_of_ble_eq_true rfl, Nat.le_of_ble_eq_true rfl⟩ [0, 1] (wl_X3_figure_0 E a S) (by decide) (wl_X3_figure_1 E a _ _) (wTape E a q2.2) (wl_X3_figure_2 E a S q2.2) 0 3 rfl rfl rfl (Nat.le_of_ble_eq_true rfl) dX3_figure_1 ⟨Nat.zero_le _, Nat.zero_le _⟩ _ rfl ?_
  refine z_if_ne C 9 (by decide) h dX3_figure_4 (fun hc h => ?_) (fun hc h => ?_)
  · refine z_iconst C (v := (0 : Int32)) (by decide) dX3_figure_7 ?_
    obtain rfl := Option.some.inj h
    exact R z_n0 8 _ dX3_figure_8
  · refine z_aload_n C 0 rfl rfl dX3_figure_9 ?_
    refine z_get C 0 rfl (C := RX3) (T := TX3) (N := 12) (ci := 3) rfl inw_X3_figure_X3 6 (by decide) (ref := "EldestAge$Tape") (List.mem_of_getElem? (i := 1) rfl) rfl (v := .int (q2.2 6 0)) rfl dX3_figure_10 ?_
    refine z_iconst C (v := (2 : Int32)) (by decide) dX3_figure_13 ?_
    refine z_icmp_eq C 27 (by decide) h dX3_figure_14 (fun hc h => ?_) (fun hc h => ?_)
    · refine z_aload_n C 0 rfl rfl dX3_figure_27 ?_
      refine z_get C 0 rfl (C := RX3) (T := TX3) (N := 12) (ci := 3) rfl inw_X3_figure_X3 8 (by decide) (ref := "EldestAge$Tape") (List.mem_of_getElem? (i := 3) rfl) rfl (v := .int (q2.2 8 0)) rfl dX3_figure_28 ?_
      refine z_iload_n C 1 rfl rfl dX3_figure_31 ?_
      refine z_icmp_lt C 43 (by decide) h dX3_figure_32 (fun hc h => ?_) (fun hc h => ?_)
      · refine Zt_l [(0, .ref (a 0))] [0] rfl ?_
        exact L_X3_figure_43 a C R q2.2 h
      · refine z_aload_n C 0 rfl rfl dX3_figure_35 ?_
        refine z_get C 0 rfl (C := RX3) (T := TX3) (N := 12) (ci := 3) rfl inw_X3_figure_X3 8 (by decide) (ref := "EldestAge$Tape") (List.mem_of_getElem? (i := 3) rfl) rfl (v := .int (q2.2 8 0)) rfl dX3_figure_36 ?_
        refine z_iload_n C 2 rfl rfl dX3_figure_39 ?_
        refine z_icmp_le C 55 (by decide) h dX3_figure_40 (fun hc h => ?_) (fun hc h => ?_)
        · refine Zt_l [] [] rfl ?_
          exact L_X3_figure_55 a C R q2.2 h
        · refine Zt_l [(0, .ref (a 0))] [0] rfl ?_
          exact L_X3_figure_43 a C R q2.2 h
    · refine z_aload_n C 0 rfl rfl dX3_figure_17 ?_
      refine z_iconst C (v := (2 : Int32)) (by decide) dX3_figure_18 ?_
      refine z_aload_n C 0 rfl rfl dX3_figure_19 ?_
      refine z_get C 0 rfl (C := RX3) (T := TX3) (N := 12) (ci := 3) rfl inw_X3_figure_X3 7 (by decide) (ref := "EldestAge$Tape") (List.mem_of_getElem? (i := 2) rfl) rfl (v := .int (q2.2 7 0)) rfl dX3_figure_20 ?_
      obtain ⟨q3, e3, h⟩ := bd_e h
      refine z_callVi C (b := a 0) (As := [.int (2 : Int32), .int (q2.2 7 0)]) (rest := []) (c_X3_fail E a (2 : Int32) (q2.2 7 0) q2.2 e3) rfl gX3_figure_X3_fail rfl rfl rfl 2 rfl (by decide +kernel) ⟨Nat.le_of_ble_eq_true rfl, Nat.le_of_ble_eq_true rfl⟩ [0, 1] (wl_X3_figure_0 E a q2.2) (by decide) (wl_X3_figure_1 E a _ _) (wTape E a q3.2) (wl_X3_figure_2 E a q2.2 q3.2) 0 3 rfl rfl rfl (Nat.le_of_ble_eq_true rfl) dX3_figure_23 ⟨Nat.zero_le _, Nat.zero_le _⟩ _ rfl ?_
      have hz := zb_n (zb_e h).1
      replace h := (zb_e h).2
      obtain rfl := Option.some.inj h
      exact R hz 26 _ dX3_figure_26

theorem c_X3_figure (E : zEnv) (a : Nat → Nat) (x1 : Int32) (x2 : Int32) (S : St) {res : (Int32 × St)} (h : f_X3_figure x1 x2 S = some res) : Kti E yX3_figure wsX3_figure rm_X3_figure (wTape E a S) (wTape E a res.2) [.ref (a 0), .int x1, .int x2] res.1 :=
  z_enti (cc := cX3_figure) (maxL := 3) (rt := .boolean) (by decide +kernel) rfl (Nat.le_of_ble_eq_true rfl) (fun Γ C R => L_X3_figure a C R x1 x2 S h)

abbrev rm_X3_sign : Room := { frames := 2, cells := 0, slots := 0, locals := 42 }
theorem inw_X3_sign_X3 : ∀ w ∈ wsX30, w ∈ wsX3_sign := fun _ h => List.mem_cons_of_mem _ (List.mem_append_right _ h)
set_option maxHeartbeats 4000000 in
theorem wl_X3_sign_0 (E : zEnv) (a : Nat → Nat) (S : St) : ([0, 1] : List Nat).map (fun i => (wTape E a S)[i]?) = (wTape E a S).map some := rfl
set_option maxHeartbeats 4000000 in
theorem wl_X3_sign_1 (E : zEnv) (a : Nat → Nat) (S U : St) : (wTape E a U).map (fun q => q.1) = (wTape E a S).map (fun q => q.1) := rfl
set_option maxHeartbeats 4000000 in
theorem wl_X3_sign_2 (E : zEnv) (a : Nat → Nat) (S U : St) : (wTape E a U) = zrep [0, 1] (wTape E a U) (wTape E a S) := zrep_of (isR := []) 2 rfl [] rfl rfl rfl rfl (by decide +kernel) (by decide +kernel)
noncomputable def f_X3_sign_27 (S : St) : Option (Int32 × St) := (some ((1 : Int32), S))
noncomputable def f_X3_sign (S : St) : Option (Int32 × St) := ((f_X3_next S).bind (fun q1 => (if q1.1 = 0 then (some ((0 : Int32), q1.2)) else (if (q1.2 6 0) = (3 : Int32) then (f_X3_sign_27 q1.2) else ((f_X3_fail (2 : Int32) (q1.2 7 0) q1.2).bind (fun q2 => (if q2.1 = 0 then (some ((0 : Int32), q2.2)) else (f_X3_sign_27 q2.2))))))))
set_option maxHeartbeats 4000000 in
set_option maxRecDepth 100000 in
theorem L_X3_sign_27 {E : zEnv} {Γ : zG} (a : Nat → Nat) (C : zC E Γ cX3_sign RX3 1 rm_X3_sign wsX3_sign) {res : (Int32 × St)} (R : zRi E Γ cX3_sign 1 .boolean (wTape E a res.2) res.1) (S : St) (h : f_X3_sign_27 S = some res) : Zt E Γ 1 0 0 (wTape E a S) [] 27 [] := by
  unfold f_X3_sign_27 at h
  refine z_iconst C (v := (1 : Int32)) (by decide) dX3_sign_27 ?_
  refine z_goto C 32 (by decide) dX3_sign_28 ?_
  obtain rfl := Option.some.inj h
  exact R z_n1 32 _ dX3_sign_32

set_option maxHeartbeats 4000000 in
set_option maxRecDepth 100000 in
theorem L_X3_sign {E : zEnv} {Γ : zG} (a : Nat → Nat) (C : zC E Γ cX3_sign RX3 1 rm_X3_sign wsX3_sign) {res : (Int32 × St)} (R : zRi E Γ cX3_sign 1 .boolean (wTape E a res.2) res.1) (S : St) (h : f_X3_sign S = some res) : Zt E Γ 1 0 0 (wTape E a S) [(0, .ref (a 0))] 0 [] := by
  unfold f_X3_sign at h
  refine z_aload_n C 0 rfl rfl dX3_sign_0 ?_
  obtain ⟨q1, e1, h⟩ := bd_e h
  refine z_callVi C (b := a 0) (As := []) (rest := []) (c_X3_next E a S e1) rfl gX3_sign_X3_next rfl rfl rfl 0 rfl (by decide +kernel) ⟨Nat.le_of_ble_eq_true rfl, Nat.le_of_ble_eq_true rfl⟩ [0, 1] (wl_X3_sign_0 E a S) (by decide) (wl_X3_sign_1 E a _ _) (wTape E a q1.2) (wl_X3_sign_2 E a S q1.2) 0 3 rfl rfl rfl (Nat.le_of_ble_eq_true rfl) dX3_sign_1 ⟨Nat.zero_le _, Nat.zero_le _⟩ _ rfl ?_
  refine z_if_eq C 31 (by decide) h dX3_sign_4 (fun hc h => ?_) (fun hc h => ?_)
  · refine z_iconst C (v := (0 : Int32)) (by decide) dX3_sign_31 ?_
    obtain rfl := Option.some.inj h
    exact R z_n0 32 _ dX3_sign_32
  · refine z_aload_n C 0 rfl rfl dX3_sign_7 ?_
    refine z_get C 0 rfl (C := RX3) (T := TX3) (N := 12) (ci := 3) rfl inw_X3_sign_X3 6 (by decide) (ref := "EldestAge$Tape") (List.mem_of_getElem? (i := 1) rfl) rfl (v := .int (q1.2 6 0)) rfl dX3_sign_8 ?_
    refine z_iconst C (v := (3 : Int32)) (by decide) dX3_sign_11 ?_
    refine z_icmp_eq C 27 (by decide) h dX3_sign_12 (fun hc h => ?_) (fun hc h => ?_)
    · refine Zt_l [] [] rfl ?_
      exact L_X3_sign_27 a C R q1.2 h
    · refine z_aload_n C 0 rfl rfl dX3_sign_15 ?_
      refine z_iconst C (v := (2 : Int32)) (by decide) dX3_sign_16 ?_
      refine z_aload_n C 0 rfl rfl dX3_sign_17 ?_
      refine z_get C 0 rfl (C := RX3) (T := TX3) (N := 12) (ci := 3) rfl inw_X3_sign_X3 7 (by decide) (ref := "EldestAge$Tape") (List.mem_of_getElem? (i := 2) rfl) rfl (v := .int (q1.2 7 0)) rfl dX3_sign_18 ?_
      obtain ⟨q2, e2, h⟩ := bd_e h
      refine z_callVi C (b := a 0) (As := [.int (2 : Int32), .int (q1.2 7 0)]) (rest := []) (c_X3_fail E a (2 : Int32) (q1.2 7 0) q1.2 e2) rfl gX3_sign_X3_fail rfl rfl rfl 2 rfl (by decide +kernel) ⟨Nat.le_of_ble_eq_true rfl, Nat.le_of_ble_eq_true rfl⟩ [0, 1] (wl_X3_sign_0 E a q1.2) (by decide) (wl_X3_sign_1 E a _ _) (wTape E a q2.2) (wl_X3_sign_2 E a q1.2 q2.2) 0 3 rfl rfl rfl (Nat.le_of_ble_eq_true rfl) dX3_sign_21 ⟨Nat.zero_le _, Nat.zero_le _⟩ _ rfl ?_
      refine z_if_eq C 31 (by decide) h dX3_sign_24 (fun hc h => ?_) (fun hc h => ?_)
      · refine z_iconst C (v := (0 : Int32)) (by decide) dX3_sign_31 ?_
        obtain rfl := Option.some.inj h
        exact R z_n0 32 _ dX3_sign_32
      · refine Zt_l [] [] rfl ?_
        exact L_X3_sign_27 a C R q2.2 h

theorem c_X3_sign (E : zEnv) (a : Nat → Nat) (S : St) {res : (Int32 × St)} (h : f_X3_sign S = some res) : Kti E yX3_sign wsX3_sign rm_X3_sign (wTape E a S) (wTape E a res.2) [.ref (a 0)] res.1 :=
  z_enti (cc := cX3_sign) (maxL := 1) (rt := .boolean) (by decide +kernel) rfl (Nat.le_of_ble_eq_true rfl) (fun Γ C R => L_X3_sign a C R S h)

abbrev rm_X3_date : Room := { frames := 3, cells := 0, slots := 0, locals := 64 }
theorem inw_X3_date_X3 : ∀ w ∈ wsX30, w ∈ wsX3_date := fun _ h => List.mem_cons_of_mem _ (List.mem_append_right _ h)
set_option maxHeartbeats 4000000 in
theorem wl_X3_date_0 (E : zEnv) (a : Nat → Nat) (S : St) : ([0, 1] : List Nat).map (fun i => (wTape E a S)[i]?) = (wTape E a S).map some := rfl
set_option maxHeartbeats 4000000 in
theorem wl_X3_date_1 (E : zEnv) (a : Nat → Nat) (S U : St) : (wTape E a U).map (fun q => q.1) = (wTape E a S).map (fun q => q.1) := rfl
set_option maxHeartbeats 4000000 in
theorem wl_X3_date_2 (E : zEnv) (a : Nat → Nat) (S U : St) : (wTape E a U) = zrep [0, 1] (wTape E a U) (wTape E a S) := zrep_of (isR := []) 2 rfl [] rfl rfl rfl rfl (by decide +kernel) (by decide +kernel)
set_option maxHeartbeats 4000000 in
theorem wl_X3_date_3 (E : zEnv) (a : Nat → Nat) (S : St) (v : Int32) : (wTape E a (st 9 (fun _ => v) S)) = (wTape E a S).set 0 (a 0, .inr (3, List.set [.ref (a 1), .int (S 1 0), .int (S 2 0), .int (S 3 0), .int (S 4 0), .int (S 5 0), .int (S 6 0), .int (S 7 0), .int (S 8 0), .int (S 9 0), .int (S 10 0), .int (S 11 0)] 9 (.int v))) := rfl
noncomputable def f_X3_date (S : St) : Option (Int32 × St) := ((f_X3_figure (0 : Int32) (99 : Int32) S).bind (fun q1 => (if q1.1 = 0 then (some ((0 : Int32), q1.2)) else ((f_X3_figure (0 : Int32) (359 : Int32) q1.2).bind (fun q2 => (if q2.1 = 0 then (some ((0 : Int32), q2.2)) else (some ((1 : Int32), (st 9 (fun _ => (((q1.2 8 0) * (360 : Int32)) + (q2.2 8 0))) q2.2)))))))))
set_option maxHeartbeats 4000000 in
set_option maxRecDepth 100000 in
theorem L_X3_date {E : zEnv} {Γ : zG} (a : Nat → Nat) (C : zC E Γ cX3_date RX3 2 rm_X3_date wsX3_date) {res : (Int32 × St)} (R : zRi E Γ cX3_date 2 .boolean (wTape E a res.2) res.1) (S : St) (h : f_X3_date S = some res) : Zt E Γ 2 0 0 (wTape E a S) [(0, .ref (a 0))] 0 [] := by
  unfold f_X3_date at h
  refine z_aload_n C 0 rfl rfl dX3_date_0 ?_
  refine z_iconst C (v := (0 : Int32)) (by decide) dX3_date_1 ?_
  refine z_bipush C (v := (99 : Int32)) (by decide) dX3_date_2 ?_
  obtain ⟨q1, e1, h⟩ := bd_e h
  refine z_callVi C (b := a 0) (As := [.int (0 : Int32), .int (99 : Int32)]) (rest := []) (c_X3_figure E a (0 : Int32) (99 : Int32) S e1) rfl gX3_date_X3_figure rfl rfl rfl 2 rfl (by decide +kernel) ⟨Nat.le_of_ble_eq_true rfl, Nat.le_of_ble_eq_true rfl⟩ [0, 1] (wl_X3_date_0 E a S) (by decide) (wl_X3_date_1 E a _ _) (wTape E a q1.2) (wl_X3_date_2 E a S q1.2) 0 3 rfl rfl rfl (Nat.le_of_ble_eq_true rfl) dX3_date_4 ⟨Nat.zero_le _, Nat.zero_le _⟩ _ rfl ?_
  refine z_if_ne C 12 (by decide) h dX3_date_7 (fun hc h => ?_) (fun hc h => ?_)
  · refine z_iconst C (v := (0 : Int32)) (by decide) dX3_date_10 ?_
    obtain rfl := Option.some.inj h
    exact R z_n0 11 _ dX3_date_11
  · refine z_aload_n C 0 rfl rfl dX3_date_12 ?_
    refine z_get C 0 rfl (C := RX3) (T := TX3) (N := 12) (ci := 3) rfl inw_X3_date_X3 8 (by decide) (ref := "EldestAge$Tape") (List.mem_of_getElem? (i := 1) rfl) rfl (v := .int (q1.2 8 0)) rfl dX3_date_13 ?_
    refine z_istore_n C [(1, .int (q1.2 8 0)), (0, .ref (a 0))] rfl (by decide) rfl dX3_date_16 ?_
    refine z_aload_n C 1 rfl rfl dX3_date_17 ?_
    refine z_iconst C (v := (0 : Int32)) (by decide) dX3_date_18 ?_
    refine z_sipush C (v := (359 : Int32)) (by decide) dX3_date_19 ?_
    obtain ⟨q2, e2, h⟩ := bd_e h
    refine z_callVi C (b := a 0) (As := [.int (0 : Int32), .int (359 : Int32)]) (rest := []) (c_X3_figure E a (0 : Int32) (359 : Int32) q1.2 e2) rfl gX3_date_X3_figure rfl rfl rfl 2 rfl (by decide +kernel) ⟨Nat.le_of_ble_eq_true rfl, Nat.le_of_ble_eq_true rfl⟩ [0, 1] (wl_X3_date_0 E a q1.2) (by decide) (wl_X3_date_1 E a _ _) (wTape E a q2.2) (wl_X3_date_2 E a q1.2 q2.2) 0 3 rfl rfl rfl (Nat.le_of_ble_eq_true rfl) dX3_date_22 ⟨Nat.zero_le _, Nat.zero_le _⟩ _ rfl ?_
    refine z_if_ne C 30 (by decide) h dX3_date_25 (fun hc h => ?_) (fun hc h => ?_)
    · refine z_iconst C (v := (0 : Int32)) (by decide) dX3_date_28 ?_
      obtain rfl := Option.some.inj h
      exact R z_n0 29 _ dX3_date_29
    · refine z_aload_n C 1 rfl rfl dX3_date_30 ?_
      refine z_iload_n C 0 rfl rfl dX3_date_31 ?_
      refine z_sipush C (v := (360 : Int32)) (by decide) dX3_date_32 ?_
      refine z_imul C dX3_date_35 ?_
      refine z_aload_n C 1 rfl rfl dX3_date_36 ?_
      refine z_get C 0 rfl (C := RX3) (T := TX3) (N := 12) (ci := 3) rfl inw_X3_date_X3 8 (by decide) (ref := "EldestAge$Tape") (List.mem_of_getElem? (i := 1) rfl) rfl (v := .int (q2.2 8 0)) rfl dX3_date_37 ?_
      refine z_iadd C dX3_date_40 ?_
      refine z_put C 0 rfl (C := RX3) (T := TX3) (N := 12) (ci := 3) rfl inw_X3_date_X3 tyX3 tyX3_ok nmX3 9 (by decide) (ref := "EldestAge$Tape") (List.mem_of_getElem? (i := 2) rfl) rfl rfl (ty := .int) (v := .int (((q1.2 8 0) * (360 : Int32)) + (q2.2 8 0))) (by decide +kernel) rfl rfl (Nat.le_of_ble_eq_true rfl) (wTape E a (st 9 (fun _ => (((q1.2 8 0) * (360 : Int32)) + (q2.2 8 0))) q2.2)) (wl_X3_date_3 E a q2.2 (((q1.2 8 0) * (360 : Int32)) + (q2.2 8 0))) dX3_date_41 ?_
      refine z_iconst C (v := (1 : Int32)) (by decide) dX3_date_44 ?_
      obtain rfl := Option.some.inj h
      exact R z_n1 45 _ dX3_date_45

theorem c_X3_date (E : zEnv) (a : Nat → Nat) (S : St) {res : (Int32 × St)} (h : f_X3_date S = some res) : Kti E yX3_date wsX3_date rm_X3_date (wTape E a S) (wTape E a res.2) [.ref (a 0)] res.1 :=
  z_enti (cc := cX3_date) (maxL := 2) (rt := .boolean) (by decide +kernel) rfl (Nat.le_of_ble_eq_true rfl) (fun Γ C R => L_X3_date a C R S h)

abbrev rm_X3_lawNamed : Room := { frames := 5, cells := 0, slots := 0, locals := 107 }
theorem inw_X3_lawNamed_X3 : ∀ w ∈ wsX30, w ∈ wsX3_lawNamed := fun _ h => List.mem_cons_of_mem _ (List.mem_append_right _ h)
set_option maxHeartbeats 4000000 in
theorem wl_X3_lawNamed_0 (E : zEnv) (a : Nat → Nat) (S : St) : ([0, 1] : List Nat).map (fun i => (wTape E a S)[i]?) = (wTape E a S).map some := rfl
set_option maxHeartbeats 4000000 in
theorem wl_X3_lawNamed_1 (E : zEnv) (a : Nat → Nat) (S U : St) : (wTape E a U).map (fun q => q.1) = (wTape E a S).map (fun q => q.1) := rfl
noncomputable def f_X3_lawNamed (S : St) : Option Int32 := ((f_X3_isName 6 S).bind (fun q1 => (if q1 = 0 then ((f_X3_isName 7 S).bind (fun q2 => (if q2 = 0 then ((f_X3_isName 8 S).bind (fun q3 => (if q3 = 0 then ((f_X3_isName 9 S).bind (fun q4 => (if q4 = 0 then (some (-4 : Int32)) else (some (3 : Int32))))) else (some (2 : Int32))))) else (some (1 : Int32))))) else (some (0 : Int32)))))
set_option maxHeartbeats 4000000 in
set_option maxRecDepth 100000 in
theorem L_X3_lawNamed {E : zEnv} {Γ : zG} (a : Nat → Nat) (C : zC E Γ cX3_lawNamed RX3 1 rm_X3_lawNamed wsX3_lawNamed) {res : Int32} {S : St} (R : zRi E Γ cX3_lawNamed 1 .int (wTape E a S) res) (h : f_X3_lawNamed S = some res) : Zt E Γ 1 0 0 (wTape E a S) [(0, .ref (a 0))] 0 [] := by
  unfold f_X3_lawNamed at h
  refine z_aload_n C 0 rfl rfl dX3_lawNamed_0 ?_
  refine z_ldcS C 6 rfl dX3_lawNamed_1 ?_
  obtain ⟨q1, e1, h⟩ := bd_e h
  refine z_callVi C (b := a 0) (As := [.ref (E.2.2.2.1 6)]) (rest := []) (c_X3_isName E a 6 S e1) rfl gX3_lawNamed_X3_isName rfl rfl rfl 1 rfl (by decide +kernel) ⟨Nat.le_of_ble_eq_true rfl, Nat.le_of_ble_eq_true rfl⟩ [0, 1] (wl_X3_lawNamed_0 E a S) (by decide) rfl (wTape E a S) (zrep_self (wl_X3_lawNamed_0 E a S)) 0 3 rfl rfl rfl (Nat.le_of_ble_eq_true rfl) dX3_lawNamed_3 ⟨Nat.zero_le _, Nat.zero_le _⟩ _ rfl ?_
  refine z_if_eq C 11 (by decide) h dX3_lawNamed_6 (fun hc h => ?_) (fun hc h => ?_)
  · refine z_aload_n C 0 rfl rfl dX3_lawNamed_11 ?_
    refine z_ldcS C 7 rfl dX3_lawNamed_12 ?_
    obtain ⟨q2, e2, h⟩ := bd_e h
    refine z_callVi C (b := a 0) (As := [.ref (E.2.2.2.1 7)]) (rest := []) (c_X3_isName E a 7 S e2) rfl gX3_lawNamed_X3_isName rfl rfl rfl 1 rfl (by decide +kernel) ⟨Nat.le_of_ble_eq_true rfl, Nat.le_of_ble_eq_true rfl⟩ [0, 1] (wl_X3_lawNamed_0 E a S) (by decide) rfl (wTape E a S) (zrep_self (wl_X3_lawNamed_0 E a S)) 0 3 rfl rfl rfl (Nat.le_of_ble_eq_true rfl) dX3_lawNamed_14 ⟨Nat.zero_le _, Nat.zero_le _⟩ _ rfl ?_
    refine z_if_eq C 22 (by decide) h dX3_lawNamed_17 (fun hc h => ?_) (fun hc h => ?_)
    · refine z_aload_n C 0 rfl rfl dX3_lawNamed_22 ?_
      refine z_ldcS C 8 rfl dX3_lawNamed_23 ?_
      obtain ⟨q3, e3, h⟩ := bd_e h
      refine z_callVi C (b := a 0) (As := [.ref (E.2.2.2.1 8)]) (rest := []) (c_X3_isName E a 8 S e3) rfl gX3_lawNamed_X3_isName rfl rfl rfl 1 rfl (by decide +kernel) ⟨Nat.le_of_ble_eq_true rfl, Nat.le_of_ble_eq_true rfl⟩ [0, 1] (wl_X3_lawNamed_0 E a S) (by decide) rfl (wTape E a S) (zrep_self (wl_X3_lawNamed_0 E a S)) 0 3 rfl rfl rfl (Nat.le_of_ble_eq_true rfl) dX3_lawNamed_25 ⟨Nat.zero_le _, Nat.zero_le _⟩ _ rfl ?_
      refine z_if_eq C 33 (by decide) h dX3_lawNamed_28 (fun hc h => ?_) (fun hc h => ?_)
      · refine z_aload_n C 0 rfl rfl dX3_lawNamed_33 ?_
        refine z_ldcS C 9 rfl dX3_lawNamed_34 ?_
        obtain ⟨q4, e4, h⟩ := bd_e h
        refine z_callVi C (b := a 0) (As := [.ref (E.2.2.2.1 9)]) (rest := []) (c_X3_isName E a 9 S e4) rfl gX3_lawNamed_X3_isName rfl rfl rfl 1 rfl (by decide +kernel) ⟨Nat.le_of_ble_eq_true rfl, Nat.le_of_ble_eq_true rfl⟩ [0, 1] (wl_X3_lawNamed_0 E a S) (by decide) rfl (wTape E a S) (zrep_self (wl_X3_lawNamed_0 E a S)) 0 3 rfl rfl rfl (Nat.le_of_ble_eq_true rfl) dX3_lawNamed_36 ⟨Nat.zero_le _, Nat.zero_le _⟩ _ rfl ?_
        refine z_if_eq C 46 (by decide) h dX3_lawNamed_39 (fun hc h => ?_) (fun hc h => ?_)
        · refine z_bipush C (v := (-4 : Int32)) (by decide) dX3_lawNamed_46 ?_
          obtain rfl := Option.some.inj h
          exact R rfl 48 _ dX3_lawNamed_48
        · refine z_iconst C (v := (3 : Int32)) (by decide) dX3_lawNamed_42 ?_
          refine z_goto C 48 (by decide) dX3_lawNamed_43 ?_
          obtain rfl := Option.some.inj h
          exact R rfl 48 _ dX3_lawNamed_48
      · refine z_iconst C (v := (2 : Int32)) (by decide) dX3_lawNamed_31 ?_
        obtain rfl := Option.some.inj h
        exact R rfl 32 _ dX3_lawNamed_32
    · refine z_iconst C (v := (1 : Int32)) (by decide) dX3_lawNamed_20 ?_
      obtain rfl := Option.some.inj h
      exact R rfl 21 _ dX3_lawNamed_21
  · refine z_iconst C (v := (0 : Int32)) (by decide) dX3_lawNamed_9 ?_
    obtain rfl := Option.some.inj h
    exact R rfl 10 _ dX3_lawNamed_10

theorem c_X3_lawNamed (E : zEnv) (a : Nat → Nat) (S : St) {res : Int32} (h : f_X3_lawNamed S = some res) : Kti E yX3_lawNamed wsX3_lawNamed rm_X3_lawNamed (wTape E a S) (wTape E a S) [.ref (a 0)] res :=
  z_enti (cc := cX3_lawNamed) (maxL := 1) (rt := .int) (by decide +kernel) rfl (Nat.le_of_ble_eq_true rfl) (fun Γ C R => L_X3_lawNamed a C R h)

abbrev rm_X3_kindNamed : Room := { frames := 5, cells := 0, slots := 0, locals := 107 }
theorem inw_X3_kindNamed_X3 : ∀ w ∈ wsX30, w ∈ wsX3_kindNamed := fun _ h => List.mem_cons_of_mem _ (List.mem_append_right _ h)
set_option maxHeartbeats 4000000 in
theorem wl_X3_kindNamed_0 (E : zEnv) (a : Nat → Nat) (S : St) : ([0, 1] : List Nat).map (fun i => (wTape E a S)[i]?) = (wTape E a S).map some := rfl
set_option maxHeartbeats 4000000 in
theorem wl_X3_kindNamed_1 (E : zEnv) (a : Nat → Nat) (S U : St) : (wTape E a U).map (fun q => q.1) = (wTape E a S).map (fun q => q.1) := rfl
noncomputable def f_X3_kindNamed (S : St) : Option Int32 := ((f_X3_isName 10 S).bind (fun q1 => (if q1 = 0 then ((f_X3_isName 11 S).bind (fun q2 => (if q2 = 0 then ((f_X3_isName 12 S).bind (fun q3 => (if q3 = 0 then ((f_X3_isName 13 S).bind (fun q4 => (if q4 = 0 then ((f_X3_isName 14 S).bind (fun q5 => (if q5 = 0 then (some (-4 : Int32)) else (some (4 : Int32))))) else (some (3 : Int32))))) else (some (2 : Int32))))) else (some (1 : Int32))))) else (some (0 : Int32)))))
set_option maxHeartbeats 4000000 in
set_option maxRecDepth 100000 in
theorem L_X3_kindNamed {E : zEnv} {Γ : zG} (a : Nat → Nat) (C : zC E Γ cX3_kindNamed RX3 1 rm_X3_kindNamed wsX3_kindNamed) {res : Int32} {S : St} (R : zRi E Γ cX3_kindNamed 1 .int (wTape E a S) res) (h : f_X3_kindNamed S = some res) : Zt E Γ 1 0 0 (wTape E a S) [(0, .ref (a 0))] 0 [] := by
  unfold f_X3_kindNamed at h
  refine z_aload_n C 0 rfl rfl dX3_kindNamed_0 ?_
  refine z_ldcS C 10 rfl dX3_kindNamed_1 ?_
  obtain ⟨q1, e1, h⟩ := bd_e h
  refine z_callVi C (b := a 0) (As := [.ref (E.2.2.2.1 10)]) (rest := []) (c_X3_isName E a 10 S e1) rfl gX3_kindNamed_X3_isName rfl rfl rfl 1 rfl (by decide +kernel) ⟨Nat.le_of_ble_eq_true rfl, Nat.le_of_ble_eq_true rfl⟩ [0, 1] (wl_X3_kindNamed_0 E a S) (by decide) rfl (wTape E a S) (zrep_self (wl_X3_kindNamed_0 E a S)) 0 3 rfl rfl rfl (Nat.le_of_ble_eq_true rfl) dX3_kindNamed_3 ⟨Nat.zero_le _, Nat.zero_le _⟩ _ rfl ?_
  refine z_if_eq C 11 (by decide) h dX3_kindNamed_6 (fun hc h => ?_) (fun hc h => ?_)
  · refine z_aload_n C 0 rfl rfl dX3_kindNamed_11 ?_
    refine z_ldcS C 11 rfl dX3_kindNamed_12 ?_
    obtain ⟨q2, e2, h⟩ := bd_e h
    refine z_callVi C (b := a 0) (As := [.ref (E.2.2.2.1 11)]) (rest := []) (c_X3_isName E a 11 S e2) rfl gX3_kindNamed_X3_isName rfl rfl rfl 1 rfl (by decide +kernel) ⟨Nat.le_of_ble_eq_true rfl, Nat.le_of_ble_eq_true rfl⟩ [0, 1] (wl_X3_kindNamed_0 E a S) (by decide) rfl (wTape E a S) (zrep_self (wl_X3_kindNamed_0 E a S)) 0 3 rfl rfl rfl (Nat.le_of_ble_eq_true rfl) dX3_kindNamed_14 ⟨Nat.zero_le _, Nat.zero_le _⟩ _ rfl ?_
    refine z_if_eq C 22 (by decide) h dX3_kindNamed_17 (fun hc h => ?_) (fun hc h => ?_)
    · refine z_aload_n C 0 rfl rfl dX3_kindNamed_22 ?_
      refine z_ldcS C 12 rfl dX3_kindNamed_23 ?_
      obtain ⟨q3, e3, h⟩ := bd_e h
      refine z_callVi C (b := a 0) (As := [.ref (E.2.2.2.1 12)]) (rest := []) (c_X3_isName E a 12 S e3) rfl gX3_kindNamed_X3_isName rfl rfl rfl 1 rfl (by decide +kernel) ⟨Nat.le_of_ble_eq_true rfl, Nat.le_of_ble_eq_true rfl⟩ [0, 1] (wl_X3_kindNamed_0 E a S) (by decide) rfl (wTape E a S) (zrep_self (wl_X3_kindNamed_0 E a S)) 0 3 rfl rfl rfl (Nat.le_of_ble_eq_true rfl) dX3_kindNamed_25 ⟨Nat.zero_le _, Nat.zero_le _⟩ _ rfl ?_
      refine z_if_eq C 33 (by decide) h dX3_kindNamed_28 (fun hc h => ?_) (fun hc h => ?_)
      · refine z_aload_n C 0 rfl rfl dX3_kindNamed_33 ?_
        refine z_ldcS C 13 rfl dX3_kindNamed_34 ?_
        obtain ⟨q4, e4, h⟩ := bd_e h
        refine z_callVi C (b := a 0) (As := [.ref (E.2.2.2.1 13)]) (rest := []) (c_X3_isName E a 13 S e4) rfl gX3_kindNamed_X3_isName rfl rfl rfl 1 rfl (by decide +kernel) ⟨Nat.le_of_ble_eq_true rfl, Nat.le_of_ble_eq_true rfl⟩ [0, 1] (wl_X3_kindNamed_0 E a S) (by decide) rfl (wTape E a S) (zrep_self (wl_X3_kindNamed_0 E a S)) 0 3 rfl rfl rfl (Nat.le_of_ble_eq_true rfl) dX3_kindNamed_36 ⟨Nat.zero_le _, Nat.zero_le _⟩ _ rfl ?_
        refine z_if_eq C 44 (by decide) h dX3_kindNamed_39 (fun hc h => ?_) (fun hc h => ?_)
        · refine z_aload_n C 0 rfl rfl dX3_kindNamed_44 ?_
          refine z_ldcS C 14 rfl dX3_kindNamed_45 ?_
          obtain ⟨q5, e5, h⟩ := bd_e h
          refine z_callVi C (b := a 0) (As := [.ref (E.2.2.2.1 14)]) (rest := []) (c_X3_isName E a 14 S e5) rfl gX3_kindNamed_X3_isName rfl rfl rfl 1 rfl (by decide +kernel) ⟨Nat.le_of_ble_eq_true rfl, Nat.le_of_ble_eq_true rfl⟩ [0, 1] (wl_X3_kindNamed_0 E a S) (by decide) rfl (wTape E a S) (zrep_self (wl_X3_kindNamed_0 E a S)) 0 3 rfl rfl rfl (Nat.le_of_ble_eq_true rfl) dX3_kindNamed_47 ⟨Nat.zero_le _, Nat.zero_le _⟩ _ rfl ?_
          refine z_if_eq C 57 (by decide) h dX3_kindNamed_50 (fun hc h => ?_) (fun hc h => ?_)
          · refine z_bipush C (v := (-4 : Int32)) (by decide) dX3_kindNamed_57 ?_
            obtain rfl := Option.some.inj h
            exact R rfl 59 _ dX3_kindNamed_59
          · refine z_iconst C (v := (4 : Int32)) (by decide) dX3_kindNamed_53 ?_
            refine z_goto C 59 (by decide) dX3_kindNamed_54 ?_
            obtain rfl := Option.some.inj h
            exact R rfl 59 _ dX3_kindNamed_59
        · refine z_iconst C (v := (3 : Int32)) (by decide) dX3_kindNamed_42 ?_
          obtain rfl := Option.some.inj h
          exact R rfl 43 _ dX3_kindNamed_43
      · refine z_iconst C (v := (2 : Int32)) (by decide) dX3_kindNamed_31 ?_
        obtain rfl := Option.some.inj h
        exact R rfl 32 _ dX3_kindNamed_32
    · refine z_iconst C (v := (1 : Int32)) (by decide) dX3_kindNamed_20 ?_
      obtain rfl := Option.some.inj h
      exact R rfl 21 _ dX3_kindNamed_21
  · refine z_iconst C (v := (0 : Int32)) (by decide) dX3_kindNamed_9 ?_
    obtain rfl := Option.some.inj h
    exact R rfl 10 _ dX3_kindNamed_10

theorem c_X3_kindNamed (E : zEnv) (a : Nat → Nat) (S : St) {res : Int32} (h : f_X3_kindNamed S = some res) : Kti E yX3_kindNamed wsX3_kindNamed rm_X3_kindNamed (wTape E a S) (wTape E a S) [.ref (a 0)] res :=
  z_enti (cc := cX3_kindNamed) (maxL := 1) (rt := .int) (by decide +kernel) rfl (Nat.le_of_ble_eq_true rfl) (fun Γ C R => L_X3_kindNamed a C R h)
