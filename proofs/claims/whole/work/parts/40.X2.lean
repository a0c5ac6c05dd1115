abbrev rm_X2_clear : Room := { frames := 0, cells := 0, slots := 0, locals := 0 }
theorem inw_X2_clear_X2 : ∀ w ∈ wsX20, w ∈ wsX2_clear := fun _ h => List.mem_cons_of_mem _ (List.mem_append_right _ h)
set_option maxHeartbeats 4000000 in
theorem wl_X2_clear_0 (E : zEnv) (a : Nat → Nat) (S : St) (f : Nat → Int32) : (wTally E a (st 0 f S)) = (wTally E a S).set 1 (a 1, .inl (zI E, 8, .inl f)) := rfl
set_option maxHeartbeats 4000000 in
theorem wl_X2_clear_1 (E : zEnv) (a : Nat → Nat) (S : St) (f : Nat → Int32) : (wTally E a (st 1 f S)) = (wTally E a S).set 2 (a 2, .inl (zI E, 8, .inl f)) := rfl
noncomputable def f_X2_clear_2 (n : Nat) : Int32 → St → Option St := Nat.rec (motive := fun _ => Int32 → St → Option St) (fun _ _ => none) (fun _ ih => fun x1 S => (if (8 : Int32) ≤ x1 then (some S) else (ix x1 8 (ix x1 8 (ih (x1 + (1 : Int32)) (st 1 (upd (S 1) (Int32.toNatClampNeg x1) (0 : Int32)) (st 0 (upd (S 0) (Int32.toNatClampNeg x1) (0 : Int32)) S))))))) n
theorem f_X2_clear_2_s (n : Nat) (x1 : Int32) (S : St) : f_X2_clear_2 (n + 1) x1 S = (if (8 : Int32) ≤ x1 then (some S) else (ix x1 8 (ix x1 8 ((f_X2_clear_2 n) (x1 + (1 : Int32)) (st 1 (upd (S 1) (Int32.toNatClampNeg x1) (0 : Int32)) (st 0 (upd (S 0) (Int32.toNatClampNeg x1) (0 : Int32)) S)))))) := rfl
noncomputable def f_X2_clear (S : St) : Option St := (f_X2_clear_2 1000 (0 : Int32) S)
set_option maxHeartbeats 4000000 in
set_option maxRecDepth 100000 in
theorem L_X2_clear_2 {E : zEnv} {Γ : zG} (a : Nat → Nat) (C : zC E Γ cX2_clear RX2 2 rm_X2_clear wsX2_clear) {res : St} (R : zRv E Γ cX2_clear 2 (wTally E a res)) : ∀ (n : Nat) (x1 : Int32) (S : St), f_X2_clear_2 n x1 S = some res → Zt E Γ 2 0 0 (wTally E a S) [(0, .ref (a 0)), (1, .int x1)] 2 [] := by
  intro n
  induction n with
  | zero =>
    intro x1 S h
    cases h
  | succ n ih =>
    intro x1 S h
    rw [f_X2_clear_2_s] at h
    refine z_iload_n C 1 rfl rfl dX2_clear_2 ?_
    refine z_bipush C (v := (8 : Int32)) (by decide) dX2_clear_3 ?_
    refine z_icmp_ge C 28 (by decide) h dX2_clear_5 (fun hc h => ?_) (fun hc h => ?_)
    · obtain rfl := Option.some.inj h
      exact R 28 _ dX2_clear_28
    · refine z_aload_n C 0 rfl rfl dX2_clear_8 ?_
      refine z_get C 0 rfl (C := RX2) (T := TX2) (N := 4) (ci := 2) rfl inw_X2_clear_X2 0 (by decide) (ref := "EldestAge$Tally") (List.mem_of_getElem? (i := 1) rfl) rfl (v := .ref (a 1)) rfl dX2_clear_9 ?_
      refine z_iload_n C 1 rfl rfl dX2_clear_12 ?_
      refine z_iconst C (v := (0 : Int32)) (by decide) dX2_clear_13 ?_
      refine z_iast C (N := 8) (f := (S 0)) 1 rfl h (wTally E a (st 0 (upd (S 0) (Int32.toNatClampNeg x1) (0 : Int32)) S)) (wl_X2_clear_0 E a S (upd (S 0) (Int32.toNatClampNeg x1) (0 : Int32))) dX2_clear_14 (fun h => ?_)
      refine z_aload_n C 0 rfl rfl dX2_clear_15 ?_
      refine z_get C 0 rfl (C := RX2) (T := TX2) (N := 4) (ci := 2) rfl inw_X2_clear_X2 1 (by decide) (ref := "EldestAge$Tally") (List.mem_of_getElem? (i := 2) rfl) rfl (v := .ref (a 2)) rfl dX2_clear_16 ?_
      refine z_iload_n C 1 rfl rfl dX2_clear_19 ?_
      refine z_iconst C (v := (0 : Int32)) (by decide) dX2_clear_20 ?_
      refine z_iast C (N := 8) (f := (S 1)) 2 rfl h (wTally E a (st 1 (upd (S 1) (Int32.toNatClampNeg x1) (0 : Int32)) (st 0 (upd (S 0) (Int32.toNatClampNeg x1) (0 : Int32)) S))) (wl_X2_clear_1 E a (st 0 (upd (S 0) (Int32.toNatClampNeg x1) (0 : Int32)) S) (upd (S 1) (Int32.toNatClampNeg x1) (0 : Int32))) dX2_clear_21 (fun h => ?_)
      refine z_iinc C [(1, .int (x1 + (1 : Int32))), (0, .ref (a 0))] 1 rfl (by first | rfl | decide) (by decide) rfl dX2_clear_22 ?_
      refine z_goto C 2 (by decide) dX2_clear_25 ?_
      refine Zt_l [(0, .ref (a 0)), (1, .int (x1 + (1 : Int32)))] [1, 0] rfl ?_
      exact ih (x1 + (1 : Int32)) (st 1 (upd (S 1) (Int32.toNatClampNeg x1) (0 : Int32)) (st 0 (upd (S 0) (Int32.toNatClampNeg x1) (0 : Int32)) S)) h

set_option maxHeartbeats 4000000 in
set_option maxRecDepth 100000 in
theorem L_X2_clear {E : zEnv} {Γ : zG} (a : Nat → Nat) (C : zC E Γ cX2_clear RX2 2 rm_X2_clear wsX2_clear) {res : St} (R : zRv E Γ cX2_clear 2 (wTally E a res)) (S : St) (h : f_X2_clear S = some res) : Zt E Γ 2 0 0 (wTally E a S) [(0, .ref (a 0))] 0 [] := by
  unfold f_X2_clear at h
  refine z_iconst C (v := (0 : Int32)) (by decide) dX2_clear_0 ?_
  refine z_istore_n C [(1, .int (0 : Int32)), (0, .ref (a 0))] rfl (by decide) rfl dX2_clear_1 ?_
  refine Zt_l [(0, .ref (a 0)), (1, .int (0 : Int32))] [1, 0] rfl ?_
  exact L_X2_clear_2 a C R 1000 (0 : Int32) S h

theorem c_X2_clear (E : zEnv) (a : Nat → Nat) (S : St) {res : St} (h : f_X2_clear S = some res) : Ktv E yX2_clear wsX2_clear rm_X2_clear (wTally E a S) (wTally E a res) [.ref (a 0)] :=
  z_entv (cc := cX2_clear) (maxL := 2) (by decide +kernel) rfl (Nat.le_of_ble_eq_true rfl) (fun Γ C R => L_X2_clear a C R S h)

abbrev rm_X2_copyOf : Room := { frames := 1, cells := 0, slots := 0, locals := 26 }
theorem inw_X2_copyOf_X2 : ∀ w ∈ wsX20, w ∈ wsX2_copyOf := fun _ h => List.mem_cons_of_mem _ (List.mem_append_right _ h)
set_option maxHeartbeats 4000000 in
theorem wl_X2_copyOf_0 (E : zEnv) (a : Nat → Nat) (S : St) (f : Nat → Int32) : (wTally2 E a (st 0 f S)) = (wTally2 E a S).set 1 (a 1, .inl (zI E, 8, .inl f)) := rfl
set_option maxHeartbeats 4000000 in
theorem wl_X2_copyOf_1 (E : zEnv) (a : Nat → Nat) (S : St) (f : Nat → Int32) : (wTally2 E a (st 1 f S)) = (wTally2 E a S).set 2 (a 2, .inl (zI E, 8, .inl f)) := rfl
set_option maxHeartbeats 4000000 in
theorem wl_X2_copyOf_2 (E : zEnv) (a : Nat → Nat) (S : St) (f : Nat → Int32) : (wTally2 E a (st 2 f S)) = (wTally2 E a S).set 3 (a 3, .inl (zI E, 8, .inl f)) := rfl
set_option maxHeartbeats 4000000 in
theorem wl_X2_copyOf_3 (E : zEnv) (a : Nat → Nat) (S : St) (f : Nat → Int32) : (wTally2 E a (st 3 f S)) = (wTally2 E a S).set 4 (a 4, .inl (zI E, 8, .inl f)) := rfl
noncomputable def f_X2_copyOf (S : St) : Option St := (some (st 3 (va_cpy (S 7) (S 3) (Int32.toNatClampNeg (0 : Int32)) (Int32.toNatClampNeg (0 : Int32)) (Int32.toNatClampNeg (8 : Int32))) (st 2 (va_cpy (S 6) (S 2) (Int32.toNatClampNeg (0 : Int32)) (Int32.toNatClampNeg (0 : Int32)) (Int32.toNatClampNeg (8 : Int32))) (st 1 (va_cpy (S 5) (S 1) (Int32.toNatClampNeg (0 : Int32)) (Int32.toNatClampNeg (0 : Int32)) (Int32.toNatClampNeg (8 : Int32))) (st 0 (va_cpy (S 4) (S 0) (Int32.toNatClampNeg (0 : Int32)) (Int32.toNatClampNeg (0 : Int32)) (Int32.toNatClampNeg (8 : Int32))) S)))))
set_option maxHeartbeats 4000000 in
set_option maxRecDepth 100000 in
theorem L_X2_copyOf {E : zEnv} {Γ : zG} (a : Nat → Nat) (C : zC E Γ cX2_copyOf RX2 2 rm_X2_copyOf wsX2_copyOf) {res : St} (R : zRv E Γ cX2_copyOf 2 (wTally2 E a res)) (S : St) (h : f_X2_copyOf S = some res) : Zt E Γ 2 0 0 (wTally2 E a S) [(0, .ref (a 0)), (1, .ref (a 5))] 0 [] := by
  unfold f_X2_copyOf at h
  refine z_aload_n C 1 rfl rfl dX2_copyOf_0 ?_
  refine z_get C 5 rfl (C := RX2) (T := TX2) (N := 4) (ci := 2) rfl inw_X2_copyOf_X2 0 (by decide) (ref := "EldestAge$Tally") (List.mem_of_getElem? (i := 1) rfl) rfl (v := .ref (a 6)) rfl dX2_copyOf_1 ?_
  refine z_iconst C (v := (0 : Int32)) (by decide) dX2_copyOf_4 ?_
  refine z_aload_n C 0 rfl rfl dX2_copyOf_5 ?_
  refine z_get C 0 rfl (C := RX2) (T := TX2) (N := 4) (ci := 2) rfl inw_X2_copyOf_X2 0 (by decide) (ref := "EldestAge$Tally") (List.mem_of_getElem? (i := 1) rfl) rfl (v := .ref (a 1)) rfl dX2_copyOf_6 ?_
  refine z_iconst C (v := (0 : Int32)) (by decide) dX2_copyOf_9 ?_
  refine z_bipush C (v := (8 : Int32)) (by decide) dX2_copyOf_10 ?_
  refine z_copy C (List.mem_of_getElem? (i := 2) rfl) (List.mem_of_getElem? (i := 3) rfl) (List.mem_of_getElem? (i := 4) rfl) (List.mem_of_getElem? (i := 5) rfl) (f := (S 4)) (g := (S 0)) (n0 := 8) (n1 := 8) 6 1 rfl rfl (by decide) (by decide) (by decide) (by decide) (by decide) (Nat.le_of_ble_eq_true rfl) (by decide +kernel) (wTally2 E a (st 0 (va_cpy (S 4) (S 0) (Int32.toNatClampNeg (0 : Int32)) (Int32.toNatClampNeg (0 : Int32)) (Int32.toNatClampNeg (8 : Int32))) S)) (wl_X2_copyOf_0 E a S (va_cpy (S 4) (S 0) (Int32.toNatClampNeg (0 : Int32)) (Int32.toNatClampNeg (0 : Int32)) (Int32.toNatClampNeg (8 : Int32)))) dX2_copyOf_12 ?_
  refine z_aload_n C 1 rfl rfl dX2_copyOf_15 ?_
  refine z_get C 5 rfl (C := RX2) (T := TX2) (N := 4) (ci := 2) rfl inw_X2_copyOf_X2 1 (by decide) (ref := "EldestAge$Tally") (List.mem_of_getElem? (i := 6) rfl) rfl (v := .ref (a 7)) rfl dX2_copyOf_16 ?_
  refine z_iconst C (v := (0 : Int32)) (by decide) dX2_copyOf_19 ?_
  refine z_aload_n C 0 rfl rfl dX2_copyOf_20 ?_
  refine z_get C 0 rfl (C := RX2) (T := TX2) (N := 4) (ci := 2) rfl inw_X2_copyOf_X2 1 (by decide) (ref := "EldestAge$Tally") (List.mem_of_getElem? (i := 6) rfl) rfl (v := .ref (a 2)) rfl dX2_copyOf_21 ?_
  refine z_iconst C (v := (0 : Int32)) (by decide) dX2_copyOf_24 ?_
  refine z_bipush C (v := (8 : Int32)) (by decide) dX2_copyOf_25 ?_
  refine z_copy C (List.mem_of_getElem? (i := 2) rfl) (List.mem_of_getElem? (i := 3) rfl) (List.mem_of_getElem? (i := 4) rfl) (List.mem_of_getElem? (i := 5) rfl) (f := (S 5)) (g := (S 1)) (n0 := 8) (n1 := 8) 7 2 rfl rfl (by decide) (by decide) (by decide) (by decide) (by decide) (Nat.le_of_ble_eq_true rfl) (by decide +kernel) (wTally2 E a (st 1 (va_cpy (S 5) (S 1) (Int32.toNatClampNeg (0 : Int32)) (Int32.toNatClampNeg (0 : Int32)) (Int32.toNatClampNeg (8 : Int32))) (st 0 (va_cpy (S 4) (S 0) (Int32.toNatClampNeg (0 : Int32)) (Int32.toNatClampNeg (0 : Int32)) (Int32.toNatClampNeg (8 : Int32))) S))) (wl_X2_copyOf_1 E a (st 0 (va_cpy (S 4) (S 0) (Int32.toNatClampNeg (0 : Int32)) (Int32.toNatClampNeg (0 : Int32)) (Int32.toNatClampNeg (8 : Int32))) S) (va_cpy (S 5) (S 1) (Int32.toNatClampNeg (0 : Int32)) (Int32.toNatClampNeg (0 : Int32)) (Int32.toNatClampNeg (8 : Int32)))) dX2_copyOf_27 ?_
  refine z_aload_n C 1 rfl rfl dX2_copyOf_30 ?_
  refine z_get C 5 rfl (C := RX2) (T := TX2) (N := 4) (ci := 2) rfl inw_X2_copyOf_X2 2 (by decide) (ref := "EldestAge$Tally") (List.mem_of_getElem? (i := 7) rfl) rfl (v := .ref (a 8)) rfl dX2_copyOf_31 ?_
  refine z_iconst C (v := (0 : Int32)) (by decide) dX2_copyOf_34 ?_
  refine z_aload_n C 0 rfl rfl dX2_copyOf_35 ?_
  refine z_get C 0 rfl (C := RX2) (T := TX2) (N := 4) (ci := 2) rfl inw_X2_copyOf_X2 2 (by decide) (ref := "EldestAge$Tally") (List.mem_of_getElem? (i := 7) rfl) rfl (v := .ref (a 3)) rfl dX2_copyOf_36 ?_
  refine z_iconst C (v := (0 : Int32)) (by decide) dX2_copyOf_39 ?_
  refine z_bipush C (v := (8 : Int32)) (by decide) dX2_copyOf_40 ?_
  refine z_copy C (List.mem_of_getElem? (i := 2) rfl) (List.mem_of_getElem? (i := 3) rfl) (List.mem_of_getElem? (i := 4) rfl) (List.mem_of_getElem? (i := 5) rfl) (f := (S 6)) (g := (S 2)) (n0 := 8) (n1 := 8) 8 3 rfl rfl (by decide) (by decide) (by decide) (by decide) (by decide) (Nat.le_of_ble_eq_true rfl) (by decide +kernel) (wTally2 E a (st 2 (va_cpy (S 6) (S 2) (Int32.toNatClampNeg (0 : Int32)) (Int32.toNatClampNeg (0 : Int32)) (Int32.toNatClampNeg (8 : Int32))) (st 1 (va_cpy (S 5) (S 1) (Int32.toNatClampNeg (0 : Int32)) (Int32.toNatClampNeg (0 : Int32)) (Int32.toNatClampNeg (8 : Int32))) (st 0 (va_cpy (S 4) (S 0) (Int32.toNatClampNeg (0 : Int32)) (Int32.toNatClampNeg (0 : Int32)) (Int32.toNatClampNeg (8 : Int32))) S)))) (wl_X2_copyOf_2 E a (st 1 (va_cpy (S 5) (S 1) (Int32.toNatClampNeg (0 : Int32)) (Int32.toNatClampNeg (0 : Int32)) (Int32.toNatClampNeg (8 : Int32))) (st 0 (va_cpy (S 4) (S 0) (Int32.toNatClampNeg (0 : Int32)) (Int32.toNatClampNeg (0 : Int32)) (Int32.toNatClampNeg (8 : Int32))) S)) (va_cpy (S 6) (S 2) (Int32.toNatClampNeg (0 : Int32)) (Int32.toNatClampNeg (0 : Int32)) (Int32.toNatClampNeg (8 : Int32)))) dX2_copyOf_42 ?_
  refine z_aload_n C 1 rfl rfl dX2_copyOf_45 ?_
  refine z_get C 5 rfl (C := RX2) (T := TX2) (N := 4) (ci := 2) rfl inw_X2_copyOf_X2 3 (by decide) (ref := "EldestAge$Tally") (List.mem_of_getElem? (i := 8) rfl) rfl (v := .ref (a 9)) rfl dX2_copyOf_46 ?_
  refine z_iconst C (v := (0 : Int32)) (by decide) dX2_copyOf_49 ?_
  refine z_aload_n C 0 rfl rfl dX2_copyOf_50 ?_
  refine z_get C 0 rfl (C := RX2) (T := TX2) (N := 4) (ci := 2) rfl inw_X2_copyOf_X2 3 (by decide) (ref := "EldestAge$Tally") (List.mem_of_getElem? (i := 8) rfl) rfl (v := .ref (a 4)) rfl dX2_copyOf_51 ?_
  refine z_iconst C (v := (0 : Int32)) (by decide) dX2_copyOf_54 ?_
  refine z_bipush C (v := (8 : Int32)) (by decide) dX2_copyOf_55 ?_
  refine z_copy C (List.mem_of_getElem? (i := 2) rfl) (List.mem_of_getElem? (i := 3) rfl) (List.mem_of_getElem? (i := 4) rfl) (List.mem_of_getElem? (i := 5) rfl) (f := (S 7)) (g := (S 3)) (n0 := 8) (n1 := 8) 9 4 rfl rfl (by decide) (by decide) (by decide) (by decide) (by decide) (Nat.le_of_ble_eq_true rfl) (by decide +kernel) (wTally2 E a (st 3 (va_cpy (S 7) (S 3) (Int32.toNatClampNeg (0 : Int32)) (Int32.toNatClampNeg (0 : Int32)) (Int32.toNatClampNeg (8 : Int32))) (st 2 (va_cpy (S 6) (S 2) (Int32.toNatClampNeg (0 : Int32)) (Int32.toNatClampNeg (0 : Int32)) (Int32.toNatClampNeg (8 : Int32))) (st 1 (va_cpy (S 5) (S 1) (Int32.toNatClampNeg (0 : Int32)) (Int32.toNatClampNeg (0 : Int32)) (Int32.toNatClampNeg (8 : Int32))) (st 0 (va_cpy (S 4) (S 0) (Int32.toNatClampNeg (0 : Int32)) (Int32.toNatClampNeg (0 : Int32)) (Int32.toNatClampNeg (8 : Int32))) S))))) (wl_X2_copyOf_3 E a (st 2 (va_cpy (S 6) (S 2) (Int32.toNatClampNeg (0 : Int32)) (Int32.toNatClampNeg (0 : Int32)) (Int32.toNatClampNeg (8 : Int32))) (st 1 (va_cpy (S 5) (S 1) (Int32.toNatClampNeg (0 : Int32)) (Int32.toNatClampNeg (0 : Int32)) (Int32.toNatClampNeg (8 : Int32))) (st 0 (va_cpy (S 4) (S 0) (Int32.toNatClampNeg (0 : Int32)) (Int32.toNatClampNeg (0 : Int32)) (Int32.toNatClampNeg (8 : Int32))) S))) (va_cpy (S 7) (S 3) (Int32.toNatClampNeg (0 : Int32)) (Int32.toNatClampNeg (0 : Int32)) (Int32.toNatClampNeg (8 : Int32)))) dX2_copyOf_57 ?_
  obtain rfl := Option.some.inj h
  exact R 60 _ dX2_copyOf_60

theorem c_X2_copyOf (E : zEnv) (a : Nat → Nat) (S : St) {res : St} (h : f_X2_copyOf S = some res) : Ktv E yX2_copyOf wsX2_copyOf rm_X2_copyOf (wTally2 E a S) (wTally2 E a res) [.ref (a 0), .ref (a 5)] :=
  z_entv (cc := cX2_copyOf) (maxL := 2) (by decide +kernel) rfl (Nat.le_of_ble_eq_true rfl) (fun Γ C R => L_X2_copyOf a C R S h)

abbrev rm_X2_add : Room := { frames := 1, cells := 0, slots := 0, locals := 21 }
theorem inw_X2_add_X2 : ∀ w ∈ wsX20, w ∈ wsX2_add := fun _ h => List.mem_cons_of_mem _ (List.mem_append_right _ h)
set_option maxHeartbeats 4000000 in
theorem wl_X2_add_0 (E : zEnv) (a : Nat → Nat) (S : St) (f : Nat → Int32) : (wTally E a (st 3 f S)) = (wTally E a S).set 4 (a 4, .inl (zI E, 8, .inl f)) := rfl
set_option maxHeartbeats 4000000 in
theorem wl_X2_add_1 (E : zEnv) (a : Nat → Nat) (S : St) (f : Nat → Int32) : (wTally E a (st 0 f S)) = (wTally E a S).set 1 (a 1, .inl (zI E, 8, .inl f)) := rfl
set_option maxHeartbeats 4000000 in
theorem wl_X2_add_2 (E : zEnv) (a : Nat → Nat) (S : St) (f : Nat → Int32) : (wTally E a (st 1 f S)) = (wTally E a S).set 2 (a 2, .inl (zI E, 8, .inl f)) := rfl
set_option maxHeartbeats 4000000 in
theorem wl_X2_add_3 (E : zEnv) (a : Nat → Nat) (S : St) (f : Nat → Int32) : (wTally E a (st 2 f S)) = (wTally E a S).set 3 (a 3, .inl (zI E, 8, .inl f)) := rfl
noncomputable def f_X2_add_115 (x1 : Int32) (x4 : Int32) (x5 : Int32) (y1 : Int32) (y2 : Int32) (S : St) : Option St := (ix y1 8 (ix x1 8 (ix x1 8 (ix x1 8 (ix x1 8 (some (st 1 (upd (S 1) (Int32.toNatClampNeg x1) ((S 1 (Int32.toNatClampNeg x1)) + (x5 * x4))) (st 0 (upd (S 0) (Int32.toNatClampNeg x1) ((S 0 (Int32.toNatClampNeg x1)) + x5)) (st 3 (upd (S 3) (Int32.toNatClampNeg y1) y2) S)))))))))
noncomputable def f_X2_add_88 (x1 : Int32) (x4 : Int32) (x5 : Int32) (x6 : Int32) (y1 : Int32) (y2 : Int32) (S : St) : Option St := (ix y1 8 (if x6 = 0 then (ix x1 8 (f_X2_add_115 x1 x4 x5 x1 (zmin (S 3 (Int32.toNatClampNeg x1)) x4) (st 2 (upd (S 2) (Int32.toNatClampNeg y1) y2) S))) else (f_X2_add_115 x1 x4 x5 x1 x4 (st 2 (upd (S 2) (Int32.toNatClampNeg y1) y2) S))))
noncomputable def f_X2_add_60 (x1 : Int32) (x4 : Int32) (x5 : Int32) (y0 : Int32) (S : St) : Option St := (if y0 = 0 then (ix x1 8 (f_X2_add_88 x1 x4 x5 y0 x1 (zmax (S 2 (Int32.toNatClampNeg x1)) x4) S)) else (f_X2_add_88 x1 x4 x5 y0 x1 x4 S))
noncomputable def f_X2_add_44 (x1 : Int32) (x4 : Int32) (y0 : Int32) (S : St) : Option St := (ix x1 8 (if (S 0 (Int32.toNatClampNeg x1)) = 0 then (f_X2_add_60 x1 x4 y0 (1 : Int32) S) else (f_X2_add_60 x1 x4 y0 (0 : Int32) S)))
noncomputable def f_X2_add_32 (x1 : Int32) (x2 : Int32) (y0 : Int32) (S : St) : Option St := (if x2 = (3 : Int32) then (f_X2_add_44 x1 y0 (2 : Int32) S) else (f_X2_add_44 x1 y0 (1 : Int32) S))
noncomputable def f_X2_add (x1 : Int32) (x2 : Int32) (x3 : Int32) (S : St) : Option St := (if x2 = (4 : Int32) then (some S) else (if x1 < 0 then (some S) else (if x1 < (8 : Int32) then (if x2 = (2 : Int32) then (f_X2_add_32 x1 x2 (zmax (0 : Int32) (x3 - (3 : Int32))) S) else (f_X2_add_32 x1 x2 x3 S)) else (some S))))
set_option maxHeartbeats 4000000 in
set_option maxRecDepth 100000 in
theorem L_X2_add_115 {E : zEnv} {Γ : zG} (a : Nat → Nat) (C : zC E Γ cX2_add RX2 7 rm_X2_add wsX2_add) {res : St} (R : zRv E Γ cX2_add 7 (wTally E a res)) (x1 : Int32) (x4 : Int32) (x5 : Int32) (y1 : Int32) (y2 : Int32) (S : St) (h : f_X2_add_115 x1 x4 x5 y1 y2 S = some res) : Zt E Γ 7 0 0 (wTally E a S) [(0, .ref (a 0)), (1, .int x1), (4, .int x4), (5, .int x5)] 115 [.int y2, .int y1, .ref (a 4)] := by
  unfold f_X2_add_115 at h
  refine z_iast C (N := 8) (f := (S 3)) 4 rfl h (wTally E a (st 3 (upd (S 3) (Int32.toNatClampNeg y1) y2) S)) (wl_X2_add_0 E a S (upd (S 3) (Int32.toNatClampNeg y1) y2)) dX2_add_115 (fun h => ?_)
  refine z_aload_n C 0 rfl rfl dX2_add_116 ?_
  refine z_get C 0 rfl (C := RX2) (T := TX2) (N := 4) (ci := 2) rfl inw_X2_add_X2 0 (by decide) (ref := "EldestAge$Tally") (List.mem_of_getElem? (i := 5) rfl) rfl (v := .ref (a 1)) rfl dX2_add_117 ?_
  refine z_iload_n C 1 rfl rfl dX2_add_120 ?_
  refine z_dup2 C rfl rfl dX2_add_121 ?_
  refine z_iald C (N := 8) (f := (S 0)) 1 rfl h dX2_add_122 (fun h => ?_)
  refine z_iload C 3 rfl dX2_add_123 ?_
  refine z_iadd C dX2_add_125 ?_
  refine z_iast C (N := 8) (f := (S 0)) 1 rfl h (wTally E a (st 0 (upd (S 0) (Int32.toNatClampNeg x1) ((S 0 (Int32.toNatClampNeg x1)) + x5)) (st 3 (upd (S 3) (Int32.toNatClampNeg y1) y2) S))) (wl_X2_add_1 E a (st 3 (upd (S 3) (Int32.toNatClampNeg y1) y2) S) (upd (S 0) (Int32.toNatClampNeg x1) ((S 0 (Int32.toNatClampNeg x1)) + x5))) dX2_add_126 (fun h => ?_)
  refine z_aload_n C 0 rfl rfl dX2_add_127 ?_
  refine z_get C 0 rfl (C := RX2) (T := TX2) (N := 4) (ci := 2) rfl inw_X2_add_X2 1 (by decide) (ref := "EldestAge$Tally") (List.mem_of_getElem? (i := 11) rfl) rfl (v := .ref (a 2)) rfl dX2_add_128 ?_
  refine z_iload_n C 1 rfl rfl dX2_add_131 ?_
  refine z_dup2 C rfl rfl dX2_add_132 ?_
  refine z_iald C (N := 8) (f := (S 1)) 2 rfl h dX2_add_133 (fun h => ?_)
  refine z_iload C 3 rfl dX2_add_134 ?_
  refine z_iload C 2 rfl dX2_add_136 ?_
  refine z_imul C dX2_add_138 ?_
  refine z_iadd C dX2_add_139 ?_
  refine z_iast C (N := 8) (f := (S 1)) 2 rfl h (wTally E a (st 1 (upd (S 1) (Int32.toNatClampNeg x1) ((S 1 (Int32.toNatClampNeg x1)) + (x5 * x4))) (st 0 (upd (S 0) (Int32.toNatClampNeg x1) ((S 0 (Int32.toNatClampNeg x1)) + x5)) (st 3 (upd (S 3) (Int32.toNatClampNeg y1) y2) S)))) (wl_X2_add_2 E a (st 0 (upd (S 0) (Int32.toNatClampNeg x1) ((S 0 (Int32.toNatClampNeg x1)) + x5)) (st 3 (upd (S 3) (Int32.toNatClampNeg y1) y2) S)) (upd (S 1) (Int32.toNatClampNeg x1) ((S 1 (Int32.toNatClampNeg x1)) + (x5 * x4)))) dX2_add_140 (fun h => ?_)
  obtain rfl := Option.some.inj h
  exact R 141 _ dX2_add_141

set_option maxHeartbeats 4000000 in
set_option maxRecDepth 100000 in
theorem L_X2_add_88 {E : zEnv} {Γ : zG} (a : Nat → Nat) (C : zC E Γ cX2_add RX2 7 rm_X2_add wsX2_add) {res : St} (R : zRv E Γ cX2_add 7 (wTally E a res)) (x1 : Int32) (x4 : Int32) (x5 : Int32) (x6 : Int32) (y1 : Int32) (y2 : Int32) (S : St) (h : f_X2_add_88 x1 x4 x5 x6 y1 y2 S = some res) : Zt E Γ 7 0 0 (wTally E a S) [(0, .ref (a 0)), (1, .int x1), (4, .int x4), (5, .int x5), (6, .int x6)] 88 [.int y2, .int y1, .ref (a 3)] := by
  unfold f_X2_add_88 at h
  refine z_iast C (N := 8) (f := (S 2)) 3 rfl h (wTally E a (st 2 (upd (S 2) (Int32.toNatClampNeg y1) y2) S)) (wl_X2_add_3 E a S (upd (S 2) (Int32.toNatClampNeg y1) y2)) dX2_add_88 (fun h => ?_)
  refine z_aload_n C 0 rfl rfl dX2_add_89 ?_
  refine z_get C 0 rfl (C := RX2) (T := TX2) (N := 4) (ci := 2) rfl inw_X2_add_X2 3 (by decide) (ref := "EldestAge$Tally") (List.mem_of_getElem? (i := 7) rfl) rfl (v := .ref (a 4)) rfl dX2_add_90 ?_
  refine z_iload_n C 1 rfl rfl dX2_add_93 ?_
  refine z_iload C 4 rfl dX2_add_94 ?_
  refine z_if_eq C 104 (by decide) h dX2_add_96 (fun hc h => ?_) (fun hc h => ?_)
  · refine z_aload_n C 0 rfl rfl dX2_add_104 ?_
    refine z_get C 0 rfl (C := RX2) (T := TX2) (N := 4) (ci := 2) rfl inw_X2_add_X2 3 (by decide) (ref := "EldestAge$Tally") (List.mem_of_getElem? (i := 7) rfl) rfl (v := .ref (a 4)) rfl dX2_add_105 ?_
    refine z_iload_n C 1 rfl rfl dX2_add_108 ?_
    refine z_iald C (N := 8) (f := (S 3)) 4 rfl h dX2_add_109 (fun h => ?_)
    refine z_iload C 2 rfl dX2_add_110 ?_
    refine z_min C (List.mem_of_getElem? (i := 8) rfl) (List.mem_of_getElem? (i := 9) rfl) (List.mem_of_getElem? (i := 3) rfl) (List.mem_of_getElem? (i := 10) rfl) (Nat.le_of_ble_eq_true rfl) (Nat.le_of_ble_eq_true rfl) (Nat.zero_le _) (Nat.zero_le _) dX2_add_112 ?_
    refine Zt_l [(0, .ref (a 0)), (1, .int x1), (4, .int x4), (5, .int x5)] [0, 1, 2, 3] rfl ?_
    exact L_X2_add_115 a C R x1 x4 x5 x1 (zmin (S 3 (Int32.toNatClampNeg x1)) x4) (st 2 (upd (S 2) (Int32.toNatClampNeg y1) y2) S) h
  · refine z_iload C 2 rfl dX2_add_99 ?_
    refine z_goto C 115 (by decide) dX2_add_101 ?_
    refine Zt_l [(0, .ref (a 0)), (1, .int x1), (4, .int x4), (5, .int x5)] [0, 1, 2, 3] rfl ?_
    exact L_X2_add_115 a C R x1 x4 x5 x1 x4 (st 2 (upd (S 2) (Int32.toNatClampNeg y1) y2) S) h

set_option maxHeartbeats 4000000 in
set_option maxRecDepth 100000 in
theorem L_X2_add_60 {E : zEnv} {Γ : zG} (a : Nat → Nat) (C : zC E Γ cX2_add RX2 7 rm_X2_add wsX2_add) {res : St} (R : zRv E Γ cX2_add 7 (wTally E a res)) (x1 : Int32) (x4 : Int32) (x5 : Int32) (y0 : Int32) (S : St) (h : f_X2_add_60 x1 x4 x5 y0 S = some res) : Zt E Γ 7 0 0 (wTally E a S) [(0, .ref (a 0)), (1, .int x1), (4, .int x4), (5, .int x5)] 60 [.int y0] := by
  unfold f_X2_add_60 at h
  refine z_istore C [(6, .int y0), (0, .ref (a 0)), (1, .int x1), (4, .int x4), (5, .int x5)] (by decide) rfl dX2_add_60 ?_
  refine z_aload_n C 1 rfl rfl dX2_add_62 ?_
  refine z_get C 0 rfl (C := RX2) (T := TX2) (N := 4) (ci := 2) rfl inw_X2_add_X2 2 (by decide) (ref := "EldestAge$Tally") (List.mem_of_getElem? (i := 6) rfl) rfl (v := .ref (a 3)) rfl dX2_add_63 ?_
  refine z_iload_n C 2 rfl rfl dX2_add_66 ?_
  refine z_iload C 0 rfl dX2_add_67 ?_
  refine z_if_eq C 77 (by decide) h dX2_add_69 (fun hc h => ?_) (fun hc h => ?_)
  · refine z_aload_n C 1 rfl rfl dX2_add_77 ?_
    refine z_get C 0 rfl (C := RX2) (T := TX2) (N := 4) (ci := 2) rfl inw_X2_add_X2 2 (by decide) (ref := "EldestAge$Tally") (List.mem_of_getElem? (i := 6) rfl) rfl (v := .ref (a 3)) rfl dX2_add_78 ?_
    refine z_iload_n C 2 rfl rfl dX2_add_81 ?_
    refine z_iald C (N := 8) (f := (S 2)) 3 rfl h dX2_add_82 (fun h => ?_)
    refine z_iload C 3 rfl dX2_add_83 ?_
    refine z_max C (List.mem_of_getElem? (i := 1) rfl) (List.mem_of_getElem? (i := 2) rfl) (List.mem_of_getElem? (i := 3) rfl) (List.mem_of_getElem? (i := 4) rfl) (Nat.le_of_ble_eq_true rfl) (Nat.le_of_ble_eq_true rfl) (Nat.zero_le _) (Nat.zero_le _) dX2_add_85 ?_
    refine Zt_l [(0, .ref (a 0)), (1, .int x1), (4, .int x4), (5, .int x5), (6, .int y0)] [1, 2, 3, 4, 0] rfl ?_
    exact L_X2_add_88 a C R x1 x4 x5 y0 x1 (zmax (S 2 (Int32.toNatClampNeg x1)) x4) S h
  · refine z_iload C 3 rfl dX2_add_72 ?_
    refine z_goto C 88 (by decide) dX2_add_74 ?_
    refine Zt_l [(0, .ref (a 0)), (1, .int x1), (4, .int x4), (5, .int x5), (6, .int y0)] [1, 2, 3, 4, 0] rfl ?_
    exact L_X2_add_88 a C R x1 x4 x5 y0 x1 x4 S h

set_option maxHeartbeats 4000000 in
set_option maxRecDepth 100000 in
theorem L_X2_add_44 {E : zEnv} {Γ : zG} (a : Nat → Nat) (C : zC E Γ cX2_add RX2 7 rm_X2_add wsX2_add) {res : St} (R : zRv E Γ cX2_add 7 (wTally E a res)) (x1 : Int32) (x4 : Int32) (y0 : Int32) (S : St) (h : f_X2_add_44 x1 x4 y0 S = some res) : Zt E Γ 7 0 0 (wTally E a S) [(0, .ref (a 0)), (1, .int x1), (4, .int x4)] 44 [.int y0] := by
  unfold f_X2_add_44 at h
  refine z_istore C [(5, .int y0), (0, .ref (a 0)), (1, .int x1), (4, .int x4)] (by decide) rfl dX2_add_44 ?_
  refine z_aload_n C 1 rfl rfl dX2_add_46 ?_
  refine z_get C 0 rfl (C := RX2) (T := TX2) (N := 4) (ci := 2) rfl inw_X2_add_X2 0 (by decide) (ref := "EldestAge$Tally") (List.mem_of_getElem? (i := 5) rfl) rfl (v := .ref (a 1)) rfl dX2_add_47 ?_
  refine z_iload_n C 2 rfl rfl dX2_add_50 ?_
  refine z_iald C (N := 8) (f := (S 0)) 1 rfl h dX2_add_51 (fun h => ?_)
  refine z_if_ne C 59 (by decide) h dX2_add_52 (fun hc h => ?_) (fun hc h => ?_)
  · refine z_iconst C (v := (1 : Int32)) (by decide) dX2_add_55 ?_
    refine z_goto C 60 (by decide) dX2_add_56 ?_
    refine Zt_l [(0, .ref (a 0)), (1, .int x1), (4, .int x4), (5, .int y0)] [1, 2, 3, 0] rfl ?_
    exact L_X2_add_60 a C R x1 x4 y0 (1 : Int32) S h
  · refine z_iconst C (v := (0 : Int32)) (by decide) dX2_add_59 ?_
    refine Zt_l [(0, .ref (a 0)), (1, .int x1), (4, .int x4), (5, .int y0)] [1, 2, 3, 0] rfl ?_
    exact L_X2_add_60 a C R x1 x4 y0 (0 : Int32) S h

set_option maxHeartbeats 4000000 in
set_option maxRecDepth 100000 in
theorem L_X2_add_32 {E : zEnv} {Γ : zG} (a : Nat → Nat) (C : zC E Γ cX2_add RX2 7 rm_X2_add wsX2_add) {res : St} (R : zRv E Γ cX2_add 7 (wTally E a res)) (x1 : Int32) (x2 : Int32) (y0 : Int32) (S : St) (h : f_X2_add_32 x1 x2 y0 S = some res) : Zt E Γ 7 0 0 (wTally E a S) [(0, .ref (a 0)), (1, .int x1), (2, .int x2)] 32 [.int y0] := by
  unfold f_X2_add_32 at h
  refine z_istore C [(4, .int y0), (0, .ref (a 0)), (1, .int x1), (2, .int x2)] (by decide) rfl dX2_add_32 ?_
  refine z_iload_n C 3 rfl rfl dX2_add_34 ?_
  refine z_iconst C (v := (3 : Int32)) (by decide) dX2_add_35 ?_
  refine z_icmp_ne C 43 (by decide) h dX2_add_36 (fun hc h => ?_) (fun hc h => ?_)
  · refine z_iconst C (v := (2 : Int32)) (by decide) dX2_add_39 ?_
    refine z_goto C 44 (by decide) dX2_add_40 ?_
    refine Zt_l [(0, .ref (a 0)), (1, .int x1), (4, .int y0)] [1, 2, 0] rfl ?_
    exact L_X2_add_44 a C R x1 y0 (2 : Int32) S h
  · refine z_iconst C (v := (1 : Int32)) (by decide) dX2_add_43 ?_
    refine Zt_l [(0, .ref (a 0)), (1, .int x1), (4, .int y0)] [1, 2, 0] rfl ?_
    exact L_X2_add_44 a C R x1 y0 (1 : Int32) S h

set_option maxHeartbeats 4000000 in
set_option maxRecDepth 100000 in
theorem L_X2_add {E : zEnv} {Γ : zG} (a : Nat → Nat) (C : zC E Γ cX2_add RX2 7 rm_X2_add wsX2_add) {res : St} (R : zRv E Γ cX2_add 7 (wTally E a res)) (x1 : Int32) (x2 : Int32) (x3 : Int32) (S : St) (h : f_X2_add x1 x2 x3 S = some res) : Zt E Γ 7 0 0 (wTally E a S) [(0, .ref (a 0)), (1, .int x1), (2, .int x2), (3, .int x3)] 0 [] := by
  unfold f_X2_add at h
  refine z_iload_n C 2 rfl rfl dX2_add_0 ?_
  refine z_iconst C (v := (4 : Int32)) (by decide) dX2_add_1 ?_
  refine z_icmp_eq C 15 (by decide) h dX2_add_2 (fun hc h => ?_) (fun hc h => ?_)
  · obtain rfl := Option.some.inj h
    exact R 15 _ dX2_add_15
  · refine z_iload_n C 1 rfl rfl dX2_add_5 ?_
    refine z_if_lt C 15 (by decide) h dX2_add_6 (fun hc h => ?_) (fun hc h => ?_)
    · obtain rfl := Option.some.inj h
      exact R 15 _ dX2_add_15
    · refine z_iload_n C 1 rfl rfl dX2_add_9 ?_
      refine z_bipush C (v := (8 : Int32)) (by decide) dX2_add_10 ?_
      refine z_icmp_lt C 16 (by decide) h dX2_add_12 (fun hc h => ?_) (fun hc h => ?_)
      · refine z_iload_n C 2 rfl rfl dX2_add_16 ?_
        refine z_iconst C (v := (2 : Int32)) (by decide) dX2_add_17 ?_
        refine z_icmp_ne C 31 (by decide) h dX2_add_18 (fun hc h => ?_) (fun hc h => ?_)
        · refine z_iconst C (v := (0 : Int32)) (by decide) dX2_add_21 ?_
          refine z_iload_n C 3 rfl rfl dX2_add_22 ?_
          refine z_iconst C (v := (3 : Int32)) (by decide) dX2_add_23 ?_
          refine z_isub C dX2_add_24 ?_
          refine z_max C (List.mem_of_getElem? (i := 1) rfl) (List.mem_of_getElem? (i := 2) rfl) (List.mem_of_getElem? (i := 3) rfl) (List.mem_of_getElem? (i := 4) rfl) (Nat.le_of_ble_eq_true rfl) (Nat.le_of_ble_eq_true rfl) (Nat.zero_le _) (Nat.zero_le _) dX2_add_25 ?_
          refine z_goto C 32 (by decide) dX2_add_28 ?_
          refine Zt_l [(0, .ref (a 0)), (1, .int x1), (2, .int x2)] [0, 1, 2] rfl ?_
          exact L_X2_add_32 a C R x1 x2 (zmax (0 : Int32) (x3 - (3 : Int32))) S h
        · refine z_iload_n C 3 rfl rfl dX2_add_31 ?_
          refine Zt_l [(0, .ref (a 0)), (1, .int x1), (2, .int x2)] [0, 1, 2] rfl ?_
          exact L_X2_add_32 a C R x1 x2 x3 S h
      · obtain rfl := Option.some.inj h
        exact R 15 _ dX2_add_15

theorem c_X2_add (E : zEnv) (a : Nat → Nat) (x1 : Int32) (x2 : Int32) (x3 : Int32) (S : St) {res : St} (h : f_X2_add x1 x2 x3 S = some res) : Ktv E yX2_add wsX2_add rm_X2_add (wTally E a S) (wTally E a res) [.ref (a 0), .int x1, .int x2, .int x3] :=
  z_entv (cc := cX2_add) (maxL := 7) (by decide +kernel) rfl (Nat.le_of_ble_eq_true rfl) (fun Γ C R => L_X2_add a C R x1 x2 x3 S h)

abbrev rm_X2_valueOf : Room := { frames := 0, cells := 0, slots := 0, locals := 0 }
theorem inw_X2_valueOf_X2 : ∀ w ∈ wsX20, w ∈ wsX2_valueOf := fun _ h => List.mem_cons_of_mem _ (List.mem_append_right _ h)
noncomputable def f_X2_valueOf (x1 : Int32) (x2 : Int32) (S : St) : Option Int32 := (if x1 < 0 then (some (-4 : Int32)) else (if (8 : Int32) ≤ x1 then (some (-4 : Int32)) else (ix x1 8 (if (S 0 (Int32.toNatClampNeg x1)) = 0 then (some (-4 : Int32)) else (if x2 = (0 : Int32) then (ix x1 8 (some (S 2 (Int32.toNatClampNeg x1)))) else (if x2 = (1 : Int32) then (ix x1 8 (some (S 3 (Int32.toNatClampNeg x1)))) else (if x2 = (2 : Int32) then (ix x1 8 (some (S 1 (Int32.toNatClampNeg x1)))) else (ix x1 8 (ix x1 8 (nz (S 0 (Int32.toNatClampNeg x1)) (some ((S 1 (Int32.toNatClampNeg x1)) / (S 0 (Int32.toNatClampNeg x1))))))))))))))
set_option maxHeartbeats 4000000 in
set_option maxRecDepth 100000 in
theorem L_X2_valueOf {E : zEnv} {Γ : zG} (a : Nat → Nat) (C : zC E Γ cX2_valueOf RX2 3 rm_X2_valueOf wsX2_valueOf) {res : Int32} {S : St} (R : zRi E Γ cX2_valueOf 3 .int (wTally E a S) res) (x1 : Int32) (x2 : Int32) (h : f_X2_valueOf x1 x2 S = some res) : Zt E Γ 3 0 0 (wTally E a S) [(0, .ref (a 0)), (1, .int x1), (2, .int x2)] 0 [] := by
  unfold f_X2_valueOf at h
  refine z_iload_n C 1 rfl rfl dX2_valueOf_0 ?_
  refine z_if_lt C 19 (by decide) h dX2_valueOf_1 (fun hc h => ?_) (fun hc h => ?_)
  · refine z_bipush C (v := (-4 : Int32)) (by decide) dX2_valueOf_19 ?_
    obtain rfl := Option.some.inj h
    exact R rfl 21 _ dX2_valueOf_21
  · refine z_iload_n C 1 rfl rfl dX2_valueOf_4 ?_
    refine z_bipush C (v := (8 : Int32)) (by decide) dX2_valueOf_5 ?_
    refine z_icmp_ge C 19 (by decide) h dX2_valueOf_7 (fun hc h => ?_) (fun hc h => ?_)
    · refine z_bipush C (v := (-4 : Int32)) (by decide) dX2_valueOf_19 ?_
      obtain rfl := Option.some.inj h
      exact R rfl 21 _ dX2_valueOf_21
    · refine z_aload_n C 0 rfl rfl dX2_valueOf_10 ?_
      refine z_get C 0 rfl (C := RX2) (T := TX2) (N := 4) (ci := 2) rfl inw_X2_valueOf_X2 0 (by decide) (ref := "EldestAge$Tally") (List.mem_of_getElem? (i := 1) rfl) rfl (v := .ref (a 1)) rfl dX2_valueOf_11 ?_
      refine z_iload_n C 1 rfl rfl dX2_valueOf_14 ?_
      refine z_iald C (N := 8) (f := (S 0)) 1 rfl h dX2_valueOf_15 (fun h => ?_)
      refine z_if_ne C 22 (by decide) h dX2_valueOf_16 (fun hc h => ?_) (fun hc h => ?_)
      · refine z_bipush C (v := (-4 : Int32)) (by decide) dX2_valueOf_19 ?_
        obtain rfl := Option.some.inj h
        exact R rfl 21 _ dX2_valueOf_21
      · refine z_iload_n C 2 rfl rfl dX2_valueOf_22 ?_
        by_cases hc : x2 = (0 : Int32)
        · replace h := (if_e h).1 hc
          refine z_tableIn C 48 (by rw [hc]; decide) (by rw [hc]; decide) (off := 25) (by rw [hc]; rfl) (by decide) dX2_valueOf_23 ?_
          refine z_aload_n C 0 rfl rfl dX2_valueOf_48 ?_
          refine z_get C 0 rfl (C := RX2) (T := TX2) (N := 4) (ci := 2) rfl inw_X2_valueOf_X2 2 (by decide) (ref := "EldestAge$Tally") (List.mem_of_getElem? (i := 2) rfl) rfl (v := .ref (a 3)) rfl dX2_valueOf_49 ?_
          refine z_iload_n C 1 rfl rfl dX2_valueOf_52 ?_
          refine z_iald C (N := 8) (f := (S 2)) 3 rfl h dX2_valueOf_53 (fun h => ?_)
          obtain rfl := Option.some.inj h
          exact R rfl 54 _ dX2_valueOf_54
        · replace h := (if_e h).2 hc
          have n23_0 := hc
          by_cases hc : x2 = (1 : Int32)
          · replace h := (if_e h).1 hc
            refine z_tableIn C 55 (by rw [hc]; decide) (by rw [hc]; decide) (off := 32) (by rw [hc]; rfl) (by decide) dX2_valueOf_23 ?_
            refine z_aload_n C 0 rfl rfl dX2_valueOf_55 ?_
            refine z_get C 0 rfl (C := RX2) (T := TX2) (N := 4) (ci := 2) rfl inw_X2_valueOf_X2 3 (by decide) (ref := "EldestAge$Tally") (List.mem_of_getElem? (i := 3) rfl) rfl (v := .ref (a 4)) rfl dX2_valueOf_56 ?_
            refine z_iload_n C 1 rfl rfl dX2_valueOf_59 ?_
            refine z_iald C (N := 8) (f := (S 3)) 4 rfl h dX2_valueOf_60 (fun h => ?_)
            obtain rfl := Option.some.inj h
            exact R rfl 61 _ dX2_valueOf_61
          · replace h := (if_e h).2 hc
            have n23_1 := hc
            by_cases hc : x2 = (2 : Int32)
            · replace h := (if_e h).1 hc
              refine z_tableIn C 62 (by rw [hc]; decide) (by rw [hc]; decide) (off := 39) (by rw [hc]; rfl) (by decide) dX2_valueOf_23 ?_
              refine z_aload_n C 0 rfl rfl dX2_valueOf_62 ?_
              refine z_get C 0 rfl (C := RX2) (T := TX2) (N := 4) (ci := 2) rfl inw_X2_valueOf_X2 1 (by decide) (ref := "EldestAge$Tally") (List.mem_of_getElem? (i := 4) rfl) rfl (v := .ref (a 2)) rfl dX2_valueOf_63 ?_
              refine z_iload_n C 1 rfl rfl dX2_valueOf_66 ?_
              refine z_iald C (N := 8) (f := (S 1)) 2 rfl h dX2_valueOf_67 (fun h => ?_)
              obtain rfl := Option.some.inj h
              exact R rfl 68 _ dX2_valueOf_68
            · replace h := (if_e h).2 hc
              have n23_2 := hc
              refine z_tableOut C 69 (z_out3 n23_0 n23_1 n23_2) (by decide) dX2_valueOf_23 ?_
              refine z_aload_n C 0 rfl rfl dX2_valueOf_69 ?_
              refine z_get C 0 rfl (C := RX2) (T := TX2) (N := 4) (ci := 2) rfl inw_X2_valueOf_X2 1 (by decide) (ref := "EldestAge$Tally") (List.mem_of_getElem? (i := 4) rfl) rfl (v := .ref (a 2)) rfl dX2_valueOf_70 ?_
              refine z_iload_n C 1 rfl rfl dX2_valueOf_73 ?_
              refine z_iald C (N := 8) (f := (S 1)) 2 rfl h dX2_valueOf_74 (fun h => ?_)
              refine z_aload_n C 0 rfl rfl dX2_valueOf_75 ?_
              refine z_get C 0 rfl (C := RX2) (T := TX2) (N := 4) (ci := 2) rfl inw_X2_valueOf_X2 0 (by decide) (ref := "EldestAge$Tally") (List.mem_of_getElem? (i := 1) rfl) rfl (v := .ref (a 1)) rfl dX2_valueOf_76 ?_
              refine z_iload_n C 1 rfl rfl dX2_valueOf_79 ?_
              refine z_iald C (N := 8) (f := (S 0)) 1 rfl h dX2_valueOf_80 (fun h => ?_)
              refine z_idiv C (nz_e h).1 dX2_valueOf_81 ?_
              replace h := (nz_e h).2
              obtain rfl := Option.some.inj h
              exact R rfl 82 _ dX2_valueOf_82

theorem c_X2_valueOf (E : zEnv) (a : Nat → Nat) (x1 : Int32) (x2 : Int32) (S : St) {res : Int32} (h : f_X2_valueOf x1 x2 S = some res) : Kti E yX2_valueOf wsX2_valueOf rm_X2_valueOf (wTally E a S) (wTally E a S) [.ref (a 0), .int x1, .int x2] res :=
  z_enti (cc := cX2_valueOf) (maxL := 3) (rt := .int) (by decide +kernel) rfl (Nat.le_of_ble_eq_true rfl) (fun Γ C R => L_X2_valueOf a C R x1 x2 h)

abbrev rm_X2_twinBits : Room := { frames := 1, cells := 0, slots := 0, locals := 22 }
theorem inw_X2_twinBits_X2 : ∀ w ∈ wsX20, w ∈ wsX2_twinBits := fun _ h => List.mem_cons_of_mem _ (List.mem_append_right _ h)
set_option maxHeartbeats 4000000 in
theorem wl_X2_twinBits_0 (E : zEnv) (a : Nat → Nat) (S : St) : ([0, 1, 2, 3, 4] : List Nat).map (fun i => (wTally E a S)[i]?) = (wTally E a S).map some := rfl
set_option maxHeartbeats 4000000 in
theorem wl_X2_twinBits_1 (E : zEnv) (a : Nat → Nat) (S U : St) : (wTally E a U).map (fun q => q.1) = (wTally E a S).map (fun q => q.1) := rfl
noncomputable def f_X2_twinBits_63 (k5 : Int32 → Int32 → Int32 → Int32 → St → Option Int32) (k26 : Int32 → Int32 → Int32 → Int32 → Int32 → Int32 → St → Option Int32) (x1 : Int32) (x2 : Int32) (x3 : Int32) (x4 : Int32) (x5 : Int32) (x6 : Int32) (S : St) : Option Int32 := (k26 x1 x2 x3 x4 x5 (x6 + (1 : Int32)) S)
noncomputable def f_X2_twinBits_69 (k5 : Int32 → Int32 → Int32 → Int32 → St → Option Int32) (x1 : Int32) (x2 : Int32) (x3 : Int32) (x4 : Int32) (S : St) : Option Int32 := (k5 x1 x2 x3 (x4 + (1 : Int32)) S)
noncomputable def f_X2_twinBits_26 (k5 : Int32 → Int32 → Int32 → Int32 → St → Option Int32) (n : Nat) : Int32 → Int32 → Int32 → Int32 → Int32 → Int32 → St → Option Int32 := Nat.rec (motive := fun _ => Int32 → Int32 → Int32 → Int32 → Int32 → Int32 → St → Option Int32) (fun _ _ _ _ _ _ _ => none) (fun _ ih => fun x1 x2 x3 x4 x5 x6 S => (if x1 ≤ x6 then (f_X2_twinBits_69 k5 x1 x2 x3 x4 S) else (if x5 = (-4 : Int32) then (f_X2_twinBits_69 k5 x1 x2 x3 x4 S) else ((f_X2_valueOf x6 x2 S).bind (fun q1 => (if q1 = x5 then (f_X2_twinBits_63 k5 ih x1 x2 (x3 ||| (((1 : Int32) <<< (x4 &&& 31)) ||| ((1 : Int32) <<< (x6 &&& 31)))) x4 x5 x6 S) else (f_X2_twinBits_63 k5 ih x1 x2 x3 x4 x5 x6 S))))))) n
theorem f_X2_twinBits_26_s (k5 : Int32 → Int32 → Int32 → Int32 → St → Option Int32) (n : Nat) (x1 : Int32) (x2 : Int32) (x3 : Int32) (x4 : Int32) (x5 : Int32) (x6 : Int32) (S : St) : f_X2_twinBits_26 k5 (n + 1) x1 x2 x3 x4 x5 x6 S = (if x1 ≤ x6 then (f_X2_twinBits_69 k5 x1 x2 x3 x4 S) else (if x5 = (-4 : Int32) then (f_X2_twinBits_69 k5 x1 x2 x3 x4 S) else ((f_X2_valueOf x6 x2 S).bind (fun q1 => (if q1 = x5 then (f_X2_twinBits_63 k5 (f_X2_twinBits_26 k5 n) x1 x2 (x3 ||| (((1 : Int32) <<< (x4 &&& 31)) ||| ((1 : Int32) <<< (x6 &&& 31)))) x4 x5 x6 S) else (f_X2_twinBits_63 k5 (f_X2_twinBits_26 k5 n) x1 x2 x3 x4 x5 x6 S)))))) := rfl
noncomputable def f_X2_twinBits_5 (n : Nat) : Int32 → Int32 → Int32 → Int32 → St → Option Int32 := Nat.rec (motive := fun _ => Int32 → Int32 → Int32 → Int32 → St → Option Int32) (fun _ _ _ _ _ => none) (fun _ ih => fun x1 x2 x3 x4 S => (if x1 ≤ x4 then (some x3) else ((f_X2_valueOf x4 x2 S).bind (fun q2 => (f_X2_twinBits_26 ih 1000 x1 x2 x3 x4 q2 (x4 + (1 : Int32)) S))))) n
theorem f_X2_twinBits_5_s (n : Nat) (x1 : Int32) (x2 : Int32) (x3 : Int32) (x4 : Int32) (S : St) : f_X2_twinBits_5 (n + 1) x1 x2 x3 x4 S = (if x1 ≤ x4 then (some x3) else ((f_X2_valueOf x4 x2 S).bind (fun q2 => (f_X2_twinBits_26 (f_X2_twinBits_5 n) 1000 x1 x2 x3 x4 q2 (x4 + (1 : Int32)) S)))) := rfl
noncomputable def f_X2_twinBits (x1 : Int32) (x2 : Int32) (S : St) : Option Int32 := (f_X2_twinBits_5 1000 x1 x2 (0 : Int32) (0 : Int32) S)
set_option maxHeartbeats 4000000 in
set_option maxRecDepth 100000 in
theorem L_X2_twinBits_63 {E : zEnv} {Γ : zG} (a : Nat → Nat) (C : zC E Γ cX2_twinBits RX2 7 rm_X2_twinBits wsX2_twinBits) {res : Int32} {S : St} (R : zRi E Γ cX2_twinBits 7 .int (wTally E a S) res) (k5 : Int32 → Int32 → Int32 → Int32 → St → Option Int32) (hk5 : ∀ (x1 : Int32) (x2 : Int32) (x3 : Int32) (x4 : Int32), k5 x1 x2 x3 x4 S = some res → Zt E Γ 7 0 0 (wTally E a S) [(0, .ref (a 0)), (1, .int x1), (2, .int x2), (3, .int x3), (4, .int x4)] 5 []) (k26 : Int32 → Int32 → Int32 → Int32 → Int32 → Int32 → St → Option Int32) (hk26 : ∀ (x1 : Int32) (x2 : Int32) (x3 : Int32) (x4 : Int32) (x5 : Int32) (x6 : Int32), k26 x1 x2 x3 x4 x5 x6 S = some res → Zt E Γ 7 0 0 (wTally E a S) [(0, .ref (a 0)), (1, .int x1), (2, .int x2), (3, .int x3), (4, .int x4), (5, .int x5), (6, .int x6)] 26 []) (x1 : Int32) (x2 : Int32) (x3 : Int32) (x4 : Int32) (x5 : Int32) (x6 : Int32) (h : f_X2_twinBits_63 k5 k26 x1 x2 x3 x4 x5 x6 S = some res) : Zt E Γ 7 0 0 (wTally E a S) [(0, .ref (a 0)), (1, .int x1), (2, .int x2), (3, .int x3), (4, .int x4), (5, .int x5), (6, .int x6)] 63 [] := by
  unfold f_X2_twinBits_63 at h
  refine z_iinc C [(6, .int (x6 + (1 : Int32))), (0, .ref (a 0)), (1, .int x1), (2, .int x2), (3, .int x3), (4, .int x4), (5, .int x5)] 6 rfl (by first | rfl | decide) (by decide) rfl dX2_twinBits_63 ?_
  refine z_goto C 26 (by decide) dX2_twinBits_66 ?_
  refine Zt_l [(0, .ref (a 0)), (1, .int x1), (2, .int x2), (3, .int x3), (4, .int x4), (5, .int x5), (6, .int (x6 + (1 : Int32)))] [1, 2, 3, 4, 5, 6, 0] rfl ?_
  exact hk26 x1 x2 x3 x4 x5 (x6 + (1 : Int32)) h

set_option maxHeartbeats 4000000 in
set_option maxRecDepth 100000 in
theorem L_X2_twinBits_69 {E : zEnv} {Γ : zG} (a : Nat → Nat) (C : zC E Γ cX2_twinBits RX2 7 rm_X2_twinBits wsX2_twinBits) {res : Int32} {S : St} (R : zRi E Γ cX2_twinBits 7 .int (wTally E a S) res) (k5 : Int32 → Int32 → Int32 → Int32 → St → Option Int32) (hk5 : ∀ (x1 : Int32) (x2 : Int32) (x3 : Int32) (x4 : Int32), k5 x1 x2 x3 x4 S = some res → Zt E Γ 7 0 0 (wTally E a S) [(0, .ref (a 0)), (1, .int x1), (2, .int x2), (3, .int x3), (4, .int x4)] 5 []) (x1 : Int32) (x2 : Int32) (x3 : Int32) (x4 : Int32) (h : f_X2_twinBits_69 k5 x1 x2 x3 x4 S = some res) : Zt E Γ 7 0 0 (wTally E a S) [(0, .ref (a 0)), (1, .int x1), (2, .int x2), (3, .int x3), (4, .int x4)] 69 [] := by
  unfold f_X2_twinBits_69 at h
  refine z_iinc C [(4, .int (x4 + (1 : Int32))), (0, .ref (a 0)), (1, .int x1), (2, .int x2), (3, .int x3)] 4 rfl (by first | rfl | decide) (by decide) rfl dX2_twinBits_69 ?_
  refine z_goto C 5 (by decide) dX2_twinBits_72 ?_
  refine Zt_l [(0, .ref (a 0)), (1, .int x1), (2, .int x2), (3, .int x3), (4, .int (x4 + (1 : Int32)))] [1, 2, 3, 4, 0] rfl ?_
  exact hk5 x1 x2 x3 (x4 + (1 : Int32)) h

set_option maxHeartbeats 4000000 in
set_option maxRecDepth 100000 in
theorem L_X2_twinBits_26 {E : zEnv} {Γ : zG} (a : Nat → Nat) (C : zC E Γ cX2_twinBits RX2 7 rm_X2_twinBits wsX2_twinBits) {res : Int32} {S : St} (R : zRi E Γ cX2_twinBits 7 .int (wTally E a S) res) (k5 : Int32 → Int32 → Int32 → Int32 → St → Option Int32) (hk5 : ∀ (x1 : Int32) (x2 : Int32) (x3 : Int32) (x4 : Int32), k5 x1 x2 x3 x4 S = some res → Zt E Γ 7 0 0 (wTally E a S) [(0, .ref (a 0)), (1, .int x1), (2, .int x2), (3, .int x3), (4, .int x4)] 5 []) : ∀ (n : Nat) (x1 : Int32) (x2 : Int32) (x3 : Int32) (x4 : Int32) (x5 : Int32) (x6 : Int32), f_X2_twinBits_26 k5 n x1 x2 x3 x4 x5 x6 S = some res → Zt E Γ 7 0 0 (wTally E a S) [(0, .ref (a 0)), (1, .int x1), (2, .int x2), (3, .int x3), (4, .int x4), (5, .int x5), (6, .int x6)] 26 [] := by
  intro n
  induction n with
  | zero =>
    intro x1 x2 x3 x4 x5 x6 h
    cases h
  | succ n ih =>
    intro x1 x2 x3 x4 x5 x6 h
    rw [f_X2_twinBits_26_s] at h
    refine z_iload C 6 rfl dX2_twinBits_26 ?_
    refine z_iload_n C 1 rfl rfl dX2_twinBits_28 ?_
    refine z_icmp_ge C 69 (by decide) h dX2_twinBits_29 (fun hc h => ?_) (fun hc h => ?_)
    · refine Zt_l [(0, .ref (a 0)), (1, .int x1), (2, .int x2), (3, .int x3), (4, .int x4)] [0, 1, 2, 3, 4] rfl ?_
      exact L_X2_twinBits_69 a C R k5 hk5 x1 x2 x3 x4 h
    · refine z_iload C 5 rfl dX2_twinBits_32 ?_
      refine z_bipush C (v := (-4 : Int32)) (by decide) dX2_twinBits_34 ?_
      refine z_icmp_eq C 69 (by decide) h dX2_twinBits_36 (fun hc h => ?_) (fun hc h => ?_)
      · refine Zt_l [(0, .ref (a 0)), (1, .int x1), (2, .int x2), (3, .int x3), (4, .int x4)] [0, 1, 2, 3, 4] rfl ?_
        exact L_X2_twinBits_69 a C R k5 hk5 x1 x2 x3 x4 h
      · refine z_aload_n C 0 rfl rfl dX2_twinBits_39 ?_
        refine z_iload C 6 rfl dX2_twinBits_40 ?_
        refine z_iload_n C 2 rfl rfl dX2_twinBits_42 ?_
        obtain ⟨q1, e1, h⟩ := bd_e h
        refine z_callVi C (b := a 0) (As := [.int x6, .int x2]) (rest := []) (c_X2_valueOf E a x6 x2 S e1) rfl gX2_twinBits_X2_valueOf rfl rfl rfl 2 rfl (by decide +kernel) ⟨Nat.le_of_ble_eq_true rfl, Nat.le_of_ble_eq_true rfl⟩ [0, 1, 2, 3, 4] (wl_X2_twinBits_0 E a S) (by decide) rfl (wTally E a S) (zrep_self (wl_X2_twinBits_0 E a S)) 0 2 rfl rfl rfl (Nat.le_of_ble_eq_true rfl) dX2_twinBits_43 ⟨Nat.zero_le _, Nat.zero_le _⟩ _ rfl ?_
        refine z_iload C 5 rfl dX2_twinBits_46 ?_
        refine z_icmp_ne C 63 (by decide) h dX2_twinBits_48 (fun hc h => ?_) (fun hc h => ?_)
        · refine z_iload_n C 3 rfl rfl dX2_twinBits_51 ?_
          refine z_iconst C (v := (1 : Int32)) (by decide) dX2_twinBits_52 ?_
          refine z_iload C 4 rfl dX2_twinBits_53 ?_
          refine z_ishl C dX2_twinBits_55 ?_
          refine z_iconst C (v := (1 : Int32)) (by decide) dX2_twinBits_56 ?_
          refine z_iload C 6 rfl dX2_twinBits_57 ?_
          refine z_ishl C dX2_twinBits_59 ?_
          refine z_ior C dX2_twinBits_60 ?_
          refine z_ior C dX2_twinBits_61 ?_
          refine z_istore_n C [(3, .int (x3 ||| (((1 : Int32) <<< (x4 &&& 31)) ||| ((1 : Int32) <<< (x6 &&& 31))))), (0, .ref (a 0)), (1, .int x1), (2, .int x2), (4, .int x4), (5, .int x5), (6, .int x6)] rfl (by decide) rfl dX2_twinBits_62 ?_
          refine Zt_l [(0, .ref (a 0)), (1, .int x1), (2, .int x2), (3, .int (x3 ||| (((1 : Int32) <<< (x4 &&& 31)) ||| ((1 : Int32) <<< (x6 &&& 31))))), (4, .int x4), (5, .int x5), (6, .int x6)] [1, 2, 3, 0, 4, 5, 6] rfl ?_
          exact L_X2_twinBits_63 a C R k5 hk5 _ ih x1 x2 (x3 ||| (((1 : Int32) <<< (x4 &&& 31)) ||| ((1 : Int32) <<< (x6 &&& 31)))) x4 x5 x6 h
        · exact L_X2_twinBits_63 a C R k5 hk5 _ ih x1 x2 x3 x4 x5 x6 h

set_option maxHeartbeats 4000000 in
set_option maxRecDepth 100000 in
theorem L_X2_twinBits_5 {E : zEnv} {Γ : zG} (a : Nat → Nat) (C : zC E Γ cX2_twinBits RX2 7 rm_X2_twinBits wsX2_twinBits) {res : Int32} {S : St} (R : zRi E Γ cX2_twinBits 7 .int (wTally E a S) res) : ∀ (n : Nat) (x1 : Int32) (x2 : Int32) (x3 : Int32) (x4 : Int32), f_X2_twinBits_5 n x1 x2 x3 x4 S = some res → Zt E Γ 7 0 0 (wTally E a S) [(0, .ref (a 0)), (1, .int x1), (2, .int x2), (3, .int x3), (4, .int x4)] 5 [] := by
  intro n
  induction n with
  | zero =>
    intro x1 x2 x3 x4 h
    cases h
  | succ n ih =>
    intro x1 x2 x3 x4 h
    rw [f_X2_twinBits_5_s] at h
    refine z_iload C 4 rfl dX2_twinBits_5 ?_
    refine z_iload_n C 1 rfl rfl dX2_twinBits_7 ?_
    refine z_icmp_ge C 75 (by decide) h dX2_twinBits_8 (fun hc h => ?_) (fun hc h => ?_)
    · refine z_iload_n C 3 rfl rfl dX2_twinBits_75 ?_
      obtain rfl := Option.some.inj h
      exact R rfl 76 _ dX2_twinBits_76
    · refine z_aload_n C 0 rfl rfl dX2_twinBits_11 ?_
      refine z_iload C 4 rfl dX2_twinBits_12 ?_
      refine z_iload_n C 2 rfl rfl dX2_twinBits_14 ?_
      obtain ⟨q2, e2, h⟩ := bd_e h
      refine z_callVi C (b := a 0) (As := [.int x4, .int x2]) (rest := []) (c_X2_valueOf E a x4 x2 S e2) rfl gX2_twinBits_X2_valueOf rfl rfl rfl 2 rfl (by decide +kernel) ⟨Nat.le_of_ble_eq_true rfl, Nat.le_of_ble_eq_true rfl⟩ [0, 1, 2, 3, 4] (wl_X2_twinBits_0 E a S) (by decide) rfl (wTally E a S) (zrep_self (wl_X2_twinBits_0 E a S)) 0 2 rfl rfl rfl (Nat.le_of_ble_eq_true rfl) dX2_twinBits_15 ⟨Nat.zero_le _, Nat.zero_le _⟩ _ rfl ?_
      refine z_istore C [(5, .int q2), (0, .ref (a 0)), (1, .int x1), (2, .int x2), (3, .int x3), (4, .int x4)] (by decide) rfl dX2_twinBits_18 ?_
      refine z_iload C 5 rfl dX2_twinBits_20 ?_
      refine z_iconst C (v := (1 : Int32)) (by decide) dX2_twinBits_22 ?_
      refine z_iadd C dX2_twinBits_23 ?_
      refine z_istore C [(6, .int (x4 + (1 : Int32))), (5, .int q2), (0, .ref (a 0)), (1, .int x1), (2, .int x2), (3, .int x3), (4, .int x4)] (by decide) rfl dX2_twinBits_24 ?_
      refine Zt_l [(0, .ref (a 0)), (1, .int x1), (2, .int x2), (3, .int x3), (4, .int x4), (5, .int q2), (6, .int (x4 + (1 : Int32)))] [2, 3, 4, 5, 6, 1, 0] rfl ?_
      exact L_X2_twinBits_26 a C R _ ih 1000 x1 x2 x3 x4 q2 (x4 + (1 : Int32)) h

set_option maxHeartbeats 4000000 in
set_option maxRecDepth 100000 in
theorem L_X2_twinBits {E : zEnv} {Γ : zG} (a : Nat → Nat) (C : zC E Γ cX2_twinBits RX2 7 rm_X2_twinBits wsX2_twinBits) {res : Int32} {S : St} (R : zRi E Γ cX2_twinBits 7 .int (wTally E a S) res) (x1 : Int32) (x2 : Int32) (h : f_X2_twinBits x1 x2 S = some res) : Zt E Γ 7 0 0 (wTally E a S) [(0, .ref (a 0)), (1, .int x1), (2, .int x2)] 0 [] := by
  unfold f_X2_twinBits at h
  refine z_iconst C (v := (0 : Int32)) (by decide) dX2_twinBits_0 ?_
  refine z_istore_n C [(3, .int (0 : Int32)), (0, .ref (a 0)), (1, .int x1), (2, .int x2)] rfl (by decide) rfl dX2_twinBits_1 ?_
  refine z_iconst C (v := (0 : Int32)) (by decide) dX2_twinBits_2 ?_
  refine z_istore C [(4, .int (0 : Int32)), (3, .int (0 : Int32)), (0, .ref (a 0)), (1, .int x1), (2, .int x2)] (by decide) rfl dX2_twinBits_3 ?_
  refine Zt_l [(0, .ref (a 0)), (1, .int x1), (2, .int x2), (3, .int (0 : Int32)), (4, .int (0 : Int32))] [2, 3, 4, 1, 0] rfl ?_
  exact L_X2_twinBits_5 a C R 1000 x1 x2 (0 : Int32) (0 : Int32) h

theorem c_X2_twinBits (E : zEnv) (a : Nat → Nat) (x1 : Int32) (x2 : Int32) (S : St) {res : Int32} (h : f_X2_twinBits x1 x2 S = some res) : Kti E yX2_twinBits wsX2_twinBits rm_X2_twinBits (wTally E a S) (wTally E a S) [.ref (a 0), .int x1, .int x2] res :=
  z_enti (cc := cX2_twinBits) (maxL := 7) (rt := .int) (by decide +kernel) rfl (Nat.le_of_ble_eq_true rfl) (fun Γ C R => L_X2_twinBits a C R x1 x2 h)

abbrev rm_X2_rankOf : Room := { frames := 1, cells := 0, slots := 0, locals := 22 }
theorem inw_X2_rankOf_X2 : ∀ w ∈ wsX20, w ∈ wsX2_rankOf := fun _ h => List.mem_cons_of_mem _ (List.mem_append_right _ h)
set_option maxHeartbeats 4000000 in
theorem wl_X2_rankOf_0 (E : zEnv) (a : Nat → Nat) (S : St) : ([0, 1, 2, 3, 4] : List Nat).map (fun i => (wTally E a S)[i]?) = (wTally E a S).map some := rfl
set_option maxHeartbeats 4000000 in
theorem wl_X2_rankOf_1 (E : zEnv) (a : Nat → Nat) (S U : St) : (wTally E a U).map (fun q => q.1) = (wTally E a S).map (fun q => q.1) := rfl
noncomputable def f_X2_rankOf_52 (k14 : Int32 → Int32 → Int32 → Int32 → Int32 → Int32 → St → Option Int32) (x1 : Int32) (x2 : Int32) (x3 : Int32) (x4 : Int32) (x5 : Int32) (x6 : Int32) (S : St) : Option Int32 := (k14 x1 x2 x3 x4 x5 (x6 + (1 : Int32)) S)
noncomputable def f_X2_rankOf_49 (k14 : Int32 → Int32 → Int32 → Int32 → Int32 → Int32 → St → Option Int32) (x1 : Int32) (x2 : Int32) (x3 : Int32) (x4 : Int32) (x5 : Int32) (x6 : Int32) (S : St) : Option Int32 := (f_X2_rankOf_52 k14 x1 x2 x3 x4 (x5 + (1 : Int32)) x6 S)
noncomputable def f_X2_rankOf_14 (n : Nat) : Int32 → Int32 → Int32 → Int32 → Int32 → Int32 → St → Option Int32 := Nat.rec (motive := fun _ => Int32 → Int32 → Int32 → Int32 → Int32 → Int32 → St → Option Int32) (fun _ _ _ _ _ _ _ => none) (fun _ ih => fun x1 x2 x3 x4 x5 x6 S => (if x2 ≤ x6 then (some x5) else ((f_X2_valueOf x6 x3 S).bind (fun q1 => (if x4 < q1 then (f_X2_rankOf_49 ih x1 x2 x3 x4 x5 x6 S) else (if q1 = x4 then (if x1 ≤ x6 then (f_X2_rankOf_52 ih x1 x2 x3 x4 x5 x6 S) else (f_X2_rankOf_49 ih x1 x2 x3 x4 x5 x6 S)) else (f_X2_rankOf_52 ih x1 x2 x3 x4 x5 x6 S))))))) n
theorem f_X2_rankOf_14_s (n : Nat) (x1 : Int32) (x2 : Int32) (x3 : Int32) (x4 : Int32) (x5 : Int32) (x6 : Int32) (S : St) : f_X2_rankOf_14 (n + 1) x1 x2 x3 x4 x5 x6 S = (if x2 ≤ x6 then (some x5) else ((f_X2_valueOf x6 x3 S).bind (fun q1 => (if x4 < q1 then (f_X2_rankOf_49 (f_X2_rankOf_14 n) x1 x2 x3 x4 x5 x6 S) else (if q1 = x4 then (if x1 ≤ x6 then (f_X2_rankOf_52 (f_X2_rankOf_14 n) x1 x2 x3 x4 x5 x6 S) else (f_X2_rankOf_49 (f_X2_rankOf_14 n) x1 x2 x3 x4 x5 x6 S)) else (f_X2_rankOf_52 (f_X2_rankOf_14 n) x1 x2 x3 x4 x5 x6 S)))))) := rfl
noncomputable def f_X2_rankOf (x1 : Int32) (x2 : Int32) (x3 : Int32) (S : St) : Option Int32 := ((f_X2_valueOf x1 x3 S).bind (fun q2 => (f_X2_rankOf_14 1000 x1 x2 x3 q2 (0 : Int32) (0 : Int32) S)))
set_option maxHeartbeats 4000000 in
set_option maxRecDepth 100000 in
theorem L_X2_rankOf_52 {E : zEnv} {Γ : zG} (a : Nat → Nat) (C : zC E Γ cX2_rankOf RX2 8 rm_X2_rankOf wsX2_rankOf) {res : Int32} {S : St} (R : zRi E Γ cX2_rankOf 8 .int (wTally E a S) res) (k14 : Int32 → Int32 → Int32 → Int32 → Int32 → Int32 → St → Option Int32) (hk14 : ∀ (x1 : Int32) (x2 : Int32) (x3 : Int32) (x4 : Int32) (x5 : Int32) (x6 : Int32), k14 x1 x2 x3 x4 x5 x6 S = some res → Zt E Γ 8 0 0 (wTally E a S) [(0, .ref (a 0)), (1, .int x1), (2, .int x2), (3, .int x3), (4, .int x4), (5, .int x5), (6, .int x6)] 14 []) (x1 : Int32) (x2 : Int32) (x3 : Int32) (x4 : Int32) (x5 : Int32) (x6 : Int32) (h : f_X2_rankOf_52 k14 x1 x2 x3 x4 x5 x6 S = some res) : Zt E Γ 8 0 0 (wTally E a S) [(0, .ref (a 0)), (1, .int x1), (2, .int x2), (3, .int x3), (4, .int x4), (5, .int x5), (6, .int x6)] 52 [] := by
  unfold f_X2_rankOf_52 at h
  refine z_iinc C [(6, .int (x6 + (1 : Int32))), (0, .ref (a 0)), (1, .int x1), (2, .int x2), (3, .int x3), (4, .int x4), (5, .int x5)] 6 rfl (by first | rfl | decide) (by decide) rfl dX2_rankOf_52 ?_
  refine z_goto C 14 (by decide) dX2_rankOf_55 ?_
  refine Zt_l [(0, .ref (a 0)), (1, .int x1), (2, .int x2), (3, .int x3), (4, .int x4), (5, .int x5), (6, .int (x6 + (1 : Int32)))] [1, 2, 3, 4, 5, 6, 0] rfl ?_
  exact hk14 x1 x2 x3 x4 x5 (x6 + (1 : Int32)) h

set_option maxHeartbeats 4000000 in
set_option maxRecDepth 100000 in
theorem L_X2_rankOf_49 {E : zEnv} {Γ : zG} (a : Nat → Nat) (C : zC E Γ cX2_rankOf RX2 8 rm_X2_rankOf wsX2_rankOf) {res : Int32} {S : St} (R : zRi E Γ cX2_rankOf 8 .int (wTally E a S) res) (k14 : Int32 → Int32 → Int32 → Int32 → Int32 → Int32 → St → Option Int32) (hk14 : ∀ (x1 : Int32) (x2 : Int32) (x3 : Int32) (x4 : Int32) (x5 : Int32) (x6 : Int32), k14 x1 x2 x3 x4 x5 x6 S = some res → Zt E Γ 8 0 0 (wTally E a S) [(0, .ref (a 0)), (1, .int x1), (2, .int x2), (3, .int x3), (4, .int x4), (5, .int x5), (6, .int x6)] 14 []) (x1 : Int32) (x2 : Int32) (x3 : Int32) (x4 : Int32) (x5 : Int32) (x6 : Int32) (h : f_X2_rankOf_49 k14 x1 x2 x3 x4 x5 x6 S = some res) : Zt E Γ 8 0 0 (wTally E a S) [(0, .ref (a 0)), (1, .int x1), (2, .int x2), (3, .int x3), (4, .int x4), (5, .int x5), (6, .int x6)] 49 [] := by
  unfold f_X2_rankOf_49 at h
  refine z_iinc C [(5, .int (x5 + (1 : Int32))), (0, .ref (a 0)), (1, .int x1), (2, .int x2), (3, .int x3), (4, .int x4), (6, .int x6)] 5 rfl (by first | rfl | decide) (by decide) rfl dX2_rankOf_49 ?_
  refine Zt_l [(0, .ref (a 0)), (1, .int x1), (2, .int x2), (3, .int x3), (4, .int x4), (5, .int (x5 + (1 : Int32))), (6, .int x6)] [1, 2, 3, 4, 5, 0, 6] rfl ?_
  exact L_X2_rankOf_52 a C R k14 hk14 x1 x2 x3 x4 (x5 + (1 : Int32)) x6 h

set_option maxHeartbeats 4000000 in
set_option maxRecDepth 100000 in
theorem L_X2_rankOf_14 {E : zEnv} {Γ : zG} (a : Nat → Nat) (C : zC E Γ cX2_rankOf RX2 8 rm_X2_rankOf wsX2_rankOf) {res : Int32} {S : St} (R : zRi E Γ cX2_rankOf 8 .int (wTally E a S) res) : ∀ (n : Nat) (x1 : Int32) (x2 : Int32) (x3 : Int32) (x4 : Int32) (x5 : Int32) (x6 : Int32), f_X2_rankOf_14 n x1 x2 x3 x4 x5 x6 S = some res → Zt E Γ 8 0 0 (wTally E a S) [(0, .ref (a 0)), (1, .int x1), (2, .int x2), (3, .int x3), (4, .int x4), (5, .int x5), (6, .int x6)] 14 [] := by
  intro n
  induction n with
  | zero =>
    intro x1 x2 x3 x4 x5 x6 h
    cases h
  | succ n ih =>
    intro x1 x2 x3 x4 x5 x6 h
    rw [f_X2_rankOf_14_s] at h
    refine z_iload C 6 rfl dX2_rankOf_14 ?_
    refine z_iload_n C 2 rfl rfl dX2_rankOf_16 ?_
    refine z_icmp_ge C 58 (by decide) h dX2_rankOf_17 (fun hc h => ?_) (fun hc h => ?_)
    · refine z_iload C 5 rfl dX2_rankOf_58 ?_
      obtain rfl := Option.some.inj h
      exact R rfl 60 _ dX2_rankOf_60
    · refine z_aload_n C 0 rfl rfl dX2_rankOf_20 ?_
      refine z_iload C 6 rfl dX2_rankOf_21 ?_
      refine z_iload_n C 3 rfl rfl dX2_rankOf_23 ?_
      obtain ⟨q1, e1, h⟩ := bd_e h
      refine z_callVi C (b := a 0) (As := [.int x6, .int x3]) (rest := []) (c_X2_valueOf E a x6 x3 S e1) rfl gX2_rankOf_X2_valueOf rfl rfl rfl 2 rfl (by decide +kernel) ⟨Nat.le_of_ble_eq_true rfl, Nat.le_of_ble_eq_true rfl⟩ [0, 1, 2, 3, 4] (wl_X2_rankOf_0 E a S) (by decide) rfl (wTally E a S) (zrep_self (wl_X2_rankOf_0 E a S)) 0 2 rfl rfl rfl (Nat.le_of_ble_eq_true rfl) dX2_rankOf_24 ⟨Nat.zero_le _, Nat.zero_le _⟩ _ rfl ?_
      refine z_istore C [(7, .int q1), (0, .ref (a 0)), (1, .int x1), (2, .int x2), (3, .int x3), (4, .int x4), (5, .int x5), (6, .int x6)] (by decide) rfl dX2_rankOf_27 ?_
      refine z_iload C 0 rfl dX2_rankOf_29 ?_
      refine z_iload C 5 rfl dX2_rankOf_31 ?_
      refine z_icmp_gt C 49 (by decide) h dX2_rankOf_33 (fun hc h => ?_) (fun hc h => ?_)
      · refine Zt_l [(0, .ref (a 0)), (1, .int x1), (2, .int x2), (3, .int x3), (4, .int x4), (5, .int x5), (6, .int x6)] [1, 2, 3, 4, 5, 6, 7] rfl ?_
        exact L_X2_rankOf_49 a C R _ ih x1 x2 x3 x4 x5 x6 h
      · refine z_iload C 0 rfl dX2_rankOf_36 ?_
        refine z_iload C 5 rfl dX2_rankOf_38 ?_
        refine z_icmp_ne C 52 (by decide) h dX2_rankOf_40 (fun hc h => ?_) (fun hc h => ?_)
        · refine z_iload C 7 rfl dX2_rankOf_43 ?_
          refine z_iload_n C 2 rfl rfl dX2_rankOf_45 ?_
          refine z_icmp_ge C 52 (by decide) h dX2_rankOf_46 (fun hc h => ?_) (fun hc h => ?_)
          · refine Zt_l [(0, .ref (a 0)), (1, .int x1), (2, .int x2), (3, .int x3), (4, .int x4), (5, .int x5), (6, .int x6)] [1, 2, 3, 4, 5, 6, 7] rfl ?_
            exact L_X2_rankOf_52 a C R _ ih x1 x2 x3 x4 x5 x6 h
          · refine Zt_l [(0, .ref (a 0)), (1, .int x1), (2, .int x2), (3, .int x3), (4, .int x4), (5, .int x5), (6, .int x6)] [1, 2, 3, 4, 5, 6, 7] rfl ?_
            exact L_X2_rankOf_49 a C R _ ih x1 x2 x3 x4 x5 x6 h
        · refine Zt_l [(0, .ref (a 0)), (1, .int x1), (2, .int x2), (3, .int x3), (4, .int x4), (5, .int x5), (6, .int x6)] [1, 2, 3, 4, 5, 6, 7] rfl ?_
          exact L_X2_rankOf_52 a C R _ ih x1 x2 x3 x4 x5 x6 h

set_option maxHeartbeats 4000000 in
set_option maxRecDepth 100000 in
theorem L_X2_rankOf {E : zEnv} {Γ : zG} (a : Nat → Nat) (C : zC E Γ cX2_rankOf RX2 8 rm_X2_rankOf wsX2_rankOf) {res : Int32} {S : St} (R : zRi E Γ cX2_rankOf 8 .int (wTally E a S) res) (x1 : Int32) (x2 : Int32) (x3 : Int32) (h : f_X2_rankOf x1 x2 x3 S = some res) : Zt E Γ 8 0 0 (wTally E a S) [(0, .ref (a 0)), (1, .int x1), (2, .int x2), (3, .int x3)] 0 [] := by
  unfold f_X2_rankOf at h
  refine z_aload_n C 0 rfl rfl dX2_rankOf_0 ?_
  refine z_iload_n C 1 rfl rfl dX2_rankOf_1 ?_
  refine z_iload_n C 3 rfl rfl dX2_rankOf_2 ?_
  obtain ⟨q2, e2, h⟩ := bd_e h
  refine z_callVi C (b := a 0) (As := [.int x1, .int x3]) (rest := []) (c_X2_valueOf E a x1 x3 S e2) rfl gX2_rankOf_X2_valueOf rfl rfl rfl 2 rfl (by decide +kernel) ⟨Nat.le_of_ble_eq_true rfl, Nat.le_of_ble_eq_true rfl⟩ [0, 1, 2, 3, 4] (wl_X2_rankOf_0 E a S) (by decide) rfl (wTally E a S) (zrep_self (wl_X2_rankOf_0 E a S)) 0 2 rfl rfl rfl (Nat.le_of_ble_eq_true rfl) dX2_rankOf_3 ⟨Nat.zero_le _, Nat.zero_le _⟩ _ rfl ?_
  refine z_istore C [(4, .int q2), (0, .ref (a 0)), (1, .int x1), (2, .int x2), (3, .int x3)] (by decide) rfl dX2_rankOf_6 ?_
  refine z_iconst C (v := (0 : Int32)) (by decide) dX2_rankOf_8 ?_
  refine z_istore C [(5, .int (0 : Int32)), (4, .int q2), (0, .ref (a 0)), (1, .int x1), (2, .int x2), (3, .int x3)] (by decide) rfl dX2_rankOf_9 ?_
  refine z_iconst C (v := (0 : Int32)) (by decide) dX2_rankOf_11 ?_
  refine z_istore C [(6, .int (0 : Int32)), (5, .int (0 : Int32)), (4, .int q2), (0, .ref (a 0)), (1, .int x1), (2, .int x2), (3, .int x3)] (by decide) rfl dX2_rankOf_12 ?_
  refine Zt_l [(0, .ref (a 0)), (1, .int x1), (2, .int x2), (3, .int x3), (4, .int q2), (5, .int (0 : Int32)), (6, .int (0 : Int32))] [3, 4, 5, 6, 2, 1, 0] rfl ?_
  exact L_X2_rankOf_14 a C R 1000 x1 x2 x3 q2 (0 : Int32) (0 : Int32) h

theorem c_X2_rankOf (E : zEnv) (a : Nat → Nat) (x1 : Int32) (x2 : Int32) (x3 : Int32) (S : St) {res : Int32} (h : f_X2_rankOf x1 x2 x3 S = some res) : Kti E yX2_rankOf wsX2_rankOf rm_X2_rankOf (wTally E a S) (wTally E a S) [.ref (a 0), .int x1, .int x2, .int x3] res :=
  z_enti (cc := cX2_rankOf) (maxL := 8) (rt := .int) (by decide +kernel) rfl (Nat.le_of_ble_eq_true rfl) (fun Γ C R => L_X2_rankOf a C R x1 x2 x3 h)

abbrev rm_X2_greatest : Room := { frames := 1, cells := 0, slots := 0, locals := 22 }
theorem inw_X2_greatest_X2 : ∀ w ∈ wsX20, w ∈ wsX2_greatest := fun _ h => List.mem_cons_of_mem _ (List.mem_append_right _ h)
set_option maxHeartbeats 4000000 in
theorem wl_X2_greatest_0 (E : zEnv) (a : Nat → Nat) (S : St) : ([0, 1, 2, 3, 4] : List Nat).map (fun i => (wTally E a S)[i]?) = (wTally E a S).map some := rfl
set_option maxHeartbeats 4000000 in
theorem wl_X2_greatest_1 (E : zEnv) (a : Nat → Nat) (S U : St) : (wTally E a U).map (fun q => q.1) = (wTally E a S).map (fun q => q.1) := rfl
noncomputable def f_X2_greatest_50 (k11 : Int32 → Int32 → Int32 → Int32 → Int32 → Int32 → St → Option Int32) (x1 : Int32) (x2 : Int32) (x3 : Int32) (x4 : Int32) (x5 : Int32) (x6 : Int32) (S : St) : Option Int32 := (k11 x1 x2 x3 x4 x5 (x6 + (1 : Int32)) S)
noncomputable def f_X2_greatest_11 (n : Nat) : Int32 → Int32 → Int32 → Int32 → Int32 → Int32 → St → Option Int32 := Nat.rec (motive := fun _ => Int32 → Int32 → Int32 → Int32 → Int32 → Int32 → St → Option Int32) (fun _ _ _ _ _ _ _ => none) (fun _ ih => fun x1 x2 x3 x4 x5 x6 S => (if x1 ≤ x6 then (some x4) else ((f_X2_valueOf x6 x2 S).bind (fun q1 => (if (x3 &&& ((1 : Int32) <<< (x6 &&& 31))) = 0 then (if q1 ≤ x5 then (f_X2_greatest_50 ih x1 x2 x3 x4 x5 x6 S) else (f_X2_greatest_50 ih x1 x2 x3 x6 q1 x6 S)) else (f_X2_greatest_50 ih x1 x2 x3 x4 x5 x6 S)))))) n
theorem f_X2_greatest_11_s (n : Nat) (x1 : Int32) (x2 : Int32) (x3 : Int32) (x4 : Int32) (x5 : Int32) (x6 : Int32) (S : St) : f_X2_greatest_11 (n + 1) x1 x2 x3 x4 x5 x6 S = (if x1 ≤ x6 then (some x4) else ((f_X2_valueOf x6 x2 S).bind (fun q1 => (if (x3 &&& ((1 : Int32) <<< (x6 &&& 31))) = 0 then (if q1 ≤ x5 then (f_X2_greatest_50 (f_X2_greatest_11 n) x1 x2 x3 x4 x5 x6 S) else (f_X2_greatest_50 (f_X2_greatest_11 n) x1 x2 x3 x6 q1 x6 S)) else (f_X2_greatest_50 (f_X2_greatest_11 n) x1 x2 x3 x4 x5 x6 S))))) := rfl
noncomputable def f_X2_greatest (x1 : Int32) (x2 : Int32) (x3 : Int32) (S : St) : Option Int32 := (f_X2_greatest_11 1000 x1 x2 x3 (-4 : Int32) (-4 : Int32) (0 : Int32) S)
set_option maxHeartbeats 4000000 in
set_option maxRecDepth 100000 in
theorem L_X2_greatest_50 {E : zEnv} {Γ : zG} (a : Nat → Nat) (C : zC E Γ cX2_greatest RX2 8 rm_X2_greatest wsX2_greatest) {res : Int32} {S : St} (R : zRi E Γ cX2_greatest 8 .int (wTally E a S) res) (k11 : Int32 → Int32 → Int32 → Int32 → Int32 → Int32 → St → Option Int32) (hk11 : ∀ (x1 : Int32) (x2 : Int32) (x3 : Int32) (x4 : Int32) (x5 : Int32) (x6 : Int32), k11 x1 x2 x3 x4 x5 x6 S = some res → Zt E Γ 8 0 0 (wTally E a S) [(0, .ref (a 0)), (1, .int x1), (2, .int x2), (3, .int x3), (4, .int x4), (5, .int x5), (6, .int x6)] 11 []) (x1 : Int32) (x2 : Int32) (x3 : Int32) (x4 : Int32) (x5 : Int32) (x6 : Int32) (h : f_X2_greatest_50 k11 x1 x2 x3 x4 x5 x6 S = some res) : Zt E Γ 8 0 0 (wTally E a S) [(0, .ref (a 0)), (1, .int x1), (2, .int x2), (3, .int x3), (4, .int x4), (5, .int x5), (6, .int x6)] 50 [] := by
  unfold f_X2_greatest_50 at h
  refine z_iinc C [(6, .int (x6 + (1 : Int32))), (0, .ref (a 0)), (1, .int x1), (2, .int x2), (3, .int x3), (4, .int x4), (5, .int x5)] 6 rfl (by first | rfl | decide) (by decide) rfl dX2_greatest_50 ?_
  refine z_goto C 11 (by decide) dX2_greatest_53 ?_
  refine Zt_l [(0, .ref (a 0)), (1, .int x1), (2, .int x2), (3, .int x3), (4, .int x4), (5, .int x5), (6, .int (x6 + (1 : Int32)))] [1, 2, 3, 4, 5, 6, 0] rfl ?_
  exact hk11 x1 x2 x3 x4 x5 (x6 + (1 : Int32)) h

set_option maxHeartbeats 4000000 in
set_option maxRecDepth 100000 in
theorem L_X2_greatest_11 {E : zEnv} {Γ : zG} (a : Nat → Nat) (C : zC E Γ cX2_greatest RX2 8 rm_X2_greatest wsX2_greatest) {res : Int32} {S : St} (R : zRi E Γ cX2_greatest 8 .int (wTally E a S) res) : ∀ (n : Nat) (x1 : Int32) (x2 : Int32) (x3 : Int32) (x4 : Int32) (x5 : Int32) (x6 : Int32), f_X2_greatest_11 n x1 x2 x3 x4 x5 x6 S = some res → Zt E Γ 8 0 0 (wTally E a S) [(0, .ref (a 0)), (1, .int x1), (2, .int x2), (3, .int x3), (4, .int x4), (5, .int x5), (6, .int x6)] 11 [] := by
  intro n
  induction n with
  | zero =>
    intro x1 x2 x3 x4 x5 x6 h
    cases h
  | succ n ih =>
    intro x1 x2 x3 x4 x5 x6 h
    rw [f_X2_greatest_11_s] at h
    refine z_iload C 6 rfl dX2_greatest_11 ?_
    refine z_iload_n C 1 rfl rfl dX2_greatest_13 ?_
    refine z_icmp_ge C 56 (by decide) h dX2_greatest_14 (fun hc h => ?_) (fun hc h => ?_)
    · refine z_iload C 4 rfl dX2_greatest_56 ?_
      obtain rfl := Option.some.inj h
      exact R rfl 58 _ dX2_greatest_58
    · refine z_aload_n C 0 rfl rfl dX2_greatest_17 ?_
      refine z_iload C 6 rfl dX2_greatest_18 ?_
      refine z_iload_n C 2 rfl rfl dX2_greatest_20 ?_
      obtain ⟨q1, e1, h⟩ := bd_e h
      refine z_callVi C (b := a 0) (As := [.int x6, .int x2]) (rest := []) (c_X2_valueOf E a x6 x2 S e1) rfl gX2_greatest_X2_valueOf rfl rfl rfl 2 rfl (by decide +kernel) ⟨Nat.le_of_ble_eq_true rfl, Nat.le_of_ble_eq_true rfl⟩ [0, 1, 2, 3, 4] (wl_X2_greatest_0 E a S) (by decide) rfl (wTally E a S) (zrep_self (wl_X2_greatest_0 E a S)) 0 2 rfl rfl rfl (Nat.le_of_ble_eq_true rfl) dX2_greatest_21 ⟨Nat.zero_le _, Nat.zero_le _⟩ _ rfl ?_
      refine z_istore C [(7, .int q1), (0, .ref (a 0)), (1, .int x1), (2, .int x2), (3, .int x3), (4, .int x4), (5, .int x5), (6, .int x6)] (by decide) rfl dX2_greatest_24 ?_
      refine z_iload_n C 4 rfl rfl dX2_greatest_26 ?_
      refine z_iconst C (v := (1 : Int32)) (by decide) dX2_greatest_27 ?_
      refine z_iload C 7 rfl dX2_greatest_28 ?_
      refine z_ishl C dX2_greatest_30 ?_
      refine z_iand C dX2_greatest_31 ?_
      refine z_if_ne C 50 (by decide) h dX2_greatest_32 (fun hc h => ?_) (fun hc h => ?_)
      · refine z_iload C 0 rfl dX2_greatest_35 ?_
        refine z_iload C 6 rfl dX2_greatest_37 ?_
        refine z_icmp_le C 50 (by decide) h dX2_greatest_39 (fun hc h => ?_) (fun hc h => ?_)
        · refine Zt_l [(0, .ref (a 0)), (1, .int x1), (2, .int x2), (3, .int x3), (4, .int x4), (5, .int x5), (6, .int x6)] [1, 2, 3, 4, 5, 6, 7] rfl ?_
          exact L_X2_greatest_50 a C R _ ih x1 x2 x3 x4 x5 x6 h
        · refine z_iload C 7 rfl dX2_greatest_42 ?_
          refine z_istore C [(4, .int x6), (7, .int q1), (0, .ref (a 0)), (1, .int x1), (2, .int x2), (3, .int x3), (5, .int x5), (6, .int x6)] (by decide) rfl dX2_greatest_44 ?_
          refine z_iload C 1 rfl dX2_greatest_46 ?_
          refine z_istore C [(5, .int q1), (4, .int x6), (7, .int q1), (0, .ref (a 0)), (1, .int x1), (2, .int x2), (3, .int x3), (6, .int x6)] (by decide) rfl dX2_greatest_48 ?_
          refine Zt_l [(0, .ref (a 0)), (1, .int x1), (2, .int x2), (3, .int x3), (4, .int x6), (5, .int q1), (6, .int x6)] [3, 4, 5, 6, 1, 0, 7] rfl ?_
          exact L_X2_greatest_50 a C R _ ih x1 x2 x3 x6 q1 x6 h
      · refine Zt_l [(0, .ref (a 0)), (1, .int x1), (2, .int x2), (3, .int x3), (4, .int x4), (5, .int x5), (6, .int x6)] [1, 2, 3, 4, 5, 6, 7] rfl ?_
        exact L_X2_greatest_50 a C R _ ih x1 x2 x3 x4 x5 x6 h

set_option maxHeartbeats 4000000 in
set_option maxRecDepth 100000 in
theorem L_X2_greatest {E : zEnv} {Γ : zG} (a : Nat → Nat) (C : zC E Γ cX2_greatest RX2 8 rm_X2_greatest wsX2_greatest) {res : Int32} {S : St} (R : zRi E Γ cX2_greatest 8 .int (wTally E a S) res) (x1 : Int32) (x2 : Int32) (x3 : Int32) (h : f_X2_greatest x1 x2 x3 S = some res) : Zt E Γ 8 0 0 (wTally E a S) [(0, .ref (a 0)), (1, .int x1), (2, .int x2), (3, .int x3)] 0 [] := by
  unfold f_X2_greatest at h
  refine z_bipush C (v := (-4 : Int32)) (by decide) dX2_greatest_0 ?_
  refine z_istore C [(4, .int (-4 : Int32)), (0, .ref (a 0)), (1, .int x1), (2, .int x2), (3, .int x3)] (by decide) rfl dX2_greatest_2 ?_
  refine z_bipush C (v := (-4 : Int32)) (by decide) dX2_greatest_4 ?_
  refine z_istore C [(5, .int (-4 : Int32)), (4, .int (-4 : Int32)), (0, .ref (a 0)), (1, .int x1), (2, .int x2), (3, .int x3)] (by decide) rfl dX2_greatest_6 ?_
  refine z_iconst C (v := (0 : Int32)) (by decide) dX2_greatest_8 ?_
  refine z_istore C [(6, .int (0 : Int32)), (5, .int (-4 : Int32)), (4, .int (-4 : Int32)), (0, .ref (a 0)), (1, .int x1), (2, .int x2), (3, .int x3)] (by decide) rfl dX2_greatest_9 ?_
  refine Zt_l [(0, .ref (a 0)), (1, .int x1), (2, .int x2), (3, .int x3), (4, .int (-4 : Int32)), (5, .int (-4 : Int32)), (6, .int (0 : Int32))] [3, 4, 5, 6, 2, 1, 0] rfl ?_
  exact L_X2_greatest_11 a C R 1000 x1 x2 x3 (-4 : Int32) (-4 : Int32) (0 : Int32) h

theorem c_X2_greatest (E : zEnv) (a : Nat → Nat) (x1 : Int32) (x2 : Int32) (x3 : Int32) (S : St) {res : Int32} (h : f_X2_greatest x1 x2 x3 S = some res) : Kti E yX2_greatest wsX2_greatest rm_X2_greatest (wTally E a S) (wTally E a S) [.ref (a 0), .int x1, .int x2, .int x3] res :=
  z_enti (cc := cX2_greatest) (maxL := 8) (rt := .int) (by decide +kernel) rfl (Nat.le_of_ble_eq_true rfl) (fun Γ C R => L_X2_greatest a C R x1 x2 x3 h)
