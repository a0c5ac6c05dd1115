abbrev rm_X7_in : Room := { frames := 0, cells := 0, slots := 0, locals := 0 }
noncomputable def f_X7_in (x0 : Int64) (x2 : Int64) (x4 : Int64) : Option Int32 := (if (lg_cmp x0 x2) < 0 then (some (0 : Int32)) else (if 0 < (lg_cmp x0 x4) then (some (0 : Int32)) else (some (1 : Int32))))
set_option maxHeartbeats 4000000 in
set_option maxRecDepth 100000 in
theorem L_X7_in {E : zEnv} {Γ : zG} (C : zC E Γ cX7_in RX7 6 rm_X7_in wsX7_in) {res : Int32} (R : zRi E Γ cX7_in 6 .boolean [] res) (x0 : Int64) (x2 : Int64) (x4 : Int64) (h : f_X7_in x0 x2 x4 = some res) : Zt E Γ 6 0 0 [] [(0, .long x0), (2, .long x2), (4, .long x4)] 0 [] := by
  unfold f_X7_in at h
  refine z_lload_n C 0 rfl rfl dX7_in_0 ?_
  refine z_lload_n C 1 rfl rfl dX7_in_1 ?_
  refine z_lcmp C dX7_in_2 ?_
  refine z_if_lt C 17 (by decide) h dX7_in_3 (fun hc h => ?_) (fun hc h => ?_)
  · refine z_iconst C (v := (0 : Int32)) (by decide) dX7_in_17 ?_
    obtain rfl := Option.some.inj h
    exact R z_n0 18 _ dX7_in_18
  · refine z_lload_n C 0 rfl rfl dX7_in_6 ?_
    refine z_lload C 2 rfl dX7_in_7 ?_
    refine z_lcmp C dX7_in_9 ?_
    refine z_if_gt C 17 (by decide) h dX7_in_10 (fun hc h => ?_) (fun hc h => ?_)
    · refine z_iconst C (v := (0 : Int32)) (by decide) dX7_in_17 ?_
      obtain rfl := Option.some.inj h
      exact R z_n0 18 _ dX7_in_18
    · refine z_iconst C (v := (1 : Int32)) (by decide) dX7_in_13 ?_
      refine z_goto C 18 (by decide) dX7_in_14 ?_
      obtain rfl := Option.some.inj h
      exact R z_n1 18 _ dX7_in_18

theorem c_X7_in (E : zEnv) (x0 : Int64) (x2 : Int64) (x4 : Int64) {res : Int32} (h : f_X7_in x0 x2 x4 = some res) : Kti E yX7_in wsX7_in rm_X7_in [] [] [.long x0, .long x2, .long x4] res :=
  z_enti (cc := cX7_in) (maxL := 6) (rt := .boolean) (by decide +kernel) rfl (Nat.le_of_ble_eq_true rfl) (fun Γ C R => L_X7_in C R x0 x2 x4 h)

abbrev rm_X7_feed : Room := { frames := 0, cells := 0, slots := 0, locals := 0 }
theorem inw_X7_feed_X7 : ∀ w ∈ wsX70, w ∈ wsX7_feed := fun _ h => List.mem_cons_of_mem _ (List.mem_append_right _ h)
set_option maxHeartbeats 4000000 in
theorem wl_X7_feed_0 (E : zEnv) (a : Nat → Nat) (S : St) (f : Nat → Int32) : (wModel E a (st 8 f S)) = (wModel E a S).set 3 (a 3, .inl (zI E, 400, .inl f)) := rfl
set_option maxHeartbeats 4000000 in
theorem wl_X7_feed_1 (E : zEnv) (a : Nat → Nat) (S : St) (v : Int32) : (wModel E a (st 9 (fun _ => v) S)) = (wModel E a S).set 0 (a 0, .inr (7, List.set [.ref (a 1), .int (S 1 0), .ref (a 2), .int (S 3 0), .int (S 4 0), .int (S 5 0), .int (S 6 0), .int (S 7 0), .ref (a 3), .int (S 9 0), .int (S 10 0), .int (S 11 0), .int (S 12 0), .int (S 13 0), .int (S 14 0), .int (S 15 0), .int (S 16 0), .ref (a 4), .ref (a 5), .int (S 19 0), .int (S 20 0), .int (S 21 0), .int (S 22 0), .ref (a 6), .int (S 24 0), .ref (a 7), .int (S 26 0), .ref (a 8), .ref (a 9), .ref (a 10), .ref (a 11), .ref (a 12), .int (S 32 0), .ref (a 13), .ref (a 14), .ref (a 15), .ref (a 16), .int (S 37 0)] 9 (.int v))) := rfl
noncomputable def f_X7_feed_19 (n : Nat) : Int64 → Int32 → St → Option (Int32 × St) := Nat.rec (motive := fun _ => Int64 → Int32 → St → Option (Int32 × St)) (fun _ _ _ => none) (fun _ ih => fun x1 x3 S => (if x3 < 0 then (some ((S 9 0), S)) else (ix (S 9 0) 400 (ih x1 (x3 + (-8 : Int32)) (st 9 (fun _ => ((S 9 0) + (1 : Int32))) (st 8 (upd (S 8) (Int32.toNatClampNeg (S 9 0)) ((Int64.toInt32 (x1 >>> (Int32.toInt64 x3 &&& 63))) &&& (255 : Int32))) S)))))) n
theorem f_X7_feed_19_s (n : Nat) (x1 : Int64) (x3 : Int32) (S : St) : f_X7_feed_19 (n + 1) x1 x3 S = (if x3 < 0 then (some ((S 9 0), S)) else (ix (S 9 0) 400 ((f_X7_feed_19 n) x1 (x3 + (-8 : Int32)) (st 9 (fun _ => ((S 9 0) + (1 : Int32))) (st 8 (upd (S 8) (Int32.toNatClampNeg (S 9 0)) ((Int64.toInt32 (x1 >>> (Int32.toInt64 x3 &&& 63))) &&& (255 : Int32))) S))))) := rfl
noncomputable def f_X7_feed (x1 : Int64) (S : St) : Option (Int32 × St) := (if ((S 9 0) + (8 : Int32)) ≤ (400 : Int32) then (f_X7_feed_19 1000 x1 (56 : Int32) S) else (some ((-3 : Int32), S)))
set_option maxHeartbeats 4000000 in
set_option maxRecDepth 100000 in
theorem L_X7_feed_19 {E : zEnv} {Γ : zG} (a : Nat → Nat) (C : zC E Γ cX7_feed RX7 4 rm_X7_feed wsX7_feed) {res : (Int32 × St)} (R : zRi E Γ cX7_feed 4 .int (wModel E a res.2) res.1) : ∀ (n : Nat) (x1 : Int64) (x3 : Int32) (S : St), f_X7_feed_19 n x1 x3 S = some res → Zt E Γ 4 0 0 (wModel E a S) [(0, .ref (a 0)), (1, .long x1), (3, .int x3)] 19 [] := by
  intro n
  induction n with
  | zero =>
    intro x1 x3 S h
    cases h
  | succ n ih =>
    intro x1 x3 S h
    rw [f_X7_feed_19_s] at h
    refine z_iload_n C 2 rfl rfl dX7_feed_19 ?_
    refine z_if_lt C 56 (by decide) h dX7_feed_20 (fun hc h => ?_) (fun hc h => ?_)
    · refine z_aload_n C 0 rfl rfl dX7_feed_56 ?_
      refine z_get C 0 rfl (C := RX7) (T := TX7) (N := 38) (ci := 7) rfl inw_X7_feed_X7 9 (by decide) (ref := "EldestAgeModel") (List.mem_of_getElem? (i := 1) rfl) rfl (v := .int (S 9 0)) rfl dX7_feed_57 ?_
      obtain rfl := Option.some.inj h
      exact R rfl 60 _ dX7_feed_60
    · refine z_aload_n C 0 rfl rfl dX7_feed_23 ?_
      refine z_get C 0 rfl (C := RX7) (T := TX7) (N := 38) (ci := 7) rfl inw_X7_feed_X7 8 (by decide) (ref := "EldestAgeModel") (List.mem_of_getElem? (i := 2) rfl) rfl (v := .ref (a 3)) rfl dX7_feed_24 ?_
      refine z_aload_n C 0 rfl rfl dX7_feed_27 ?_
      refine z_get C 0 rfl (C := RX7) (T := TX7) (N := 38) (ci := 7) rfl inw_X7_feed_X7 9 (by decide) (ref := "EldestAgeModel") (List.mem_of_getElem? (i := 1) rfl) rfl (v := .int (S 9 0)) rfl dX7_feed_28 ?_
      refine z_lload_n C 1 rfl rfl dX7_feed_31 ?_
      refine z_iload_n C 2 rfl rfl dX7_feed_32 ?_
      refine z_lshr C dX7_feed_33 ?_
      refine z_l2i C dX7_feed_34 ?_
      refine z_sipush C (v := (255 : Int32)) (by decide) dX7_feed_35 ?_
      refine z_iand C dX7_feed_38 ?_
      refine z_iast C (N := 400) (f := (S 8)) 3 rfl h (wModel E a (st 8 (upd (S 8) (Int32.toNatClampNeg (S 9 0)) ((Int64.toInt32 (x1 >>> (Int32.toInt64 x3 &&& 63))) &&& (255 : Int32))) S)) (wl_X7_feed_0 E a S (upd (S 8) (Int32.toNatClampNeg (S 9 0)) ((Int64.toInt32 (x1 >>> (Int32.toInt64 x3 &&& 63))) &&& (255 : Int32)))) dX7_feed_39 (fun h => ?_)
      refine z_aload_n C 0 rfl rfl dX7_feed_40 ?_
      refine z_dup C rfl dX7_feed_41 ?_
      refine z_get C 0 rfl (C := RX7) (T := TX7) (N := 38) (ci := 7) rfl inw_X7_feed_X7 9 (by decide) (ref := "EldestAgeModel") (List.mem_of_getElem? (i := 1) rfl) rfl (v := .int (S 9 0)) rfl dX7_feed_42 ?_
      refine z_iconst C (v := (1 : Int32)) (by decide) dX7_feed_45 ?_
      refine z_iadd C dX7_feed_46 ?_
      refine z_put C 0 rfl (C := RX7) (T := TX7) (N := 38) (ci := 7) rfl inw_X7_feed_X7 tyX7 tyX7_ok nmX7 9 (by decide) (ref := "EldestAgeModel") (List.mem_of_getElem? (i := 1) rfl) rfl rfl (ty := .int) (v := .int ((S 9 0) + (1 : Int32))) (by decide +kernel) rfl rfl (Nat.le_of_ble_eq_true rfl) (wModel E a (st 9 (fun _ => ((S 9 0) + (1 : Int32))) (st 8 (upd (S 8) (Int32.toNatClampNeg (S 9 0)) ((Int64.toInt32 (x1 >>> (Int32.toInt64 x3 &&& 63))) &&& (255 : Int32))) S))) (wl_X7_feed_1 E a (st 8 (upd (S 8) (Int32.toNatClampNeg (S 9 0)) ((Int64.toInt32 (x1 >>> (Int32.toInt64 x3 &&& 63))) &&& (255 : Int32))) S) ((S 9 0) + (1 : Int32))) dX7_feed_47 ?_
      refine z_iinc C [(3, .int (x3 + (-8 : Int32))), (0, .ref (a 0)), (1, .long x1)] 2 rfl (by first | rfl | decide) (by decide) rfl dX7_feed_50 ?_
      refine z_goto C 19 (by decide) dX7_feed_53 ?_
      refine Zt_l [(0, .ref (a 0)), (1, .long x1), (3, .int (x3 + (-8 : Int32)))] [1, 2, 0] rfl ?_
      exact ih x1 (x3 + (-8 : Int32)) (st 9 (fun _ => ((S 9 0) + (1 : Int32))) (st 8 (upd (S 8) (Int32.toNatClampNeg (S 9 0)) ((Int64.toInt32 (x1 >>> (Int32.toInt64 x3 &&& 63))) &&& (255 : Int32))) S)) h

set_option maxHeartbeats 4000000 in
set_option maxRecDepth 100000 in
theorem L_X7_feed {E : zEnv} {Γ : zG} (a : Nat → Nat) (C : zC E Γ cX7_feed RX7 4 rm_X7_feed wsX7_feed) {res : (Int32 × St)} (R : zRi E Γ cX7_feed 4 .int (wModel E a res.2) res.1) (x1 : Int64) (S : St) (h : f_X7_feed x1 S = some res) : Zt E Γ 4 0 0 (wModel E a S) [(0, .ref (a 0)), (1, .long x1)] 0 [] := by
  unfold f_X7_feed at h
  refine z_aload_n C 0 rfl rfl dX7_feed_0 ?_
  refine z_get C 0 rfl (C := RX7) (T := TX7) (N := 38) (ci := 7) rfl inw_X7_feed_X7 9 (by decide) (ref := "EldestAgeModel") (List.mem_of_getElem? (i := 1) rfl) rfl (v := .int (S 9 0)) rfl dX7_feed_1 ?_
  refine z_bipush C (v := (8 : Int32)) (by decide) dX7_feed_4 ?_
  refine z_iadd C dX7_feed_6 ?_
  refine z_sipush C (v := (400 : Int32)) (by decide) dX7_feed_7 ?_
  refine z_icmp_le C 16 (by decide) h dX7_feed_10 (fun hc h => ?_) (fun hc h => ?_)
  · refine z_bipush C (v := (56 : Int32)) (by decide) dX7_feed_16 ?_
    refine z_istore_n C [(3, .int (56 : Int32)), (0, .ref (a 0)), (1, .long x1)] rfl (by decide) rfl dX7_feed_18 ?_
    refine Zt_l [(0, .ref (a 0)), (1, .long x1), (3, .int (56 : Int32))] [1, 2, 0] rfl ?_
    exact L_X7_feed_19 a C R 1000 x1 (56 : Int32) S h
  · refine z_bipush C (v := (-3 : Int32)) (by decide) dX7_feed_13 ?_
    obtain rfl := Option.some.inj h
    exact R rfl 15 _ dX7_feed_15

theorem c_X7_feed (E : zEnv) (a : Nat → Nat) (x1 : Int64) (S : St) {res : (Int32 × St)} (h : f_X7_feed x1 S = some res) : Kti E yX7_feed wsX7_feed rm_X7_feed (wModel E a S) (wModel E a res.2) [.ref (a 0), .long x1] res.1 :=
  z_enti (cc := cX7_feed) (maxL := 4) (rt := .int) (by decide +kernel) rfl (Nat.le_of_ble_eq_true rfl) (fun Γ C R => L_X7_feed a C R x1 S h)

abbrev rm_X7_end : Room := { frames := 1, cells := 0, slots := 0, locals := 25 }
theorem inw_X7_end_X7 : ∀ w ∈ wsX70, w ∈ wsX7_end := fun _ h => List.mem_cons_of_mem _ (List.mem_append_right _ h)
set_option maxHeartbeats 4000000 in
theorem wl_X7_end_0 (E : zEnv) (a : Nat → Nat) (S : St) (v : Int32) : (wModel E a (st 9 (fun _ => v) S)) = (wModel E a S).set 0 (a 0, .inr (7, List.set [.ref (a 1), .int (S 1 0), .ref (a 2), .int (S 3 0), .int (S 4 0), .int (S 5 0), .int (S 6 0), .int (S 7 0), .ref (a 3), .int (S 9 0), .int (S 10 0), .int (S 11 0), .int (S 12 0), .int (S 13 0), .int (S 14 0), .int (S 15 0), .int (S 16 0), .ref (a 4), .ref (a 5), .int (S 19 0), .int (S 20 0), .int (S 21 0), .int (S 22 0), .ref (a 6), .int (S 24 0), .ref (a 7), .int (S 26 0), .ref (a 8), .ref (a 9), .ref (a 10), .ref (a 11), .ref (a 12), .int (S 32 0), .ref (a 13), .ref (a 14), .ref (a 15), .ref (a 16), .int (S 37 0)] 9 (.int v))) := rfl
noncomputable def f_X7_end (x1 : Int32) (S : St) : Option (Int32 × St) := ((f_X7_in (Int32.toInt64 x1) (0 : Int64) (Int32.toInt64 (S 9 0))).bind (fun q1 => (if q1 = 0 then (some ((-1 : Int32), S)) else (some ((S 9 0), (st 9 (fun _ => x1) S))))))
set_option maxHeartbeats 4000000 in
set_option maxRecDepth 100000 in
theorem L_X7_end {E : zEnv} {Γ : zG} (a : Nat → Nat) (C : zC E Γ cX7_end RX7 3 rm_X7_end wsX7_end) {res : (Int32 × St)} (R : zRi E Γ cX7_end 3 .int (wModel E a res.2) res.1) (x1 : Int32) (S : St) (h : f_X7_end x1 S = some res) : Zt E Γ 3 0 0 (wModel E a S) [(0, .ref (a 0)), (1, .int x1)] 0 [] := by
  unfold f_X7_end at h
  refine z_iload_n C 1 rfl rfl dX7_end_0 ?_
  refine z_i2l C dX7_end_1 ?_
  refine z_lconst C (v := (0 : Int64)) (by decide) dX7_end_2 ?_
  refine z_aload_n C 0 rfl rfl dX7_end_3 ?_
  refine z_get C 0 rfl (C := RX7) (T := TX7) (N := 38) (ci := 7) rfl inw_X7_end_X7 9 (by decide) (ref := "EldestAgeModel") (List.mem_of_getElem? (i := 1) rfl) rfl (v := .int (S 9 0)) rfl dX7_end_4 ?_
  refine z_i2l C dX7_end_7 ?_
  obtain ⟨q1, e1, h⟩ := bd_e h
  refine z_callSi C (rest := []) (c_X7_in E (Int32.toInt64 x1) (0 : Int64) (Int32.toInt64 (S 9 0)) e1) gX7_end_X7_in rfl rfl rfl 3 rfl (by decide +kernel) ⟨Nat.le_of_ble_eq_true rfl, Nat.le_of_ble_eq_true rfl⟩ [] rfl (by decide) rfl (wModel E a S) rfl (Nat.le_of_ble_eq_true rfl) dX7_end_8 ⟨Nat.zero_le _, Nat.zero_le _⟩ _ rfl ?_
  refine z_if_ne C 16 (by decide) h dX7_end_11 (fun hc h => ?_) (fun hc h => ?_)
  · refine z_iconst C (v := (-1 : Int32)) (by decide) dX7_end_14 ?_
    obtain rfl := Option.some.inj h
    exact R rfl 15 _ dX7_end_15
  · refine z_aload_n C 0 rfl rfl dX7_end_16 ?_
    refine z_get C 0 rfl (C := RX7) (T := TX7) (N := 38) (ci := 7) rfl inw_X7_end_X7 9 (by decide) (ref := "EldestAgeModel") (List.mem_of_getElem? (i := 1) rfl) rfl (v := .int (S 9 0)) rfl dX7_end_17 ?_
    refine z_istore_n C [(2, .int (S 9 0)), (0, .ref (a 0)), (1, .int x1)] rfl (by decide) rfl dX7_end_20 ?_
    refine z_aload_n C 1 rfl rfl dX7_end_21 ?_
    refine z_iload_n C 2 rfl rfl dX7_end_22 ?_
    refine z_put C 0 rfl (C := RX7) (T := TX7) (N := 38) (ci := 7) rfl inw_X7_end_X7 tyX7 tyX7_ok nmX7 9 (by decide) (ref := "EldestAgeModel") (List.mem_of_getElem? (i := 1) rfl) rfl rfl (ty := .int) (v := .int x1) (by decide +kernel) rfl rfl (Nat.le_of_ble_eq_true rfl) (wModel E a (st 9 (fun _ => x1) S)) (wl_X7_end_0 E a S x1) dX7_end_23 ?_
    refine z_iload_n C 0 rfl rfl dX7_end_26 ?_
    obtain rfl := Option.some.inj h
    exact R rfl 27 _ dX7_end_27

theorem c_X7_end (E : zEnv) (a : Nat → Nat) (x1 : Int32) (S : St) {res : (Int32 × St)} (h : f_X7_end x1 S = some res) : Kti E yX7_end wsX7_end rm_X7_end (wModel E a S) (wModel E a res.2) [.ref (a 0), .int x1] res.1 :=
  z_enti (cc := cX7_end) (maxL := 3) (rt := .int) (by decide +kernel) rfl (Nat.le_of_ble_eq_true rfl) (fun Γ C R => L_X7_end a C R x1 S h)

abbrev rm_X7_byteAt : Room := { frames := 0, cells := 0, slots := 0, locals := 0 }
theorem inw_X7_byteAt_X7 : ∀ w ∈ wsX70, w ∈ wsX7_byteAt := fun _ h => List.mem_cons_of_mem _ (List.mem_append_right _ h)
noncomputable def f_X7_byteAt (x1 : Int32) (S : St) : Option Int32 := (if (S 9 0) ≤ x1 then (some (-4 : Int32)) else (ix x1 400 (some (S 8 (Int32.toNatClampNeg x1)))))
set_option maxHeartbeats 4000000 in
set_option maxRecDepth 100000 in
theorem L_X7_byteAt {E : zEnv} {Γ : zG} (a : Nat → Nat) (C : zC E Γ cX7_byteAt RX7 2 rm_X7_byteAt wsX7_byteAt) {res : Int32} {S : St} (R : zRi E Γ cX7_byteAt 2 .int (wModel E a S) res) (x1 : Int32) (h : f_X7_byteAt x1 S = some res) : Zt E Γ 2 0 0 (wModel E a S) [(0, .ref (a 0)), (1, .int x1)] 0 [] := by
  unfold f_X7_byteAt at h
  refine z_iload_n C 1 rfl rfl dX7_byteAt_0 ?_
  refine z_aload_n C 0 rfl rfl dX7_byteAt_1 ?_
  refine z_get C 0 rfl (C := RX7) (T := TX7) (N := 38) (ci := 7) rfl inw_X7_byteAt_X7 9 (by decide) (ref := "EldestAgeModel") (List.mem_of_getElem? (i := 1) rfl) rfl (v := .int (S 9 0)) rfl dX7_byteAt_2 ?_
  refine z_icmp_ge C 17 (by decide) h dX7_byteAt_5 (fun hc h => ?_) (fun hc h => ?_)
  · refine z_bipush C (v := (-4 : Int32)) (by decide) dX7_byteAt_17 ?_
    obtain rfl := Option.some.inj h
    exact R rfl 19 _ dX7_byteAt_19
  · refine z_aload_n C 0 rfl rfl dX7_byteAt_8 ?_
    refine z_get C 0 rfl (C := RX7) (T := TX7) (N := 38) (ci := 7) rfl inw_X7_byteAt_X7 8 (by decide) (ref := "EldestAgeModel") (List.mem_of_getElem? (i := 2) rfl) rfl (v := .ref (a 3)) rfl dX7_byteAt_9 ?_
    refine z_iload_n C 1 rfl rfl dX7_byteAt_12 ?_
    refine z_iald C (N := 400) (f := (S 8)) 3 rfl h dX7_byteAt_13 (fun h => ?_)
    refine z_goto C 19 (by decide) dX7_byteAt_14 ?_
    obtain rfl := Option.some.inj h
    exact R rfl 19 _ dX7_byteAt_19

theorem c_X7_byteAt (E : zEnv) (a : Nat → Nat) (x1 : Int32) (S : St) {res : Int32} (h : f_X7_byteAt x1 S = some res) : Kti E yX7_byteAt wsX7_byteAt rm_X7_byteAt (wModel E a S) (wModel E a S) [.ref (a 0), .int x1] res :=
  z_enti (cc := cX7_byteAt) (maxL := 2) (rt := .int) (by decide +kernel) rfl (Nat.le_of_ble_eq_true rfl) (fun Γ C R => L_X7_byteAt a C R x1 h)

abbrev rm_X7_fails : Room := { frames := 0, cells := 0, slots := 0, locals := 0 }
theorem inw_X7_fails_X7 : ∀ w ∈ wsX70, w ∈ wsX7_fails := fun _ h => List.mem_cons_of_mem _ (List.mem_append_right _ h)
set_option maxHeartbeats 4000000 in
theorem wl_X7_fails_0 (E : zEnv) (a : Nat → Nat) (S : St) (v : Int32) : (wModel E a (st 11 (fun _ => v) S)) = (wModel E a S).set 0 (a 0, .inr (7, List.set [.ref (a 1), .int (S 1 0), .ref (a 2), .int (S 3 0), .int (S 4 0), .int (S 5 0), .int (S 6 0), .int (S 7 0), .ref (a 3), .int (S 9 0), .int (S 10 0), .int (S 11 0), .int (S 12 0), .int (S 13 0), .int (S 14 0), .int (S 15 0), .int (S 16 0), .ref (a 4), .ref (a 5), .int (S 19 0), .int (S 20 0), .int (S 21 0), .int (S 22 0), .ref (a 6), .int (S 24 0), .ref (a 7), .int (S 26 0), .ref (a 8), .ref (a 9), .ref (a 10), .ref (a 11), .ref (a 12), .int (S 32 0), .ref (a 13), .ref (a 14), .ref (a 15), .ref (a 16), .int (S 37 0)] 11 (.int v))) := rfl
set_option maxHeartbeats 4000000 in
theorem wl_X7_fails_1 (E : zEnv) (a : Nat → Nat) (S : St) (v : Int32) : (wModel E a (st 12 (fun _ => v) S)) = (wModel E a S).set 0 (a 0, .inr (7, List.set [.ref (a 1), .int (S 1 0), .ref (a 2), .int (S 3 0), .int (S 4 0), .int (S 5 0), .int (S 6 0), .int (S 7 0), .ref (a 3), .int (S 9 0), .int (S 10 0), .int (S 11 0), .int (S 12 0), .int (S 13 0), .int (S 14 0), .int (S 15 0), .int (S 16 0), .ref (a 4), .ref (a 5), .int (S 19 0), .int (S 20 0), .int (S 21 0), .int (S 22 0), .ref (a 6), .int (S 24 0), .ref (a 7), .int (S 26 0), .ref (a 8), .ref (a 9), .ref (a 10), .ref (a 11), .ref (a 12), .int (S 32 0), .ref (a 13), .ref (a 14), .ref (a 15), .ref (a 16), .int (S 37 0)] 12 (.int v))) := rfl
noncomputable def f_X7_fails (x1 : Int32) (S : St) : Option St := (if (S 11 0) = 0 then (some (st 12 (fun _ => (S 14 0)) (st 11 (fun _ => x1) S))) else (some S))
set_option maxHeartbeats 4000000 in
set_option maxRecDepth 100000 in
theorem L_X7_fails {E : zEnv} {Γ : zG} (a : Nat → Nat) (C : zC E Γ cX7_fails RX7 2 rm_X7_fails wsX7_fails) {res : St} (R : zRv E Γ cX7_fails 2 (wModel E a res)) (x1 : Int32) (S : St) (h : f_X7_fails x1 S = some res) : Zt E Γ 2 0 0 (wModel E a S) [(0, .ref (a 0)), (1, .int x1)] 0 [] := by
  unfold f_X7_fails at h
  refine z_aload_n C 0 rfl rfl dX7_fails_0 ?_
  refine z_get C 0 rfl (C := RX7) (T := TX7) (N := 38) (ci := 7) rfl inw_X7_fails_X7 11 (by decide) (ref := "EldestAgeModel") (List.mem_of_getElem? (i := 1) rfl) rfl (v := .int (S 11 0)) rfl dX7_fails_1 ?_
  refine z_if_ne C 20 (by decide) h dX7_fails_4 (fun hc h => ?_) (fun hc h => ?_)
  · refine z_aload_n C 0 rfl rfl dX7_fails_7 ?_
    refine z_iload_n C 1 rfl rfl dX7_fails_8 ?_
    refine z_put C 0 rfl (C := RX7) (T := TX7) (N := 38) (ci := 7) rfl inw_X7_fails_X7 tyX7 tyX7_ok nmX7 11 (by decide) (ref := "EldestAgeModel") (List.mem_of_getElem? (i := 1) rfl) rfl rfl (ty := .int) (v := .int x1) (by decide +kernel) rfl rfl (Nat.le_of_ble_eq_true rfl) (wModel E a (st 11 (fun _ => x1) S)) (wl_X7_fails_0 E a S x1) dX7_fails_9 ?_
    refine z_aload_n C 0 rfl rfl dX7_fails_12 ?_
    refine z_aload_n C 0 rfl rfl dX7_fails_13 ?_
    refine z_get C 0 rfl (C := RX7) (T := TX7) (N := 38) (ci := 7) rfl inw_X7_fails_X7 14 (by decide) (ref := "EldestAgeModel") (List.mem_of_getElem? (i := 2) rfl) rfl (v := .int (S 14 0)) rfl dX7_fails_14 ?_
    refine z_put C 0 rfl (C := RX7) (T := TX7) (N := 38) (ci := 7) rfl inw_X7_fails_X7 tyX7 tyX7_ok nmX7 12 (by decide) (ref := "EldestAgeModel") (List.mem_of_getElem? (i := 3) rfl) rfl rfl (ty := .int) (v := .int (S 14 0)) (by decide +kernel) rfl rfl (Nat.le_of_ble_eq_true rfl) (wModel E a (st 12 (fun _ => (S 14 0)) (st 11 (fun _ => x1) S))) (wl_X7_fails_1 E a (st 11 (fun _ => x1) S) (S 14 0)) dX7_fails_17 ?_
    obtain rfl := Option.some.inj h
    exact R 20 _ dX7_fails_20
  · obtain rfl := Option.some.inj h
    exact R 20 _ dX7_fails_20

theorem c_X7_fails (E : zEnv) (a : Nat → Nat) (x1 : Int32) (S : St) {res : St} (h : f_X7_fails x1 S = some res) : Ktv E yX7_fails wsX7_fails rm_X7_fails (wModel E a S) (wModel E a res) [.ref (a 0), .int x1] :=
  z_entv (cc := cX7_fails) (maxL := 2) (by decide +kernel) rfl (Nat.le_of_ble_eq_true rfl) (fun Γ C R => L_X7_fails a C R x1 S h)

abbrev rm_X7_isDay : Room := { frames := 1, cells := 0, slots := 0, locals := 25 }
noncomputable def f_X7_isDay (x0 : Int32) : Option Int32 := ((f_X7_in (Int32.toInt64 x0) (0 : Int64) (35999 : Int64)).bind (fun q1 => (zb q1 (some q1))))
set_option maxHeartbeats 4000000 in
set_option maxRecDepth 100000 in
theorem L_X7_isDay {E : zEnv} {Γ : zG} (C : zC E Γ cX7_isDay RX7 1 rm_X7_isDay wsX7_isDay) {res : Int32} (R : zRi E Γ cX7_isDay 1 .boolean [] res) (x0 : Int32) (h : f_X7_isDay x0 = some res) : Zt E Γ 1 0 0 [] [(0, .int x0)] 0 [] := by
  unfold f_X7_isDay at h
  refine z_iload_n C 0 rfl rfl dX7_isDay_0 ?_
  refine z_i2l C dX7_isDay_1 ?_
  refine z_lconst C (v := (0 : Int64)) (by decide) dX7_isDay_2 ?_
  refine z_ldc2 C (v := (35999 : Int64)) (List.mem_of_getElem? (i := 1) rfl) dX7_isDay_3 ?_
  obtain ⟨q1, e1, h⟩ := bd_e h
  refine z_callSi C (rest := []) (c_X7_in E (Int32.toInt64 x0) (0 : Int64) (35999 : Int64) e1) gX7_isDay_X7_in rfl rfl rfl 3 rfl (by decide +kernel) ⟨Nat.le_of_ble_eq_true rfl, Nat.le_of_ble_eq_true rfl⟩ [] rfl (by decide) rfl [] rfl (Nat.le_of_ble_eq_true rfl) dX7_isDay_6 ⟨Nat.zero_le _, Nat.zero_le _⟩ _ rfl ?_
  have hz := zb_n (zb_e h).1
  replace h := (zb_e h).2
  obtain rfl := Option.some.inj h
  exact R hz 9 _ dX7_isDay_9

theorem c_X7_isDay (E : zEnv) (x0 : Int32) {res : Int32} (h : f_X7_isDay x0 = some res) : Kti E yX7_isDay wsX7_isDay rm_X7_isDay [] [] [.int x0] res :=
  z_enti (cc := cX7_isDay) (maxL := 1) (rt := .boolean) (by decide +kernel) rfl (Nat.le_of_ble_eq_true rfl) (fun Γ C R => L_X7_isDay C R x0 h)

abbrev rm_X7_isHouse : Room := { frames := 1, cells := 0, slots := 0, locals := 25 }
theorem inw_X7_isHouse_X7 : ∀ w ∈ wsX70, w ∈ wsX7_isHouse := fun _ h => List.mem_cons_of_mem _ (List.mem_append_right _ h)
noncomputable def f_X7_isHouse (x1 : Int32) (S : St) : Option Int32 := ((f_X7_in (Int32.toInt64 x1) (0 : Int64) (Int32.toInt64 ((S 1 0) - (1 : Int32)))).bind (fun q1 => (zb q1 (some q1))))
set_option maxHeartbeats 4000000 in
set_option maxRecDepth 100000 in
theorem L_X7_isHouse {E : zEnv} {Γ : zG} (a : Nat → Nat) (C : zC E Γ cX7_isHouse RX7 2 rm_X7_isHouse wsX7_isHouse) {res : Int32} {S : St} (R : zRi E Γ cX7_isHouse 2 .boolean (wModel E a S) res) (x1 : Int32) (h : f_X7_isHouse x1 S = some res) : Zt E Γ 2 0 0 (wModel E a S) [(0, .ref (a 0)), (1, .int x1)] 0 [] := by
  unfold f_X7_isHouse at h
  refine z_iload_n C 1 rfl rfl dX7_isHouse_0 ?_
  refine z_i2l C dX7_isHouse_1 ?_
  refine z_lconst C (v := (0 : Int64)) (by decide) dX7_isHouse_2 ?_
  refine z_aload_n C 0 rfl rfl dX7_isHouse_3 ?_
  refine z_get C 0 rfl (C := RX7) (T := TX7) (N := 38) (ci := 7) rfl inw_X7_isHouse_X7 1 (by decide) (ref := "EldestAgeModel") (List.mem_of_getElem? (i := 1) rfl) rfl (v := .int (S 1 0)) rfl dX7_isHouse_4 ?_
  refine z_iconst C (v := (1 : Int32)) (by decide) dX7_isHouse_7 ?_
  refine z_isub C dX7_isHouse_8 ?_
  refine z_i2l C dX7_isHouse_9 ?_
  obtain ⟨q1, e1, h⟩ := bd_e h
  refine z_callSi C (rest := []) (c_X7_in E (Int32.toInt64 x1) (0 : Int64) (Int32.toInt64 ((S 1 0) - (1 : Int32))) e1) gX7_isHouse_X7_in rfl rfl rfl 3 rfl (by decide +kernel) ⟨Nat.le_of_ble_eq_true rfl, Nat.le_of_ble_eq_true rfl⟩ [] rfl (by decide) rfl (wModel E a S) rfl (Nat.le_of_ble_eq_true rfl) dX7_isHouse_10 ⟨Nat.zero_le _, Nat.zero_le _⟩ _ rfl ?_
  have hz := zb_n (zb_e h).1
  replace h := (zb_e h).2
  obtain rfl := Option.some.inj h
  exact R hz 13 _ dX7_isHouse_13

theorem c_X7_isHouse (E : zEnv) (a : Nat → Nat) (x1 : Int32) (S : St) {res : Int32} (h : f_X7_isHouse x1 S = some res) : Kti E yX7_isHouse wsX7_isHouse rm_X7_isHouse (wModel E a S) (wModel E a S) [.ref (a 0), .int x1] res :=
  z_enti (cc := cX7_isHouse) (maxL := 2) (rt := .boolean) (by decide +kernel) rfl (Nat.le_of_ble_eq_true rfl) (fun Γ C R => L_X7_isHouse a C R x1 h)

abbrev rm_X7_people : Room := { frames := 0, cells := 0, slots := 0, locals := 0 }
theorem inw_X7_people_X7 : ∀ w ∈ wsX70, w ∈ wsX7_people := fun _ h => List.mem_cons_of_mem _ (List.mem_append_right _ h)
noncomputable def f_X7_people (S : St) : Option Int32 := (ix (88 : Int32) 368 (some (S 0 (Int32.toNatClampNeg (88 : Int32)))))
set_option maxHeartbeats 4000000 in
set_option maxRecDepth 100000 in
theorem L_X7_people {E : zEnv} {Γ : zG} (a : Nat → Nat) (C : zC E Γ cX7_people RX7 1 rm_X7_people wsX7_people) {res : Int32} {S : St} (R : zRi E Γ cX7_people 1 .int (wModel E a S) res) (h : f_X7_people S = some res) : Zt E Γ 1 0 0 (wModel E a S) [(0, .ref (a 0))] 0 [] := by
  unfold f_X7_people at h
  refine z_aload_n C 0 rfl rfl dX7_people_0 ?_
  refine z_get C 0 rfl (C := RX7) (T := TX7) (N := 38) (ci := 7) rfl inw_X7_people_X7 0 (by decide) (ref := "EldestAgeModel") (List.mem_of_getElem? (i := 1) rfl) rfl (v := .ref (a 1)) rfl dX7_people_1 ?_
  refine z_bipush C (v := (88 : Int32)) (by decide) dX7_people_4 ?_
  refine z_iald C (N := 368) (f := (S 0)) 1 rfl h dX7_people_6 (fun h => ?_)
  obtain rfl := Option.some.inj h
  exact R rfl 7 _ dX7_people_7

theorem c_X7_people (E : zEnv) (a : Nat → Nat) (S : St) {res : Int32} (h : f_X7_people S = some res) : Kti E yX7_people wsX7_people rm_X7_people (wModel E a S) (wModel E a S) [.ref (a 0)] res :=
  z_enti (cc := cX7_people) (maxL := 1) (rt := .int) (by decide +kernel) rfl (Nat.le_of_ble_eq_true rfl) (fun Γ C R => L_X7_people a C R h)

abbrev rm_X7_isOne : Room := { frames := 1, cells := 0, slots := 0, locals := 25 }
theorem inw_X7_isOne_X7 : ∀ w ∈ wsX70, w ∈ wsX7_isOne := fun _ h => List.mem_cons_of_mem _ (List.mem_append_right _ h)
set_option maxHeartbeats 4000000 in
theorem wl_X7_isOne_0 (E : zEnv) (a : Nat → Nat) (S : St) : ([0, 1, 2, 3, 4, 5, 6, 7, 8, 9, 10, 11, 12, 13, 14, 15, 16] : List Nat).map (fun i => (wModel E a S)[i]?) = (wModel E a S).map some := rfl
set_option maxHeartbeats 4000000 in
theorem wl_X7_isOne_1 (E : zEnv) (a : Nat → Nat) (S U : St) : (wModel E a U).map (fun q => q.1) = (wModel E a S).map (fun q => q.1) := rfl
noncomputable def f_X7_isOne (x1 : Int32) (S : St) : Option Int32 := ((f_X7_people S).bind (fun q1 => ((f_X7_in (Int32.toInt64 x1) (0 : Int64) (Int32.toInt64 (q1 - (1 : Int32)))).bind (fun q2 => (zb q2 (some q2))))))
set_option maxHeartbeats 4000000 in
set_option maxRecDepth 100000 in
theorem L_X7_isOne {E : zEnv} {Γ : zG} (a : Nat → Nat) (C : zC E Γ cX7_isOne RX7 2 rm_X7_isOne wsX7_isOne) {res : Int32} {S : St} (R : zRi E Γ cX7_isOne 2 .boolean (wModel E a S) res) (x1 : Int32) (h : f_X7_isOne x1 S = some res) : Zt E Γ 2 0 0 (wModel E a S) [(0, .ref (a 0)), (1, .int x1)] 0 [] := by
  unfold f_X7_isOne at h
  refine z_iload_n C 1 rfl rfl dX7_isOne_0 ?_
  refine z_i2l C dX7_isOne_1 ?_
  refine z_lconst C (v := (0 : Int64)) (by decide) dX7_isOne_2 ?_
  refine z_aload_n C 0 rfl rfl dX7_isOne_3 ?_
  obtain ⟨q1, e1, h⟩ := bd_e h
  refine z_callVi C (b := a 0) (As := []) (rest := [.long (0 : Int64), .long (Int32.toInt64 x1)]) (c_X7_people E a S e1) rfl gX7_isOne_X7_people rfl rfl rfl 0 rfl (by decide +kernel) ⟨Nat.le_of_ble_eq_true rfl, Nat.le_of_ble_eq_true rfl⟩ [0, 1, 2, 3, 4, 5, 6, 7, 8, 9, 10, 11, 12, 13, 14, 15, 16] (wl_X7_isOne_0 E a S) (by decide) rfl (wModel E a S) (zrep_self (wl_X7_isOne_0 E a S)) 0 7 rfl rfl rfl (Nat.le_of_ble_eq_true rfl) dX7_isOne_4 ⟨Nat.zero_le _, Nat.zero_le _⟩ _ rfl ?_
  refine z_iconst C (v := (1 : Int32)) (by decide) dX7_isOne_7 ?_
  refine z_isub C dX7_isOne_8 ?_
  refine z_i2l C dX7_isOne_9 ?_
  obtain ⟨q2, e2, h⟩ := bd_e h
  refine z_callSi C (rest := []) (c_X7_in E (Int32.toInt64 x1) (0 : Int64) (Int32.toInt64 (q1 - (1 : Int32))) e2) gX7_isOne_X7_in rfl rfl rfl 3 rfl (by decide +kernel) ⟨Nat.le_of_ble_eq_true rfl, Nat.le_of_ble_eq_true rfl⟩ [] rfl (by decide) rfl (wModel E a S) rfl (Nat.le_of_ble_eq_true rfl) dX7_isOne_10 ⟨Nat.zero_le _, Nat.zero_le _⟩ _ rfl ?_
  have hz := zb_n (zb_e h).1
  replace h := (zb_e h).2
  obtain rfl := Option.some.inj h
  exact R hz 13 _ dX7_isOne_13

theorem c_X7_isOne (E : zEnv) (a : Nat → Nat) (x1 : Int32) (S : St) {res : Int32} (h : f_X7_isOne x1 S = some res) : Kti E yX7_isOne wsX7_isOne rm_X7_isOne (wModel E a S) (wModel E a S) [.ref (a 0), .int x1] res :=
  z_enti (cc := cX7_isOne) (maxL := 2) (rt := .boolean) (by decide +kernel) rfl (Nat.le_of_ble_eq_true rfl) (fun Γ C R => L_X7_isOne a C R x1 h)

abbrev rm_X7_fault : Room := { frames := 0, cells := 0, slots := 0, locals := 0 }
theorem inw_X7_fault_X7 : ∀ w ∈ wsX70, w ∈ wsX7_fault := fun _ h => List.mem_cons_of_mem _ (List.mem_append_right _ h)
noncomputable def f_X7_fault (S : St) : Option Int32 := (some (S 10 0))
set_option maxHeartbeats 4000000 in
set_option maxRecDepth 100000 in
theorem L_X7_fault {E : zEnv} {Γ : zG} (a : Nat → Nat) (C : zC E Γ cX7_fault RX7 1 rm_X7_fault wsX7_fault) {res : Int32} {S : St} (R : zRi E Γ cX7_fault 1 .int (wModel E a S) res) (h : f_X7_fault S = some res) : Zt E Γ 1 0 0 (wModel E a S) [(0, .ref (a 0))] 0 [] := by
  unfold f_X7_fault at h
  refine z_aload_n C 0 rfl rfl dX7_fault_0 ?_
  refine z_get C 0 rfl (C := RX7) (T := TX7) (N := 38) (ci := 7) rfl inw_X7_fault_X7 10 (by decide) (ref := "EldestAgeModel") (List.mem_of_getElem? (i := 1) rfl) rfl (v := .int (S 10 0)) rfl dX7_fault_1 ?_
  obtain rfl := Option.some.inj h
  exact R rfl 4 _ dX7_fault_4

theorem c_X7_fault (E : zEnv) (a : Nat → Nat) (S : St) {res : Int32} (h : f_X7_fault S = some res) : Kti E yX7_fault wsX7_fault rm_X7_fault (wModel E a S) (wModel E a S) [.ref (a 0)] res :=
  z_enti (cc := cX7_fault) (maxL := 1) (rt := .int) (by decide +kernel) rfl (Nat.le_of_ble_eq_true rfl) (fun Γ C R => L_X7_fault a C R h)

abbrev rm_X7_rule : Room := { frames := 1, cells := 0, slots := 0, locals := 25 }
theorem inw_X7_rule_X7 : ∀ w ∈ wsX70, w ∈ wsX7_rule := fun _ h => List.mem_cons_of_mem _ (List.mem_append_right _ h)
noncomputable def f_X7_rule (x1 : Int32) (S : St) : Option Int32 := (if x1 = 0 then (some (S 1 0)) else (if x1 = (1 : Int32) then (ix (91 : Int32) 368 (some (S 0 (Int32.toNatClampNeg (91 : Int32))))) else ((f_X7_in (Int32.toInt64 x1) (2 : Int64) (4 : Int64)).bind (fun q1 => (if q1 = 0 then (some (-1 : Int32)) else (ix (((88 : Int32) + x1) - (2 : Int32)) 368 (some (S 0 (Int32.toNatClampNeg (((88 : Int32) + x1) - (2 : Int32)))))))))))
set_option maxHeartbeats 4000000 in
set_option maxRecDepth 100000 in
theorem L_X7_rule {E : zEnv} {Γ : zG} (a : Nat → Nat) (C : zC E Γ cX7_rule RX7 2 rm_X7_rule wsX7_rule) {res : Int32} {S : St} (R : zRi E Γ cX7_rule 2 .int (wModel E a S) res) (x1 : Int32) (h : f_X7_rule x1 S = some res) : Zt E Γ 2 0 0 (wModel E a S) [(0, .ref (a 0)), (1, .int x1)] 0 [] := by
  unfold f_X7_rule at h
  refine z_iload_n C 1 rfl rfl dX7_rule_0 ?_
  refine z_if_ne C 11 (by decide) h dX7_rule_1 (fun hc h => ?_) (fun hc h => ?_)
  · refine z_aload_n C 0 rfl rfl dX7_rule_4 ?_
    refine z_get C 0 rfl (C := RX7) (T := TX7) (N := 38) (ci := 7) rfl inw_X7_rule_X7 1 (by decide) (ref := "EldestAgeModel") (List.mem_of_getElem? (i := 1) rfl) rfl (v := .int (S 1 0)) rfl dX7_rule_5 ?_
    refine z_goto C 55 (by decide) dX7_rule_8 ?_
    obtain rfl := Option.some.inj h
    exact R rfl 55 _ dX7_rule_55
  · refine z_iload_n C 1 rfl rfl dX7_rule_11 ?_
    refine z_iconst C (v := (1 : Int32)) (by decide) dX7_rule_12 ?_
    refine z_icmp_ne C 26 (by decide) h dX7_rule_13 (fun hc h => ?_) (fun hc h => ?_)
    · refine z_aload_n C 0 rfl rfl dX7_rule_16 ?_
      refine z_get C 0 rfl (C := RX7) (T := TX7) (N := 38) (ci := 7) rfl inw_X7_rule_X7 0 (by decide) (ref := "EldestAgeModel") (List.mem_of_getElem? (i := 2) rfl) rfl (v := .ref (a 1)) rfl dX7_rule_17 ?_
      refine z_bipush C (v := (91 : Int32)) (by decide) dX7_rule_20 ?_
      refine z_iald C (N := 368) (f := (S 0)) 1 rfl h dX7_rule_22 (fun h => ?_)
      refine z_goto C 55 (by decide) dX7_rule_23 ?_
      obtain rfl := Option.some.inj h
      exact R rfl 55 _ dX7_rule_55
    · refine z_iload_n C 1 rfl rfl dX7_rule_26 ?_
      refine z_i2l C dX7_rule_27 ?_
      refine z_ldc2 C (v := (2 : Int64)) (List.mem_of_getElem? (i := 3) rfl) dX7_rule_28 ?_
      refine z_ldc2 C (v := (4 : Int64)) (List.mem_of_getElem? (i := 4) rfl) dX7_rule_31 ?_
      obtain ⟨q1, e1, h⟩ := bd_e h
      refine z_callSi C (rest := []) (c_X7_in E (Int32.toInt64 x1) (2 : Int64) (4 : Int64) e1) gX7_rule_X7_in rfl rfl rfl 3 rfl (by decide +kernel) ⟨Nat.le_of_ble_eq_true rfl, Nat.le_of_ble_eq_true rfl⟩ [] rfl (by decide) rfl (wModel E a S) rfl (Nat.le_of_ble_eq_true rfl) dX7_rule_34 ⟨Nat.zero_le _, Nat.zero_le _⟩ _ rfl ?_
      refine z_if_eq C 54 (by decide) h dX7_rule_37 (fun hc h => ?_) (fun hc h => ?_)
      · refine z_iconst C (v := (-1 : Int32)) (by decide) dX7_rule_54 ?_
        obtain rfl := Option.some.inj h
        exact R rfl 55 _ dX7_rule_55
      · refine z_aload_n C 0 rfl rfl dX7_rule_40 ?_
        refine z_get C 0 rfl (C := RX7) (T := TX7) (N := 38) (ci := 7) rfl inw_X7_rule_X7 0 (by decide) (ref := "EldestAgeModel") (List.mem_of_getElem? (i := 2) rfl) rfl (v := .ref (a 1)) rfl dX7_rule_41 ?_
        refine z_bipush C (v := (88 : Int32)) (by decide) dX7_rule_44 ?_
        refine z_iload_n C 1 rfl rfl dX7_rule_46 ?_
        refine z_iadd C dX7_rule_47 ?_
        refine z_iconst C (v := (2 : Int32)) (by decide) dX7_rule_48 ?_
        refine z_isub C dX7_rule_49 ?_
        refine z_iald C (N := 368) (f := (S 0)) 1 rfl h dX7_rule_50 (fun h => ?_)
        refine z_goto C 55 (by decide) dX7_rule_51 ?_
        obtain rfl := Option.some.inj h
        exact R rfl 55 _ dX7_rule_55

theorem c_X7_rule (E : zEnv) (a : Nat → Nat) (x1 : Int32) (S : St) {res : Int32} (h : f_X7_rule x1 S = some res) : Kti E yX7_rule wsX7_rule rm_X7_rule (wModel E a S) (wModel E a S) [.ref (a 0), .int x1] res :=
  z_enti (cc := cX7_rule) (maxL := 2) (rt := .int) (by decide +kernel) rfl (Nat.le_of_ble_eq_true rfl) (fun Γ C R => L_X7_rule a C R x1 h)

abbrev rm_X7_one : Room := { frames := 2, cells := 0, slots := 0, locals := 46 }
theorem inw_X7_one_X7 : ∀ w ∈ wsX70, w ∈ wsX7_one := fun _ h => List.mem_cons_of_mem _ (List.mem_append_right _ h)
set_option maxHeartbeats 4000000 in
theorem wl_X7_one_0 (E : zEnv) (a : Nat → Nat) (S : St) : ([0, 1, 2, 3, 4, 5, 6, 7, 8, 9, 10, 11, 12, 13, 14, 15, 16] : List Nat).map (fun i => (wModel E a S)[i]?) = (wModel E a S).map some := rfl
set_option maxHeartbeats 4000000 in
theorem wl_X7_one_1 (E : zEnv) (a : Nat → Nat) (S U : St) : (wModel E a U).map (fun q => q.1) = (wModel E a S).map (fun q => q.1) := rfl
noncomputable def f_X7_one (x1 : Int32) (x2 : Int32) (S : St) : Option Int32 := ((f_X7_isOne x1 S).bind (fun q1 => (if q1 = 0 then (some (-1 : Int32)) else ((f_X7_in (Int32.toInt64 x2) (0 : Int64) (3 : Int64)).bind (fun q2 => (if q2 = 0 then (some (-1 : Int32)) else (ix (((4 : Int32) * x1) + x2) 368 (some (S 0 (Int32.toNatClampNeg (((4 : Int32) * x1) + x2)))))))))))
set_option maxHeartbeats 4000000 in
set_option maxRecDepth 100000 in
theorem L_X7_one {E : zEnv} {Γ : zG} (a : Nat → Nat) (C : zC E Γ cX7_one RX7 3 rm_X7_one wsX7_one) {res : Int32} {S : St} (R : zRi E Γ cX7_one 3 .int (wModel E a S) res) (x1 : Int32) (x2 : Int32) (h : f_X7_one x1 x2 S = some res) : Zt E Γ 3 0 0 (wModel E a S) [(0, .ref (a 0)), (1, .int x1), (2, .int x2)] 0 [] := by
  unfold f_X7_one at h
  refine z_aload_n C 0 rfl rfl dX7_one_0 ?_
  refine z_iload_n C 1 rfl rfl dX7_one_1 ?_
  obtain ⟨q1, e1, h⟩ := bd_e h
  refine z_callVi C (b := a 0) (As := [.int x1]) (rest := []) (c_X7_isOne E a x1 S e1) rfl gX7_one_X7_isOne rfl rfl rfl 1 rfl (by decide +kernel) ⟨Nat.le_of_ble_eq_true rfl, Nat.le_of_ble_eq_true rfl⟩ [0, 1, 2, 3, 4, 5, 6, 7, 8, 9, 10, 11, 12, 13, 14, 15, 16] (wl_X7_one_0 E a S) (by decide) rfl (wModel E a S) (zrep_self (wl_X7_one_0 E a S)) 0 7 rfl rfl rfl (Nat.le_of_ble_eq_true rfl) dX7_one_2 ⟨Nat.zero_le _, Nat.zero_le _⟩ _ rfl ?_
  refine z_if_eq C 33 (by decide) h dX7_one_5 (fun hc h => ?_) (fun hc h => ?_)
  · refine z_iconst C (v := (-1 : Int32)) (by decide) dX7_one_33 ?_
    obtain rfl := Option.some.inj h
    exact R rfl 34 _ dX7_one_34
  · refine z_iload_n C 2 rfl rfl dX7_one_8 ?_
    refine z_i2l C dX7_one_9 ?_
    refine z_lconst C (v := (0 : Int64)) (by decide) dX7_one_10 ?_
    refine z_ldc2 C (v := (3 : Int64)) (List.mem_of_getElem? (i := 1) rfl) dX7_one_11 ?_
    obtain ⟨q2, e2, h⟩ := bd_e h
    refine z_callSi C (rest := []) (c_X7_in E (Int32.toInt64 x2) (0 : Int64) (3 : Int64) e2) gX7_one_X7_in rfl rfl rfl 3 rfl (by decide +kernel) ⟨Nat.le_of_ble_eq_true rfl, Nat.le_of_ble_eq_true rfl⟩ [] rfl (by decide) rfl (wModel E a S) rfl (Nat.le_of_ble_eq_true rfl) dX7_one_14 ⟨Nat.zero_le _, Nat.zero_le _⟩ _ rfl ?_
    refine z_if_eq C 33 (by decide) h dX7_one_17 (fun hc h => ?_) (fun hc h => ?_)
    · refine z_iconst C (v := (-1 : Int32)) (by decide) dX7_one_33 ?_
      obtain rfl := Option.some.inj h
      exact R rfl 34 _ dX7_one_34
    · refine z_aload_n C 0 rfl rfl dX7_one_20 ?_
      refine z_get C 0 rfl (C := RX7) (T := TX7) (N := 38) (ci := 7) rfl inw_X7_one_X7 0 (by decide) (ref := "EldestAgeModel") (List.mem_of_getElem? (i := 2) rfl) rfl (v := .ref (a 1)) rfl dX7_one_21 ?_
      refine z_iconst C (v := (4 : Int32)) (by decide) dX7_one_24 ?_
      refine z_iload_n C 1 rfl rfl dX7_one_25 ?_
      refine z_imul C dX7_one_26 ?_
      refine z_iload_n C 2 rfl rfl dX7_one_27 ?_
      refine z_iadd C dX7_one_28 ?_
      refine z_iald C (N := 368) (f := (S 0)) 1 rfl h dX7_one_29 (fun h => ?_)
      refine z_goto C 34 (by decide) dX7_one_30 ?_
      obtain rfl := Option.some.inj h
      exact R rfl 34 _ dX7_one_34

theorem c_X7_one (E : zEnv) (a : Nat → Nat) (x1 : Int32) (x2 : Int32) (S : St) {res : Int32} (h : f_X7_one x1 x2 S = some res) : Kti E yX7_one wsX7_one rm_X7_one (wModel E a S) (wModel E a S) [.ref (a 0), .int x1, .int x2] res :=
  z_enti (cc := cX7_one) (maxL := 3) (rt := .int) (by decide +kernel) rfl (Nat.le_of_ble_eq_true rfl) (fun Γ C R => L_X7_one a C R x1 x2 h)

abbrev rm_X7_moved : Room := { frames := 1, cells := 0, slots := 0, locals := 25 }
theorem inw_X7_moved_X7 : ∀ w ∈ wsX70, w ∈ wsX7_moved := fun _ h => List.mem_cons_of_mem _ (List.mem_append_right _ h)
noncomputable def f_X7_moved (x1 : Int32) (x2 : Int32) (S : St) : Option Int32 := (ix (89 : Int32) 368 ((f_X7_in (Int32.toInt64 x1) (0 : Int64) (Int32.toInt64 ((S 0 (Int32.toNatClampNeg (89 : Int32))) - (1 : Int32)))).bind (fun q1 => (if q1 = 0 then (some (-1 : Int32)) else ((f_X7_in (Int32.toInt64 x2) (0 : Int64) (2 : Int64)).bind (fun q2 => (if q2 = 0 then (some (-1 : Int32)) else (ix (((40 : Int32) + ((3 : Int32) * x1)) + x2) 368 (some (S 0 (Int32.toNatClampNeg (((40 : Int32) + ((3 : Int32) * x1)) + x2))))))))))))
set_option maxHeartbeats 4000000 in
set_option maxRecDepth 100000 in
theorem L_X7_moved {E : zEnv} {Γ : zG} (a : Nat → Nat) (C : zC E Γ cX7_moved RX7 3 rm_X7_moved wsX7_moved) {res : Int32} {S : St} (R : zRi E Γ cX7_moved 3 .int (wModel E a S) res) (x1 : Int32) (x2 : Int32) (h : f_X7_moved x1 x2 S = some res) : Zt E Γ 3 0 0 (wModel E a S) [(0, .ref (a 0)), (1, .int x1), (2, .int x2)] 0 [] := by
  unfold f_X7_moved at h
  refine z_iload_n C 1 rfl rfl dX7_moved_0 ?_
  refine z_i2l C dX7_moved_1 ?_
  refine z_lconst C (v := (0 : Int64)) (by decide) dX7_moved_2 ?_
  refine z_aload_n C 0 rfl rfl dX7_moved_3 ?_
  refine z_get C 0 rfl (C := RX7) (T := TX7) (N := 38) (ci := 7) rfl inw_X7_moved_X7 0 (by decide) (ref := "EldestAgeModel") (List.mem_of_getElem? (i := 1) rfl) rfl (v := .ref (a 1)) rfl dX7_moved_4 ?_
  refine z_bipush C (v := (89 : Int32)) (by decide) dX7_moved_7 ?_
  refine z_iald C (N := 368) (f := (S 0)) 1 rfl h dX7_moved_9 (fun h => ?_)
  refine z_iconst C (v := (1 : Int32)) (by decide) dX7_moved_10 ?_
  refine z_isub C dX7_moved_11 ?_
  refine z_i2l C dX7_moved_12 ?_
  obtain ⟨q1, e1, h⟩ := bd_e h
  refine z_callSi C (rest := []) (c_X7_in E (Int32.toInt64 x1) (0 : Int64) (Int32.toInt64 ((S 0 (Int32.toNatClampNeg (89 : Int32))) - (1 : Int32))) e1) gX7_moved_X7_in rfl rfl rfl 3 rfl (by decide +kernel) ⟨Nat.le_of_ble_eq_true rfl, Nat.le_of_ble_eq_true rfl⟩ [] rfl (by decide) rfl (wModel E a S) rfl (Nat.le_of_ble_eq_true rfl) dX7_moved_13 ⟨Nat.zero_le _, Nat.zero_le _⟩ _ rfl ?_
  refine z_if_eq C 47 (by decide) h dX7_moved_16 (fun hc h => ?_) (fun hc h => ?_)
  · refine z_iconst C (v := (-1 : Int32)) (by decide) dX7_moved_47 ?_
    obtain rfl := Option.some.inj h
    exact R rfl 48 _ dX7_moved_48
  · refine z_iload_n C 2 rfl rfl dX7_moved_19 ?_
    refine z_i2l C dX7_moved_20 ?_
    refine z_lconst C (v := (0 : Int64)) (by decide) dX7_moved_21 ?_
    refine z_ldc2 C (v := (2 : Int64)) (List.mem_of_getElem? (i := 2) rfl) dX7_moved_22 ?_
    obtain ⟨q2, e2, h⟩ := bd_e h
    refine z_callSi C (rest := []) (c_X7_in E (Int32.toInt64 x2) (0 : Int64) (2 : Int64) e2) gX7_moved_X7_in rfl rfl rfl 3 rfl (by decide +kernel) ⟨Nat.le_of_ble_eq_true rfl, Nat.le_of_ble_eq_true rfl⟩ [] rfl (by decide) rfl (wModel E a S) rfl (Nat.le_of_ble_eq_true rfl) dX7_moved_25 ⟨Nat.zero_le _, Nat.zero_le _⟩ _ rfl ?_
    refine z_if_eq C 47 (by decide) h dX7_moved_28 (fun hc h => ?_) (fun hc h => ?_)
    · refine z_iconst C (v := (-1 : Int32)) (by decide) dX7_moved_47 ?_
      obtain rfl := Option.some.inj h
      exact R rfl 48 _ dX7_moved_48
    · refine z_aload_n C 0 rfl rfl dX7_moved_31 ?_
      refine z_get C 0 rfl (C := RX7) (T := TX7) (N := 38) (ci := 7) rfl inw_X7_moved_X7 0 (by decide) (ref := "EldestAgeModel") (List.mem_of_getElem? (i := 1) rfl) rfl (v := .ref (a 1)) rfl dX7_moved_32 ?_
      refine z_bipush C (v := (40 : Int32)) (by decide) dX7_moved_35 ?_
      refine z_iconst C (v := (3 : Int32)) (by decide) dX7_moved_37 ?_
      refine z_iload_n C 1 rfl rfl dX7_moved_38 ?_
      refine z_imul C dX7_moved_39 ?_
      refine z_iadd C dX7_moved_40 ?_
      refine z_iload_n C 2 rfl rfl dX7_moved_41 ?_
      refine z_iadd C dX7_moved_42 ?_
      refine z_iald C (N := 368) (f := (S 0)) 1 rfl h dX7_moved_43 (fun h => ?_)
      refine z_goto C 48 (by decide) dX7_moved_44 ?_
      obtain rfl := Option.some.inj h
      exact R rfl 48 _ dX7_moved_48

theorem c_X7_moved (E : zEnv) (a : Nat → Nat) (x1 : Int32) (x2 : Int32) (S : St) {res : Int32} (h : f_X7_moved x1 x2 S = some res) : Kti E yX7_moved wsX7_moved rm_X7_moved (wModel E a S) (wModel E a S) [.ref (a 0), .int x1, .int x2] res :=
  z_enti (cc := cX7_moved) (maxL := 3) (rt := .int) (by decide +kernel) rfl (Nat.le_of_ble_eq_true rfl) (fun Γ C R => L_X7_moved a C R x1 x2 h)

abbrev rm_X7_expected : Room := { frames := 1, cells := 0, slots := 0, locals := 25 }
theorem inw_X7_expected_X7 : ∀ w ∈ wsX70, w ∈ wsX7_expected := fun _ h => List.mem_cons_of_mem _ (List.mem_append_right _ h)
noncomputable def f_X7_expected (x1 : Int32) (x2 : Int32) (S : St) : Option Int32 := (ix (90 : Int32) 368 ((f_X7_in (Int32.toInt64 x1) (0 : Int64) (Int32.toInt64 ((S 0 (Int32.toNatClampNeg (90 : Int32))) - (1 : Int32)))).bind (fun q1 => (if q1 = 0 then (some (-1 : Int32)) else ((f_X7_in (Int32.toInt64 x2) (0 : Int64) (2 : Int64)).bind (fun q2 => (if q2 = 0 then (some (-1 : Int32)) else (ix (((76 : Int32) + ((3 : Int32) * x1)) + x2) 368 (some (S 0 (Int32.toNatClampNeg (((76 : Int32) + ((3 : Int32) * x1)) + x2))))))))))))
set_option maxHeartbeats 4000000 in
set_option maxRecDepth 100000 in
theorem L_X7_expected {E : zEnv} {Γ : zG} (a : Nat → Nat) (C : zC E Γ cX7_expected RX7 3 rm_X7_expected wsX7_expected) {res : Int32} {S : St} (R : zRi E Γ cX7_expected 3 .int (wModel E a S) res) (x1 : Int32) (x2 : Int32) (h : f_X7_expected x1 x2 S = some res) : Zt E Γ 3 0 0 (wModel E a S) [(0, .ref (a 0)), (1, .int x1), (2, .int x2)] 0 [] := by
  unfold f_X7_expected at h
  refine z_iload_n C 1 rfl rfl dX7_expected_0 ?_
  refine z_i2l C dX7_expected_1 ?_
  refine z_lconst C (v := (0 : Int64)) (by decide) dX7_expected_2 ?_
  refine z_aload_n C 0 rfl rfl dX7_expected_3 ?_
  refine z_get C 0 rfl (C := RX7) (T := TX7) (N := 38) (ci := 7) rfl inw_X7_expected_X7 0 (by decide) (ref := "EldestAgeModel") (List.mem_of_getElem? (i := 1) rfl) rfl (v := .ref (a 1)) rfl dX7_expected_4 ?_
  refine z_bipush C (v := (90 : Int32)) (by decide) dX7_expected_7 ?_
  refine z_iald C (N := 368) (f := (S 0)) 1 rfl h dX7_expected_9 (fun h => ?_)
  refine z_iconst C (v := (1 : Int32)) (by decide) dX7_expected_10 ?_
  refine z_isub C dX7_expected_11 ?_
  refine z_i2l C dX7_expected_12 ?_
  obtain ⟨q1, e1, h⟩ := bd_e h
  refine z_callSi C (rest := []) (c_X7_in E (Int32.toInt64 x1) (0 : Int64) (Int32.toInt64 ((S 0 (Int32.toNatClampNeg (90 : Int32))) - (1 : Int32))) e1) gX7_expected_X7_in rfl rfl rfl 3 rfl (by decide +kernel) ⟨Nat.le_of_ble_eq_true rfl, Nat.le_of_ble_eq_true rfl⟩ [] rfl (by decide) rfl (wModel E a S) rfl (Nat.le_of_ble_eq_true rfl) dX7_expected_13 ⟨Nat.zero_le _, Nat.zero_le _⟩ _ rfl ?_
  refine z_if_eq C 47 (by decide) h dX7_expected_16 (fun hc h => ?_) (fun hc h => ?_)
  · refine z_iconst C (v := (-1 : Int32)) (by decide) dX7_expected_47 ?_
    obtain rfl := Option.some.inj h
    exact R rfl 48 _ dX7_expected_48
  · refine z_iload_n C 2 rfl rfl dX7_expected_19 ?_
    refine z_i2l C dX7_expected_20 ?_
    refine z_lconst C (v := (0 : Int64)) (by decide) dX7_expected_21 ?_
    refine z_ldc2 C (v := (2 : Int64)) (List.mem_of_getElem? (i := 2) rfl) dX7_expected_22 ?_
    obtain ⟨q2, e2, h⟩ := bd_e h
    refine z_callSi C (rest := []) (c_X7_in E (Int32.toInt64 x2) (0 : Int64) (2 : Int64) e2) gX7_expected_X7_in rfl rfl rfl 3 rfl (by decide +kernel) ⟨Nat.le_of_ble_eq_true rfl, Nat.le_of_ble_eq_true rfl⟩ [] rfl (by decide) rfl (wModel E a S) rfl (Nat.le_of_ble_eq_true rfl) dX7_expected_25 ⟨Nat.zero_le _, Nat.zero_le _⟩ _ rfl ?_
    refine z_if_eq C 47 (by decide) h dX7_expected_28 (fun hc h => ?_) (fun hc h => ?_)
    · refine z_iconst C (v := (-1 : Int32)) (by decide) dX7_expected_47 ?_
      obtain rfl := Option.some.inj h
      exact R rfl 48 _ dX7_expected_48
    · refine z_aload_n C 0 rfl rfl dX7_expected_31 ?_
      refine z_get C 0 rfl (C := RX7) (T := TX7) (N := 38) (ci := 7) rfl inw_X7_expected_X7 0 (by decide) (ref := "EldestAgeModel") (List.mem_of_getElem? (i := 1) rfl) rfl (v := .ref (a 1)) rfl dX7_expected_32 ?_
      refine z_bipush C (v := (76 : Int32)) (by decide) dX7_expected_35 ?_
      refine z_iconst C (v := (3 : Int32)) (by decide) dX7_expected_37 ?_
      refine z_iload_n C 1 rfl rfl dX7_expected_38 ?_
      refine z_imul C dX7_expected_39 ?_
      refine z_iadd C dX7_expected_40 ?_
      refine z_iload_n C 2 rfl rfl dX7_expected_41 ?_
      refine z_iadd C dX7_expected_42 ?_
      refine z_iald C (N := 368) (f := (S 0)) 1 rfl h dX7_expected_43 (fun h => ?_)
      refine z_goto C 48 (by decide) dX7_expected_44 ?_
      obtain rfl := Option.some.inj h
      exact R rfl 48 _ dX7_expected_48

theorem c_X7_expected (E : zEnv) (a : Nat → Nat) (x1 : Int32) (x2 : Int32) (S : St) {res : Int32} (h : f_X7_expected x1 x2 S = some res) : Kti E yX7_expected wsX7_expected rm_X7_expected (wModel E a S) (wModel E a S) [.ref (a 0), .int x1, .int x2] res :=
  z_enti (cc := cX7_expected) (maxL := 3) (rt := .int) (by decide +kernel) rfl (Nat.le_of_ble_eq_true rfl) (fun Γ C R => L_X7_expected a C R x1 x2 h)

abbrev rm_X7_law : Room := { frames := 1, cells := 0, slots := 0, locals := 25 }
theorem inw_X7_law_X7 : ∀ w ∈ wsX70, w ∈ wsX7_law := fun _ h => List.mem_cons_of_mem _ (List.mem_append_right _ h)
set_option maxHeartbeats 4000000 in
theorem wl_X7_law_0 (E : zEnv) (a : Nat → Nat) (S : St) (f : Nat → Int32) : (wModel E a (st 0 f S)) = (wModel E a S).set 1 (a 1, .inl (zI E, 368, .inl f)) := rfl
noncomputable def f_X7_law (x1 : Int32) (S : St) : Option (Int32 × St) := ((f_X7_in (Int32.toInt64 x1) (0 : Int64) (3 : Int64)).bind (fun q1 => (if q1 = 0 then (some ((-1 : Int32), S)) else (ix (91 : Int32) 368 (ix (91 : Int32) 368 (some ((S 0 (Int32.toNatClampNeg (91 : Int32))), (st 0 (upd (S 0) (Int32.toNatClampNeg (91 : Int32)) x1) S))))))))
set_option maxHeartbeats 4000000 in
set_option maxRecDepth 100000 in
theorem L_X7_law {E : zEnv} {Γ : zG} (a : Nat → Nat) (C : zC E Γ cX7_law RX7 3 rm_X7_law wsX7_law) {res : (Int32 × St)} (R : zRi E Γ cX7_law 3 .int (wModel E a res.2) res.1) (x1 : Int32) (S : St) (h : f_X7_law x1 S = some res) : Zt E Γ 3 0 0 (wModel E a S) [(0, .ref (a 0)), (1, .int x1)] 0 [] := by
  unfold f_X7_law at h
  refine z_iload_n C 1 rfl rfl dX7_law_0 ?_
  refine z_i2l C dX7_law_1 ?_
  refine z_lconst C (v := (0 : Int64)) (by decide) dX7_law_2 ?_
  refine z_ldc2 C (v := (3 : Int64)) (List.mem_of_getElem? (i := 1) rfl) dX7_law_3 ?_
  obtain ⟨q1, e1, h⟩ := bd_e h
  refine z_callSi C (rest := []) (c_X7_in E (Int32.toInt64 x1) (0 : Int64) (3 : Int64) e1) gX7_law_X7_in rfl rfl rfl 3 rfl (by decide +kernel) ⟨Nat.le_of_ble_eq_true rfl, Nat.le_of_ble_eq_true rfl⟩ [] rfl (by decide) rfl (wModel E a S) rfl (Nat.le_of_ble_eq_true rfl) dX7_law_6 ⟨Nat.zero_le _, Nat.zero_le _⟩ _ rfl ?_
  refine z_if_ne C 14 (by decide) h dX7_law_9 (fun hc h => ?_) (fun hc h => ?_)
  · refine z_iconst C (v := (-1 : Int32)) (by decide) dX7_law_12 ?_
    obtain rfl := Option.some.inj h
    exact R rfl 13 _ dX7_law_13
  · refine z_aload_n C 0 rfl rfl dX7_law_14 ?_
    refine z_get C 0 rfl (C := RX7) (T := TX7) (N := 38) (ci := 7) rfl inw_X7_law_X7 0 (by decide) (ref := "EldestAgeModel") (List.mem_of_getElem? (i := 2) rfl) rfl (v := .ref (a 1)) rfl dX7_law_15 ?_
    refine z_bipush C (v := (91 : Int32)) (by decide) dX7_law_18 ?_
    refine z_iald C (N := 368) (f := (S 0)) 1 rfl h dX7_law_20 (fun h => ?_)
    refine z_istore_n C [(2, .int (S 0 (Int32.toNatClampNeg (91 : Int32)))), (0, .ref (a 0)), (1, .int x1)] rfl (by decide) rfl dX7_law_21 ?_
    refine z_aload_n C 1 rfl rfl dX7_law_22 ?_
    refine z_get C 0 rfl (C := RX7) (T := TX7) (N := 38) (ci := 7) rfl inw_X7_law_X7 0 (by decide) (ref := "EldestAgeModel") (List.mem_of_getElem? (i := 2) rfl) rfl (v := .ref (a 1)) rfl dX7_law_23 ?_
    refine z_bipush C (v := (91 : Int32)) (by decide) dX7_law_26 ?_
    refine z_iload_n C 2 rfl rfl dX7_law_28 ?_
    refine z_iast C (N := 368) (f := (S 0)) 1 rfl h (wModel E a (st 0 (upd (S 0) (Int32.toNatClampNeg (91 : Int32)) x1) S)) (wl_X7_law_0 E a S (upd (S 0) (Int32.toNatClampNeg (91 : Int32)) x1)) dX7_law_29 (fun h => ?_)
    refine z_iload_n C 0 rfl rfl dX7_law_30 ?_
    obtain rfl := Option.some.inj h
    exact R rfl 31 _ dX7_law_31

theorem c_X7_law (E : zEnv) (a : Nat → Nat) (x1 : Int32) (S : St) {res : (Int32 × St)} (h : f_X7_law x1 S = some res) : Kti E yX7_law wsX7_law rm_X7_law (wModel E a S) (wModel E a res.2) [.ref (a 0), .int x1] res.1 :=
  z_enti (cc := cX7_law) (maxL := 3) (rt := .int) (by decide +kernel) rfl (Nat.le_of_ble_eq_true rfl) (fun Γ C R => L_X7_law a C R x1 S h)

abbrev rm_X7_bear : Room := { frames := 2, cells := 0, slots := 0, locals := 46 }
theorem inw_X7_bear_X7 : ∀ w ∈ wsX70, w ∈ wsX7_bear := fun _ h => List.mem_cons_of_mem _ (List.mem_append_right _ h)
set_option maxHeartbeats 4000000 in
theorem wl_X7_bear_0 (E : zEnv) (a : Nat → Nat) (S : St) : ([0, 1, 2, 3, 4, 5, 6, 7, 8, 9, 10, 11, 12, 13, 14, 15, 16] : List Nat).map (fun i => (wModel E a S)[i]?) = (wModel E a S).map some := rfl
set_option maxHeartbeats 4000000 in
theorem wl_X7_bear_1 (E : zEnv) (a : Nat → Nat) (S U : St) : (wModel E a U).map (fun q => q.1) = (wModel E a S).map (fun q => q.1) := rfl
set_option maxHeartbeats 4000000 in
theorem wl_X7_bear_2 (E : zEnv) (a : Nat → Nat) (S : St) (f : Nat → Int32) : (wModel E a (st 0 f S)) = (wModel E a S).set 1 (a 1, .inl (zI E, 368, .inl f)) := rfl
noncomputable def f_X7_bear (x1 : Int32) (x2 : Int32) (x3 : Int32) (S : St) : Option (Int32 × St) := ((f_X7_in (Int32.toInt64 x1) (0 : Int64) (4 : Int64)).bind (fun q1 => (if q1 = 0 then (some ((-1 : Int32), S)) else ((f_X7_isDay x2).bind (fun q2 => (if q2 = 0 then (some ((-1 : Int32), S)) else ((f_X7_isHouse x3 S).bind (fun q3 => (if q3 = 0 then (some ((-1 : Int32), S)) else ((f_X7_people S).bind (fun q4 => (if q4 = (10 : Int32) then (some ((-3 : Int32), S)) else (ix ((4 : Int32) * q4) 368 (ix (((4 : Int32) * q4) + (1 : Int32)) 368 (ix (((4 : Int32) * q4) + (2 : Int32)) 368 (ix (((4 : Int32) * q4) + (3 : Int32)) 368 (ix (88 : Int32) 368 (ix (88 : Int32) 368 (some (q4, (st 0 (upd (upd (upd (upd (upd (S 0) (Int32.toNatClampNeg ((4 : Int32) * q4)) x1) (Int32.toNatClampNeg (((4 : Int32) * q4) + (1 : Int32))) x2) (Int32.toNatClampNeg (((4 : Int32) * q4) + (2 : Int32))) x3) (Int32.toNatClampNeg (((4 : Int32) * q4) + (3 : Int32))) (-4 : Int32)) (Int32.toNatClampNeg (88 : Int32)) (((upd (upd (upd (upd (S 0) (Int32.toNatClampNeg ((4 : Int32) * q4)) x1) (Int32.toNatClampNeg (((4 : Int32) * q4) + (1 : Int32))) x2) (Int32.toNatClampNeg (((4 : Int32) * q4) + (2 : Int32))) x3) (Int32.toNatClampNeg (((4 : Int32) * q4) + (3 : Int32))) (-4 : Int32)) (Int32.toNatClampNeg (88 : Int32))) + (1 : Int32))) (st 0 (upd (upd (upd (upd (S 0) (Int32.toNatClampNeg ((4 : Int32) * q4)) x1) (Int32.toNatClampNeg (((4 : Int32) * q4) + (1 : Int32))) x2) (Int32.toNatClampNeg (((4 : Int32) * q4) + (2 : Int32))) x3) (Int32.toNatClampNeg (((4 : Int32) * q4) + (3 : Int32))) (-4 : Int32)) (st 0 (upd (upd (upd (S 0) (Int32.toNatClampNeg ((4 : Int32) * q4)) x1) (Int32.toNatClampNeg (((4 : Int32) * q4) + (1 : Int32))) x2) (Int32.toNatClampNeg (((4 : Int32) * q4) + (2 : Int32))) x3) (st 0 (upd (upd (S 0) (Int32.toNatClampNeg ((4 : Int32) * q4)) x1) (Int32.toNatClampNeg (((4 : Int32) * q4) + (1 : Int32))) x2) (st 0 (upd (S 0) (Int32.toNatClampNeg ((4 : Int32) * q4)) x1) S)))))))))))))))))))))))))
set_option maxHeartbeats 4000000 in
set_option maxRecDepth 100000 in
theorem L_X7_bear {E : zEnv} {Γ : zG} (a : Nat → Nat) (C : zC E Γ cX7_bear RX7 5 rm_X7_bear wsX7_bear) {res : (Int32 × St)} (R : zRi E Γ cX7_bear 5 .int (wModel E a res.2) res.1) (x1 : Int32) (x2 : Int32) (x3 : Int32) (S : St) (h : f_X7_bear x1 x2 x3 S = some res) : Zt E Γ 5 0 0 (wModel E a S) [(0, .ref (a 0)), (1, .int x1), (2, .int x2), (3, .int x3)] 0 [] := by
  unfold f_X7_bear at h
  refine z_iload_n C 1 rfl rfl dX7_bear_0 ?_
  refine z_i2l C dX7_bear_1 ?_
  refine z_lconst C (v := (0 : Int64)) (by decide) dX7_bear_2 ?_
  refine z_ldc2 C (v := (4 : Int64)) (List.mem_of_getElem? (i := 1) rfl) dX7_bear_3 ?_
  obtain ⟨q1, e1, h⟩ := bd_e h
  refine z_callSi C (rest := []) (c_X7_in E (Int32.toInt64 x1) (0 : Int64) (4 : Int64) e1) gX7_bear_X7_in rfl rfl rfl 3 rfl (by decide +kernel) ⟨Nat.le_of_ble_eq_true rfl, Nat.le_of_ble_eq_true rfl⟩ [] rfl (by decide) rfl (wModel E a S) rfl (Nat.le_of_ble_eq_true rfl) dX7_bear_6 ⟨Nat.zero_le _, Nat.zero_le _⟩ _ rfl ?_
  refine z_if_eq C 27 (by decide) h dX7_bear_9 (fun hc h => ?_) (fun hc h => ?_)
  · refine z_iconst C (v := (-1 : Int32)) (by decide) dX7_bear_27 ?_
    obtain rfl := Option.some.inj h
    exact R rfl 28 _ dX7_bear_28
  · refine z_iload_n C 2 rfl rfl dX7_bear_12 ?_
    obtain ⟨q2, e2, h⟩ := bd_e h
    refine z_callSi C (rest := []) (c_X7_isDay E x2 e2) gX7_bear_X7_isDay rfl rfl rfl 1 rfl (by decide +kernel) ⟨Nat.le_of_ble_eq_true rfl, Nat.le_of_ble_eq_true rfl⟩ [] rfl (by decide) rfl (wModel E a S) rfl (Nat.le_of_ble_eq_true rfl) dX7_bear_13 ⟨Nat.zero_le _, Nat.zero_le _⟩ _ rfl ?_
    refine z_if_eq C 27 (by decide) h dX7_bear_16 (fun hc h => ?_) (fun hc h => ?_)
    · refine z_iconst C (v := (-1 : Int32)) (by decide) dX7_bear_27 ?_
      obtain rfl := Option.some.inj h
      exact R rfl 28 _ dX7_bear_28
    · refine z_aload_n C 0 rfl rfl dX7_bear_19 ?_
      refine z_iload_n C 3 rfl rfl dX7_bear_20 ?_
      obtain ⟨q3, e3, h⟩ := bd_e h
      refine z_callVi C (b := a 0) (As := [.int x3]) (rest := []) (c_X7_isHouse E a x3 S e3) rfl gX7_bear_X7_isHouse rfl rfl rfl 1 rfl (by decide +kernel) ⟨Nat.le_of_ble_eq_true rfl, Nat.le_of_ble_eq_true rfl⟩ [0, 1, 2, 3, 4, 5, 6, 7, 8, 9, 10, 11, 12, 13, 14, 15, 16] (wl_X7_bear_0 E a S) (by decide) rfl (wModel E a S) (zrep_self (wl_X7_bear_0 E a S)) 0 7 rfl rfl rfl (Nat.le_of_ble_eq_true rfl) dX7_bear_21 ⟨Nat.zero_le _, Nat.zero_le _⟩ _ rfl ?_
      refine z_if_ne C 29 (by decide) h dX7_bear_24 (fun hc h => ?_) (fun hc h => ?_)
      · refine z_iconst C (v := (-1 : Int32)) (by decide) dX7_bear_27 ?_
        obtain rfl := Option.some.inj h
        exact R rfl 28 _ dX7_bear_28
      · refine z_aload_n C 0 rfl rfl dX7_bear_29 ?_
        obtain ⟨q4, e4, h⟩ := bd_e h
        refine z_callVi C (b := a 0) (As := []) (rest := []) (c_X7_people E a S e4) rfl gX7_bear_X7_people rfl rfl rfl 0 rfl (by decide +kernel) ⟨Nat.le_of_ble_eq_true rfl, Nat.le_of_ble_eq_true rfl⟩ [0, 1, 2, 3, 4, 5, 6, 7, 8, 9, 10, 11, 12, 13, 14, 15, 16] (wl_X7_bear_0 E a S) (by decide) rfl (wModel E a S) (zrep_self (wl_X7_bear_0 E a S)) 0 7 rfl rfl rfl (Nat.le_of_ble_eq_true rfl) dX7_bear_30 ⟨Nat.zero_le _, Nat.zero_le _⟩ _ rfl ?_
        refine z_istore C [(4, .int q4), (0, .ref (a 0)), (1, .int x1), (2, .int x2), (3, .int x3)] (by decide) rfl dX7_bear_33 ?_
        refine z_iload C 0 rfl dX7_bear_35 ?_
        refine z_bipush C (v := (10 : Int32)) (by decide) dX7_bear_37 ?_
        refine z_icmp_ne C 45 (by decide) h dX7_bear_39 (fun hc h => ?_) (fun hc h => ?_)
        · refine z_bipush C (v := (-3 : Int32)) (by decide) dX7_bear_42 ?_
          obtain rfl := Option.some.inj h
          exact R rfl 44 _ dX7_bear_44
        · refine z_aload_n C 1 rfl rfl dX7_bear_45 ?_
          refine z_get C 0 rfl (C := RX7) (T := TX7) (N := 38) (ci := 7) rfl inw_X7_bear_X7 0 (by decide) (ref := "EldestAgeModel") (List.mem_of_getElem? (i := 2) rfl) rfl (v := .ref (a 1)) rfl dX7_bear_46 ?_
          refine z_iconst C (v := (4 : Int32)) (by decide) dX7_bear_49 ?_
          refine z_iload C 0 rfl dX7_bear_50 ?_
          refine z_imul C dX7_bear_52 ?_
          refine z_iload_n C 2 rfl rfl dX7_bear_53 ?_
          refine z_iast C (N := 368) (f := (S 0)) 1 rfl h (wModel E a (st 0 (upd (S 0) (Int32.toNatClampNeg ((4 : Int32) * q4)) x1) S)) (wl_X7_bear_2 E a S (upd (S 0) (Int32.toNatClampNeg ((4 : Int32) * q4)) x1)) dX7_bear_54 (fun h => ?_)
          refine z_aload_n C 1 rfl rfl dX7_bear_55 ?_
          refine z_get C 0 rfl (C := RX7) (T := TX7) (N := 38) (ci := 7) rfl inw_X7_bear_X7 0 (by decide) (ref := "EldestAgeModel") (List.mem_of_getElem? (i := 2) rfl) rfl (v := .ref (a 1)) rfl dX7_bear_56 ?_
          refine z_iconst C (v := (4 : Int32)) (by decide) dX7_bear_59 ?_
          refine z_iload C 0 rfl dX7_bear_60 ?_
          refine z_imul C dX7_bear_62 ?_
          refine z_iconst C (v := (1 : Int32)) (by decide) dX7_bear_63 ?_
          refine z_iadd C dX7_bear_64 ?_
          refine z_iload_n C 3 rfl rfl dX7_bear_65 ?_
          refine z_iast C (N := 368) (f := (upd (S 0) (Int32.toNatClampNeg ((4 : Int32) * q4)) x1)) 1 rfl h (wModel E a (st 0 (upd (upd (S 0) (Int32.toNatClampNeg ((4 : Int32) * q4)) x1) (Int32.toNatClampNeg (((4 : Int32) * q4) + (1 : Int32))) x2) (st 0 (upd (S 0) (Int32.toNatClampNeg ((4 : Int32) * q4)) x1) S))) (wl_X7_bear_2 E a (st 0 (upd (S 0) (Int32.toNatClampNeg ((4 : Int32) * q4)) x1) S) (upd (upd (S 0) (Int32.toNatClampNeg ((4 : Int32) * q4)) x1) (Int32.toNatClampNeg (((4 : Int32) * q4) + (1 : Int32))) x2)) dX7_bear_66 (fun h => ?_)
          refine z_aload_n C 1 rfl rfl dX7_bear_67 ?_
          refine z_get C 0 rfl (C := RX7) (T := TX7) (N := 38) (ci := 7) rfl inw_X7_bear_X7 0 (by decide) (ref := "EldestAgeModel") (List.mem_of_getElem? (i := 2) rfl) rfl (v := .ref (a 1)) rfl dX7_bear_68 ?_
          refine z_iconst C (v := (4 : Int32)) (by decide) dX7_bear_71 ?_
          refine z_iload C 0 rfl dX7_bear_72 ?_
          refine z_imul C dX7_bear_74 ?_
          refine z_iconst C (v := (2 : Int32)) (by decide) dX7_bear_75 ?_
          refine z_iadd C dX7_bear_76 ?_
          refine z_iload_n C 4 rfl rfl dX7_bear_77 ?_
          refine z_iast C (N := 368) (f := (upd (upd (S 0) (Int32.toNatClampNeg ((4 : Int32) * q4)) x1) (Int32.toNatClampNeg (((4 : Int32) * q4) + (1 : Int32))) x2)) 1 rfl h (wModel E a (st 0 (upd (upd (upd (S 0) (Int32.toNatClampNeg ((4 : Int32) * q4)) x1) (Int32.toNatClampNeg (((4 : Int32) * q4) + (1 : Int32))) x2) (Int32.toNatClampNeg (((4 : Int32) * q4) + (2 : Int32))) x3) (st 0 (upd (upd (S 0) (Int32.toNatClampNeg ((4 : Int32) * q4)) x1) (Int32.toNatClampNeg (((4 : Int32) * q4) + (1 : Int32))) x2) (st 0 (upd (S 0) (Int32.toNatClampNeg ((4 : Int32) * q4)) x1) S)))) (wl_X7_bear_2 E a (st 0 (upd (upd (S 0) (Int32.toNatClampNeg ((4 : Int32) * q4)) x1) (Int32.toNatClampNeg (((4 : Int32) * q4) + (1 : Int32))) x2) (st 0 (upd (S 0) (Int32.toNatClampNeg ((4 : Int32) * q4)) x1) S)) (upd (upd (upd (S 0) (Int32.toNatClampNeg ((4 : Int32) * q4)) x1) (Int32.toNatClampNeg (((4 : Int32) * q4) + (1 : Int32))) x2) (Int32.toNatClampNeg (((4 : Int32) * q4) + (2 : Int32))) x3)) dX7_bear_78 (fun h => ?_)
          refine z_aload_n C 1 rfl rfl dX7_bear_79 ?_
          refine z_get C 0 rfl (C := RX7) (T := TX7) (N := 38) (ci := 7) rfl inw_X7_bear_X7 0 (by decide) (ref := "EldestAgeModel") (List.mem_of_getElem? (i := 2) rfl) rfl (v := .ref (a 1)) rfl dX7_bear_80 ?_
          refine z_iconst C (v := (4 : Int32)) (by decide) dX7_bear_83 ?_
          refine z_iload C 0 rfl dX7_bear_84 ?_
          refine z_imul C dX7_bear_86 ?_
          refine z_iconst C (v := (3 : Int32)) (by decide) dX7_bear_87 ?_
          refine z_iadd C dX7_bear_88 ?_
          refine z_bipush C (v := (-4 : Int32)) (by decide) dX7_bear_89 ?_
          refine z_iast C (N := 368) (f := (upd (upd (upd (S 0) (Int32.toNatClampNeg ((4 : Int32) * q4)) x1) (Int32.toNatClampNeg (((4 : Int32) * q4) + (1 : Int32))) x2) (Int32.toNatClampNeg (((4 : Int32) * q4) + (2 : Int32))) x3)) 1 rfl h (wModel E a (st 0 (upd (upd (upd (upd (S 0) (Int32.toNatClampNeg ((4 : Int32) * q4)) x1) (Int32.toNatClampNeg (((4 : Int32) * q4) + (1 : Int32))) x2) (Int32.toNatClampNeg (((4 : Int32) * q4) + (2 : Int32))) x3) (Int32.toNatClampNeg (((4 : Int32) * q4) + (3 : Int32))) (-4 : Int32)) (st 0 (upd (upd (upd (S 0) (Int32.toNatClampNeg ((4 : Int32) * q4)) x1) (Int32.toNatClampNeg (((4 : Int32) * q4) + (1 : Int32))) x2) (Int32.toNatClampNeg (((4 : Int32) * q4) + (2 : Int32))) x3) (st 0 (upd (upd (S 0) (Int32.toNatClampNeg ((4 : Int32) * q4)) x1) (Int32.toNatClampNeg (((4 : Int32) * q4) + (1 : Int32))) x2) (st 0 (upd (S 0) (Int32.toNatClampNeg ((4 : Int32) * q4)) x1) S))))) (wl_X7_bear_2 E a (st 0 (upd (upd (upd (S 0) (Int32.toNatClampNeg ((4 : Int32) * q4)) x1) (Int32.toNatClampNeg (((4 : Int32) * q4) + (1 : Int32))) x2) (Int32.toNatClampNeg (((4 : Int32) * q4) + (2 : Int32))) x3) (st 0 (upd (upd (S 0) (Int32.toNatClampNeg ((4 : Int32) * q4)) x1) (Int32.toNatClampNeg (((4 : Int32) * q4) + (1 : Int32))) x2) (st 0 (upd (S 0) (Int32.toNatClampNeg ((4 : Int32) * q4)) x1) S))) (upd (upd (upd (upd (S 0) (Int32.toNatClampNeg ((4 : Int32) * q4)) x1) (Int32.toNatClampNeg (((4 : Int32) * q4) + (1 : Int32))) x2) (Int32.toNatClampNeg (((4 : Int32) * q4) + (2 : Int32))) x3) (Int32.toNatClampNeg (((4 : Int32) * q4) + (3 : Int32))) (-4 : Int32))) dX7_bear_91 (fun h => ?_)
          refine z_aload_n C 1 rfl rfl dX7_bear_92 ?_
          refine z_get C 0 rfl (C := RX7) (T := TX7) (N := 38) (ci := 7) rfl inw_X7_bear_X7 0 (by decide) (ref := "EldestAgeModel") (List.mem_of_getElem? (i := 2) rfl) rfl (v := .ref (a 1)) rfl dX7_bear_93 ?_
          refine z_bipush C (v := (88 : Int32)) (by decide) dX7_bear_96 ?_
          refine z_dup2 C rfl rfl dX7_bear_98 ?_
          refine z_iald C (N := 368) (f := (upd (upd (upd (upd (S 0) (Int32.toNatClampNeg ((4 : Int32) * q4)) x1) (Int32.toNatClampNeg (((4 : Int32) * q4) + (1 : Int32))) x2) (Int32.toNatClampNeg (((4 : Int32) * q4) + (2 : Int32))) x3) (Int32.toNatClampNeg (((4 : Int32) * q4) + (3 : Int32))) (-4 : Int32))) 1 rfl h dX7_bear_99 (fun h => ?_)
          refine z_iconst C (v := (1 : Int32)) (by decide) dX7_bear_100 ?_
          refine z_iadd C dX7_bear_101 ?_
          refine z_iast C (N := 368) (f := (upd (upd (upd (upd (S 0) (Int32.toNatClampNeg ((4 : Int32) * q4)) x1) (Int32.toNatClampNeg (((4 : Int32) * q4) + (1 : Int32))) x2) (Int32.toNatClampNeg (((4 : Int32) * q4) + (2 : Int32))) x3) (Int32.toNatClampNeg (((4 : Int32) * q4) + (3 : Int32))) (-4 : Int32))) 1 rfl h (wModel E a (st 0 (upd (upd (upd (upd (upd (S 0) (Int32.toNatClampNeg ((4 : Int32) * q4)) x1) (Int32.toNatClampNeg (((4 : Int32) * q4) + (1 : Int32))) x2) (Int32.toNatClampNeg (((4 : Int32) * q4) + (2 : Int32))) x3) (Int32.toNatClampNeg (((4 : Int32) * q4) + (3 : Int32))) (-4 : Int32)) (Int32.toNatClampNeg (88 : Int32)) (((upd (upd (upd (upd (S 0) (Int32.toNatClampNeg ((4 : Int32) * q4)) x1) (Int32.toNatClampNeg (((4 : Int32) * q4) + (1 : Int32))) x2) (Int32.toNatClampNeg (((4 : Int32) * q4) + (2 : Int32))) x3) (Int32.toNatClampNeg (((4 : Int32) * q4) + (3 : Int32))) (-4 : Int32)) (Int32.toNatClampNeg (88 : Int32))) + (1 : Int32))) (st 0 (upd (upd (upd (upd (S 0) (Int32.toNatClampNeg ((4 : Int32) * q4)) x1) (Int32.toNatClampNeg (((4 : Int32) * q4) + (1 : Int32))) x2) (Int32.toNatClampNeg (((4 : Int32) * q4) + (2 : Int32))) x3) (Int32.toNatClampNeg (((4 : Int32) * q4) + (3 : Int32))) (-4 : Int32)) (st 0 (upd (upd (upd (S 0) (Int32.toNatClampNeg ((4 : Int32) * q4)) x1) (Int32.toNatClampNeg (((4 : Int32) * q4) + (1 : Int32))) x2) (Int32.toNatClampNeg (((4 : Int32) * q4) + (2 : Int32))) x3) (st 0 (upd (upd (S 0) (Int32.toNatClampNeg ((4 : Int32) * q4)) x1) (Int32.toNatClampNeg (((4 : Int32) * q4) + (1 : Int32))) x2) (st 0 (upd (S 0) (Int32.toNatClampNeg ((4 : Int32) * q4)) x1) S)))))) (wl_X7_bear_2 E a (st 0 (upd (upd (upd (upd (S 0) (Int32.toNatClampNeg ((4 : Int32) * q4)) x1) (Int32.toNatClampNeg (((4 : Int32) * q4) + (1 : Int32))) x2) (Int32.toNatClampNeg (((4 : Int32) * q4) + (2 : Int32))) x3) (Int32.toNatClampNeg (((4 : Int32) * q4) + (3 : Int32))) (-4 : Int32)) (st 0 (upd (upd (upd (S 0) (Int32.toNatClampNeg ((4 : Int32) * q4)) x1) (Int32.toNatClampNeg (((4 : Int32) * q4) + (1 : Int32))) x2) (Int32.toNatClampNeg (((4 : Int32) * q4) + (2 : Int32))) x3) (st 0 (upd (upd (S 0) (Int32.toNatClampNeg ((4 : Int32) * q4)) x1) (Int32.toNatClampNeg (((4 : Int32) * q4) + (1 : Int32))) x2) (st 0 (upd (S 0) (Int32.toNatClampNeg ((4 : Int32) * q4)) x1) S)))) (upd (upd (upd (upd (upd (S 0) (Int32.toNatClampNeg ((4 : Int32) * q4)) x1) (Int32.toNatClampNeg (((4 : Int32) * q4) + (1 : Int32))) x2) (Int32.toNatClampNeg (((4 : Int32) * q4) + (2 : Int32))) x3) (Int32.toNatClampNeg (((4 : Int32) * q4) + (3 : Int32))) (-4 : Int32)) (Int32.toNatClampNeg (88 : Int32)) (((upd (upd (upd (upd (S 0) (Int32.toNatClampNeg ((4 : Int32) * q4)) x1) (Int32.toNatClampNeg (((4 : Int32) * q4) + (1 : Int32))) x2) (Int32.toNatClampNeg (((4 : Int32) * q4) + (2 : Int32))) x3) (Int32.toNatClampNeg (((4 : Int32) * q4) + (3 : Int32))) (-4 : Int32)) (Int32.toNatClampNeg (88 : Int32))) + (1 : Int32)))) dX7_bear_102 (fun h => ?_)
          refine z_iload C 0 rfl dX7_bear_103 ?_
          obtain rfl := Option.some.inj h
          exact R rfl 105 _ dX7_bear_105

theorem c_X7_bear (E : zEnv) (a : Nat → Nat) (x1 : Int32) (x2 : Int32) (x3 : Int32) (S : St) {res : (Int32 × St)} (h : f_X7_bear x1 x2 x3 S = some res) : Kti E yX7_bear wsX7_bear rm_X7_bear (wModel E a S) (wModel E a res.2) [.ref (a 0), .int x1, .int x2, .int x3] res.1 :=
  z_enti (cc := cX7_bear) (maxL := 5) (rt := .int) (by decide +kernel) rfl (Nat.le_of_ble_eq_true rfl) (fun Γ C R => L_X7_bear a C R x1 x2 x3 S h)

abbrev rm_X7_die : Room := { frames := 2, cells := 0, slots := 0, locals := 46 }
theorem inw_X7_die_X7 : ∀ w ∈ wsX70, w ∈ wsX7_die := fun _ h => List.mem_cons_of_mem _ (List.mem_append_right _ h)
set_option maxHeartbeats 4000000 in
theorem wl_X7_die_0 (E : zEnv) (a : Nat → Nat) (S : St) : ([0, 1, 2, 3, 4, 5, 6, 7, 8, 9, 10, 11, 12, 13, 14, 15, 16] : List Nat).map (fun i => (wModel E a S)[i]?) = (wModel E a S).map some := rfl
set_option maxHeartbeats 4000000 in
theorem wl_X7_die_1 (E : zEnv) (a : Nat → Nat) (S U : St) : (wModel E a U).map (fun q => q.1) = (wModel E a S).map (fun q => q.1) := rfl
set_option maxHeartbeats 4000000 in
theorem wl_X7_die_2 (E : zEnv) (a : Nat → Nat) (S : St) (f : Nat → Int32) : (wModel E a (st 0 f S)) = (wModel E a S).set 1 (a 1, .inl (zI E, 368, .inl f)) := rfl
noncomputable def f_X7_die (x1 : Int32) (x2 : Int32) (S : St) : Option (Int32 × St) := ((f_X7_isOne x1 S).bind (fun q1 => (if q1 = 0 then (some ((-1 : Int32), S)) else ((f_X7_isDay x2).bind (fun q2 => (if q2 = 0 then (some ((-1 : Int32), S)) else (ix (((4 : Int32) * x1) + (1 : Int32)) 368 (if (S 0 (Int32.toNatClampNeg (((4 : Int32) * x1) + (1 : Int32)))) < x2 then (ix (((4 : Int32) * x1) + (3 : Int32)) 368 (ix (((4 : Int32) * x1) + (3 : Int32)) 368 (some ((S 0 (Int32.toNatClampNeg (((4 : Int32) * x1) + (3 : Int32)))), (st 0 (upd (S 0) (Int32.toNatClampNeg (((4 : Int32) * x1) + (3 : Int32))) x2) S))))) else (some ((-1 : Int32), S))))))))))
set_option maxHeartbeats 4000000 in
set_option maxRecDepth 100000 in
theorem L_X7_die {E : zEnv} {Γ : zG} (a : Nat → Nat) (C : zC E Γ cX7_die RX7 4 rm_X7_die wsX7_die) {res : (Int32 × St)} (R : zRi E Γ cX7_die 4 .int (wModel E a res.2) res.1) (x1 : Int32) (x2 : Int32) (S : St) (h : f_X7_die x1 x2 S = some res) : Zt E Γ 4 0 0 (wModel E a S) [(0, .ref (a 0)), (1, .int x1), (2, .int x2)] 0 [] := by
  unfold f_X7_die at h
  refine z_aload_n C 0 rfl rfl dX7_die_0 ?_
  refine z_iload_n C 1 rfl rfl dX7_die_1 ?_
  obtain ⟨q1, e1, h⟩ := bd_e h
  refine z_callVi C (b := a 0) (As := [.int x1]) (rest := []) (c_X7_isOne E a x1 S e1) rfl gX7_die_X7_isOne rfl rfl rfl 1 rfl (by decide +kernel) ⟨Nat.le_of_ble_eq_true rfl, Nat.le_of_ble_eq_true rfl⟩ [0, 1, 2, 3, 4, 5, 6, 7, 8, 9, 10, 11, 12, 13, 14, 15, 16] (wl_X7_die_0 E a S) (by decide) rfl (wModel E a S) (zrep_self (wl_X7_die_0 E a S)) 0 7 rfl rfl rfl (Nat.le_of_ble_eq_true rfl) dX7_die_2 ⟨Nat.zero_le _, Nat.zero_le _⟩ _ rfl ?_
  refine z_if_eq C 29 (by decide) h dX7_die_5 (fun hc h => ?_) (fun hc h => ?_)
  · refine z_iconst C (v := (-1 : Int32)) (by decide) dX7_die_29 ?_
    obtain rfl := Option.some.inj h
    exact R rfl 30 _ dX7_die_30
  · refine z_iload_n C 2 rfl rfl dX7_die_8 ?_
    obtain ⟨q2, e2, h⟩ := bd_e h
    refine z_callSi C (rest := []) (c_X7_isDay E x2 e2) gX7_die_X7_isDay rfl rfl rfl 1 rfl (by decide +kernel) ⟨Nat.le_of_ble_eq_true rfl, Nat.le_of_ble_eq_true rfl⟩ [] rfl (by decide) rfl (wModel E a S) rfl (Nat.le_of_ble_eq_true rfl) dX7_die_9 ⟨Nat.zero_le _, Nat.zero_le _⟩ _ rfl ?_
    refine z_if_eq C 29 (by decide) h dX7_die_12 (fun hc h => ?_) (fun hc h => ?_)
    · refine z_iconst C (v := (-1 : Int32)) (by decide) dX7_die_29 ?_
      obtain rfl := Option.some.inj h
      exact R rfl 30 _ dX7_die_30
    · refine z_iload_n C 2 rfl rfl dX7_die_15 ?_
      refine z_aload_n C 0 rfl rfl dX7_die_16 ?_
      refine z_get C 0 rfl (C := RX7) (T := TX7) (N := 38) (ci := 7) rfl inw_X7_die_X7 0 (by decide) (ref := "EldestAgeModel") (List.mem_of_getElem? (i := 1) rfl) rfl (v := .ref (a 1)) rfl dX7_die_17 ?_
      refine z_iconst C (v := (4 : Int32)) (by decide) dX7_die_20 ?_
      refine z_iload_n C 1 rfl rfl dX7_die_21 ?_
      refine z_imul C dX7_die_22 ?_
      refine z_iconst C (v := (1 : Int32)) (by decide) dX7_die_23 ?_
      refine z_iadd C dX7_die_24 ?_
      refine z_iald C (N := 368) (f := (S 0)) 1 rfl h dX7_die_25 (fun h => ?_)
      refine z_icmp_gt C 31 (by decide) h dX7_die_26 (fun hc h => ?_) (fun hc h => ?_)
      · refine z_aload_n C 0 rfl rfl dX7_die_31 ?_
        refine z_get C 0 rfl (C := RX7) (T := TX7) (N := 38) (ci := 7) rfl inw_X7_die_X7 0 (by decide) (ref := "EldestAgeModel") (List.mem_of_getElem? (i := 1) rfl) rfl (v := .ref (a 1)) rfl dX7_die_32 ?_
        refine z_iconst C (v := (4 : Int32)) (by decide) dX7_die_35 ?_
        refine z_iload_n C 1 rfl rfl dX7_die_36 ?_
        refine z_imul C dX7_die_37 ?_
        refine z_iconst C (v := (3 : Int32)) (by decide) dX7_die_38 ?_
        refine z_iadd C dX7_die_39 ?_
        refine z_iald C (N := 368) (f := (S 0)) 1 rfl h dX7_die_40 (fun h => ?_)
        refine z_istore_n C [(3, .int (S 0 (Int32.toNatClampNeg (((4 : Int32) * x1) + (3 : Int32))))), (0, .ref (a 0)), (1, .int x1), (2, .int x2)] rfl (by decide) rfl dX7_die_41 ?_
        refine z_aload_n C 1 rfl rfl dX7_die_42 ?_
        refine z_get C 0 rfl (C := RX7) (T := TX7) (N := 38) (ci := 7) rfl inw_X7_die_X7 0 (by decide) (ref := "EldestAgeModel") (List.mem_of_getElem? (i := 1) rfl) rfl (v := .ref (a 1)) rfl dX7_die_43 ?_
        refine z_iconst C (v := (4 : Int32)) (by decide) dX7_die_46 ?_
        refine z_iload_n C 2 rfl rfl dX7_die_47 ?_
        refine z_imul C dX7_die_48 ?_
        refine z_iconst C (v := (3 : Int32)) (by decide) dX7_die_49 ?_
        refine z_iadd C dX7_die_50 ?_
        refine z_iload_n C 3 rfl rfl dX7_die_51 ?_
        refine z_iast C (N := 368) (f := (S 0)) 1 rfl h (wModel E a (st 0 (upd (S 0) (Int32.toNatClampNeg (((4 : Int32) * x1) + (3 : Int32))) x2) S)) (wl_X7_die_2 E a S (upd (S 0) (Int32.toNatClampNeg (((4 : Int32) * x1) + (3 : Int32))) x2)) dX7_die_52 (fun h => ?_)
        refine z_iload_n C 0 rfl rfl dX7_die_53 ?_
        obtain rfl := Option.some.inj h
        exact R rfl 54 _ dX7_die_54
      · refine z_iconst C (v := (-1 : Int32)) (by decide) dX7_die_29 ?_
        obtain rfl := Option.some.inj h
        exact R rfl 30 _ dX7_die_30

theorem c_X7_die (E : zEnv) (a : Nat → Nat) (x1 : Int32) (x2 : Int32) (S : St) {res : (Int32 × St)} (h : f_X7_die x1 x2 S = some res) : Kti E yX7_die wsX7_die rm_X7_die (wModel E a S) (wModel E a res.2) [.ref (a 0), .int x1, .int x2] res.1 :=
  z_enti (cc := cX7_die) (maxL := 4) (rt := .int) (by decide +kernel) rfl (Nat.le_of_ble_eq_true rfl) (fun Γ C R => L_X7_die a C R x1 x2 S h)

abbrev rm_X7_moves : Room := { frames := 2, cells := 0, slots := 0, locals := 46 }
theorem inw_X7_moves_X7 : ∀ w ∈ wsX70, w ∈ wsX7_moves := fun _ h => List.mem_cons_of_mem _ (List.mem_append_right _ h)
set_option maxHeartbeats 4000000 in
theorem wl_X7_moves_0 (E : zEnv) (a : Nat → Nat) (S : St) (f : Nat → Int32) : (wModel E a (st 0 f S)) = (wModel E a S).set 1 (a 1, .inl (zI E, 368, .inl f)) := rfl
set_option maxHeartbeats 4000000 in
theorem wl_X7_moves_1 (E : zEnv) (a : Nat → Nat) (S : St) : ([0, 1, 2, 3, 4, 5, 6, 7, 8, 9, 10, 11, 12, 13, 14, 15, 16] : List Nat).map (fun i => (wModel E a S)[i]?) = (wModel E a S).map some := rfl
set_option maxHeartbeats 4000000 in
theorem wl_X7_moves_2 (E : zEnv) (a : Nat → Nat) (S U : St) : (wModel E a U).map (fun q => q.1) = (wModel E a S).map (fun q => q.1) := rfl
noncomputable def f_X7_moves_57 (x1 : Int32) (x2 : Int32) (x3 : Int32) (x4 : Int32) (S : St) : Option (Int32 × St) := (if x4 = (12 : Int32) then (some ((-3 : Int32), S)) else (ix ((40 : Int32) + ((3 : Int32) * x4)) 368 (ix (((40 : Int32) + ((3 : Int32) * x4)) + (1 : Int32)) 368 (ix (((40 : Int32) + ((3 : Int32) * x4)) + (2 : Int32)) 368 (ix (89 : Int32) 368 (ix (89 : Int32) 368 (some ((x4 + (1 : Int32)), (st 0 (upd (upd (upd (upd (S 0) (Int32.toNatClampNeg ((40 : Int32) + ((3 : Int32) * x4))) x1) (Int32.toNatClampNeg (((40 : Int32) + ((3 : Int32) * x4)) + (1 : Int32))) x2) (Int32.toNatClampNeg (((40 : Int32) + ((3 : Int32) * x4)) + (2 : Int32))) x3) (Int32.toNatClampNeg (89 : Int32)) (((upd (upd (upd (S 0) (Int32.toNatClampNeg ((40 : Int32) + ((3 : Int32) * x4))) x1) (Int32.toNatClampNeg (((40 : Int32) + ((3 : Int32) * x4)) + (1 : Int32))) x2) (Int32.toNatClampNeg (((40 : Int32) + ((3 : Int32) * x4)) + (2 : Int32))) x3) (Int32.toNatClampNeg (89 : Int32))) + (1 : Int32))) (st 0 (upd (upd (upd (S 0) (Int32.toNatClampNeg ((40 : Int32) + ((3 : Int32) * x4))) x1) (Int32.toNatClampNeg (((40 : Int32) + ((3 : Int32) * x4)) + (1 : Int32))) x2) (Int32.toNatClampNeg (((40 : Int32) + ((3 : Int32) * x4)) + (2 : Int32))) x3) (st 0 (upd (upd (S 0) (Int32.toNatClampNeg ((40 : Int32) + ((3 : Int32) * x4))) x1) (Int32.toNatClampNeg (((40 : Int32) + ((3 : Int32) * x4)) + (1 : Int32))) x2) (st 0 (upd (S 0) (Int32.toNatClampNeg ((40 : Int32) + ((3 : Int32) * x4))) x1) S))))))))))))
noncomputable def f_X7_moves (x1 : Int32) (x2 : Int32) (x3 : Int32) (S : St) : Option (Int32 × St) := (ix (89 : Int32) 368 ((f_X7_isDay x1).bind (fun q1 => (if q1 = 0 then (some ((-1 : Int32), S)) else ((f_X7_isOne x2 S).bind (fun q2 => (if q2 = 0 then (some ((-1 : Int32), S)) else ((f_X7_isHouse x3 S).bind (fun q3 => (if q3 = 0 then (some ((-1 : Int32), S)) else (if (S 0 (Int32.toNatClampNeg (89 : Int32))) ≤ 0 then (f_X7_moves_57 x1 x2 x3 (S 0 (Int32.toNatClampNeg (89 : Int32))) S) else (ix (((40 : Int32) + ((3 : Int32) * (S 0 (Int32.toNatClampNeg (89 : Int32))))) - (3 : Int32)) 368 (if (S 0 (Int32.toNatClampNeg (((40 : Int32) + ((3 : Int32) * (S 0 (Int32.toNatClampNeg (89 : Int32))))) - (3 : Int32)))) ≤ x1 then (f_X7_moves_57 x1 x2 x3 (S 0 (Int32.toNatClampNeg (89 : Int32))) S) else (some ((-1 : Int32), S)))))))))))))))
set_option maxHeartbeats 4000000 in
set_option maxRecDepth 100000 in
theorem L_X7_moves_57 {E : zEnv} {Γ : zG} (a : Nat → Nat) (C : zC E Γ cX7_moves RX7 5 rm_X7_moves wsX7_moves) {res : (Int32 × St)} (R : zRi E Γ cX7_moves 5 .int (wModel E a res.2) res.1) (x1 : Int32) (x2 : Int32) (x3 : Int32) (x4 : Int32) (S : St) (h : f_X7_moves_57 x1 x2 x3 x4 S = some res) : Zt E Γ 5 0 0 (wModel E a S) [(0, .ref (a 0)), (1, .int x1), (2, .int x2), (3, .int x3), (4, .int x4)] 57 [] := by
  unfold f_X7_moves_57 at h
  refine z_iload C 4 rfl dX7_moves_57 ?_
  refine z_bipush C (v := (12 : Int32)) (by decide) dX7_moves_59 ?_
  refine z_icmp_ne C 67 (by decide) h dX7_moves_61 (fun hc h => ?_) (fun hc h => ?_)
  · refine z_bipush C (v := (-3 : Int32)) (by decide) dX7_moves_64 ?_
    obtain rfl := Option.some.inj h
    exact R rfl 66 _ dX7_moves_66
  · refine z_aload_n C 0 rfl rfl dX7_moves_67 ?_
    refine z_get C 0 rfl (C := RX7) (T := TX7) (N := 38) (ci := 7) rfl inw_X7_moves_X7 0 (by decide) (ref := "EldestAgeModel") (List.mem_of_getElem? (i := 1) rfl) rfl (v := .ref (a 1)) rfl dX7_moves_68 ?_
    refine z_bipush C (v := (40 : Int32)) (by decide) dX7_moves_71 ?_
    refine z_iconst C (v := (3 : Int32)) (by decide) dX7_moves_73 ?_
    refine z_iload C 4 rfl dX7_moves_74 ?_
    refine z_imul C dX7_moves_76 ?_
    refine z_iadd C dX7_moves_77 ?_
    refine z_iload_n C 1 rfl rfl dX7_moves_78 ?_
    refine z_iast C (N := 368) (f := (S 0)) 1 rfl h (wModel E a (st 0 (upd (S 0) (Int32.toNatClampNeg ((40 : Int32) + ((3 : Int32) * x4))) x1) S)) (wl_X7_moves_0 E a S (upd (S 0) (Int32.toNatClampNeg ((40 : Int32) + ((3 : Int32) * x4))) x1)) dX7_moves_79 (fun h => ?_)
    refine z_aload_n C 0 rfl rfl dX7_moves_80 ?_
    refine z_get C 0 rfl (C := RX7) (T := TX7) (N := 38) (ci := 7) rfl inw_X7_moves_X7 0 (by decide) (ref := "EldestAgeModel") (List.mem_of_getElem? (i := 1) rfl) rfl (v := .ref (a 1)) rfl dX7_moves_81 ?_
    refine z_bipush C (v := (40 : Int32)) (by decide) dX7_moves_84 ?_
    refine z_iconst C (v := (3 : Int32)) (by decide) dX7_moves_86 ?_
    refine z_iload C 4 rfl dX7_moves_87 ?_
    refine z_imul C dX7_moves_89 ?_
    refine z_iadd C dX7_moves_90 ?_
    refine z_iconst C (v := (1 : Int32)) (by decide) dX7_moves_91 ?_
    refine z_iadd C dX7_moves_92 ?_
    refine z_iload_n C 2 rfl rfl dX7_moves_93 ?_
    refine z_iast C (N := 368) (f := (upd (S 0) (Int32.toNatClampNeg ((40 : Int32) + ((3 : Int32) * x4))) x1)) 1 rfl h (wModel E a (st 0 (upd (upd (S 0) (Int32.toNatClampNeg ((40 : Int32) + ((3 : Int32) * x4))) x1) (Int32.toNatClampNeg (((40 : Int32) + ((3 : Int32) * x4)) + (1 : Int32))) x2) (st 0 (upd (S 0) (Int32.toNatClampNeg ((40 : Int32) + ((3 : Int32) * x4))) x1) S))) (wl_X7_moves_0 E a (st 0 (upd (S 0) (Int32.toNatClampNeg ((40 : Int32) + ((3 : Int32) * x4))) x1) S) (upd (upd (S 0) (Int32.toNatClampNeg ((40 : Int32) + ((3 : Int32) * x4))) x1) (Int32.toNatClampNeg (((40 : Int32) + ((3 : Int32) * x4)) + (1 : Int32))) x2)) dX7_moves_94 (fun h => ?_)
    refine z_aload_n C 0 rfl rfl dX7_moves_95 ?_
    refine z_get C 0 rfl (C := RX7) (T := TX7) (N := 38) (ci := 7) rfl inw_X7_moves_X7 0 (by decide) (ref := "EldestAgeModel") (List.mem_of_getElem? (i := 1) rfl) rfl (v := .ref (a 1)) rfl dX7_moves_96 ?_
    refine z_bipush C (v := (40 : Int32)) (by decide) dX7_moves_99 ?_
    refine z_iconst C (v := (3 : Int32)) (by decide) dX7_moves_101 ?_
    refine z_iload C 4 rfl dX7_moves_102 ?_
    refine z_imul C dX7_moves_104 ?_
    refine z_iadd C dX7_moves_105 ?_
    refine z_iconst C (v := (2 : Int32)) (by decide) dX7_moves_106 ?_
    refine z_iadd C dX7_moves_107 ?_
    refine z_iload_n C 3 rfl rfl dX7_moves_108 ?_
    refine z_iast C (N := 368) (f := (upd (upd (S 0) (Int32.toNatClampNeg ((40 : Int32) + ((3 : Int32) * x4))) x1) (Int32.toNatClampNeg (((40 : Int32) + ((3 : Int32) * x4)) + (1 : Int32))) x2)) 1 rfl h (wModel E a (st 0 (upd (upd (upd (S 0) (Int32.toNatClampNeg ((40 : Int32) + ((3 : Int32) * x4))) x1) (Int32.toNatClampNeg (((40 : Int32) + ((3 : Int32) * x4)) + (1 : Int32))) x2) (Int32.toNatClampNeg (((40 : Int32) + ((3 : Int32) * x4)) + (2 : Int32))) x3) (st 0 (upd (upd (S 0) (Int32.toNatClampNeg ((40 : Int32) + ((3 : Int32) * x4))) x1) (Int32.toNatClampNeg (((40 : Int32) + ((3 : Int32) * x4)) + (1 : Int32))) x2) (st 0 (upd (S 0) (Int32.toNatClampNeg ((40 : Int32) + ((3 : Int32) * x4))) x1) S)))) (wl_X7_moves_0 E a (st 0 (upd (upd (S 0) (Int32.toNatClampNeg ((40 : Int32) + ((3 : Int32) * x4))) x1) (Int32.toNatClampNeg (((40 : Int32) + ((3 : Int32) * x4)) + (1 : Int32))) x2) (st 0 (upd (S 0) (Int32.toNatClampNeg ((40 : Int32) + ((3 : Int32) * x4))) x1) S)) (upd (upd (upd (S 0) (Int32.toNatClampNeg ((40 : Int32) + ((3 : Int32) * x4))) x1) (Int32.toNatClampNeg (((40 : Int32) + ((3 : Int32) * x4)) + (1 : Int32))) x2) (Int32.toNatClampNeg (((40 : Int32) + ((3 : Int32) * x4)) + (2 : Int32))) x3)) dX7_moves_109 (fun h => ?_)
    refine z_aload_n C 0 rfl rfl dX7_moves_110 ?_
    refine z_get C 0 rfl (C := RX7) (T := TX7) (N := 38) (ci := 7) rfl inw_X7_moves_X7 0 (by decide) (ref := "EldestAgeModel") (List.mem_of_getElem? (i := 1) rfl) rfl (v := .ref (a 1)) rfl dX7_moves_111 ?_
    refine z_bipush C (v := (89 : Int32)) (by decide) dX7_moves_114 ?_
    refine z_dup2 C rfl rfl dX7_moves_116 ?_
    refine z_iald C (N := 368) (f := (upd (upd (upd (S 0) (Int32.toNatClampNeg ((40 : Int32) + ((3 : Int32) * x4))) x1) (Int32.toNatClampNeg (((40 : Int32) + ((3 : Int32) * x4)) + (1 : Int32))) x2) (Int32.toNatClampNeg (((40 : Int32) + ((3 : Int32) * x4)) + (2 : Int32))) x3)) 1 rfl h dX7_moves_117 (fun h => ?_)
    refine z_iconst C (v := (1 : Int32)) (by decide) dX7_moves_118 ?_
    refine z_iadd C dX7_moves_119 ?_
    refine z_iast C (N := 368) (f := (upd (upd (upd (S 0) (Int32.toNatClampNeg ((40 : Int32) + ((3 : Int32) * x4))) x1) (Int32.toNatClampNeg (((40 : Int32) + ((3 : Int32) * x4)) + (1 : Int32))) x2) (Int32.toNatClampNeg (((40 : Int32) + ((3 : Int32) * x4)) + (2 : Int32))) x3)) 1 rfl h (wModel E a (st 0 (upd (upd (upd (upd (S 0) (Int32.toNatClampNeg ((40 : Int32) + ((3 : Int32) * x4))) x1) (Int32.toNatClampNeg (((40 : Int32) + ((3 : Int32) * x4)) + (1 : Int32))) x2) (Int32.toNatClampNeg (((40 : Int32) + ((3 : Int32) * x4)) + (2 : Int32))) x3) (Int32.toNatClampNeg (89 : Int32)) (((upd (upd (upd (S 0) (Int32.toNatClampNeg ((40 : Int32) + ((3 : Int32) * x4))) x1) (Int32.toNatClampNeg (((40 : Int32) + ((3 : Int32) * x4)) + (1 : Int32))) x2) (Int32.toNatClampNeg (((40 : Int32) + ((3 : Int32) * x4)) + (2 : Int32))) x3) (Int32.toNatClampNeg (89 : Int32))) + (1 : Int32))) (st 0 (upd (upd (upd (S 0) (Int32.toNatClampNeg ((40 : Int32) + ((3 : Int32) * x4))) x1) (Int32.toNatClampNeg (((40 : Int32) + ((3 : Int32) * x4)) + (1 : Int32))) x2) (Int32.toNatClampNeg (((40 : Int32) + ((3 : Int32) * x4)) + (2 : Int32))) x3) (st 0 (upd (upd (S 0) (Int32.toNatClampNeg ((40 : Int32) + ((3 : Int32) * x4))) x1) (Int32.toNatClampNeg (((40 : Int32) + ((3 : Int32) * x4)) + (1 : Int32))) x2) (st 0 (upd (S 0) (Int32.toNatClampNeg ((40 : Int32) + ((3 : Int32) * x4))) x1) S))))) (wl_X7_moves_0 E a (st 0 (upd (upd (upd (S 0) (Int32.toNatClampNeg ((40 : Int32) + ((3 : Int32) * x4))) x1) (Int32.toNatClampNeg (((40 : Int32) + ((3 : Int32) * x4)) + (1 : Int32))) x2) (Int32.toNatClampNeg (((40 : Int32) + ((3 : Int32) * x4)) + (2 : Int32))) x3) (st 0 (upd (upd (S 0) (Int32.toNatClampNeg ((40 : Int32) + ((3 : Int32) * x4))) x1) (Int32.toNatClampNeg (((40 : Int32) + ((3 : Int32) * x4)) + (1 : Int32))) x2) (st 0 (upd (S 0) (Int32.toNatClampNeg ((40 : Int32) + ((3 : Int32) * x4))) x1) S))) (upd (upd (upd (upd (S 0) (Int32.toNatClampNeg ((40 : Int32) + ((3 : Int32) * x4))) x1) (Int32.toNatClampNeg (((40 : Int32) + ((3 : Int32) * x4)) + (1 : Int32))) x2) (Int32.toNatClampNeg (((40 : Int32) + ((3 : Int32) * x4)) + (2 : Int32))) x3) (Int32.toNatClampNeg (89 : Int32)) (((upd (upd (upd (S 0) (Int32.toNatClampNeg ((40 : Int32) + ((3 : Int32) * x4))) x1) (Int32.toNatClampNeg (((40 : Int32) + ((3 : Int32) * x4)) + (1 : Int32))) x2) (Int32.toNatClampNeg (((40 : Int32) + ((3 : Int32) * x4)) + (2 : Int32))) x3) (Int32.toNatClampNeg (89 : Int32))) + (1 : Int32)))) dX7_moves_120 (fun h => ?_)
    refine z_iload C 4 rfl dX7_moves_121 ?_
    refine z_iconst C (v := (1 : Int32)) (by decide) dX7_moves_123 ?_
    refine z_iadd C dX7_moves_124 ?_
    obtain rfl := Option.some.inj h
    exact R rfl 125 _ dX7_moves_125

set_option maxHeartbeats 4000000 in
set_option maxRecDepth 100000 in
theorem L_X7_moves {E : zEnv} {Γ : zG} (a : Nat → Nat) (C : zC E Γ cX7_moves RX7 5 rm_X7_moves wsX7_moves) {res : (Int32 × St)} (R : zRi E Γ cX7_moves 5 .int (wModel E a res.2) res.1) (x1 : Int32) (x2 : Int32) (x3 : Int32) (S : St) (h : f_X7_moves x1 x2 x3 S = some res) : Zt E Γ 5 0 0 (wModel E a S) [(0, .ref (a 0)), (1, .int x1), (2, .int x2), (3, .int x3)] 0 [] := by
  unfold f_X7_moves at h
  refine z_aload_n C 0 rfl rfl dX7_moves_0 ?_
  refine z_get C 0 rfl (C := RX7) (T := TX7) (N := 38) (ci := 7) rfl inw_X7_moves_X7 0 (by decide) (ref := "EldestAgeModel") (List.mem_of_getElem? (i := 1) rfl) rfl (v := .ref (a 1)) rfl dX7_moves_1 ?_
  refine z_bipush C (v := (89 : Int32)) (by decide) dX7_moves_4 ?_
  refine z_iald C (N := 368) (f := (S 0)) 1 rfl h dX7_moves_6 (fun h => ?_)
  refine z_istore C [(4, .int (S 0 (Int32.toNatClampNeg (89 : Int32)))), (0, .ref (a 0)), (1, .int x1), (2, .int x2), (3, .int x3)] (by decide) rfl dX7_moves_7 ?_
  refine z_iload_n C 2 rfl rfl dX7_moves_9 ?_
  obtain ⟨q1, e1, h⟩ := bd_e h
  refine z_callSi C (rest := []) (c_X7_isDay E x1 e1) gX7_moves_X7_isDay rfl rfl rfl 1 rfl (by decide +kernel) ⟨Nat.le_of_ble_eq_true rfl, Nat.le_of_ble_eq_true rfl⟩ [] rfl (by decide) rfl (wModel E a S) rfl (Nat.le_of_ble_eq_true rfl) dX7_moves_10 ⟨Nat.zero_le _, Nat.zero_le _⟩ _ rfl ?_
  refine z_if_eq C 55 (by decide) h dX7_moves_13 (fun hc h => ?_) (fun hc h => ?_)
  · refine z_iconst C (v := (-1 : Int32)) (by decide) dX7_moves_55 ?_
    obtain rfl := Option.some.inj h
    exact R rfl 56 _ dX7_moves_56
  · refine z_aload_n C 1 rfl rfl dX7_moves_16 ?_
    refine z_iload_n C 3 rfl rfl dX7_moves_17 ?_
    obtain ⟨q2, e2, h⟩ := bd_e h
    refine z_callVi C (b := a 0) (As := [.int x2]) (rest := []) (c_X7_isOne E a x2 S e2) rfl gX7_moves_X7_isOne rfl rfl rfl 1 rfl (by decide +kernel) ⟨Nat.le_of_ble_eq_true rfl, Nat.le_of_ble_eq_true rfl⟩ [0, 1, 2, 3, 4, 5, 6, 7, 8, 9, 10, 11, 12, 13, 14, 15, 16] (wl_X7_moves_1 E a S) (by decide) rfl (wModel E a S) (zrep_self (wl_X7_moves_1 E a S)) 0 7 rfl rfl rfl (Nat.le_of_ble_eq_true rfl) dX7_moves_18 ⟨Nat.zero_le _, Nat.zero_le _⟩ _ rfl ?_
    refine z_if_eq C 55 (by decide) h dX7_moves_21 (fun hc h => ?_) (fun hc h => ?_)
    · refine z_iconst C (v := (-1 : Int32)) (by decide) dX7_moves_55 ?_
      obtain rfl := Option.some.inj h
      exact R rfl 56 _ dX7_moves_56
    · refine z_aload_n C 1 rfl rfl dX7_moves_24 ?_
      refine z_iload_n C 4 rfl rfl dX7_moves_25 ?_
      obtain ⟨q3, e3, h⟩ := bd_e h
      refine z_callVi C (b := a 0) (As := [.int x3]) (rest := []) (c_X7_isHouse E a x3 S e3) rfl gX7_moves_X7_isHouse rfl rfl rfl 1 rfl (by decide +kernel) ⟨Nat.le_of_ble_eq_true rfl, Nat.le_of_ble_eq_true rfl⟩ [0, 1, 2, 3, 4, 5, 6, 7, 8, 9, 10, 11, 12, 13, 14, 15, 16] (wl_X7_moves_1 E a S) (by decide) rfl (wModel E a S) (zrep_self (wl_X7_moves_1 E a S)) 0 7 rfl rfl rfl (Nat.le_of_ble_eq_true rfl) dX7_moves_26 ⟨Nat.zero_le _, Nat.zero_le _⟩ _ rfl ?_
      refine z_if_eq C 55 (by decide) h dX7_moves_29 (fun hc h => ?_) (fun hc h => ?_)
      · refine z_iconst C (v := (-1 : Int32)) (by decide) dX7_moves_55 ?_
        obtain rfl := Option.some.inj h
        exact R rfl 56 _ dX7_moves_56
      · refine z_iload C 0 rfl dX7_moves_32 ?_
        refine z_if_le C 57 (by decide) h dX7_moves_34 (fun hc h => ?_) (fun hc h => ?_)
        · refine Zt_l [(0, .ref (a 0)), (1, .int x1), (2, .int x2), (3, .int x3), (4, .int (S 0 (Int32.toNatClampNeg (89 : Int32))))] [1, 2, 3, 4, 0] rfl ?_
          exact L_X7_moves_57 a C R x1 x2 x3 (S 0 (Int32.toNatClampNeg (89 : Int32))) S h
        · refine z_iload_n C 2 rfl rfl dX7_moves_37 ?_
          refine z_aload_n C 1 rfl rfl dX7_moves_38 ?_
          refine z_get C 0 rfl (C := RX7) (T := TX7) (N := 38) (ci := 7) rfl inw_X7_moves_X7 0 (by decide) (ref := "EldestAgeModel") (List.mem_of_getElem? (i := 1) rfl) rfl (v := .ref (a 1)) rfl dX7_moves_39 ?_
          refine z_bipush C (v := (40 : Int32)) (by decide) dX7_moves_42 ?_
          refine z_iconst C (v := (3 : Int32)) (by decide) dX7_moves_44 ?_
          refine z_iload C 0 rfl dX7_moves_45 ?_
          refine z_imul C dX7_moves_47 ?_
          refine z_iadd C dX7_moves_48 ?_
          refine z_iconst C (v := (3 : Int32)) (by decide) dX7_moves_49 ?_
          refine z_isub C dX7_moves_50 ?_
          refine z_iald C (N := 368) (f := (S 0)) 1 rfl h dX7_moves_51 (fun h => ?_)
          refine z_icmp_ge C 57 (by decide) h dX7_moves_52 (fun hc h => ?_) (fun hc h => ?_)
          · refine Zt_l [(0, .ref (a 0)), (1, .int x1), (2, .int x2), (3, .int x3), (4, .int (S 0 (Int32.toNatClampNeg (89 : Int32))))] [1, 2, 3, 4, 0] rfl ?_
            exact L_X7_moves_57 a C R x1 x2 x3 (S 0 (Int32.toNatClampNeg (89 : Int32))) S h
          · refine z_iconst C (v := (-1 : Int32)) (by decide) dX7_moves_55 ?_
            obtain rfl := Option.some.inj h
            exact R rfl 56 _ dX7_moves_56

theorem c_X7_moves (E : zEnv) (a : Nat → Nat) (x1 : Int32) (x2 : Int32) (x3 : Int32) (S : St) {res : (Int32 × St)} (h : f_X7_moves x1 x2 x3 S = some res) : Kti E yX7_moves wsX7_moves rm_X7_moves (wModel E a S) (wModel E a res.2) [.ref (a 0), .int x1, .int x2, .int x3] res.1 :=
  z_enti (cc := cX7_moves) (maxL := 5) (rt := .int) (by decide +kernel) rfl (Nat.le_of_ble_eq_true rfl) (fun Γ C R => L_X7_moves a C R x1 x2 x3 S h)

abbrev rm_X7_move : Room := { frames := 3, cells := 0, slots := 0, locals := 70 }
theorem inw_X7_move_X7 : ∀ w ∈ wsX70, w ∈ wsX7_move := fun _ h => List.mem_cons_of_mem _ (List.mem_append_right _ h)
set_option maxHeartbeats 4000000 in
theorem wl_X7_move_0 (E : zEnv) (a : Nat → Nat) (S : St) : ([0, 1, 2, 3, 4, 5, 6, 7, 8, 9, 10, 11, 12, 13, 14, 15, 16] : List Nat).map (fun i => (wModel E a S)[i]?) = (wModel E a S).map some := rfl
set_option maxHeartbeats 4000000 in
theorem wl_X7_move_1 (E : zEnv) (a : Nat → Nat) (S U : St) : (wModel E a U).map (fun q => q.1) = (wModel E a S).map (fun q => q.1) := rfl
set_option maxHeartbeats 4000000 in
theorem wl_X7_move_2 (E : zEnv) (a : Nat → Nat) (S U : St) : (wModel E a U) = zrep [0, 1, 2, 3, 4, 5, 6, 7, 8, 9, 10, 11, 12, 13, 14, 15, 16] (wModel E a U) (wModel E a S) := zrep_of (isR := []) 17 rfl [] rfl rfl rfl rfl (by decide +kernel) (by decide +kernel)
noncomputable def f_X7_move (x1 : Int32) (x2 : Int32) (x3 : Int32) (S : St) : Option (Int32 × St) := ((f_X7_moves x1 x2 x3 S).bind (fun q1 => (some (q1.1, q1.2))))
set_option maxHeartbeats 4000000 in
set_option maxRecDepth 100000 in
theorem L_X7_move {E : zEnv} {Γ : zG} (a : Nat → Nat) (C : zC E Γ cX7_move RX7 4 rm_X7_move wsX7_move) {res : (Int32 × St)} (R : zRi E Γ cX7_move 4 .int (wModel E a res.2) res.1) (x1 : Int32) (x2 : Int32) (x3 : Int32) (S : St) (h : f_X7_move x1 x2 x3 S = some res) : Zt E Γ 4 0 0 (wModel E a S) [(0, .ref (a 0)), (1, .int x1), (2, .int x2), (3, .int x3)] 0 [] := by
  unfold f_X7_move at h
  refine z_aload_n C 0 rfl rfl dX7_move_0 ?_
  refine z_iload_n C 1 rfl rfl dX7_move_1 ?_
  refine z_iload_n C 2 rfl rfl dX7_move_2 ?_
  refine z_iload_n C 3 rfl rfl dX7_move_3 ?_
  obtain ⟨q1, e1, h⟩ := bd_e h
  refine z_callVi C (b := a 0) (As := [.int x1, .int x2, .int x3]) (rest := []) (c_X7_moves E a x1 x2 x3 S e1) rfl gX7_move_X7_moves rfl rfl rfl 3 rfl (by decide +kernel) ⟨Nat.le_of_ble_eq_true rfl, Nat.le_of_ble_eq_true rfl⟩ [0, 1, 2, 3, 4, 5, 6, 7, 8, 9, 10, 11, 12, 13, 14, 15, 16] (wl_X7_move_0 E a S) (by decide) (wl_X7_move_1 E a _ _) (wModel E a q1.2) (wl_X7_move_2 E a S q1.2) 0 7 rfl rfl rfl (Nat.le_of_ble_eq_true rfl) dX7_move_4 ⟨Nat.zero_le _, Nat.zero_le _⟩ _ rfl ?_
  obtain rfl := Option.some.inj h
  exact R rfl 7 _ dX7_move_7

theorem c_X7_move (E : zEnv) (a : Nat → Nat) (x1 : Int32) (x2 : Int32) (x3 : Int32) (S : St) {res : (Int32 × St)} (h : f_X7_move x1 x2 x3 S = some res) : Kti E yX7_move wsX7_move rm_X7_move (wModel E a S) (wModel E a res.2) [.ref (a 0), .int x1, .int x2, .int x3] res.1 :=
  z_enti (cc := cX7_move) (maxL := 4) (rt := .int) (by decide +kernel) rfl (Nat.le_of_ble_eq_true rfl) (fun Γ C R => L_X7_move a C R x1 x2 x3 S h)

abbrev rm_X7_undo : Room := { frames := 1, cells := 0, slots := 0, locals := 25 }
theorem inw_X7_undo_X7 : ∀ w ∈ wsX70, w ∈ wsX7_undo := fun _ h => List.mem_cons_of_mem _ (List.mem_append_right _ h)
set_option maxHeartbeats 4000000 in
theorem wl_X7_undo_0 (E : zEnv) (a : Nat → Nat) (S : St) (f : Nat → Int32) : (wModel E a (st 0 f S)) = (wModel E a S).set 1 (a 1, .inl (zI E, 368, .inl f)) := rfl
noncomputable def f_X7_undo (x1 : Int32) (S : St) : Option (Int32 × St) := (ix (89 : Int32) 368 ((f_X7_in (Int32.toInt64 x1) (0 : Int64) (Int32.toInt64 (S 0 (Int32.toNatClampNeg (89 : Int32))))).bind (fun q1 => (if q1 = 0 then (some ((-1 : Int32), S)) else (ix (89 : Int32) 368 (ix (89 : Int32) 368 (some ((S 0 (Int32.toNatClampNeg (89 : Int32))), (st 0 (upd (S 0) (Int32.toNatClampNeg (89 : Int32)) x1) S)))))))))
set_option maxHeartbeats 4000000 in
set_option maxRecDepth 100000 in
theorem L_X7_undo {E : zEnv} {Γ : zG} (a : Nat → Nat) (C : zC E Γ cX7_undo RX7 3 rm_X7_undo wsX7_undo) {res : (Int32 × St)} (R : zRi E Γ cX7_undo 3 .int (wModel E a res.2) res.1) (x1 : Int32) (S : St) (h : f_X7_undo x1 S = some res) : Zt E Γ 3 0 0 (wModel E a S) [(0, .ref (a 0)), (1, .int x1)] 0 [] := by
  unfold f_X7_undo at h
  refine z_iload_n C 1 rfl rfl dX7_undo_0 ?_
  refine z_i2l C dX7_undo_1 ?_
  refine z_lconst C (v := (0 : Int64)) (by decide) dX7_undo_2 ?_
  refine z_aload_n C 0 rfl rfl dX7_undo_3 ?_
  refine z_get C 0 rfl (C := RX7) (T := TX7) (N := 38) (ci := 7) rfl inw_X7_undo_X7 0 (by decide) (ref := "EldestAgeModel") (List.mem_of_getElem? (i := 1) rfl) rfl (v := .ref (a 1)) rfl dX7_undo_4 ?_
  refine z_bipush C (v := (89 : Int32)) (by decide) dX7_undo_7 ?_
  refine z_iald C (N := 368) (f := (S 0)) 1 rfl h dX7_undo_9 (fun h => ?_)
  refine z_i2l C dX7_undo_10 ?_
  obtain ⟨q1, e1, h⟩ := bd_e h
  refine z_callSi C (rest := []) (c_X7_in E (Int32.toInt64 x1) (0 : Int64) (Int32.toInt64 (S 0 (Int32.toNatClampNeg (89 : Int32)))) e1) gX7_undo_X7_in rfl rfl rfl 3 rfl (by decide +kernel) ⟨Nat.le_of_ble_eq_true rfl, Nat.le_of_ble_eq_true rfl⟩ [] rfl (by decide) rfl (wModel E a S) rfl (Nat.le_of_ble_eq_true rfl) dX7_undo_11 ⟨Nat.zero_le _, Nat.zero_le _⟩ _ rfl ?_
  refine z_if_ne C 19 (by decide) h dX7_undo_14 (fun hc h => ?_) (fun hc h => ?_)
  · refine z_iconst C (v := (-1 : Int32)) (by decide) dX7_undo_17 ?_
    obtain rfl := Option.some.inj h
    exact R rfl 18 _ dX7_undo_18
  · refine z_aload_n C 0 rfl rfl dX7_undo_19 ?_
    refine z_get C 0 rfl (C := RX7) (T := TX7) (N := 38) (ci := 7) rfl inw_X7_undo_X7 0 (by decide) (ref := "EldestAgeModel") (List.mem_of_getElem? (i := 1) rfl) rfl (v := .ref (a 1)) rfl dX7_undo_20 ?_
    refine z_bipush C (v := (89 : Int32)) (by decide) dX7_undo_23 ?_
    refine z_iald C (N := 368) (f := (S 0)) 1 rfl h dX7_undo_25 (fun h => ?_)
    refine z_istore_n C [(2, .int (S 0 (Int32.toNatClampNeg (89 : Int32)))), (0, .ref (a 0)), (1, .int x1)] rfl (by decide) rfl dX7_undo_26 ?_
    refine z_aload_n C 1 rfl rfl dX7_undo_27 ?_
    refine z_get C 0 rfl (C := RX7) (T := TX7) (N := 38) (ci := 7) rfl inw_X7_undo_X7 0 (by decide) (ref := "EldestAgeModel") (List.mem_of_getElem? (i := 1) rfl) rfl (v := .ref (a 1)) rfl dX7_undo_28 ?_
    refine z_bipush C (v := (89 : Int32)) (by decide) dX7_undo_31 ?_
    refine z_iload_n C 2 rfl rfl dX7_undo_33 ?_
    refine z_iast C (N := 368) (f := (S 0)) 1 rfl h (wModel E a (st 0 (upd (S 0) (Int32.toNatClampNeg (89 : Int32)) x1) S)) (wl_X7_undo_0 E a S (upd (S 0) (Int32.toNatClampNeg (89 : Int32)) x1)) dX7_undo_34 (fun h => ?_)
    refine z_iload_n C 0 rfl rfl dX7_undo_35 ?_
    obtain rfl := Option.some.inj h
    exact R rfl 36 _ dX7_undo_36

theorem c_X7_undo (E : zEnv) (a : Nat → Nat) (x1 : Int32) (S : St) {res : (Int32 × St)} (h : f_X7_undo x1 S = some res) : Kti E yX7_undo wsX7_undo rm_X7_undo (wModel E a S) (wModel E a res.2) [.ref (a 0), .int x1] res.1 :=
  z_enti (cc := cX7_undo) (maxL := 3) (rt := .int) (by decide +kernel) rfl (Nat.le_of_ble_eq_true rfl) (fun Γ C R => L_X7_undo a C R x1 S h)
