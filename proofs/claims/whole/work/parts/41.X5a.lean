abbrev rm_X5_begin : Room := { frames := 0, cells := 0, slots := 0, locals := 0 }
theorem inw_X5_begin_X5 : ∀ w ∈ wsX50, w ∈ wsX5_begin := fun _ h => List.mem_cons_of_mem _ (List.mem_append_right _ h)
set_option maxHeartbeats 4000000 in
theorem wl_X5_begin_0 (E : zEnv) (a : Nat → Nat) (S : St) (v : Int32) : (wTown E a (st 0 (fun _ => v) S)) = (wTown E a S).set 0 (a 0, .inr (5, List.set [.int (S 0 0), .int (S 1 0), .int (S 2 0), .ref (a 1), .ref (a 2), .ref (a 3), .ref (a 4), .int (S 7 0), .ref (a 5), .ref (a 6), .ref (a 7), .int (S 11 0), .ref (a 8), .ref (a 9), .ref (a 10), .ref (a 11)] 0 (.int v))) := rfl
set_option maxHeartbeats 4000000 in
theorem wl_X5_begin_1 (E : zEnv) (a : Nat → Nat) (S : St) (v : Int32) : (wTown E a (st 1 (fun _ => v) S)) = (wTown E a S).set 0 (a 0, .inr (5, List.set [.int (S 0 0), .int (S 1 0), .int (S 2 0), .ref (a 1), .ref (a 2), .ref (a 3), .ref (a 4), .int (S 7 0), .ref (a 5), .ref (a 6), .ref (a 7), .int (S 11 0), .ref (a 8), .ref (a 9), .ref (a 10), .ref (a 11)] 1 (.int v))) := rfl
set_option maxHeartbeats 4000000 in
theorem wl_X5_begin_2 (E : zEnv) (a : Nat → Nat) (S : St) (v : Int32) : (wTown E a (st 2 (fun _ => v) S)) = (wTown E a S).set 0 (a 0, .inr (5, List.set [.int (S 0 0), .int (S 1 0), .int (S 2 0), .ref (a 1), .ref (a 2), .ref (a 3), .ref (a 4), .int (S 7 0), .ref (a 5), .ref (a 6), .ref (a 7), .int (S 11 0), .ref (a 8), .ref (a 9), .ref (a 10), .ref (a 11)] 2 (.int v))) := rfl
set_option maxHeartbeats 4000000 in
theorem wl_X5_begin_3 (E : zEnv) (a : Nat → Nat) (S : St) (v : Int32) : (wTown E a (st 7 (fun _ => v) S)) = (wTown E a S).set 0 (a 0, .inr (5, List.set [.int (S 0 0), .int (S 1 0), .int (S 2 0), .ref (a 1), .ref (a 2), .ref (a 3), .ref (a 4), .int (S 7 0), .ref (a 5), .ref (a 6), .ref (a 7), .int (S 11 0), .ref (a 8), .ref (a 9), .ref (a 10), .ref (a 11)] 7 (.int v))) := rfl
set_option maxHeartbeats 4000000 in
theorem wl_X5_begin_4 (E : zEnv) (a : Nat → Nat) (S : St) (v : Int32) : (wTown E a (st 11 (fun _ => v) S)) = (wTown E a S).set 0 (a 0, .inr (5, List.set [.int (S 0 0), .int (S 1 0), .int (S 2 0), .ref (a 1), .ref (a 2), .ref (a 3), .ref (a 4), .int (S 7 0), .ref (a 5), .ref (a 6), .ref (a 7), .int (S 11 0), .ref (a 8), .ref (a 9), .ref (a 10), .ref (a 11)] 11 (.int v))) := rfl
noncomputable def f_X5_begin (S : St) : Option St := (some (st 11 (fun _ => (0 : Int32)) (st 7 (fun _ => (0 : Int32)) (st 2 (fun _ => (0 : Int32)) (st 1 (fun _ => (0 : Int32)) (st 0 (fun _ => (4 : Int32)) S))))))
set_option maxHeartbeats 4000000 in
set_option maxRecDepth 100000 in
theorem L_X5_begin {E : zEnv} {Γ : zG} (a : Nat → Nat) (C : zC E Γ cX5_begin RX5 1 rm_X5_begin wsX5_begin) {res : St} (R : zRv E Γ cX5_begin 1 (wTown E a res)) (S : St) (h : f_X5_begin S = some res) : Zt E Γ 1 0 0 (wTown E a S) [(0, .ref (a 0))] 0 [] := by
  unfold f_X5_begin at h
  refine z_aload_n C 0 rfl rfl dX5_begin_0 ?_
  refine z_iconst C (v := (4 : Int32)) (by decide) dX5_begin_1 ?_
  refine z_put C 0 rfl (C := RX5) (T := TX5) (N := 16) (ci := 5) rfl inw_X5_begin_X5 tyX5 tyX5_ok nmX5 0 (by decide) (ref := "EldestAge$Town") (List.mem_of_getElem? (i := 1) rfl) rfl rfl (ty := .int) (v := .int (4 : Int32)) (by decide +kernel) rfl rfl (Nat.le_of_ble_eq_true rfl) (wTown E a (st 0 (fun _ => (4 : Int32)) S)) (wl_X5_begin_0 E a S (4 : Int32)) dX5_begin_2 ?_
  refine z_aload_n C 0 rfl rfl dX5_begin_5 ?_
  refine z_iconst C (v := (0 : Int32)) (by decide) dX5_begin_6 ?_
  refine z_put C 0 rfl (C := RX5) (T := TX5) (N := 16) (ci := 5) rfl inw_X5_begin_X5 tyX5 tyX5_ok nmX5 1 (by decide) (ref := "EldestAge$Town") (List.mem_of_getElem? (i := 2) rfl) rfl rfl (ty := .int) (v := .int (0 : Int32)) (by decide +kernel) rfl rfl (Nat.le_of_ble_eq_true rfl) (wTown E a (st 1 (fun _ => (0 : Int32)) (st 0 (fun _ => (4 : Int32)) S))) (wl_X5_begin_1 E a (st 0 (fun _ => (4 : Int32)) S) (0 : Int32)) dX5_begin_7 ?_
  refine z_aload_n C 0 rfl rfl dX5_begin_10 ?_
  refine z_iconst C (v := (0 : Int32)) (by decide) dX5_begin_11 ?_
  refine z_put C 0 rfl (C := RX5) (T := TX5) (N := 16) (ci := 5) rfl inw_X5_begin_X5 tyX5 tyX5_ok nmX5 2 (by decide) (ref := "EldestAge$Town") (List.mem_of_getElem? (i := 3) rfl) rfl rfl (ty := .int) (v := .int (0 : Int32)) (by decide +kernel) rfl rfl (Nat.le_of_ble_eq_true rfl) (wTown E a (st 2 (fun _ => (0 : Int32)) (st 1 (fun _ => (0 : Int32)) (st 0 (fun _ => (4 : Int32)) S)))) (wl_X5_begin_2 E a (st 1 (fun _ => (0 : Int32)) (st 0 (fun _ => (4 : Int32)) S)) (0 : Int32)) dX5_begin_12 ?_
  refine z_aload_n C 0 rfl rfl dX5_begin_15 ?_
  refine z_iconst C (v := (0 : Int32)) (by decide) dX5_begin_16 ?_
  refine z_put C 0 rfl (C := RX5) (T := TX5) (N := 16) (ci := 5) rfl inw_X5_begin_X5 tyX5 tyX5_ok nmX5 7 (by decide) (ref := "EldestAge$Town") (List.mem_of_getElem? (i := 4) rfl) rfl rfl (ty := .int) (v := .int (0 : Int32)) (by decide +kernel) rfl rfl (Nat.le_of_ble_eq_true rfl) (wTown E a (st 7 (fun _ => (0 : Int32)) (st 2 (fun _ => (0 : Int32)) (st 1 (fun _ => (0 : Int32)) (st 0 (fun _ => (4 : Int32)) S))))) (wl_X5_begin_3 E a (st 2 (fun _ => (0 : Int32)) (st 1 (fun _ => (0 : Int32)) (st 0 (fun _ => (4 : Int32)) S))) (0 : Int32)) dX5_begin_17 ?_
  refine z_aload_n C 0 rfl rfl dX5_begin_20 ?_
  refine z_iconst C (v := (0 : Int32)) (by decide) dX5_begin_21 ?_
  refine z_put C 0 rfl (C := RX5) (T := TX5) (N := 16) (ci := 5) rfl inw_X5_begin_X5 tyX5 tyX5_ok nmX5 11 (by decide) (ref := "EldestAge$Town") (List.mem_of_getElem? (i := 5) rfl) rfl rfl (ty := .int) (v := .int (0 : Int32)) (by decide +kernel) rfl rfl (Nat.le_of_ble_eq_true rfl) (wTown E a (st 11 (fun _ => (0 : Int32)) (st 7 (fun _ => (0 : Int32)) (st 2 (fun _ => (0 : Int32)) (st 1 (fun _ => (0 : Int32)) (st 0 (fun _ => (4 : Int32)) S)))))) (wl_X5_begin_4 E a (st 7 (fun _ => (0 : Int32)) (st 2 (fun _ => (0 : Int32)) (st 1 (fun _ => (0 : Int32)) (st 0 (fun _ => (4 : Int32)) S)))) (0 : Int32)) dX5_begin_22 ?_
  obtain rfl := Option.some.inj h
  exact R 25 _ dX5_begin_25

theorem c_X5_begin (E : zEnv) (a : Nat → Nat) (S : St) {res : St} (h : f_X5_begin S = some res) : Ktv E yX5_begin wsX5_begin rm_X5_begin (wTown E a S) (wTown E a res) [.ref (a 0)] :=
  z_entv (cc := cX5_begin) (maxL := 1) (by decide +kernel) rfl (Nat.le_of_ble_eq_true rfl) (fun Γ C R => L_X5_begin a C R S h)

abbrev rm_X5_isOne : Room := { frames := 0, cells := 0, slots := 0, locals := 0 }
theorem inw_X5_isOne_X5 : ∀ w ∈ wsX50, w ∈ wsX5_isOne := fun _ h => List.mem_cons_of_mem _ (List.mem_append_right _ h)
noncomputable def f_X5_isOne (x1 : Int32) (S : St) : Option Int32 := (if x1 < 0 then (some (0 : Int32)) else (if (S 2 0) ≤ x1 then (some (0 : Int32)) else (some (1 : Int32))))
set_option maxHeartbeats 4000000 in
set_option maxRecDepth 100000 in
theorem L_X5_isOne {E : zEnv} {Γ : zG} (a : Nat → Nat) (C : zC E Γ cX5_isOne RX5 2 rm_X5_isOne wsX5_isOne) {res : Int32} {S : St} (R : zRi E Γ cX5_isOne 2 .boolean (wTown E a S) res) (x1 : Int32) (h : f_X5_isOne x1 S = some res) : Zt E Γ 2 0 0 (wTown E a S) [(0, .ref (a 0)), (1, .int x1)] 0 [] := by
  unfold f_X5_isOne at h
  refine z_iload_n C 1 rfl rfl dX5_isOne_0 ?_
  refine z_if_lt C 16 (by decide) h dX5_isOne_1 (fun hc h => ?_) (fun hc h => ?_)
  · refine z_iconst C (v := (0 : Int32)) (by decide) dX5_isOne_16 ?_
    obtain rfl := Option.some.inj h
    exact R z_n0 17 _ dX5_isOne_17
  · refine z_iload_n C 1 rfl rfl dX5_isOne_4 ?_
    refine z_aload_n C 0 rfl rfl dX5_isOne_5 ?_
    refine z_get C 0 rfl (C := RX5) (T := TX5) (N := 16) (ci := 5) rfl inw_X5_isOne_X5 2 (by decide) (ref := "EldestAge$Town") (List.mem_of_getElem? (i := 1) rfl) rfl (v := .int (S 2 0)) rfl dX5_isOne_6 ?_
    refine z_icmp_ge C 16 (by decide) h dX5_isOne_9 (fun hc h => ?_) (fun hc h => ?_)
    · refine z_iconst C (v := (0 : Int32)) (by decide) dX5_isOne_16 ?_
      obtain rfl := Option.some.inj h
      exact R z_n0 17 _ dX5_isOne_17
    · refine z_iconst C (v := (1 : Int32)) (by decide) dX5_isOne_12 ?_
      refine z_goto C 17 (by decide) dX5_isOne_13 ?_
      obtain rfl := Option.some.inj h
      exact R z_n1 17 _ dX5_isOne_17

theorem c_X5_isOne (E : zEnv) (a : Nat → Nat) (x1 : Int32) (S : St) {res : Int32} (h : f_X5_isOne x1 S = some res) : Kti E yX5_isOne wsX5_isOne rm_X5_isOne (wTown E a S) (wTown E a S) [.ref (a 0), .int x1] res :=
  z_enti (cc := cX5_isOne) (maxL := 2) (rt := .boolean) (by decide +kernel) rfl (Nat.le_of_ble_eq_true rfl) (fun Γ C R => L_X5_isOne a C R x1 h)

abbrev rm_X5_isHouse : Room := { frames := 0, cells := 0, slots := 0, locals := 0 }
theorem inw_X5_isHouse_X5 : ∀ w ∈ wsX50, w ∈ wsX5_isHouse := fun _ h => List.mem_cons_of_mem _ (List.mem_append_right _ h)
noncomputable def f_X5_isHouse (x1 : Int32) (S : St) : Option Int32 := (if x1 < 0 then (some (0 : Int32)) else (if (S 0 0) ≤ x1 then (some (0 : Int32)) else (some (1 : Int32))))
set_option maxHeartbeats 4000000 in
set_option maxRecDepth 100000 in
theorem L_X5_isHouse {E : zEnv} {Γ : zG} (a : Nat → Nat) (C : zC E Γ cX5_isHouse RX5 2 rm_X5_isHouse wsX5_isHouse) {res : Int32} {S : St} (R : zRi E Γ cX5_isHouse 2 .boolean (wTown E a S) res) (x1 : Int32) (h : f_X5_isHouse x1 S = some res) : Zt E Γ 2 0 0 (wTown E a S) [(0, .ref (a 0)), (1, .int x1)] 0 [] := by
  unfold f_X5_isHouse at h
  refine z_iload_n C 1 rfl rfl dX5_isHouse_0 ?_
  refine z_if_lt C 16 (by decide) h dX5_isHouse_1 (fun hc h => ?_) (fun hc h => ?_)
  · refine z_iconst C (v := (0 : Int32)) (by decide) dX5_isHouse_16 ?_
    obtain rfl := Option.some.inj h
    exact R z_n0 17 _ dX5_isHouse_17
  · refine z_iload_n C 1 rfl rfl dX5_isHouse_4 ?_
    refine z_aload_n C 0 rfl rfl dX5_isHouse_5 ?_
    refine z_get C 0 rfl (C := RX5) (T := TX5) (N := 16) (ci := 5) rfl inw_X5_isHouse_X5 0 (by decide) (ref := "EldestAge$Town") (List.mem_of_getElem? (i := 1) rfl) rfl (v := .int (S 0 0)) rfl dX5_isHouse_6 ?_
    refine z_icmp_ge C 16 (by decide) h dX5_isHouse_9 (fun hc h => ?_) (fun hc h => ?_)
    · refine z_iconst C (v := (0 : Int32)) (by decide) dX5_isHouse_16 ?_
      obtain rfl := Option.some.inj h
      exact R z_n0 17 _ dX5_isHouse_17
    · refine z_iconst C (v := (1 : Int32)) (by decide) dX5_isHouse_12 ?_
      refine z_goto C 17 (by decide) dX5_isHouse_13 ?_
      obtain rfl := Option.some.inj h
      exact R z_n1 17 _ dX5_isHouse_17

theorem c_X5_isHouse (E : zEnv) (a : Nat → Nat) (x1 : Int32) (S : St) {res : Int32} (h : f_X5_isHouse x1 S = some res) : Kti E yX5_isHouse wsX5_isHouse rm_X5_isHouse (wTown E a S) (wTown E a S) [.ref (a 0), .int x1] res :=
  z_enti (cc := cX5_isHouse) (maxL := 2) (rt := .boolean) (by decide +kernel) rfl (Nat.le_of_ble_eq_true rfl) (fun Γ C R => L_X5_isHouse a C R x1 h)

abbrev rm_X5_addOne : Room := { frames := 0, cells := 0, slots := 0, locals := 0 }
theorem inw_X5_addOne_X5 : ∀ w ∈ wsX50, w ∈ wsX5_addOne := fun _ h => List.mem_cons_of_mem _ (List.mem_append_right _ h)
set_option maxHeartbeats 4000000 in
theorem wl_X5_addOne_0 (E : zEnv) (a : Nat → Nat) (S : St) (f : Nat → Int32) : (wTown E a (st 3 f S)) = (wTown E a S).set 1 (a 1, .inl (zI E, 14, .inl f)) := rfl
set_option maxHeartbeats 4000000 in
theorem wl_X5_addOne_1 (E : zEnv) (a : Nat → Nat) (S : St) (f : Nat → Int32) : (wTown E a (st 4 f S)) = (wTown E a S).set 2 (a 2, .inl (zI E, 14, .inl f)) := rfl
set_option maxHeartbeats 4000000 in
theorem wl_X5_addOne_2 (E : zEnv) (a : Nat → Nat) (S : St) (f : Nat → Int32) : (wTown E a (st 5 f S)) = (wTown E a S).set 3 (a 3, .inl (zI E, 14, .inl f)) := rfl
set_option maxHeartbeats 4000000 in
theorem wl_X5_addOne_3 (E : zEnv) (a : Nat → Nat) (S : St) (f : Nat → Int32) : (wTown E a (st 6 f S)) = (wTown E a S).set 4 (a 4, .inl (zI E, 14, .inl f)) := rfl
set_option maxHeartbeats 4000000 in
theorem wl_X5_addOne_4 (E : zEnv) (a : Nat → Nat) (S : St) (v : Int32) : (wTown E a (st 2 (fun _ => v) S)) = (wTown E a S).set 0 (a 0, .inr (5, List.set [.int (S 0 0), .int (S 1 0), .int (S 2 0), .ref (a 1), .ref (a 2), .ref (a 3), .ref (a 4), .int (S 7 0), .ref (a 5), .ref (a 6), .ref (a 7), .int (S 11 0), .ref (a 8), .ref (a 9), .ref (a 10), .ref (a 11)] 2 (.int v))) := rfl
noncomputable def f_X5_addOne (x1 : Int32) (x2 : Int32) (x3 : Int32) (x4 : Int32) (S : St) : Option St := (if (14 : Int32) ≤ (S 2 0) then (some S) else (ix (S 2 0) 14 (ix (S 2 0) 14 (ix (S 2 0) 14 (ix (S 2 0) 14 (some (st 2 (fun _ => ((S 2 0) + (1 : Int32))) (st 6 (upd (S 6) (Int32.toNatClampNeg (S 2 0)) x4) (st 5 (upd (S 5) (Int32.toNatClampNeg (S 2 0)) x3) (st 4 (upd (S 4) (Int32.toNatClampNeg (S 2 0)) x2) (st 3 (upd (S 3) (Int32.toNatClampNeg (S 2 0)) x1) S)))))))))))
set_option maxHeartbeats 4000000 in
set_option maxRecDepth 100000 in
theorem L_X5_addOne {E : zEnv} {Γ : zG} (a : Nat → Nat) (C : zC E Γ cX5_addOne RX5 5 rm_X5_addOne wsX5_addOne) {res : St} (R : zRv E Γ cX5_addOne 5 (wTown E a res)) (x1 : Int32) (x2 : Int32) (x3 : Int32) (x4 : Int32) (S : St) (h : f_X5_addOne x1 x2 x3 x4 S = some res) : Zt E Γ 5 0 0 (wTown E a S) [(0, .ref (a 0)), (1, .int x1), (2, .int x2), (3, .int x3), (4, .int x4)] 0 [] := by
  unfold f_X5_addOne at h
  refine z_aload_n C 0 rfl rfl dX5_addOne_0 ?_
  refine z_get C 0 rfl (C := RX5) (T := TX5) (N := 16) (ci := 5) rfl inw_X5_addOne_X5 2 (by decide) (ref := "EldestAge$Town") (List.mem_of_getElem? (i := 1) rfl) rfl (v := .int (S 2 0)) rfl dX5_addOne_1 ?_
  refine z_bipush C (v := (14 : Int32)) (by decide) dX5_addOne_4 ?_
  refine z_icmp_ge C 60 (by decide) h dX5_addOne_6 (fun hc h => ?_) (fun hc h => ?_)
  · obtain rfl := Option.some.inj h
    exact R 60 _ dX5_addOne_60
  · refine z_aload_n C 0 rfl rfl dX5_addOne_9 ?_
    refine z_get C 0 rfl (C := RX5) (T := TX5) (N := 16) (ci := 5) rfl inw_X5_addOne_X5 3 (by decide) (ref := "EldestAge$Town") (List.mem_of_getElem? (i := 2) rfl) rfl (v := .ref (a 1)) rfl dX5_addOne_10 ?_
    refine z_aload_n C 0 rfl rfl dX5_addOne_13 ?_
    refine z_get C 0 rfl (C := RX5) (T := TX5) (N := 16) (ci := 5) rfl inw_X5_addOne_X5 2 (by decide) (ref := "EldestAge$Town") (List.mem_of_getElem? (i := 1) rfl) rfl (v := .int (S 2 0)) rfl dX5_addOne_14 ?_
    refine z_iload_n C 1 rfl rfl dX5_addOne_17 ?_
    refine z_iast C (N := 14) (f := (S 3)) 1 rfl h (wTown E a (st 3 (upd (S 3) (Int32.toNatClampNeg (S 2 0)) x1) S)) (wl_X5_addOne_0 E a S (upd (S 3) (Int32.toNatClampNeg (S 2 0)) x1)) dX5_addOne_18 (fun h => ?_)
    refine z_aload_n C 0 rfl rfl dX5_addOne_19 ?_
    refine z_get C 0 rfl (C := RX5) (T := TX5) (N := 16) (ci := 5) rfl inw_X5_addOne_X5 4 (by decide) (ref := "EldestAge$Town") (List.mem_of_getElem? (i := 3) rfl) rfl (v := .ref (a 2)) rfl dX5_addOne_20 ?_
    refine z_aload_n C 0 rfl rfl dX5_addOne_23 ?_
    refine z_get C 0 rfl (C := RX5) (T := TX5) (N := 16) (ci := 5) rfl inw_X5_addOne_X5 2 (by decide) (ref := "EldestAge$Town") (List.mem_of_getElem? (i := 1) rfl) rfl (v := .int (S 2 0)) rfl dX5_addOne_24 ?_
    refine z_iload_n C 2 rfl rfl dX5_addOne_27 ?_
    refine z_iast C (N := 14) (f := (S 4)) 2 rfl h (wTown E a (st 4 (upd (S 4) (Int32.toNatClampNeg (S 2 0)) x2) (st 3 (upd (S 3) (Int32.toNatClampNeg (S 2 0)) x1) S))) (wl_X5_addOne_1 E a (st 3 (upd (S 3) (Int32.toNatClampNeg (S 2 0)) x1) S) (upd (S 4) (Int32.toNatClampNeg (S 2 0)) x2)) dX5_addOne_28 (fun h => ?_)
    refine z_aload_n C 0 rfl rfl dX5_addOne_29 ?_
    refine z_get C 0 rfl (C := RX5) (T := TX5) (N := 16) (ci := 5) rfl inw_X5_addOne_X5 5 (by decide) (ref := "EldestAge$Town") (List.mem_of_getElem? (i := 4) rfl) rfl (v := .ref (a 3)) rfl dX5_addOne_30 ?_
    refine z_aload_n C 0 rfl rfl dX5_addOne_33 ?_
    refine z_get C 0 rfl (C := RX5) (T := TX5) (N := 16) (ci := 5) rfl inw_X5_addOne_X5 2 (by decide) (ref := "EldestAge$Town") (List.mem_of_getElem? (i := 1) rfl) rfl (v := .int (S 2 0)) rfl dX5_addOne_34 ?_
    refine z_iload_n C 3 rfl rfl dX5_addOne_37 ?_
    refine z_iast C (N := 14) (f := (S 5)) 3 rfl h (wTown E a (st 5 (upd (S 5) (Int32.toNatClampNeg (S 2 0)) x3) (st 4 (upd (S 4) (Int32.toNatClampNeg (S 2 0)) x2) (st 3 (upd (S 3) (Int32.toNatClampNeg (S 2 0)) x1) S)))) (wl_X5_addOne_2 E a (st 4 (upd (S 4) (Int32.toNatClampNeg (S 2 0)) x2) (st 3 (upd (S 3) (Int32.toNatClampNeg (S 2 0)) x1) S)) (upd (S 5) (Int32.toNatClampNeg (S 2 0)) x3)) dX5_addOne_38 (fun h => ?_)
    refine z_aload_n C 0 rfl rfl dX5_addOne_39 ?_
    refine z_get C 0 rfl (C := RX5) (T := TX5) (N := 16) (ci := 5) rfl inw_X5_addOne_X5 6 (by decide) (ref := "EldestAge$Town") (List.mem_of_getElem? (i := 5) rfl) rfl (v := .ref (a 4)) rfl dX5_addOne_40 ?_
    refine z_aload_n C 0 rfl rfl dX5_addOne_43 ?_
    refine z_get C 0 rfl (C := RX5) (T := TX5) (N := 16) (ci := 5) rfl inw_X5_addOne_X5 2 (by decide) (ref := "EldestAge$Town") (List.mem_of_getElem? (i := 1) rfl) rfl (v := .int (S 2 0)) rfl dX5_addOne_44 ?_
    refine z_iload C 4 rfl dX5_addOne_47 ?_
    refine z_iast C (N := 14) (f := (S 6)) 4 rfl h (wTown E a (st 6 (upd (S 6) (Int32.toNatClampNeg (S 2 0)) x4) (st 5 (upd (S 5) (Int32.toNatClampNeg (S 2 0)) x3) (st 4 (upd (S 4) (Int32.toNatClampNeg (S 2 0)) x2) (st 3 (upd (S 3) (Int32.toNatClampNeg (S 2 0)) x1) S))))) (wl_X5_addOne_3 E a (st 5 (upd (S 5) (Int32.toNatClampNeg (S 2 0)) x3) (st 4 (upd (S 4) (Int32.toNatClampNeg (S 2 0)) x2) (st 3 (upd (S 3) (Int32.toNatClampNeg (S 2 0)) x1) S))) (upd (S 6) (Int32.toNatClampNeg (S 2 0)) x4)) dX5_addOne_49 (fun h => ?_)
    refine z_aload_n C 0 rfl rfl dX5_addOne_50 ?_
    refine z_dup C rfl dX5_addOne_51 ?_
    refine z_get C 0 rfl (C := RX5) (T := TX5) (N := 16) (ci := 5) rfl inw_X5_addOne_X5 2 (by decide) (ref := "EldestAge$Town") (List.mem_of_getElem? (i := 1) rfl) rfl (v := .int (S 2 0)) rfl dX5_addOne_52 ?_
    refine z_iconst C (v := (1 : Int32)) (by decide) dX5_addOne_55 ?_
    refine z_iadd C dX5_addOne_56 ?_
    refine z_put C 0 rfl (C := RX5) (T := TX5) (N := 16) (ci := 5) rfl inw_X5_addOne_X5 tyX5 tyX5_ok nmX5 2 (by decide) (ref := "EldestAge$Town") (List.mem_of_getElem? (i := 1) rfl) rfl rfl (ty := .int) (v := .int ((S 2 0) + (1 : Int32))) (by decide +kernel) rfl rfl (Nat.le_of_ble_eq_true rfl) (wTown E a (st 2 (fun _ => ((S 2 0) + (1 : Int32))) (st 6 (upd (S 6) (Int32.toNatClampNeg (S 2 0)) x4) (st 5 (upd (S 5) (Int32.toNatClampNeg (S 2 0)) x3) (st 4 (upd (S 4) (Int32.toNatClampNeg (S 2 0)) x2) (st 3 (upd (S 3) (Int32.toNatClampNeg (S 2 0)) x1) S)))))) (wl_X5_addOne_4 E a (st 6 (upd (S 6) (Int32.toNatClampNeg (S 2 0)) x4) (st 5 (upd (S 5) (Int32.toNatClampNeg (S 2 0)) x3) (st 4 (upd (S 4) (Int32.toNatClampNeg (S 2 0)) x2) (st 3 (upd (S 3) (Int32.toNatClampNeg (S 2 0)) x1) S)))) ((S 2 0) + (1 : Int32))) dX5_addOne_57 ?_
    obtain rfl := Option.some.inj h
    exact R 60 _ dX5_addOne_60

theorem c_X5_addOne (E : zEnv) (a : Nat → Nat) (x1 : Int32) (x2 : Int32) (x3 : Int32) (x4 : Int32) (S : St) {res : St} (h : f_X5_addOne x1 x2 x3 x4 S = some res) : Ktv E yX5_addOne wsX5_addOne rm_X5_addOne (wTown E a S) (wTown E a res) [.ref (a 0), .int x1, .int x2, .int x3, .int x4] :=
  z_entv (cc := cX5_addOne) (maxL := 5) (by decide +kernel) rfl (Nat.le_of_ble_eq_true rfl) (fun Γ C R => L_X5_addOne a C R x1 x2 x3 x4 S h)

abbrev rm_X5_putMove : Room := { frames := 0, cells := 0, slots := 0, locals := 0 }
theorem inw_X5_putMove_X5 : ∀ w ∈ wsX50, w ∈ wsX5_putMove := fun _ h => List.mem_cons_of_mem _ (List.mem_append_right _ h)
set_option maxHeartbeats 4000000 in
theorem wl_X5_putMove_0 (E : zEnv) (a : Nat → Nat) (S : St) (f : Nat → Int32) : (wTown E a (st 8 f S)) = (wTown E a S).set 5 (a 5, .inl (zI E, 12, .inl f)) := rfl
set_option maxHeartbeats 4000000 in
theorem wl_X5_putMove_1 (E : zEnv) (a : Nat → Nat) (S : St) (f : Nat → Int32) : (wTown E a (st 9 f S)) = (wTown E a S).set 6 (a 6, .inl (zI E, 12, .inl f)) := rfl
set_option maxHeartbeats 4000000 in
theorem wl_X5_putMove_2 (E : zEnv) (a : Nat → Nat) (S : St) (f : Nat → Int32) : (wTown E a (st 10 f S)) = (wTown E a S).set 7 (a 7, .inl (zI E, 12, .inl f)) := rfl
set_option maxHeartbeats 4000000 in
theorem wl_X5_putMove_3 (E : zEnv) (a : Nat → Nat) (S : St) (v : Int32) : (wTown E a (st 7 (fun _ => v) S)) = (wTown E a S).set 0 (a 0, .inr (5, List.set [.int (S 0 0), .int (S 1 0), .int (S 2 0), .ref (a 1), .ref (a 2), .ref (a 3), .ref (a 4), .int (S 7 0), .ref (a 5), .ref (a 6), .ref (a 7), .int (S 11 0), .ref (a 8), .ref (a 9), .ref (a 10), .ref (a 11)] 7 (.int v))) := rfl
noncomputable def f_X5_putMove (x1 : Int32) (x2 : Int32) (x3 : Int32) (S : St) : Option St := (if (12 : Int32) ≤ (S 7 0) then (some S) else (ix (S 7 0) 12 (ix (S 7 0) 12 (ix (S 7 0) 12 (some (st 7 (fun _ => ((S 7 0) + (1 : Int32))) (st 10 (upd (S 10) (Int32.toNatClampNeg (S 7 0)) x3) (st 9 (upd (S 9) (Int32.toNatClampNeg (S 7 0)) x2) (st 8 (upd (S 8) (Int32.toNatClampNeg (S 7 0)) x1) S)))))))))
set_option maxHeartbeats 4000000 in
set_option maxRecDepth 100000 in
theorem L_X5_putMove {E : zEnv} {Γ : zG} (a : Nat → Nat) (C : zC E Γ cX5_putMove RX5 4 rm_X5_putMove wsX5_putMove) {res : St} (R : zRv E Γ cX5_putMove 4 (wTown E a res)) (x1 : Int32) (x2 : Int32) (x3 : Int32) (S : St) (h : f_X5_putMove x1 x2 x3 S = some res) : Zt E Γ 4 0 0 (wTown E a S) [(0, .ref (a 0)), (1, .int x1), (2, .int x2), (3, .int x3)] 0 [] := by
  unfold f_X5_putMove at h
  refine z_aload_n C 0 rfl rfl dX5_putMove_0 ?_
  refine z_get C 0 rfl (C := RX5) (T := TX5) (N := 16) (ci := 5) rfl inw_X5_putMove_X5 7 (by decide) (ref := "EldestAge$Town") (List.mem_of_getElem? (i := 1) rfl) rfl (v := .int (S 7 0)) rfl dX5_putMove_1 ?_
  refine z_bipush C (v := (12 : Int32)) (by decide) dX5_putMove_4 ?_
  refine z_icmp_ge C 49 (by decide) h dX5_putMove_6 (fun hc h => ?_) (fun hc h => ?_)
  · obtain rfl := Option.some.inj h
    exact R 49 _ dX5_putMove_49
  · refine z_aload_n C 0 rfl rfl dX5_putMove_9 ?_
    refine z_get C 0 rfl (C := RX5) (T := TX5) (N := 16) (ci := 5) rfl inw_X5_putMove_X5 8 (by decide) (ref := "EldestAge$Town") (List.mem_of_getElem? (i := 2) rfl) rfl (v := .ref (a 5)) rfl dX5_putMove_10 ?_
    refine z_aload_n C 0 rfl rfl dX5_putMove_13 ?_
    refine z_get C 0 rfl (C := RX5) (T := TX5) (N := 16) (ci := 5) rfl inw_X5_putMove_X5 7 (by decide) (ref := "EldestAge$Town") (List.mem_of_getElem? (i := 1) rfl) rfl (v := .int (S 7 0)) rfl dX5_putMove_14 ?_
    refine z_iload_n C 1 rfl rfl dX5_putMove_17 ?_
    refine z_iast C (N := 12) (f := (S 8)) 5 rfl h (wTown E a (st 8 (upd (S 8) (Int32.toNatClampNeg (S 7 0)) x1) S)) (wl_X5_putMove_0 E a S (upd (S 8) (Int32.toNatClampNeg (S 7 0)) x1)) dX5_putMove_18 (fun h => ?_)
    refine z_aload_n C 0 rfl rfl dX5_putMove_19 ?_
    refine z_get C 0 rfl (C := RX5) (T := TX5) (N := 16) (ci := 5) rfl inw_X5_putMove_X5 9 (by decide) (ref := "EldestAge$Town") (List.mem_of_getElem? (i := 3) rfl) rfl (v := .ref (a 6)) rfl dX5_putMove_20 ?_
    refine z_aload_n C 0 rfl rfl dX5_putMove_23 ?_
    refine z_get C 0 rfl (C := RX5) (T := TX5) (N := 16) (ci := 5) rfl inw_X5_putMove_X5 7 (by decide) (ref := "EldestAge$Town") (List.mem_of_getElem? (i := 1) rfl) rfl (v := .int (S 7 0)) rfl dX5_putMove_24 ?_
    refine z_iload_n C 2 rfl rfl dX5_putMove_27 ?_
    refine z_iast C (N := 12) (f := (S 9)) 6 rfl h (wTown E a (st 9 (upd (S 9) (Int32.toNatClampNeg (S 7 0)) x2) (st 8 (upd (S 8) (Int32.toNatClampNeg (S 7 0)) x1) S))) (wl_X5_putMove_1 E a (st 8 (upd (S 8) (Int32.toNatClampNeg (S 7 0)) x1) S) (upd (S 9) (Int32.toNatClampNeg (S 7 0)) x2)) dX5_putMove_28 (fun h => ?_)
    refine z_aload_n C 0 rfl rfl dX5_putMove_29 ?_
    refine z_get C 0 rfl (C := RX5) (T := TX5) (N := 16) (ci := 5) rfl inw_X5_putMove_X5 10 (by decide) (ref := "EldestAge$Town") (List.mem_of_getElem? (i := 4) rfl) rfl (v := .ref (a 7)) rfl dX5_putMove_30 ?_
    refine z_aload_n C 0 rfl rfl dX5_putMove_33 ?_
    refine z_get C 0 rfl (C := RX5) (T := TX5) (N := 16) (ci := 5) rfl inw_X5_putMove_X5 7 (by decide) (ref := "EldestAge$Town") (List.mem_of_getElem? (i := 1) rfl) rfl (v := .int (S 7 0)) rfl dX5_putMove_34 ?_
    refine z_iload_n C 3 rfl rfl dX5_putMove_37 ?_
    refine z_iast C (N := 12) (f := (S 10)) 7 rfl h (wTown E a (st 10 (upd (S 10) (Int32.toNatClampNeg (S 7 0)) x3) (st 9 (upd (S 9) (Int32.toNatClampNeg (S 7 0)) x2) (st 8 (upd (S 8) (Int32.toNatClampNeg (S 7 0)) x1) S)))) (wl_X5_putMove_2 E a (st 9 (upd (S 9) (Int32.toNatClampNeg (S 7 0)) x2) (st 8 (upd (S 8) (Int32.toNatClampNeg (S 7 0)) x1) S)) (upd (S 10) (Int32.toNatClampNeg (S 7 0)) x3)) dX5_putMove_38 (fun h => ?_)
    refine z_aload_n C 0 rfl rfl dX5_putMove_39 ?_
    refine z_dup C rfl dX5_putMove_40 ?_
    refine z_get C 0 rfl (C := RX5) (T := TX5) (N := 16) (ci := 5) rfl inw_X5_putMove_X5 7 (by decide) (ref := "EldestAge$Town") (List.mem_of_getElem? (i := 1) rfl) rfl (v := .int (S 7 0)) rfl dX5_putMove_41 ?_
    refine z_iconst C (v := (1 : Int32)) (by decide) dX5_putMove_44 ?_
    refine z_iadd C dX5_putMove_45 ?_
    refine z_put C 0 rfl (C := RX5) (T := TX5) (N := 16) (ci := 5) rfl inw_X5_putMove_X5 tyX5 tyX5_ok nmX5 7 (by decide) (ref := "EldestAge$Town") (List.mem_of_getElem? (i := 1) rfl) rfl rfl (ty := .int) (v := .int ((S 7 0) + (1 : Int32))) (by decide +kernel) rfl rfl (Nat.le_of_ble_eq_true rfl) (wTown E a (st 7 (fun _ => ((S 7 0) + (1 : Int32))) (st 10 (upd (S 10) (Int32.toNatClampNeg (S 7 0)) x3) (st 9 (upd (S 9) (Int32.toNatClampNeg (S 7 0)) x2) (st 8 (upd (S 8) (Int32.toNatClampNeg (S 7 0)) x1) S))))) (wl_X5_putMove_3 E a (st 10 (upd (S 10) (Int32.toNatClampNeg (S 7 0)) x3) (st 9 (upd (S 9) (Int32.toNatClampNeg (S 7 0)) x2) (st 8 (upd (S 8) (Int32.toNatClampNeg (S 7 0)) x1) S))) ((S 7 0) + (1 : Int32))) dX5_putMove_46 ?_
    obtain rfl := Option.some.inj h
    exact R 49 _ dX5_putMove_49

theorem c_X5_putMove (E : zEnv) (a : Nat → Nat) (x1 : Int32) (x2 : Int32) (x3 : Int32) (S : St) {res : St} (h : f_X5_putMove x1 x2 x3 S = some res) : Ktv E yX5_putMove wsX5_putMove rm_X5_putMove (wTown E a S) (wTown E a res) [.ref (a 0), .int x1, .int x2, .int x3] :=
  z_entv (cc := cX5_putMove) (maxL := 4) (by decide +kernel) rfl (Nat.le_of_ble_eq_true rfl) (fun Γ C R => L_X5_putMove a C R x1 x2 x3 S h)

abbrev rm_X5_isTooEarly : Room := { frames := 0, cells := 0, slots := 0, locals := 0 }
theorem inw_X5_isTooEarly_X5 : ∀ w ∈ wsX50, w ∈ wsX5_isTooEarly := fun _ h => List.mem_cons_of_mem _ (List.mem_append_right _ h)
noncomputable def f_X5_isTooEarly (x1 : Int32) (S : St) : Option Int32 := (if (S 7 0) ≤ 0 then (some (0 : Int32)) else (ix ((S 7 0) - (1 : Int32)) 12 (if (S 8 (Int32.toNatClampNeg ((S 7 0) - (1 : Int32)))) ≤ x1 then (some (0 : Int32)) else (some (1 : Int32)))))
set_option maxHeartbeats 4000000 in
set_option maxRecDepth 100000 in
theorem L_X5_isTooEarly {E : zEnv} {Γ : zG} (a : Nat → Nat) (C : zC E Γ cX5_isTooEarly RX5 2 rm_X5_isTooEarly wsX5_isTooEarly) {res : Int32} {S : St} (R : zRi E Γ cX5_isTooEarly 2 .boolean (wTown E a S) res) (x1 : Int32) (h : f_X5_isTooEarly x1 S = some res) : Zt E Γ 2 0 0 (wTown E a S) [(0, .ref (a 0)), (1, .int x1)] 0 [] := by
  unfold f_X5_isTooEarly at h
  refine z_aload_n C 0 rfl rfl dX5_isTooEarly_0 ?_
  refine z_get C 0 rfl (C := RX5) (T := TX5) (N := 16) (ci := 5) rfl inw_X5_isTooEarly_X5 7 (by decide) (ref := "EldestAge$Town") (List.mem_of_getElem? (i := 1) rfl) rfl (v := .int (S 7 0)) rfl dX5_isTooEarly_1 ?_
  refine z_if_le C 26 (by decide) h dX5_isTooEarly_4 (fun hc h => ?_) (fun hc h => ?_)
  · refine z_iconst C (v := (0 : Int32)) (by decide) dX5_isTooEarly_26 ?_
    obtain rfl := Option.some.inj h
    exact R z_n0 27 _ dX5_isTooEarly_27
  · refine z_iload_n C 1 rfl rfl dX5_isTooEarly_7 ?_
    refine z_aload_n C 0 rfl rfl dX5_isTooEarly_8 ?_
    refine z_get C 0 rfl (C := RX5) (T := TX5) (N := 16) (ci := 5) rfl inw_X5_isTooEarly_X5 8 (by decide) (ref := "EldestAge$Town") (List.mem_of_getElem? (i := 2) rfl) rfl (v := .ref (a 5)) rfl dX5_isTooEarly_9 ?_
    refine z_aload_n C 0 rfl rfl dX5_isTooEarly_12 ?_
    refine z_get C 0 rfl (C := RX5) (T := TX5) (N := 16) (ci := 5) rfl inw_X5_isTooEarly_X5 7 (by decide) (ref := "EldestAge$Town") (List.mem_of_getElem? (i := 1) rfl) rfl (v := .int (S 7 0)) rfl dX5_isTooEarly_13 ?_
    refine z_iconst C (v := (1 : Int32)) (by decide) dX5_isTooEarly_16 ?_
    refine z_isub C dX5_isTooEarly_17 ?_
    refine z_iald C (N := 12) (f := (S 8)) 5 rfl h dX5_isTooEarly_18 (fun h => ?_)
    refine z_icmp_ge C 26 (by decide) h dX5_isTooEarly_19 (fun hc h => ?_) (fun hc h => ?_)
    · refine z_iconst C (v := (0 : Int32)) (by decide) dX5_isTooEarly_26 ?_
      obtain rfl := Option.some.inj h
      exact R z_n0 27 _ dX5_isTooEarly_27
    · refine z_iconst C (v := (1 : Int32)) (by decide) dX5_isTooEarly_22 ?_
      refine z_goto C 27 (by decide) dX5_isTooEarly_23 ?_
      obtain rfl := Option.some.inj h
      exact R z_n1 27 _ dX5_isTooEarly_27

theorem c_X5_isTooEarly (E : zEnv) (a : Nat → Nat) (x1 : Int32) (S : St) {res : Int32} (h : f_X5_isTooEarly x1 S = some res) : Kti E yX5_isTooEarly wsX5_isTooEarly rm_X5_isTooEarly (wTown E a S) (wTown E a S) [.ref (a 0), .int x1] res :=
  z_enti (cc := cX5_isTooEarly) (maxL := 2) (rt := .boolean) (by decide +kernel) rfl (Nat.le_of_ble_eq_true rfl) (fun Γ C R => L_X5_isTooEarly a C R x1 h)

abbrev rm_X5_addBirth : Room := { frames := 0, cells := 0, slots := 0, locals := 0 }
theorem inw_X5_addBirth_X5 : ∀ w ∈ wsX50, w ∈ wsX5_addBirth := fun _ h => List.mem_cons_of_mem _ (List.mem_append_right _ h)
set_option maxHeartbeats 4000000 in
theorem wl_X5_addBirth_0 (E : zEnv) (a : Nat → Nat) (S : St) (f : Nat → Int32) : (wTown E a (st 12 f S)) = (wTown E a S).set 8 (a 8, .inl (zI E, 4, .inl f)) := rfl
set_option maxHeartbeats 4000000 in
theorem wl_X5_addBirth_1 (E : zEnv) (a : Nat → Nat) (S : St) (f : Nat → Int32) : (wTown E a (st 13 f S)) = (wTown E a S).set 9 (a 9, .inl (zI E, 4, .inl f)) := rfl
set_option maxHeartbeats 4000000 in
theorem wl_X5_addBirth_2 (E : zEnv) (a : Nat → Nat) (S : St) (f : Nat → Int32) : (wTown E a (st 14 f S)) = (wTown E a S).set 10 (a 10, .inl (zI E, 4, .inl f)) := rfl
set_option maxHeartbeats 4000000 in
theorem wl_X5_addBirth_3 (E : zEnv) (a : Nat → Nat) (S : St) (v : Int32) : (wTown E a (st 11 (fun _ => v) S)) = (wTown E a S).set 0 (a 0, .inr (5, List.set [.int (S 0 0), .int (S 1 0), .int (S 2 0), .ref (a 1), .ref (a 2), .ref (a 3), .ref (a 4), .int (S 7 0), .ref (a 5), .ref (a 6), .ref (a 7), .int (S 11 0), .ref (a 8), .ref (a 9), .ref (a 10), .ref (a 11)] 11 (.int v))) := rfl
noncomputable def f_X5_addBirth (x1 : Int32) (x2 : Int32) (x3 : Int32) (S : St) : Option St := (if (4 : Int32) ≤ (S 11 0) then (some S) else (ix (S 11 0) 4 (ix (S 11 0) 4 (ix (S 11 0) 4 (some (st 11 (fun _ => ((S 11 0) + (1 : Int32))) (st 14 (upd (S 14) (Int32.toNatClampNeg (S 11 0)) x3) (st 13 (upd (S 13) (Int32.toNatClampNeg (S 11 0)) x2) (st 12 (upd (S 12) (Int32.toNatClampNeg (S 11 0)) x1) S)))))))))
set_option maxHeartbeats 4000000 in
set_option maxRecDepth 100000 in
theorem L_X5_addBirth {E : zEnv} {Γ : zG} (a : Nat → Nat) (C : zC E Γ cX5_addBirth RX5 4 rm_X5_addBirth wsX5_addBirth) {res : St} (R : zRv E Γ cX5_addBirth 4 (wTown E a res)) (x1 : Int32) (x2 : Int32) (x3 : Int32) (S : St) (h : f_X5_addBirth x1 x2 x3 S = some res) : Zt E Γ 4 0 0 (wTown E a S) [(0, .ref (a 0)), (1, .int x1), (2, .int x2), (3, .int x3)] 0 [] := by
  unfold f_X5_addBirth at h
  refine z_aload_n C 0 rfl rfl dX5_addBirth_0 ?_
  refine z_get C 0 rfl (C := RX5) (T := TX5) (N := 16) (ci := 5) rfl inw_X5_addBirth_X5 11 (by decide) (ref := "EldestAge$Town") (List.mem_of_getElem? (i := 1) rfl) rfl (v := .int (S 11 0)) rfl dX5_addBirth_1 ?_
  refine z_iconst C (v := (4 : Int32)) (by decide) dX5_addBirth_4 ?_
  refine z_icmp_ge C 48 (by decide) h dX5_addBirth_5 (fun hc h => ?_) (fun hc h => ?_)
  · obtain rfl := Option.some.inj h
    exact R 48 _ dX5_addBirth_48
  · refine z_aload_n C 0 rfl rfl dX5_addBirth_8 ?_
    refine z_get C 0 rfl (C := RX5) (T := TX5) (N := 16) (ci := 5) rfl inw_X5_addBirth_X5 12 (by decide) (ref := "EldestAge$Town") (List.mem_of_getElem? (i := 2) rfl) rfl (v := .ref (a 8)) rfl dX5_addBirth_9 ?_
    refine z_aload_n C 0 rfl rfl dX5_addBirth_12 ?_
    refine z_get C 0 rfl (C := RX5) (T := TX5) (N := 16) (ci := 5) rfl inw_X5_addBirth_X5 11 (by decide) (ref := "EldestAge$Town") (List.mem_of_getElem? (i := 1) rfl) rfl (v := .int (S 11 0)) rfl dX5_addBirth_13 ?_
    refine z_iload_n C 1 rfl rfl dX5_addBirth_16 ?_
    refine z_iast C (N := 4) (f := (S 12)) 8 rfl h (wTown E a (st 12 (upd (S 12) (Int32.toNatClampNeg (S 11 0)) x1) S)) (wl_X5_addBirth_0 E a S (upd (S 12) (Int32.toNatClampNeg (S 11 0)) x1)) dX5_addBirth_17 (fun h => ?_)
    refine z_aload_n C 0 rfl rfl dX5_addBirth_18 ?_
    refine z_get C 0 rfl (C := RX5) (T := TX5) (N := 16) (ci := 5) rfl inw_X5_addBirth_X5 13 (by decide) (ref := "EldestAge$Town") (List.mem_of_getElem? (i := 3) rfl) rfl (v := .ref (a 9)) rfl dX5_addBirth_19 ?_
    refine z_aload_n C 0 rfl rfl dX5_addBirth_22 ?_
    refine z_get C 0 rfl (C := RX5) (T := TX5) (N := 16) (ci := 5) rfl inw_X5_addBirth_X5 11 (by decide) (ref := "EldestAge$Town") (List.mem_of_getElem? (i := 1) rfl) rfl (v := .int (S 11 0)) rfl dX5_addBirth_23 ?_
    refine z_iload_n C 2 rfl rfl dX5_addBirth_26 ?_
    refine z_iast C (N := 4) (f := (S 13)) 9 rfl h (wTown E a (st 13 (upd (S 13) (Int32.toNatClampNeg (S 11 0)) x2) (st 12 (upd (S 12) (Int32.toNatClampNeg (S 11 0)) x1) S))) (wl_X5_addBirth_1 E a (st 12 (upd (S 12) (Int32.toNatClampNeg (S 11 0)) x1) S) (upd (S 13) (Int32.toNatClampNeg (S 11 0)) x2)) dX5_addBirth_27 (fun h => ?_)
    refine z_aload_n C 0 rfl rfl dX5_addBirth_28 ?_
    refine z_get C 0 rfl (C := RX5) (T := TX5) (N := 16) (ci := 5) rfl inw_X5_addBirth_X5 14 (by decide) (ref := "EldestAge$Town") (List.mem_of_getElem? (i := 4) rfl) rfl (v := .ref (a 10)) rfl dX5_addBirth_29 ?_
    refine z_aload_n C 0 rfl rfl dX5_addBirth_32 ?_
    refine z_get C 0 rfl (C := RX5) (T := TX5) (N := 16) (ci := 5) rfl inw_X5_addBirth_X5 11 (by decide) (ref := "EldestAge$Town") (List.mem_of_getElem? (i := 1) rfl) rfl (v := .int (S 11 0)) rfl dX5_addBirth_33 ?_
    refine z_iload_n C 3 rfl rfl dX5_addBirth_36 ?_
    refine z_iast C (N := 4) (f := (S 14)) 10 rfl h (wTown E a (st 14 (upd (S 14) (Int32.toNatClampNeg (S 11 0)) x3) (st 13 (upd (S 13) (Int32.toNatClampNeg (S 11 0)) x2) (st 12 (upd (S 12) (Int32.toNatClampNeg (S 11 0)) x1) S)))) (wl_X5_addBirth_2 E a (st 13 (upd (S 13) (Int32.toNatClampNeg (S 11 0)) x2) (st 12 (upd (S 12) (Int32.toNatClampNeg (S 11 0)) x1) S)) (upd (S 14) (Int32.toNatClampNeg (S 11 0)) x3)) dX5_addBirth_37 (fun h => ?_)
    refine z_aload_n C 0 rfl rfl dX5_addBirth_38 ?_
    refine z_dup C rfl dX5_addBirth_39 ?_
    refine z_get C 0 rfl (C := RX5) (T := TX5) (N := 16) (ci := 5) rfl inw_X5_addBirth_X5 11 (by decide) (ref := "EldestAge$Town") (List.mem_of_getElem? (i := 1) rfl) rfl (v := .int (S 11 0)) rfl dX5_addBirth_40 ?_
    refine z_iconst C (v := (1 : Int32)) (by decide) dX5_addBirth_43 ?_
    refine z_iadd C dX5_addBirth_44 ?_
    refine z_put C 0 rfl (C := RX5) (T := TX5) (N := 16) (ci := 5) rfl inw_X5_addBirth_X5 tyX5 tyX5_ok nmX5 11 (by decide) (ref := "EldestAge$Town") (List.mem_of_getElem? (i := 1) rfl) rfl rfl (ty := .int) (v := .int ((S 11 0) + (1 : Int32))) (by decide +kernel) rfl rfl (Nat.le_of_ble_eq_true rfl) (wTown E a (st 11 (fun _ => ((S 11 0) + (1 : Int32))) (st 14 (upd (S 14) (Int32.toNatClampNeg (S 11 0)) x3) (st 13 (upd (S 13) (Int32.toNatClampNeg (S 11 0)) x2) (st 12 (upd (S 12) (Int32.toNatClampNeg (S 11 0)) x1) S))))) (wl_X5_addBirth_3 E a (st 14 (upd (S 14) (Int32.toNatClampNeg (S 11 0)) x3) (st 13 (upd (S 13) (Int32.toNatClampNeg (S 11 0)) x2) (st 12 (upd (S 12) (Int32.toNatClampNeg (S 11 0)) x1) S))) ((S 11 0) + (1 : Int32))) dX5_addBirth_45 ?_
    obtain rfl := Option.some.inj h
    exact R 48 _ dX5_addBirth_48

theorem c_X5_addBirth (E : zEnv) (a : Nat → Nat) (x1 : Int32) (x2 : Int32) (x3 : Int32) (S : St) {res : St} (h : f_X5_addBirth x1 x2 x3 S = some res) : Ktv E yX5_addBirth wsX5_addBirth rm_X5_addBirth (wTown E a S) (wTown E a res) [.ref (a 0), .int x1, .int x2, .int x3] :=
  z_entv (cc := cX5_addBirth) (maxL := 4) (by decide +kernel) rfl (Nat.le_of_ble_eq_true rfl) (fun Γ C R => L_X5_addBirth a C R x1 x2 x3 S h)

abbrev rm_X5_deathOf : Room := { frames := 0, cells := 0, slots := 0, locals := 0 }
theorem inw_X5_deathOf_X5 : ∀ w ∈ wsX50, w ∈ wsX5_deathOf := fun _ h => List.mem_cons_of_mem _ (List.mem_append_right _ h)
noncomputable def f_X5_deathOf (x1 : Int32) (S : St) : Option Int32 := (ix x1 14 (if (S 6 (Int32.toNatClampNeg x1)) = (36000 : Int32) then (some (-4 : Int32)) else (ix x1 14 (some (S 6 (Int32.toNatClampNeg x1))))))
set_option maxHeartbeats 4000000 in
set_option maxRecDepth 100000 in
theorem L_X5_deathOf {E : zEnv} {Γ : zG} (a : Nat → Nat) (C : zC E Γ cX5_deathOf RX5 2 rm_X5_deathOf wsX5_deathOf) {res : Int32} {S : St} (R : zRi E Γ cX5_deathOf 2 .int (wTown E a S) res) (x1 : Int32) (h : f_X5_deathOf x1 S = some res) : Zt E Γ 2 0 0 (wTown E a S) [(0, .ref (a 0)), (1, .int x1)] 0 [] := by
  unfold f_X5_deathOf at h
  refine z_aload_n C 0 rfl rfl dX5_deathOf_0 ?_
  refine z_get C 0 rfl (C := RX5) (T := TX5) (N := 16) (ci := 5) rfl inw_X5_deathOf_X5 6 (by decide) (ref := "EldestAge$Town") (List.mem_of_getElem? (i := 1) rfl) rfl (v := .ref (a 4)) rfl dX5_deathOf_1 ?_
  refine z_iload_n C 1 rfl rfl dX5_deathOf_4 ?_
  refine z_iald C (N := 14) (f := (S 6)) 4 rfl h dX5_deathOf_5 (fun h => ?_)
  refine z_ldc C (v := (36000 : Int32)) (List.mem_of_getElem? (i := 2) rfl) dX5_deathOf_6 ?_
  refine z_icmp_ne C 16 (by decide) h dX5_deathOf_8 (fun hc h => ?_) (fun hc h => ?_)
  · refine z_bipush C (v := (-4 : Int32)) (by decide) dX5_deathOf_11 ?_
    refine z_goto C 22 (by decide) dX5_deathOf_13 ?_
    obtain rfl := Option.some.inj h
    exact R rfl 22 _ dX5_deathOf_22
  · refine z_aload_n C 0 rfl rfl dX5_deathOf_16 ?_
    refine z_get C 0 rfl (C := RX5) (T := TX5) (N := 16) (ci := 5) rfl inw_X5_deathOf_X5 6 (by decide) (ref := "EldestAge$Town") (List.mem_of_getElem? (i := 1) rfl) rfl (v := .ref (a 4)) rfl dX5_deathOf_17 ?_
    refine z_iload_n C 1 rfl rfl dX5_deathOf_20 ?_
    refine z_iald C (N := 14) (f := (S 6)) 4 rfl h dX5_deathOf_21 (fun h => ?_)
    obtain rfl := Option.some.inj h
    exact R rfl 22 _ dX5_deathOf_22

theorem c_X5_deathOf (E : zEnv) (a : Nat → Nat) (x1 : Int32) (S : St) {res : Int32} (h : f_X5_deathOf x1 S = some res) : Kti E yX5_deathOf wsX5_deathOf rm_X5_deathOf (wTown E a S) (wTown E a S) [.ref (a 0), .int x1] res :=
  z_enti (cc := cX5_deathOf) (maxL := 2) (rt := .int) (by decide +kernel) rfl (Nat.le_of_ble_eq_true rfl) (fun Γ C R => L_X5_deathOf a C R x1 h)

abbrev rm_X5_isAlive : Room := { frames := 0, cells := 0, slots := 0, locals := 0 }
theorem inw_X5_isAlive_X5 : ∀ w ∈ wsX50, w ∈ wsX5_isAlive := fun _ h => List.mem_cons_of_mem _ (List.mem_append_right _ h)
noncomputable def f_X5_isAlive (x1 : Int32) (x2 : Int32) (S : St) : Option Int32 := (ix x1 14 (if x2 < (S 4 (Int32.toNatClampNeg x1)) then (some (0 : Int32)) else (ix x1 14 (if (S 6 (Int32.toNatClampNeg x1)) ≤ x2 then (some (0 : Int32)) else (some (1 : Int32))))))
set_option maxHeartbeats 4000000 in
set_option maxRecDepth 100000 in
theorem L_X5_isAlive {E : zEnv} {Γ : zG} (a : Nat → Nat) (C : zC E Γ cX5_isAlive RX5 3 rm_X5_isAlive wsX5_isAlive) {res : Int32} {S : St} (R : zRi E Γ cX5_isAlive 3 .boolean (wTown E a S) res) (x1 : Int32) (x2 : Int32) (h : f_X5_isAlive x1 x2 S = some res) : Zt E Γ 3 0 0 (wTown E a S) [(0, .ref (a 0)), (1, .int x1), (2, .int x2)] 0 [] := by
  unfold f_X5_isAlive at h
  refine z_aload_n C 0 rfl rfl dX5_isAlive_0 ?_
  refine z_get C 0 rfl (C := RX5) (T := TX5) (N := 16) (ci := 5) rfl inw_X5_isAlive_X5 4 (by decide) (ref := "EldestAge$Town") (List.mem_of_getElem? (i := 1) rfl) rfl (v := .ref (a 2)) rfl dX5_isAlive_1 ?_
  refine z_iload_n C 1 rfl rfl dX5_isAlive_4 ?_
  refine z_iald C (N := 14) (f := (S 4)) 2 rfl h dX5_isAlive_5 (fun h => ?_)
  refine z_iload_n C 2 rfl rfl dX5_isAlive_6 ?_
  refine z_icmp_gt C 24 (by decide) h dX5_isAlive_7 (fun hc h => ?_) (fun hc h => ?_)
  · refine z_iconst C (v := (0 : Int32)) (by decide) dX5_isAlive_24 ?_
    obtain rfl := Option.some.inj h
    exact R z_n0 25 _ dX5_isAlive_25
  · refine z_iload_n C 2 rfl rfl dX5_isAlive_10 ?_
    refine z_aload_n C 0 rfl rfl dX5_isAlive_11 ?_
    refine z_get C 0 rfl (C := RX5) (T := TX5) (N := 16) (ci := 5) rfl inw_X5_isAlive_X5 6 (by decide) (ref := "EldestAge$Town") (List.mem_of_getElem? (i := 2) rfl) rfl (v := .ref (a 4)) rfl dX5_isAlive_12 ?_
    refine z_iload_n C 1 rfl rfl dX5_isAlive_15 ?_
    refine z_iald C (N := 14) (f := (S 6)) 4 rfl h dX5_isAlive_16 (fun h => ?_)
    refine z_icmp_ge C 24 (by decide) h dX5_isAlive_17 (fun hc h => ?_) (fun hc h => ?_)
    · refine z_iconst C (v := (0 : Int32)) (by decide) dX5_isAlive_24 ?_
      obtain rfl := Option.some.inj h
      exact R z_n0 25 _ dX5_isAlive_25
    · refine z_iconst C (v := (1 : Int32)) (by decide) dX5_isAlive_20 ?_
      refine z_goto C 25 (by decide) dX5_isAlive_21 ?_
      obtain rfl := Option.some.inj h
      exact R z_n1 25 _ dX5_isAlive_25

theorem c_X5_isAlive (E : zEnv) (a : Nat → Nat) (x1 : Int32) (x2 : Int32) (S : St) {res : Int32} (h : f_X5_isAlive x1 x2 S = some res) : Kti E yX5_isAlive wsX5_isAlive rm_X5_isAlive (wTown E a S) (wTown E a S) [.ref (a 0), .int x1, .int x2] res :=
  z_enti (cc := cX5_isAlive) (maxL := 3) (rt := .boolean) (by decide +kernel) rfl (Nat.le_of_ble_eq_true rfl) (fun Γ C R => L_X5_isAlive a C R x1 x2 h)

abbrev rm_X5_yearsOf : Room := { frames := 0, cells := 0, slots := 0, locals := 0 }
theorem inw_X5_yearsOf_X5 : ∀ w ∈ wsX50, w ∈ wsX5_yearsOf := fun _ h => List.mem_cons_of_mem _ (List.mem_append_right _ h)
noncomputable def f_X5_yearsOf (x1 : Int32) (x2 : Int32) (S : St) : Option Int32 := (ix x1 14 (some ((x2 - (S 4 (Int32.toNatClampNeg x1))) / (360 : Int32))))
set_option maxHeartbeats 4000000 in
set_option maxRecDepth 100000 in
theorem L_X5_yearsOf {E : zEnv} {Γ : zG} (a : Nat → Nat) (C : zC E Γ cX5_yearsOf RX5 3 rm_X5_yearsOf wsX5_yearsOf) {res : Int32} {S : St} (R : zRi E Γ cX5_yearsOf 3 .int (wTown E a S) res) (x1 : Int32) (x2 : Int32) (h : f_X5_yearsOf x1 x2 S = some res) : Zt E Γ 3 0 0 (wTown E a S) [(0, .ref (a 0)), (1, .int x1), (2, .int x2)] 0 [] := by
  unfold f_X5_yearsOf at h
  refine z_iload_n C 2 rfl rfl dX5_yearsOf_0 ?_
  refine z_aload_n C 0 rfl rfl dX5_yearsOf_1 ?_
  refine z_get C 0 rfl (C := RX5) (T := TX5) (N := 16) (ci := 5) rfl inw_X5_yearsOf_X5 4 (by decide) (ref := "EldestAge$Town") (List.mem_of_getElem? (i := 1) rfl) rfl (v := .ref (a 2)) rfl dX5_yearsOf_2 ?_
  refine z_iload_n C 1 rfl rfl dX5_yearsOf_5 ?_
  refine z_iald C (N := 14) (f := (S 4)) 2 rfl h dX5_yearsOf_6 (fun h => ?_)
  refine z_isub C dX5_yearsOf_7 ?_
  refine z_sipush C (v := (360 : Int32)) (by decide) dX5_yearsOf_8 ?_
  refine z_idiv C (by decide) dX5_yearsOf_11 ?_
  obtain rfl := Option.some.inj h
  exact R rfl 12 _ dX5_yearsOf_12

theorem c_X5_yearsOf (E : zEnv) (a : Nat → Nat) (x1 : Int32) (x2 : Int32) (S : St) {res : Int32} (h : f_X5_yearsOf x1 x2 S = some res) : Kti E yX5_yearsOf wsX5_yearsOf rm_X5_yearsOf (wTown E a S) (wTown E a S) [.ref (a 0), .int x1, .int x2] res :=
  z_enti (cc := cX5_yearsOf) (maxL := 3) (rt := .int) (by decide +kernel) rfl (Nat.le_of_ble_eq_true rfl) (fun Γ C R => L_X5_yearsOf a C R x1 x2 h)

abbrev rm_X5_homeOf : Room := { frames := 0, cells := 0, slots := 0, locals := 0 }
theorem inw_X5_homeOf_X5 : ∀ w ∈ wsX50, w ∈ wsX5_homeOf := fun _ h => List.mem_cons_of_mem _ (List.mem_append_right _ h)
noncomputable def f_X5_homeOf_31 (x3 : Int32) (S : St) : Option Int32 := (ix x3 12 (some (S 10 (Int32.toNatClampNeg x3))))
noncomputable def f_X5_homeOf_38 (k7 : Int32 → Int32 → Int32 → St → Option Int32) (x1 : Int32) (x2 : Int32) (x3 : Int32) (S : St) : Option Int32 := (k7 x1 x2 (x3 + (-1 : Int32)) S)
noncomputable def f_X5_homeOf_44 (x1 : Int32) (S : St) : Option Int32 := (ix x1 14 (some (S 5 (Int32.toNatClampNeg x1))))
noncomputable def f_X5_homeOf_7 (n : Nat) : Int32 → Int32 → Int32 → St → Option Int32 := Nat.rec (motive := fun _ => Int32 → Int32 → Int32 → St → Option Int32) (fun _ _ _ _ => none) (fun _ ih => fun x1 x2 x3 S => (if x3 < 0 then (f_X5_homeOf_44 x1 S) else (ix x3 12 (if (S 9 (Int32.toNatClampNeg x3)) = x1 then (ix x3 12 (if x2 < (S 8 (Int32.toNatClampNeg x3)) then (f_X5_homeOf_38 ih x1 x2 x3 S) else (f_X5_homeOf_31 x3 S))) else (f_X5_homeOf_38 ih x1 x2 x3 S))))) n
theorem f_X5_homeOf_7_s (n : Nat) (x1 : Int32) (x2 : Int32) (x3 : Int32) (S : St) : f_X5_homeOf_7 (n + 1) x1 x2 x3 S = (if x3 < 0 then (f_X5_homeOf_44 x1 S) else (ix x3 12 (if (S 9 (Int32.toNatClampNeg x3)) = x1 then (ix x3 12 (if x2 < (S 8 (Int32.toNatClampNeg x3)) then (f_X5_homeOf_38 (f_X5_homeOf_7 n) x1 x2 x3 S) else (f_X5_homeOf_31 x3 S))) else (f_X5_homeOf_38 (f_X5_homeOf_7 n) x1 x2 x3 S)))) := rfl
noncomputable def f_X5_homeOf (x1 : Int32) (x2 : Int32) (S : St) : Option Int32 := (f_X5_homeOf_7 1000 x1 x2 ((S 7 0) - (1 : Int32)) S)
set_option maxHeartbeats 4000000 in
set_option maxRecDepth 100000 in
theorem L_X5_homeOf_31 {E : zEnv} {Γ : zG} (a : Nat → Nat) (C : zC E Γ cX5_homeOf RX5 4 rm_X5_homeOf wsX5_homeOf) {res : Int32} {S : St} (R : zRi E Γ cX5_homeOf 4 .int (wTown E a S) res) (x3 : Int32) (h : f_X5_homeOf_31 x3 S = some res) : Zt E Γ 4 0 0 (wTown E a S) [(0, .ref (a 0)), (3, .int x3)] 31 [] := by
  unfold f_X5_homeOf_31 at h
  refine z_aload_n C 0 rfl rfl dX5_homeOf_31 ?_
  refine z_get C 0 rfl (C := RX5) (T := TX5) (N := 16) (ci := 5) rfl inw_X5_homeOf_X5 10 (by decide) (ref := "EldestAge$Town") (List.mem_of_getElem? (i := 4) rfl) rfl (v := .ref (a 7)) rfl dX5_homeOf_32 ?_
  refine z_iload_n C 1 rfl rfl dX5_homeOf_35 ?_
  refine z_iald C (N := 12) (f := (S 10)) 7 rfl h dX5_homeOf_36 (fun h => ?_)
  obtain rfl := Option.some.inj h
  exact R rfl 37 _ dX5_homeOf_37

set_option maxHeartbeats 4000000 in
set_option maxRecDepth 100000 in
theorem L_X5_homeOf_38 {E : zEnv} {Γ : zG} (a : Nat → Nat) (C : zC E Γ cX5_homeOf RX5 4 rm_X5_homeOf wsX5_homeOf) {res : Int32} {S : St} (R : zRi E Γ cX5_homeOf 4 .int (wTown E a S) res) (k7 : Int32 → Int32 → Int32 → St → Option Int32) (hk7 : ∀ (x1 : Int32) (x2 : Int32) (x3 : Int32), k7 x1 x2 x3 S = some res → Zt E Γ 4 0 0 (wTown E a S) [(0, .ref (a 0)), (1, .int x1), (2, .int x2), (3, .int x3)] 7 []) (x1 : Int32) (x2 : Int32) (x3 : Int32) (h : f_X5_homeOf_38 k7 x1 x2 x3 S = some res) : Zt E Γ 4 0 0 (wTown E a S) [(0, .ref (a 0)), (1, .int x1), (2, .int x2), (3, .int x3)] 38 [] := by
  unfold f_X5_homeOf_38 at h
  refine z_iinc C [(3, .int (x3 + (-1 : Int32))), (0, .ref (a 0)), (1, .int x1), (2, .int x2)] 3 rfl (by first | rfl | decide) (by decide) rfl dX5_homeOf_38 ?_
  refine z_goto C 7 (by decide) dX5_homeOf_41 ?_
  refine Zt_l [(0, .ref (a 0)), (1, .int x1), (2, .int x2), (3, .int (x3 + (-1 : Int32)))] [1, 2, 3, 0] rfl ?_
  exact hk7 x1 x2 (x3 + (-1 : Int32)) h

set_option maxHeartbeats 4000000 in
set_option maxRecDepth 100000 in
theorem L_X5_homeOf_44 {E : zEnv} {Γ : zG} (a : Nat → Nat) (C : zC E Γ cX5_homeOf RX5 4 rm_X5_homeOf wsX5_homeOf) {res : Int32} {S : St} (R : zRi E Γ cX5_homeOf 4 .int (wTown E a S) res) (x1 : Int32) (h : f_X5_homeOf_44 x1 S = some res) : Zt E Γ 4 0 0 (wTown E a S) [(0, .ref (a 0)), (1, .int x1)] 44 [] := by
  unfold f_X5_homeOf_44 at h
  refine z_aload_n C 0 rfl rfl dX5_homeOf_44 ?_
  refine z_get C 0 rfl (C := RX5) (T := TX5) (N := 16) (ci := 5) rfl inw_X5_homeOf_X5 5 (by decide) (ref := "EldestAge$Town") (List.mem_of_getElem? (i := 5) rfl) rfl (v := .ref (a 3)) rfl dX5_homeOf_45 ?_
  refine z_iload_n C 1 rfl rfl dX5_homeOf_48 ?_
  refine z_iald C (N := 14) (f := (S 5)) 3 rfl h dX5_homeOf_49 (fun h => ?_)
  obtain rfl := Option.some.inj h
  exact R rfl 50 _ dX5_homeOf_50

set_option maxHeartbeats 4000000 in
set_option maxRecDepth 100000 in
theorem L_X5_homeOf_7 {E : zEnv} {Γ : zG} (a : Nat → Nat) (C : zC E Γ cX5_homeOf RX5 4 rm_X5_homeOf wsX5_homeOf) {res : Int32} {S : St} (R : zRi E Γ cX5_homeOf 4 .int (wTown E a S) res) : ∀ (n : Nat) (x1 : Int32) (x2 : Int32) (x3 : Int32), f_X5_homeOf_7 n x1 x2 x3 S = some res → Zt E Γ 4 0 0 (wTown E a S) [(0, .ref (a 0)), (1, .int x1), (2, .int x2), (3, .int x3)] 7 [] := by
  intro n
  induction n with
  | zero =>
    intro x1 x2 x3 h
    cases h
  | succ n ih =>
    intro x1 x2 x3 h
    rw [f_X5_homeOf_7_s] at h
    refine z_iload_n C 3 rfl rfl dX5_homeOf_7 ?_
    refine z_if_lt C 44 (by decide) h dX5_homeOf_8 (fun hc h => ?_) (fun hc h => ?_)
    · refine Zt_l [(0, .ref (a 0)), (1, .int x1)] [0, 1] rfl ?_
      exact L_X5_homeOf_44 a C R x1 h
    · refine z_aload_n C 0 rfl rfl dX5_homeOf_11 ?_
      refine z_get C 0 rfl (C := RX5) (T := TX5) (N := 16) (ci := 5) rfl inw_X5_homeOf_X5 9 (by decide) (ref := "EldestAge$Town") (List.mem_of_getElem? (i := 2) rfl) rfl (v := .ref (a 6)) rfl dX5_homeOf_12 ?_
      refine z_iload_n C 3 rfl rfl dX5_homeOf_15 ?_
      refine z_iald C (N := 12) (f := (S 9)) 6 rfl h dX5_homeOf_16 (fun h => ?_)
      refine z_iload_n C 1 rfl rfl dX5_homeOf_17 ?_
      refine z_icmp_ne C 38 (by decide) h dX5_homeOf_18 (fun hc h => ?_) (fun hc h => ?_)
      · refine z_aload_n C 0 rfl rfl dX5_homeOf_21 ?_
        refine z_get C 0 rfl (C := RX5) (T := TX5) (N := 16) (ci := 5) rfl inw_X5_homeOf_X5 8 (by decide) (ref := "EldestAge$Town") (List.mem_of_getElem? (i := 3) rfl) rfl (v := .ref (a 5)) rfl dX5_homeOf_22 ?_
        refine z_iload_n C 3 rfl rfl dX5_homeOf_25 ?_
        refine z_iald C (N := 12) (f := (S 8)) 5 rfl h dX5_homeOf_26 (fun h => ?_)
        refine z_iload_n C 2 rfl rfl dX5_homeOf_27 ?_
        refine z_icmp_gt C 38 (by decide) h dX5_homeOf_28 (fun hc h => ?_) (fun hc h => ?_)
        · exact L_X5_homeOf_38 a C R _ ih x1 x2 x3 h
        · refine Zt_l [(0, .ref (a 0)), (3, .int x3)] [0, 3] rfl ?_
          exact L_X5_homeOf_31 a C R x3 h
      · exact L_X5_homeOf_38 a C R _ ih x1 x2 x3 h

set_option maxHeartbeats 4000000 in
set_option maxRecDepth 100000 in
theorem L_X5_homeOf {E : zEnv} {Γ : zG} (a : Nat → Nat) (C : zC E Γ cX5_homeOf RX5 4 rm_X5_homeOf wsX5_homeOf) {res : Int32} {S : St} (R : zRi E Γ cX5_homeOf 4 .int (wTown E a S) res) (x1 : Int32) (x2 : Int32) (h : f_X5_homeOf x1 x2 S = some res) : Zt E Γ 4 0 0 (wTown E a S) [(0, .ref (a 0)), (1, .int x1), (2, .int x2)] 0 [] := by
  unfold f_X5_homeOf at h
  refine z_aload_n C 0 rfl rfl dX5_homeOf_0 ?_
  refine z_get C 0 rfl (C := RX5) (T := TX5) (N := 16) (ci := 5) rfl inw_X5_homeOf_X5 7 (by decide) (ref := "EldestAge$Town") (List.mem_of_getElem? (i := 1) rfl) rfl (v := .int (S 7 0)) rfl dX5_homeOf_1 ?_
  refine z_iconst C (v := (1 : Int32)) (by decide) dX5_homeOf_4 ?_
  refine z_isub C dX5_homeOf_5 ?_
  refine z_istore_n C [(3, .int ((S 7 0) - (1 : Int32))), (0, .ref (a 0)), (1, .int x1), (2, .int x2)] rfl (by decide) rfl dX5_homeOf_6 ?_
  refine Zt_l [(0, .ref (a 0)), (1, .int x1), (2, .int x2), (3, .int ((S 7 0) - (1 : Int32)))] [1, 2, 3, 0] rfl ?_
  exact L_X5_homeOf_7 a C R 1000 x1 x2 ((S 7 0) - (1 : Int32)) h

theorem c_X5_homeOf (E : zEnv) (a : Nat → Nat) (x1 : Int32) (x2 : Int32) (S : St) {res : Int32} (h : f_X5_homeOf x1 x2 S = some res) : Kti E yX5_homeOf wsX5_homeOf rm_X5_homeOf (wTown E a S) (wTown E a S) [.ref (a 0), .int x1, .int x2] res :=
  z_enti (cc := cX5_homeOf) (maxL := 4) (rt := .int) (by decide +kernel) rfl (Nat.le_of_ble_eq_true rfl) (fun Γ C R => L_X5_homeOf a C R x1 x2 h)

abbrev rm_X5_isAuntOn : Room := { frames := 1, cells := 0, slots := 0, locals := 22 }
theorem inw_X5_isAuntOn_X5 : ∀ w ∈ wsX50, w ∈ wsX5_isAuntOn := fun _ h => List.mem_cons_of_mem _ (List.mem_append_right _ h)
set_option maxHeartbeats 4000000 in
theorem wl_X5_isAuntOn_0 (E : zEnv) (a : Nat → Nat) (S : St) : ([0, 1, 2, 3, 4, 5, 6, 7, 8, 9, 10, 11, 12, 13, 14, 15] : List Nat).map (fun i => (wTown E a S)[i]?) = (wTown E a S).map some := rfl
set_option maxHeartbeats 4000000 in
theorem wl_X5_isAuntOn_1 (E : zEnv) (a : Nat → Nat) (S U : St) : (wTown E a U).map (fun q => q.1) = (wTown E a S).map (fun q => q.1) := rfl
noncomputable def f_X5_isAuntOn (x1 : Int32) (x2 : Int32) (S : St) : Option Int32 := ((f_X5_isOne x1 S).bind (fun q1 => (if q1 = 0 then (some (0 : Int32)) else (ix x1 14 (if (S 3 (Int32.toNatClampNeg x1)) = (1 : Int32) then ((f_X5_isAlive x1 x2 S).bind (fun q2 => (if q2 = 0 then (some (0 : Int32)) else (some (1 : Int32))))) else (some (0 : Int32)))))))
set_option maxHeartbeats 4000000 in
set_option maxRecDepth 100000 in
theorem L_X5_isAuntOn {E : zEnv} {Γ : zG} (a : Nat → Nat) (C : zC E Γ cX5_isAuntOn RX5 3 rm_X5_isAuntOn wsX5_isAuntOn) {res : Int32} {S : St} (R : zRi E Γ cX5_isAuntOn 3 .boolean (wTown E a S) res) (x1 : Int32) (x2 : Int32) (h : f_X5_isAuntOn x1 x2 S = some res) : Zt E Γ 3 0 0 (wTown E a S) [(0, .ref (a 0)), (1, .int x1), (2, .int x2)] 0 [] := by
  unfold f_X5_isAuntOn at h
  refine z_aload_n C 0 rfl rfl dX5_isAuntOn_0 ?_
  refine z_iload_n C 1 rfl rfl dX5_isAuntOn_1 ?_
  obtain ⟨q1, e1, h⟩ := bd_e h
  refine z_callVi C (b := a 0) (As := [.int x1]) (rest := []) (c_X5_isOne E a x1 S e1) rfl gX5_isAuntOn_X5_isOne rfl rfl rfl 1 rfl (by decide +kernel) ⟨Nat.le_of_ble_eq_true rfl, Nat.le_of_ble_eq_true rfl⟩ [0, 1, 2, 3, 4, 5, 6, 7, 8, 9, 10, 11, 12, 13, 14, 15] (wl_X5_isAuntOn_0 E a S) (by decide) rfl (wTown E a S) (zrep_self (wl_X5_isAuntOn_0 E a S)) 0 5 rfl rfl rfl (Nat.le_of_ble_eq_true rfl) dX5_isAuntOn_2 ⟨Nat.zero_le _, Nat.zero_le _⟩ _ rfl ?_
  refine z_if_eq C 31 (by decide) h dX5_isAuntOn_5 (fun hc h => ?_) (fun hc h => ?_)
  · refine z_iconst C (v := (0 : Int32)) (by decide) dX5_isAuntOn_31 ?_
    obtain rfl := Option.some.inj h
    exact R z_n0 32 _ dX5_isAuntOn_32
  · refine z_aload_n C 0 rfl rfl dX5_isAuntOn_8 ?_
    refine z_get C 0 rfl (C := RX5) (T := TX5) (N := 16) (ci := 5) rfl inw_X5_isAuntOn_X5 3 (by decide) (ref := "EldestAge$Town") (List.mem_of_getElem? (i := 1) rfl) rfl (v := .ref (a 1)) rfl dX5_isAuntOn_9 ?_
    refine z_iload_n C 1 rfl rfl dX5_isAuntOn_12 ?_
    refine z_iald C (N := 14) (f := (S 3)) 1 rfl h dX5_isAuntOn_13 (fun h => ?_)
    refine z_iconst C (v := (1 : Int32)) (by decide) dX5_isAuntOn_14 ?_
    refine z_icmp_ne C 31 (by decide) h dX5_isAuntOn_15 (fun hc h => ?_) (fun hc h => ?_)
    · refine z_aload_n C 0 rfl rfl dX5_isAuntOn_18 ?_
      refine z_iload_n C 1 rfl rfl dX5_isAuntOn_19 ?_
      refine z_iload_n C 2 rfl rfl dX5_isAuntOn_20 ?_
      obtain ⟨q2, e2, h⟩ := bd_e h
      refine z_callVi C (b := a 0) (As := [.int x1, .int x2]) (rest := []) (c_X5_isAlive E a x1 x2 S e2) rfl gX5_isAuntOn_X5_isAlive rfl rfl rfl 2 rfl (by decide +kernel) ⟨Nat.le_of_ble_eq_true rfl, Nat.le_of_ble_eq_true rfl⟩ [0, 1, 2, 3, 4, 5, 6, 7, 8, 9, 10, 11, 12, 13, 14, 15] (wl_X5_isAuntOn_0 E a S) (by decide) rfl (wTown E a S) (zrep_self (wl_X5_isAuntOn_0 E a S)) 0 5 rfl rfl rfl (Nat.le_of_ble_eq_true rfl) dX5_isAuntOn_21 ⟨Nat.zero_le _, Nat.zero_le _⟩ _ rfl ?_
      refine z_if_eq C 31 (by decide) h dX5_isAuntOn_24 (fun hc h => ?_) (fun hc h => ?_)
      · refine z_iconst C (v := (0 : Int32)) (by decide) dX5_isAuntOn_31 ?_
        obtain rfl := Option.some.inj h
        exact R z_n0 32 _ dX5_isAuntOn_32
      · refine z_iconst C (v := (1 : Int32)) (by decide) dX5_isAuntOn_27 ?_
        refine z_goto C 32 (by decide) dX5_isAuntOn_28 ?_
        obtain rfl := Option.some.inj h
        exact R z_n1 32 _ dX5_isAuntOn_32
    · refine z_iconst C (v := (0 : Int32)) (by decide) dX5_isAuntOn_31 ?_
      obtain rfl := Option.some.inj h
      exact R z_n0 32 _ dX5_isAuntOn_32

theorem c_X5_isAuntOn (E : zEnv) (a : Nat → Nat) (x1 : Int32) (x2 : Int32) (S : St) {res : Int32} (h : f_X5_isAuntOn x1 x2 S = some res) : Kti E yX5_isAuntOn wsX5_isAuntOn rm_X5_isAuntOn (wTown E a S) (wTown E a S) [.ref (a 0), .int x1, .int x2] res :=
  z_enti (cc := cX5_isAuntOn) (maxL := 3) (rt := .boolean) (by decide +kernel) rfl (Nat.le_of_ble_eq_true rfl) (fun Γ C R => L_X5_isAuntOn a C R x1 x2 h)

abbrev rm_X5_auntsOn : Room := { frames := 2, cells := 0, slots := 0, locals := 44 }
theorem inw_X5_auntsOn_X5 : ∀ w ∈ wsX50, w ∈ wsX5_auntsOn := fun _ h => List.mem_cons_of_mem _ (List.mem_append_right _ h)
set_option maxHeartbeats 4000000 in
theorem wl_X5_auntsOn_0 (E : zEnv) (a : Nat → Nat) (S : St) : ([0, 1, 2, 3, 4, 5, 6, 7, 8, 9, 10, 11, 12, 13, 14, 15] : List Nat).map (fun i => (wTown E a S)[i]?) = (wTown E a S).map some := rfl
set_option maxHeartbeats 4000000 in
theorem wl_X5_auntsOn_1 (E : zEnv) (a : Nat → Nat) (S U : St) : (wTown E a U).map (fun q => q.1) = (wTown E a S).map (fun q => q.1) := rfl
noncomputable def f_X5_auntsOn_24 (k4 : Int32 → Int32 → Int32 → St → Option Int32) (x1 : Int32) (x2 : Int32) (x3 : Int32) (S : St) : Option Int32 := (k4 x1 x2 (x3 + (1 : Int32)) S)
noncomputable def f_X5_auntsOn_4 (n : Nat) : Int32 → Int32 → Int32 → St → Option Int32 := Nat.rec (motive := fun _ => Int32 → Int32 → Int32 → St → Option Int32) (fun _ _ _ _ => none) (fun _ ih => fun x1 x2 x3 S => (if (S 2 0) ≤ x3 then (some x2) else ((f_X5_isAuntOn x3 x1 S).bind (fun q1 => (if q1 = 0 then (f_X5_auntsOn_24 ih x1 x2 x3 S) else (f_X5_auntsOn_24 ih x1 (x2 + (1 : Int32)) x3 S)))))) n
theorem f_X5_auntsOn_4_s (n : Nat) (x1 : Int32) (x2 : Int32) (x3 : Int32) (S : St) : f_X5_auntsOn_4 (n + 1) x1 x2 x3 S = (if (S 2 0) ≤ x3 then (some x2) else ((f_X5_isAuntOn x3 x1 S).bind (fun q1 => (if q1 = 0 then (f_X5_auntsOn_24 (f_X5_auntsOn_4 n) x1 x2 x3 S) else (f_X5_auntsOn_24 (f_X5_auntsOn_4 n) x1 (x2 + (1 : Int32)) x3 S))))) := rfl
noncomputable def f_X5_auntsOn (x1 : Int32) (S : St) : Option Int32 := (f_X5_auntsOn_4 1000 x1 (0 : Int32) (0 : Int32) S)
set_option maxHeartbeats 4000000 in
set_option maxRecDepth 100000 in
theorem L_X5_auntsOn_24 {E : zEnv} {Γ : zG} (a : Nat → Nat) (C : zC E Γ cX5_auntsOn RX5 4 rm_X5_auntsOn wsX5_auntsOn) {res : Int32} {S : St} (R : zRi E Γ cX5_auntsOn 4 .int (wTown E a S) res) (k4 : Int32 → Int32 → Int32 → St → Option Int32) (hk4 : ∀ (x1 : Int32) (x2 : Int32) (x3 : Int32), k4 x1 x2 x3 S = some res → Zt E Γ 4 0 0 (wTown E a S) [(0, .ref (a 0)), (1, .int x1), (2, .int x2), (3, .int x3)] 4 []) (x1 : Int32) (x2 : Int32) (x3 : Int32) (h : f_X5_auntsOn_24 k4 x1 x2 x3 S = some res) : Zt E Γ 4 0 0 (wTown E a S) [(0, .ref (a 0)), (1, .int x1), (2, .int x2), (3, .int x3)] 24 [] := by
  unfold f_X5_auntsOn_24 at h
  refine z_iinc C [(3, .int (x3 + (1 : Int32))), (0, .ref (a 0)), (1, .int x1), (2, .int x2)] 3 rfl (by first | rfl | decide) (by decide) rfl dX5_auntsOn_24 ?_
  refine z_goto C 4 (by decide) dX5_auntsOn_27 ?_
  refine Zt_l [(0, .ref (a 0)), (1, .int x1), (2, .int x2), (3, .int (x3 + (1 : Int32)))] [1, 2, 3, 0] rfl ?_
  exact hk4 x1 x2 (x3 + (1 : Int32)) h

set_option maxHeartbeats 4000000 in
set_option maxRecDepth 100000 in
theorem L_X5_auntsOn_4 {E : zEnv} {Γ : zG} (a : Nat → Nat) (C : zC E Γ cX5_auntsOn RX5 4 rm_X5_auntsOn wsX5_auntsOn) {res : Int32} {S : St} (R : zRi E Γ cX5_auntsOn 4 .int (wTown E a S) res) : ∀ (n : Nat) (x1 : Int32) (x2 : Int32) (x3 : Int32), f_X5_auntsOn_4 n x1 x2 x3 S = some res → Zt E Γ 4 0 0 (wTown E a S) [(0, .ref (a 0)), (1, .int x1), (2, .int x2), (3, .int x3)] 4 [] := by
  intro n
  induction n with
  | zero =>
    intro x1 x2 x3 h
    cases h
  | succ n ih =>
    intro x1 x2 x3 h
    rw [f_X5_auntsOn_4_s] at h
    refine z_iload_n C 3 rfl rfl dX5_auntsOn_4 ?_
    refine z_aload_n C 0 rfl rfl dX5_auntsOn_5 ?_
    refine z_get C 0 rfl (C := RX5) (T := TX5) (N := 16) (ci := 5) rfl inw_X5_auntsOn_X5 2 (by decide) (ref := "EldestAge$Town") (List.mem_of_getElem? (i := 1) rfl) rfl (v := .int (S 2 0)) rfl dX5_auntsOn_6 ?_
    refine z_icmp_ge C 30 (by decide) h dX5_auntsOn_9 (fun hc h => ?_) (fun hc h => ?_)
    · refine z_iload_n C 2 rfl rfl dX5_auntsOn_30 ?_
      obtain rfl := Option.some.inj h
      exact R rfl 31 _ dX5_auntsOn_31
    · refine z_aload_n C 0 rfl rfl dX5_auntsOn_12 ?_
      refine z_iload_n C 3 rfl rfl dX5_auntsOn_13 ?_
      refine z_iload_n C 1 rfl rfl dX5_auntsOn_14 ?_
      obtain ⟨q1, e1, h⟩ := bd_e h
      refine z_callVi C (b := a 0) (As := [.int x3, .int x1]) (rest := []) (c_X5_isAuntOn E a x3 x1 S e1) rfl gX5_auntsOn_X5_isAuntOn rfl rfl rfl 2 rfl (by decide +kernel) ⟨Nat.le_of_ble_eq_true rfl, Nat.le_of_ble_eq_true rfl⟩ [0, 1, 2, 3, 4, 5, 6, 7, 8, 9, 10, 11, 12, 13, 14, 15] (wl_X5_auntsOn_0 E a S) (by decide) rfl (wTown E a S) (zrep_self (wl_X5_auntsOn_0 E a S)) 0 5 rfl rfl rfl (Nat.le_of_ble_eq_true rfl) dX5_auntsOn_15 ⟨Nat.zero_le _, Nat.zero_le _⟩ _ rfl ?_
      refine z_if_eq C 24 (by decide) h dX5_auntsOn_18 (fun hc h => ?_) (fun hc h => ?_)
      · exact L_X5_auntsOn_24 a C R _ ih x1 x2 x3 h
      · refine z_iinc C [(2, .int (x2 + (1 : Int32))), (0, .ref (a 0)), (1, .int x1), (3, .int x3)] 2 rfl (by first | rfl | decide) (by decide) rfl dX5_auntsOn_21 ?_
        refine Zt_l [(0, .ref (a 0)), (1, .int x1), (2, .int (x2 + (1 : Int32))), (3, .int x3)] [1, 2, 0, 3] rfl ?_
        exact L_X5_auntsOn_24 a C R _ ih x1 (x2 + (1 : Int32)) x3 h

set_option maxHeartbeats 4000000 in
set_option maxRecDepth 100000 in
theorem L_X5_auntsOn {E : zEnv} {Γ : zG} (a : Nat → Nat) (C : zC E Γ cX5_auntsOn RX5 4 rm_X5_auntsOn wsX5_auntsOn) {res : Int32} {S : St} (R : zRi E Γ cX5_auntsOn 4 .int (wTown E a S) res) (x1 : Int32) (h : f_X5_auntsOn x1 S = some res) : Zt E Γ 4 0 0 (wTown E a S) [(0, .ref (a 0)), (1, .int x1)] 0 [] := by
  unfold f_X5_auntsOn at h
  refine z_iconst C (v := (0 : Int32)) (by decide) dX5_auntsOn_0 ?_
  refine z_istore_n C [(2, .int (0 : Int32)), (0, .ref (a 0)), (1, .int x1)] rfl (by decide) rfl dX5_auntsOn_1 ?_
  refine z_iconst C (v := (0 : Int32)) (by decide) dX5_auntsOn_2 ?_
  refine z_istore_n C [(3, .int (0 : Int32)), (2, .int (0 : Int32)), (0, .ref (a 0)), (1, .int x1)] rfl (by decide) rfl dX5_auntsOn_3 ?_
  refine Zt_l [(0, .ref (a 0)), (1, .int x1), (2, .int (0 : Int32)), (3, .int (0 : Int32))] [2, 3, 1, 0] rfl ?_
  exact L_X5_auntsOn_4 a C R 1000 x1 (0 : Int32) (0 : Int32) h

theorem c_X5_auntsOn (E : zEnv) (a : Nat → Nat) (x1 : Int32) (S : St) {res : Int32} (h : f_X5_auntsOn x1 S = some res) : Kti E yX5_auntsOn wsX5_auntsOn rm_X5_auntsOn (wTown E a S) (wTown E a S) [.ref (a 0), .int x1] res :=
  z_enti (cc := cX5_auntsOn) (maxL := 4) (rt := .int) (by decide +kernel) rfl (Nat.le_of_ble_eq_true rfl) (fun Γ C R => L_X5_auntsOn a C R x1 h)

abbrev rm_X5_aliveOn : Room := { frames := 1, cells := 0, slots := 0, locals := 22 }
theorem inw_X5_aliveOn_X5 : ∀ w ∈ wsX50, w ∈ wsX5_aliveOn := fun _ h => List.mem_cons_of_mem _ (List.mem_append_right _ h)
set_option maxHeartbeats 4000000 in
theorem wl_X5_aliveOn_0 (E : zEnv) (a : Nat → Nat) (S : St) : ([0, 1, 2, 3, 4, 5, 6, 7, 8, 9, 10, 11, 12, 13, 14, 15] : List Nat).map (fun i => (wTown E a S)[i]?) = (wTown E a S).map some := rfl
set_option maxHeartbeats 4000000 in
theorem wl_X5_aliveOn_1 (E : zEnv) (a : Nat → Nat) (S U : St) : (wTown E a U).map (fun q => q.1) = (wTown E a S).map (fun q => q.1) := rfl
noncomputable def f_X5_aliveOn_24 (k4 : Int32 → Int32 → Int32 → St → Option Int32) (x1 : Int32) (x2 : Int32) (x3 : Int32) (S : St) : Option Int32 := (k4 x1 x2 (x3 + (1 : Int32)) S)
noncomputable def f_X5_aliveOn_4 (n : Nat) : Int32 → Int32 → Int32 → St → Option Int32 := Nat.rec (motive := fun _ => Int32 → Int32 → Int32 → St → Option Int32) (fun _ _ _ _ => none) (fun _ ih => fun x1 x2 x3 S => (if (S 2 0) ≤ x3 then (some x2) else ((f_X5_isAlive x3 x1 S).bind (fun q1 => (if q1 = 0 then (f_X5_aliveOn_24 ih x1 x2 x3 S) else (f_X5_aliveOn_24 ih x1 (x2 + (1 : Int32)) x3 S)))))) n
theorem f_X5_aliveOn_4_s (n : Nat) (x1 : Int32) (x2 : Int32) (x3 : Int32) (S : St) : f_X5_aliveOn_4 (n + 1) x1 x2 x3 S = (if (S 2 0) ≤ x3 then (some x2) else ((f_X5_isAlive x3 x1 S).bind (fun q1 => (if q1 = 0 then (f_X5_aliveOn_24 (f_X5_aliveOn_4 n) x1 x2 x3 S) else (f_X5_aliveOn_24 (f_X5_aliveOn_4 n) x1 (x2 + (1 : Int32)) x3 S))))) := rfl
noncomputable def f_X5_aliveOn (x1 : Int32) (S : St) : Option Int32 := (f_X5_aliveOn_4 1000 x1 (0 : Int32) (0 : Int32) S)
set_option maxHeartbeats 4000000 in
set_option maxRecDepth 100000 in
theorem L_X5_aliveOn_24 {E : zEnv} {Γ : zG} (a : Nat → Nat) (C : zC E Γ cX5_aliveOn RX5 4 rm_X5_aliveOn wsX5_aliveOn) {res : Int32} {S : St} (R : zRi E Γ cX5_aliveOn 4 .int (wTown E a S) res) (k4 : Int32 → Int32 → Int32 → St → Option Int32) (hk4 : ∀ (x1 : Int32) (x2 : Int32) (x3 : Int32), k4 x1 x2 x3 S = some res → Zt E Γ 4 0 0 (wTown E a S) [(0, .ref (a 0)), (1, .int x1), (2, .int x2), (3, .int x3)] 4 []) (x1 : Int32) (x2 : Int32) (x3 : Int32) (h : f_X5_aliveOn_24 k4 x1 x2 x3 S = some res) : Zt E Γ 4 0 0 (wTown E a S) [(0, .ref (a 0)), (1, .int x1), (2, .int x2), (3, .int x3)] 24 [] := by
  unfold f_X5_aliveOn_24 at h
  refine z_iinc C [(3, .int (x3 + (1 : Int32))), (0, .ref (a 0)), (1, .int x1), (2, .int x2)] 3 rfl (by first | rfl | decide) (by decide) rfl dX5_aliveOn_24 ?_
  refine z_goto C 4 (by decide) dX5_aliveOn_27 ?_
  refine Zt_l [(0, .ref (a 0)), (1, .int x1), (2, .int x2), (3, .int (x3 + (1 : Int32)))] [1, 2, 3, 0] rfl ?_
  exact hk4 x1 x2 (x3 + (1 : Int32)) h

set_option maxHeartbeats 4000000 in
set_option maxRecDepth 100000 in
theorem L_X5_aliveOn_4 {E : zEnv} {Γ : zG} (a : Nat → Nat) (C : zC E Γ cX5_aliveOn RX5 4 rm_X5_aliveOn wsX5_aliveOn) {res : Int32} {S : St} (R : zRi E Γ cX5_aliveOn 4 .int (wTown E a S) res) : ∀ (n : Nat) (x1 : Int32) (x2 : Int32) (x3 : Int32), f_X5_aliveOn_4 n x1 x2 x3 S = some res → Zt E Γ 4 0 0 (wTown E a S) [(0, .ref (a 0)), (1, .int x1), (2, .int x2), (3, .int x3)] 4 [] := by
  intro n
  induction n with
  | zero =>
    intro x1 x2 x3 h
    cases h
  | succ n ih =>
    intro x1 x2 x3 h
    rw [f_X5_aliveOn_4_s] at h
    refine z_iload_n C 3 rfl rfl dX5_aliveOn_4 ?_
    refine z_aload_n C 0 rfl rfl dX5_aliveOn_5 ?_
    refine z_get C 0 rfl (C := RX5) (T := TX5) (N := 16) (ci := 5) rfl inw_X5_aliveOn_X5 2 (by decide) (ref := "EldestAge$Town") (List.mem_of_getElem? (i := 1) rfl) rfl (v := .int (S 2 0)) rfl dX5_aliveOn_6 ?_
    refine z_icmp_ge C 30 (by decide) h dX5_aliveOn_9 (fun hc h => ?_) (fun hc h => ?_)
    · refine z_iload_n C 2 rfl rfl dX5_aliveOn_30 ?_
      obtain rfl := Option.some.inj h
      exact R rfl 31 _ dX5_aliveOn_31
    · refine z_aload_n C 0 rfl rfl dX5_aliveOn_12 ?_
      refine z_iload_n C 3 rfl rfl dX5_aliveOn_13 ?_
      refine z_iload_n C 1 rfl rfl dX5_aliveOn_14 ?_
      obtain ⟨q1, e1, h⟩ := bd_e h
      refine z_callVi C (b := a 0) (As := [.int x3, .int x1]) (rest := []) (c_X5_isAlive E a x3 x1 S e1) rfl gX5_aliveOn_X5_isAlive rfl rfl rfl 2 rfl (by decide +kernel) ⟨Nat.le_of_ble_eq_true rfl, Nat.le_of_ble_eq_true rfl⟩ [0, 1, 2, 3, 4, 5, 6, 7, 8, 9, 10, 11, 12, 13, 14, 15] (wl_X5_aliveOn_0 E a S) (by decide) rfl (wTown E a S) (zrep_self (wl_X5_aliveOn_0 E a S)) 0 5 rfl rfl rfl (Nat.le_of_ble_eq_true rfl) dX5_aliveOn_15 ⟨Nat.zero_le _, Nat.zero_le _⟩ _ rfl ?_
      refine z_if_eq C 24 (by decide) h dX5_aliveOn_18 (fun hc h => ?_) (fun hc h => ?_)
      · exact L_X5_aliveOn_24 a C R _ ih x1 x2 x3 h
      · refine z_iinc C [(2, .int (x2 + (1 : Int32))), (0, .ref (a 0)), (1, .int x1), (3, .int x3)] 2 rfl (by first | rfl | decide) (by decide) rfl dX5_aliveOn_21 ?_
        refine Zt_l [(0, .ref (a 0)), (1, .int x1), (2, .int (x2 + (1 : Int32))), (3, .int x3)] [1, 2, 0, 3] rfl ?_
        exact L_X5_aliveOn_24 a C R _ ih x1 (x2 + (1 : Int32)) x3 h

set_option maxHeartbeats 4000000 in
set_option maxRecDepth 100000 in
theorem L_X5_aliveOn {E : zEnv} {Γ : zG} (a : Nat → Nat) (C : zC E Γ cX5_aliveOn RX5 4 rm_X5_aliveOn wsX5_aliveOn) {res : Int32} {S : St} (R : zRi E Γ cX5_aliveOn 4 .int (wTown E a S) res) (x1 : Int32) (h : f_X5_aliveOn x1 S = some res) : Zt E Γ 4 0 0 (wTown E a S) [(0, .ref (a 0)), (1, .int x1)] 0 [] := by
  unfold f_X5_aliveOn at h
  refine z_iconst C (v := (0 : Int32)) (by decide) dX5_aliveOn_0 ?_
  refine z_istore_n C [(2, .int (0 : Int32)), (0, .ref (a 0)), (1, .int x1)] rfl (by decide) rfl dX5_aliveOn_1 ?_
  refine z_iconst C (v := (0 : Int32)) (by decide) dX5_aliveOn_2 ?_
  refine z_istore_n C [(3, .int (0 : Int32)), (2, .int (0 : Int32)), (0, .ref (a 0)), (1, .int x1)] rfl (by decide) rfl dX5_aliveOn_3 ?_
  refine Zt_l [(0, .ref (a 0)), (1, .int x1), (2, .int (0 : Int32)), (3, .int (0 : Int32))] [2, 3, 1, 0] rfl ?_
  exact L_X5_aliveOn_4 a C R 1000 x1 (0 : Int32) (0 : Int32) h

theorem c_X5_aliveOn (E : zEnv) (a : Nat → Nat) (x1 : Int32) (S : St) {res : Int32} (h : f_X5_aliveOn x1 S = some res) : Kti E yX5_aliveOn wsX5_aliveOn rm_X5_aliveOn (wTown E a S) (wTown E a S) [.ref (a 0), .int x1] res :=
  z_enti (cc := cX5_aliveOn) (maxL := 4) (rt := .int) (by decide +kernel) rfl (Nat.le_of_ble_eq_true rfl) (fun Γ C R => L_X5_aliveOn a C R x1 h)

abbrev rm_X5_tallyOn : Room := { frames := 2, cells := 0, slots := 0, locals := 47 }
theorem inw_X5_tallyOn_X5 : ∀ w ∈ wsX50, w ∈ wsX5_tallyOn := fun _ h => List.mem_cons_of_mem _ (List.mem_append_left _ (List.mem_append_right _ h))
theorem inw_X5_tallyOn_X2 : ∀ w ∈ wsX20, w ∈ wsX5_tallyOn := fun _ h => List.mem_cons_of_mem _ (List.mem_append_right _ h)
set_option maxHeartbeats 4000000 in
theorem wl_X5_tallyOn_0 (E : zEnv) (a : Nat → Nat) (S : St) : ([0, 1, 2, 3, 4, 5, 6, 7, 8, 9, 10, 11, 12, 13, 14, 15] : List Nat).map (fun i => (wTown E a S)[i]?) = (wTown E a S).map some := rfl
set_option maxHeartbeats 4000000 in
theorem wl_X5_tallyOn_1 (E : zEnv) (a : Nat → Nat) (S U : St) : (wTown E a U).map (fun q => q.1) = (wTown E a S).map (fun q => q.1) := rfl
set_option maxHeartbeats 4000000 in
theorem wl_X5_tallyOn_2 (E : zEnv) (a : Nat → Nat) (S : St) : ([11, 12, 13, 14, 15] : List Nat).map (fun i => (wTown E a S)[i]?) = (wTally E (fun k => a (11 + k)) (sb 16 S)).map some := rfl
set_option maxHeartbeats 4000000 in
theorem wl_X5_tallyOn_3 (E : zEnv) (a : Nat → Nat) (S U : St) : (wTally E (fun k => a (11 + k)) U).map (fun q => q.1) = (wTally E (fun k => a (11 + k)) S).map (fun q => q.1) := rfl
set_option maxHeartbeats 4000000 in
theorem wl_X5_tallyOn_4 (E : zEnv) (a : Nat → Nat) (S U : St) : (wTown E a (pt 16 4 U S)) = zrep [11, 12, 13, 14, 15] (wTally E (fun k => a (11 + k)) U) (wTown E a S) := zrep_of (isR := [0, 1, 2, 3, 4, 5, 6, 7, 8, 9, 10]) 16 rfl [some (a 0, .inr (5, [.int (S 0 0), .int (S 1 0), .int (S 2 0), .ref (a 1), .ref (a 2), .ref (a 3), .ref (a 4), .int (S 7 0), .ref (a 5), .ref (a 6), .ref (a 7), .int (S 11 0), .ref (a 8), .ref (a 9), .ref (a 10), .ref (a 11)])), some (a 1, .inl (zI E, 14, .inl (S 3))), some (a 2, .inl (zI E, 14, .inl (S 4))), some (a 3, .inl (zI E, 14, .inl (S 5))), some (a 4, .inl (zI E, 14, .inl (S 6))), some (a 5, .inl (zI E, 12, .inl (S 8))), some (a 6, .inl (zI E, 12, .inl (S 9))), some (a 7, .inl (zI E, 12, .inl (S 10))), some (a 8, .inl (zI E, 4, .inl (S 12))), some (a 9, .inl (zI E, 4, .inl (S 13))), some (a 10, .inl (zI E, 4, .inl (S 14)))] rfl rfl rfl rfl (by decide +kernel) (by decide +kernel)
noncomputable def f_X5_tallyOn_51 (k9 : Int32 → Int32 → St → Option St) (x1 : Int32) (x2 : Int32) (S : St) : Option St := (k9 x1 (x2 + (1 : Int32)) S)
noncomputable def f_X5_tallyOn_9 (n : Nat) : Int32 → Int32 → St → Option St := Nat.rec (motive := fun _ => Int32 → Int32 → St → Option St) (fun _ _ _ => none) (fun _ ih => fun x1 x2 S => (if (S 2 0) ≤ x2 then (some S) else ((f_X5_isAlive x2 x1 S).bind (fun q1 => (if q1 = 0 then (f_X5_tallyOn_51 ih x1 x2 S) else ((f_X5_homeOf x2 x1 S).bind (fun q2 => (ix x2 14 ((f_X5_yearsOf x2 x1 S).bind (fun q3 => ((f_X2_add q2 (S 3 (Int32.toNatClampNeg x2)) q3 (sb 16 S)).bind (fun q4 => (f_X5_tallyOn_51 ih x1 x2 (pt 16 4 q4 S)))))))))))))) n
theorem f_X5_tallyOn_9_s (n : Nat) (x1 : Int32) (x2 : Int32) (S : St) : f_X5_tallyOn_9 (n + 1) x1 x2 S = (if (S 2 0) ≤ x2 then (some S) else ((f_X5_isAlive x2 x1 S).bind (fun q1 => (if q1 = 0 then (f_X5_tallyOn_51 (f_X5_tallyOn_9 n) x1 x2 S) else ((f_X5_homeOf x2 x1 S).bind (fun q2 => (ix x2 14 ((f_X5_yearsOf x2 x1 S).bind (fun q3 => ((f_X2_add q2 (S 3 (Int32.toNatClampNeg x2)) q3 (sb 16 S)).bind (fun q4 => (f_X5_tallyOn_51 (f_X5_tallyOn_9 n) x1 x2 (pt 16 4 q4 S))))))))))))) := rfl
noncomputable def f_X5_tallyOn (x1 : Int32) (S : St) : Option St := ((f_X2_clear (sb 16 S)).bind (fun q5 => (f_X5_tallyOn_9 1000 x1 (0 : Int32) (pt 16 4 q5 S))))
set_option maxHeartbeats 4000000 in
set_option maxRecDepth 100000 in
theorem L_X5_tallyOn_51 {E : zEnv} {Γ : zG} (a : Nat → Nat) (C : zC E Γ cX5_tallyOn RX5 3 rm_X5_tallyOn wsX5_tallyOn) {res : St} (R : zRr E Γ cX5_tallyOn 3 (wTown E a res) (a 11)) (k9 : Int32 → Int32 → St → Option St) (hk9 : ∀ (x1 : Int32) (x2 : Int32) (S : St), k9 x1 x2 S = some res → Zt E Γ 3 0 0 (wTown E a S) [(0, .ref (a 0)), (1, .int x1), (2, .int x2)] 9 []) (x1 : Int32) (x2 : Int32) (S : St) (h : f_X5_tallyOn_51 k9 x1 x2 S = some res) : Zt E Γ 3 0 0 (wTown E a S) [(0, .ref (a 0)), (1, .int x1), (2, .int x2)] 51 [] := by
  unfold f_X5_tallyOn_51 at h
  refine z_iinc C [(2, .int (x2 + (1 : Int32))), (0, .ref (a 0)), (1, .int x1)] 2 rfl (by first | rfl | decide) (by decide) rfl dX5_tallyOn_51 ?_
  refine z_goto C 9 (by decide) dX5_tallyOn_54 ?_
  refine Zt_l [(0, .ref (a 0)), (1, .int x1), (2, .int (x2 + (1 : Int32)))] [1, 2, 0] rfl ?_
  exact hk9 x1 (x2 + (1 : Int32)) S h

set_option maxHeartbeats 4000000 in
set_option maxRecDepth 100000 in
theorem L_X5_tallyOn_9 {E : zEnv} {Γ : zG} (a : Nat → Nat) (C : zC E Γ cX5_tallyOn RX5 3 rm_X5_tallyOn wsX5_tallyOn) {res : St} (R : zRr E Γ cX5_tallyOn 3 (wTown E a res) (a 11)) : ∀ (n : Nat) (x1 : Int32) (x2 : Int32) (S : St), f_X5_tallyOn_9 n x1 x2 S = some res → Zt E Γ 3 0 0 (wTown E a S) [(0, .ref (a 0)), (1, .int x1), (2, .int x2)] 9 [] := by
  intro n
  induction n with
  | zero =>
    intro x1 x2 S h
    cases h
  | succ n ih =>
    intro x1 x2 S h
    rw [f_X5_tallyOn_9_s] at h
    refine z_iload_n C 2 rfl rfl dX5_tallyOn_9 ?_
    refine z_aload_n C 0 rfl rfl dX5_tallyOn_10 ?_
    refine z_get C 0 rfl (C := RX5) (T := TX5) (N := 16) (ci := 5) rfl inw_X5_tallyOn_X5 2 (by decide) (ref := "EldestAge$Town") (List.mem_of_getElem? (i := 2) rfl) rfl (v := .int (S 2 0)) rfl dX5_tallyOn_11 ?_
    refine z_icmp_ge C 57 (by decide) h dX5_tallyOn_14 (fun hc h => ?_) (fun hc h => ?_)
    · refine z_aload_n C 0 rfl rfl dX5_tallyOn_57 ?_
      refine z_get C 0 rfl (C := RX5) (T := TX5) (N := 16) (ci := 5) rfl inw_X5_tallyOn_X5 15 (by decide) (ref := "EldestAge$Town") (List.mem_of_getElem? (i := 1) rfl) rfl (v := .ref (a 11)) rfl dX5_tallyOn_58 ?_
      obtain rfl := Option.some.inj h
      exact R 61 _ dX5_tallyOn_61
    · refine z_aload_n C 0 rfl rfl dX5_tallyOn_17 ?_
      refine z_iload_n C 2 rfl rfl dX5_tallyOn_18 ?_
      refine z_iload_n C 1 rfl rfl dX5_tallyOn_19 ?_
      obtain ⟨q1, e1, h⟩ := bd_e h
      refine z_callVi C (b := a 0) (As := [.int x2, .int x1]) (rest := []) (c_X5_isAlive E a x2 x1 S e1) rfl gX5_tallyOn_X5_isAlive rfl rfl rfl 2 rfl (by decide +kernel) ⟨Nat.le_of_ble_eq_true rfl, Nat.le_of_ble_eq_true rfl⟩ [0, 1, 2, 3, 4, 5, 6, 7, 8, 9, 10, 11, 12, 13, 14, 15] (wl_X5_tallyOn_0 E a S) (by decide) rfl (wTown E a S) (zrep_self (wl_X5_tallyOn_0 E a S)) 0 5 rfl rfl rfl (Nat.le_of_ble_eq_true rfl) dX5_tallyOn_20 ⟨Nat.zero_le _, Nat.zero_le _⟩ _ rfl ?_
      refine z_if_eq C 51 (by decide) h dX5_tallyOn_23 (fun hc h => ?_) (fun hc h => ?_)
      · exact L_X5_tallyOn_51 a C R _ ih x1 x2 S h
      · refine z_aload_n C 0 rfl rfl dX5_tallyOn_26 ?_
        refine z_get C 0 rfl (C := RX5) (T := TX5) (N := 16) (ci := 5) rfl inw_X5_tallyOn_X5 15 (by decide) (ref := "EldestAge$Town") (List.mem_of_getElem? (i := 1) rfl) rfl (v := .ref (a 11)) rfl dX5_tallyOn_27 ?_
        refine z_aload_n C 0 rfl rfl dX5_tallyOn_30 ?_
        refine z_iload_n C 2 rfl rfl dX5_tallyOn_31 ?_
        refine z_iload_n C 1 rfl rfl dX5_tallyOn_32 ?_
        obtain ⟨q2, e2, h⟩ := bd_e h
        refine z_callVi C (b := a 0) (As := [.int x2, .int x1]) (rest := [.ref (a 11)]) (c_X5_homeOf E a x2 x1 S e2) rfl gX5_tallyOn_X5_homeOf rfl rfl rfl 2 rfl (by decide +kernel) ⟨Nat.le_of_ble_eq_true rfl, Nat.le_of_ble_eq_true rfl⟩ [0, 1, 2, 3, 4, 5, 6, 7, 8, 9, 10, 11, 12, 13, 14, 15] (wl_X5_tallyOn_0 E a S) (by decide) rfl (wTown E a S) (zrep_self (wl_X5_tallyOn_0 E a S)) 0 5 rfl rfl rfl (Nat.le_of_ble_eq_true rfl) dX5_tallyOn_33 ⟨Nat.zero_le _, Nat.zero_le _⟩ _ rfl ?_
        refine z_aload_n C 0 rfl rfl dX5_tallyOn_36 ?_
        refine z_get C 0 rfl (C := RX5) (T := TX5) (N := 16) (ci := 5) rfl inw_X5_tallyOn_X5 3 (by decide) (ref := "EldestAge$Town") (List.mem_of_getElem? (i := 3) rfl) rfl (v := .ref (a 1)) rfl dX5_tallyOn_37 ?_
        refine z_iload_n C 2 rfl rfl dX5_tallyOn_40 ?_
        refine z_iald C (N := 14) (f := (S 3)) 1 rfl h dX5_tallyOn_41 (fun h => ?_)
        refine z_aload_n C 0 rfl rfl dX5_tallyOn_42 ?_
        refine z_iload_n C 2 rfl rfl dX5_tallyOn_43 ?_
        refine z_iload_n C 1 rfl rfl dX5_tallyOn_44 ?_
        obtain ⟨q3, e3, h⟩ := bd_e h
        refine z_callVi C (b := a 0) (As := [.int x2, .int x1]) (rest := [.int (S 3 (Int32.toNatClampNeg x2)), .int q2, .ref (a 11)]) (c_X5_yearsOf E a x2 x1 S e3) rfl gX5_tallyOn_X5_yearsOf rfl rfl rfl 2 rfl (by decide +kernel) ⟨Nat.le_of_ble_eq_true rfl, Nat.le_of_ble_eq_true rfl⟩ [0, 1, 2, 3, 4, 5, 6, 7, 8, 9, 10, 11, 12, 13, 14, 15] (wl_X5_tallyOn_0 E a S) (by decide) rfl (wTown E a S) (zrep_self (wl_X5_tallyOn_0 E a S)) 0 5 rfl rfl rfl (Nat.le_of_ble_eq_true rfl) dX5_tallyOn_45 ⟨Nat.zero_le _, Nat.zero_le _⟩ _ rfl ?_
        obtain ⟨q4, e4, h⟩ := bd_e h
        refine z_callVv C (b := a 11) (As := [.int q2, .int (S 3 (Int32.toNatClampNeg x2)), .int q3]) (rest := []) (c_X2_add E (fun k => a (11 + k)) q2 (S 3 (Int32.toNatClampNeg x2)) q3 (sb 16 S) e4) rfl gX5_tallyOn_X2_add rfl rfl rfl 3 rfl (by decide +kernel) ⟨Nat.le_of_ble_eq_true rfl, Nat.le_of_ble_eq_true rfl⟩ [11, 12, 13, 14, 15] (wl_X5_tallyOn_2 E a S) (by decide) (wl_X5_tallyOn_3 E a _ _) (wTown E a (pt 16 4 q4 S)) (wl_X5_tallyOn_4 E a S q4) 0 2 rfl rfl rfl (Nat.le_of_ble_eq_true rfl) dX5_tallyOn_48 ⟨Nat.zero_le _, Nat.zero_le _⟩ _ rfl ?_
        exact L_X5_tallyOn_51 a C R _ ih x1 x2 (pt 16 4 q4 S) h

set_option maxHeartbeats 4000000 in
set_option maxRecDepth 100000 in
theorem L_X5_tallyOn {E : zEnv} {Γ : zG} (a : Nat → Nat) (C : zC E Γ cX5_tallyOn RX5 3 rm_X5_tallyOn wsX5_tallyOn) {res : St} (R : zRr E Γ cX5_tallyOn 3 (wTown E a res) (a 11)) (x1 : Int32) (S : St) (h : f_X5_tallyOn x1 S = some res) : Zt E Γ 3 0 0 (wTown E a S) [(0, .ref (a 0)), (1, .int x1)] 0 [] := by
  unfold f_X5_tallyOn at h
  refine z_aload_n C 0 rfl rfl dX5_tallyOn_0 ?_
  refine z_get C 0 rfl (C := RX5) (T := TX5) (N := 16) (ci := 5) rfl inw_X5_tallyOn_X5 15 (by decide) (ref := "EldestAge$Town") (List.mem_of_getElem? (i := 1) rfl) rfl (v := .ref (a 11)) rfl dX5_tallyOn_1 ?_
  obtain ⟨q5, e5, h⟩ := bd_e h
  refine z_callVv C (b := a 11) (As := []) (rest := []) (c_X2_clear E (fun k => a (11 + k)) (sb 16 S) e5) rfl gX5_tallyOn_X2_clear rfl rfl rfl 0 rfl (by decide +kernel) ⟨Nat.le_of_ble_eq_true rfl, Nat.le_of_ble_eq_true rfl⟩ [11, 12, 13, 14, 15] (wl_X5_tallyOn_2 E a S) (by decide) (wl_X5_tallyOn_3 E a _ _) (wTown E a (pt 16 4 q5 S)) (wl_X5_tallyOn_4 E a S q5) 0 2 rfl rfl rfl (Nat.le_of_ble_eq_true rfl) dX5_tallyOn_4 ⟨Nat.zero_le _, Nat.zero_le _⟩ _ rfl ?_
  refine z_iconst C (v := (0 : Int32)) (by decide) dX5_tallyOn_7 ?_
  refine z_istore_n C [(2, .int (0 : Int32)), (0, .ref (a 0)), (1, .int x1)] rfl (by decide) rfl dX5_tallyOn_8 ?_
  refine Zt_l [(0, .ref (a 0)), (1, .int x1), (2, .int (0 : Int32))] [1, 2, 0] rfl ?_
  exact L_X5_tallyOn_9 a C R 1000 x1 (0 : Int32) (pt 16 4 q5 S) h

theorem c_X5_tallyOn (E : zEnv) (a : Nat → Nat) (x1 : Int32) (S : St) {res : St} (h : f_X5_tallyOn x1 S = some res) : Ktr E yX5_tallyOn wsX5_tallyOn rm_X5_tallyOn (wTown E a S) (wTown E a res) [.ref (a 0), .int x1] (a 11) :=
  z_entr (cc := cX5_tallyOn) (maxL := 3) (by decide +kernel) rfl (Nat.le_of_ble_eq_true rfl) (fun Γ C R => L_X5_tallyOn a C R x1 S h)

abbrev rm_X5_numberOf : Room := { frames := 3, cells := 0, slots := 0, locals := 69 }
theorem inw_X5_numberOf_X5 : ∀ w ∈ wsX50, w ∈ wsX5_numberOf := fun _ h => List.mem_cons_of_mem _ (List.mem_append_left _ (List.mem_append_right _ h))
theorem inw_X5_numberOf_X2 : ∀ w ∈ wsX20, w ∈ wsX5_numberOf := fun _ h => List.mem_cons_of_mem _ (List.mem_append_right _ h)
set_option maxHeartbeats 4000000 in
theorem wl_X5_numberOf_0 (E : zEnv) (a : Nat → Nat) (S : St) : ([0, 1, 2, 3, 4, 5, 6, 7, 8, 9, 10, 11, 12, 13, 14, 15] : List Nat).map (fun i => (wTown E a S)[i]?) = (wTown E a S).map some := rfl
set_option maxHeartbeats 4000000 in
theorem wl_X5_numberOf_1 (E : zEnv) (a : Nat → Nat) (S U : St) : (wTown E a U).map (fun q => q.1) = (wTown E a S).map (fun q => q.1) := rfl
set_option maxHeartbeats 4000000 in
theorem wl_X5_numberOf_2 (E : zEnv) (a : Nat → Nat) (S U : St) : (wTown E a U) = zrep [0, 1, 2, 3, 4, 5, 6, 7, 8, 9, 10, 11, 12, 13, 14, 15] (wTown E a U) (wTown E a S) := zrep_of (isR := []) 16 rfl [] rfl rfl rfl rfl (by decide +kernel) (by decide +kernel)
set_option maxHeartbeats 4000000 in
theorem wl_X5_numberOf_3 (E : zEnv) (a : Nat → Nat) (S : St) : ([11, 12, 13, 14, 15] : List Nat).map (fun i => (wTown E a S)[i]?) = (wTally E (fun k => a (11 + k)) (sb 16 S)).map some := rfl
set_option maxHeartbeats 4000000 in
theorem wl_X5_numberOf_4 (E : zEnv) (a : Nat → Nat) (S U : St) : (wTally E (fun k => a (11 + k)) U).map (fun q => q.1) = (wTally E (fun k => a (11 + k)) S).map (fun q => q.1) := rfl
noncomputable def f_X5_numberOf (x1 : Int32) (x2 : Int32) (S : St) : Option (Int32 × St) := ((f_X5_tallyOn x2 S).bind (fun q1 => ((f_X2_valueOf x1 (q1 1 0) (sb 16 q1)).bind (fun q2 => (some (q2, q1))))))
set_option maxHeartbeats 4000000 in
set_option maxRecDepth 100000 in
theorem L_X5_numberOf {E : zEnv} {Γ : zG} (a : Nat → Nat) (C : zC E Γ cX5_numberOf RX5 3 rm_X5_numberOf wsX5_numberOf) {res : (Int32 × St)} (R : zRi E Γ cX5_numberOf 3 .int (wTown E a res.2) res.1) (x1 : Int32) (x2 : Int32) (S : St) (h : f_X5_numberOf x1 x2 S = some res) : Zt E Γ 3 0 0 (wTown E a S) [(0, .ref (a 0)), (1, .int x1), (2, .int x2)] 0 [] := by
  unfold f_X5_numberOf at h
  refine z_aload_n C 0 rfl rfl dX5_numberOf_0 ?_
  refine z_iload_n C 2 rfl rfl dX5_numberOf_1 ?_
  obtain ⟨q1, e1, h⟩ := bd_e h
  refine z_callVr C (b := a 0) (As := [.int x2]) (rest := []) (c_X5_tallyOn E a x2 S e1) rfl gX5_numberOf_X5_tallyOn rfl rfl rfl 1 rfl (by decide +kernel) ⟨Nat.le_of_ble_eq_true rfl, Nat.le_of_ble_eq_true rfl⟩ [0, 1, 2, 3, 4, 5, 6, 7, 8, 9, 10, 11, 12, 13, 14, 15] (wl_X5_numberOf_0 E a S) (by decide) (wl_X5_numberOf_1 E a _ _) (wTown E a q1) (wl_X5_numberOf_2 E a S q1) 0 5 rfl rfl rfl (Nat.le_of_ble_eq_true rfl) dX5_numberOf_2 ⟨Nat.zero_le _, Nat.zero_le _⟩ _ rfl ?_
  refine z_iload_n C 1 rfl rfl dX5_numberOf_5 ?_
  refine z_aload_n C 0 rfl rfl dX5_numberOf_6 ?_
  refine z_get C 0 rfl (C := RX5) (T := TX5) (N := 16) (ci := 5) rfl inw_X5_numberOf_X5 1 (by decide) (ref := "EldestAge$Town") (List.mem_of_getElem? (i := 1) rfl) rfl (v := .int (q1 1 0)) rfl dX5_numberOf_7 ?_
  obtain ⟨q2, e2, h⟩ := bd_e h
  refine z_callVi C (b := a 11) (As := [.int x1, .int (q1 1 0)]) (rest := []) (c_X2_valueOf E (fun k => a (11 + k)) x1 (q1 1 0) (sb 16 q1) e2) rfl gX5_numberOf_X2_valueOf rfl rfl rfl 2 rfl (by decide +kernel) ⟨Nat.le_of_ble_eq_true rfl, Nat.le_of_ble_eq_true rfl⟩ [11, 12, 13, 14, 15] (wl_X5_numberOf_3 E a q1) (by decide) rfl (wTown E a q1) (zrep_self (wl_X5_numberOf_3 E a q1)) 0 2 rfl rfl rfl (Nat.le_of_ble_eq_true rfl) dX5_numberOf_10 ⟨Nat.zero_le _, Nat.zero_le _⟩ _ rfl ?_
  obtain rfl := Option.some.inj h
  exact R rfl 13 _ dX5_numberOf_13

theorem c_X5_numberOf (E : zEnv) (a : Nat → Nat) (x1 : Int32) (x2 : Int32) (S : St) {res : (Int32 × St)} (h : f_X5_numberOf x1 x2 S = some res) : Kti E yX5_numberOf wsX5_numberOf rm_X5_numberOf (wTown E a S) (wTown E a res.2) [.ref (a 0), .int x1, .int x2] res.1 :=
  z_enti (cc := cX5_numberOf) (maxL := 3) (rt := .int) (by decide +kernel) rfl (Nat.le_of_ble_eq_true rfl) (fun Γ C R => L_X5_numberOf a C R x1 x2 S h)

abbrev rm_X5_having : Room := { frames := 3, cells := 0, slots := 0, locals := 69 }
theorem inw_X5_having_X5 : ∀ w ∈ wsX50, w ∈ wsX5_having := fun _ h => List.mem_cons_of_mem _ (List.mem_append_left _ (List.mem_append_right _ h))
theorem inw_X5_having_X2 : ∀ w ∈ wsX20, w ∈ wsX5_having := fun _ h => List.mem_cons_of_mem _ (List.mem_append_right _ h)
set_option maxHeartbeats 4000000 in
theorem wl_X5_having_0 (E : zEnv) (a : Nat → Nat) (S : St) : ([11, 12, 13, 14, 15] : List Nat).map (fun i => (wTown E a S)[i]?) = (wTally E (fun k => a (11 + k)) (sb 16 S)).map some := rfl
set_option maxHeartbeats 4000000 in
theorem wl_X5_having_1 (E : zEnv) (a : Nat → Nat) (S U : St) : (wTally E (fun k => a (11 + k)) U).map (fun q => q.1) = (wTally E (fun k => a (11 + k)) S).map (fun q => q.1) := rfl
set_option maxHeartbeats 4000000 in
theorem wl_X5_having_2 (E : zEnv) (a : Nat → Nat) (S : St) : ([0, 1, 2, 3, 4, 5, 6, 7, 8, 9, 10, 11, 12, 13, 14, 15] : List Nat).map (fun i => (wTown E a S)[i]?) = (wTown E a S).map some := rfl
set_option maxHeartbeats 4000000 in
theorem wl_X5_having_3 (E : zEnv) (a : Nat → Nat) (S U : St) : (wTown E a U).map (fun q => q.1) = (wTown E a S).map (fun q => q.1) := rfl
set_option maxHeartbeats 4000000 in
theorem wl_X5_having_4 (E : zEnv) (a : Nat → Nat) (S U : St) : (wTown E a U) = zrep [0, 1, 2, 3, 4, 5, 6, 7, 8, 9, 10, 11, 12, 13, 14, 15] (wTown E a U) (wTown E a S) := zrep_of (isR := []) 16 rfl [] rfl rfl rfl rfl (by decide +kernel) (by decide +kernel)
noncomputable def f_X5_having_44 (k12 : Int32 → Int32 → Int32 → St → Option (Int32 × St)) (x1 : Int32) (x4 : Int32) (x5 : Int32) (S : St) : Option (Int32 × St) := (k12 x1 x4 (x5 + (1 : Int32)) S)
noncomputable def f_X5_having_12 (n : Nat) : Int32 → Int32 → Int32 → St → Option (Int32 × St) := Nat.rec (motive := fun _ => Int32 → Int32 → Int32 → St → Option (Int32 × St)) (fun _ _ _ _ => none) (fun _ ih => fun x1 x4 x5 S => (if (S 0 0) ≤ x5 then (some (x4, S)) else ((f_X2_valueOf x5 (S 1 0) (sb 16 S)).bind (fun q1 => (if q1 = x1 then (f_X5_having_44 ih x1 (x4 ||| ((1 : Int32) <<< (x5 &&& 31))) x5 S) else (f_X5_having_44 ih x1 x4 x5 S)))))) n
theorem f_X5_having_12_s (n : Nat) (x1 : Int32) (x4 : Int32) (x5 : Int32) (S : St) : f_X5_having_12 (n + 1) x1 x4 x5 S = (if (S 0 0) ≤ x5 then (some (x4, S)) else ((f_X2_valueOf x5 (S 1 0) (sb 16 S)).bind (fun q1 => (if q1 = x1 then (f_X5_having_44 (f_X5_having_12 n) x1 (x4 ||| ((1 : Int32) <<< (x5 &&& 31))) x5 S) else (f_X5_having_44 (f_X5_having_12 n) x1 x4 x5 S))))) := rfl
noncomputable def f_X5_having (x1 : Int32) (x2 : Int32) (S : St) : Option (Int32 × St) := ((f_X5_tallyOn x2 S).bind (fun q2 => (f_X5_having_12 1000 x1 (0 : Int32) (0 : Int32) q2)))
set_option maxHeartbeats 4000000 in
set_option maxRecDepth 100000 in
theorem L_X5_having_44 {E : zEnv} {Γ : zG} (a : Nat → Nat) (C : zC E Γ cX5_having RX5 6 rm_X5_having wsX5_having) {res : (Int32 × St)} (R : zRi E Γ cX5_having 6 .int (wTown E a res.2) res.1) (k12 : Int32 → Int32 → Int32 → St → Option (Int32 × St)) (hk12 : ∀ (x1 : Int32) (x4 : Int32) (x5 : Int32) (S : St), k12 x1 x4 x5 S = some res → Zt E Γ 6 0 0 (wTown E a S) [(0, .ref (a 0)), (1, .int x1), (3, .ref (a 11)), (4, .int x4), (5, .int x5)] 12 []) (x1 : Int32) (x4 : Int32) (x5 : Int32) (S : St) (h : f_X5_having_44 k12 x1 x4 x5 S = some res) : Zt E Γ 6 0 0 (wTown E a S) [(0, .ref (a 0)), (1, .int x1), (3, .ref (a 11)), (4, .int x4), (5, .int x5)] 44 [] := by
  unfold f_X5_having_44 at h
  refine z_iinc C [(5, .int (x5 + (1 : Int32))), (0, .ref (a 0)), (1, .int x1), (3, .ref (a 11)), (4, .int x4)] 4 rfl (by first | rfl | decide) (by decide) rfl dX5_having_44 ?_
  refine z_goto C 12 (by decide) dX5_having_47 ?_
  refine Zt_l [(0, .ref (a 0)), (1, .int x1), (3, .ref (a 11)), (4, .int x4), (5, .int (x5 + (1 : Int32)))] [1, 2, 3, 4, 0] rfl ?_
  exact hk12 x1 x4 (x5 + (1 : Int32)) S h

set_option maxHeartbeats 4000000 in
set_option maxRecDepth 100000 in
theorem L_X5_having_12 {E : zEnv} {Γ : zG} (a : Nat → Nat) (C : zC E Γ cX5_having RX5 6 rm_X5_having wsX5_having) {res : (Int32 × St)} (R : zRi E Γ cX5_having 6 .int (wTown E a res.2) res.1) : ∀ (n : Nat) (x1 : Int32) (x4 : Int32) (x5 : Int32) (S : St), f_X5_having_12 n x1 x4 x5 S = some res → Zt E Γ 6 0 0 (wTown E a S) [(0, .ref (a 0)), (1, .int x1), (3, .ref (a 11)), (4, .int x4), (5, .int x5)] 12 [] := by
  intro n
  induction n with
  | zero =>
    intro x1 x4 x5 S h
    cases h
  | succ n ih =>
    intro x1 x4 x5 S h
    rw [f_X5_having_12_s] at h
    refine z_iload C 4 rfl dX5_having_12 ?_
    refine z_aload_n C 0 rfl rfl dX5_having_14 ?_
    refine z_get C 0 rfl (C := RX5) (T := TX5) (N := 16) (ci := 5) rfl inw_X5_having_X5 0 (by decide) (ref := "EldestAge$Town") (List.mem_of_getElem? (i := 1) rfl) rfl (v := .int (S 0 0)) rfl dX5_having_15 ?_
    refine z_icmp_ge C 50 (by decide) h dX5_having_18 (fun hc h => ?_) (fun hc h => ?_)
    · refine z_iload C 3 rfl dX5_having_50 ?_
      obtain rfl := Option.some.inj h
      exact R rfl 52 _ dX5_having_52
    · refine z_aload_n C 2 rfl rfl dX5_having_21 ?_
      refine z_iload C 4 rfl dX5_having_22 ?_
      refine z_aload_n C 0 rfl rfl dX5_having_24 ?_
      refine z_get C 0 rfl (C := RX5) (T := TX5) (N := 16) (ci := 5) rfl inw_X5_having_X5 1 (by decide) (ref := "EldestAge$Town") (List.mem_of_getElem? (i := 2) rfl) rfl (v := .int (S 1 0)) rfl dX5_having_25 ?_
      obtain ⟨q1, e1, h⟩ := bd_e h
      refine z_callVi C (b := a 11) (As := [.int x5, .int (S 1 0)]) (rest := []) (c_X2_valueOf E (fun k => a (11 + k)) x5 (S 1 0) (sb 16 S) e1) rfl gX5_having_X2_valueOf rfl rfl rfl 2 rfl (by decide +kernel) ⟨Nat.le_of_ble_eq_true rfl, Nat.le_of_ble_eq_true rfl⟩ [11, 12, 13, 14, 15] (wl_X5_having_0 E a S) (by decide) rfl (wTown E a S) (zrep_self (wl_X5_having_0 E a S)) 0 2 rfl rfl rfl (Nat.le_of_ble_eq_true rfl) dX5_having_28 ⟨Nat.zero_le _, Nat.zero_le _⟩ _ rfl ?_
      refine z_iload_n C 1 rfl rfl dX5_having_31 ?_
      refine z_icmp_ne C 44 (by decide) h dX5_having_32 (fun hc h => ?_) (fun hc h => ?_)
      · refine z_iload C 3 rfl dX5_having_35 ?_
        refine z_iconst C (v := (1 : Int32)) (by decide) dX5_having_37 ?_
        refine z_iload C 4 rfl dX5_having_38 ?_
        refine z_ishl C dX5_having_40 ?_
        refine z_ior C dX5_having_41 ?_
        refine z_istore C [(4, .int (x4 ||| ((1 : Int32) <<< (x5 &&& 31)))), (0, .ref (a 0)), (1, .int x1), (3, .ref (a 11)), (5, .int x5)] (by decide) rfl dX5_having_42 ?_
        refine Zt_l [(0, .ref (a 0)), (1, .int x1), (3, .ref (a 11)), (4, .int (x4 ||| ((1 : Int32) <<< (x5 &&& 31)))), (5, .int x5)] [1, 2, 3, 0, 4] rfl ?_
        exact L_X5_having_44 a C R _ ih x1 (x4 ||| ((1 : Int32) <<< (x5 &&& 31))) x5 S h
      · exact L_X5_having_44 a C R _ ih x1 x4 x5 S h

set_option maxHeartbeats 4000000 in
set_option maxRecDepth 100000 in
theorem L_X5_having {E : zEnv} {Γ : zG} (a : Nat → Nat) (C : zC E Γ cX5_having RX5 6 rm_X5_having wsX5_having) {res : (Int32 × St)} (R : zRi E Γ cX5_having 6 .int (wTown E a res.2) res.1) (x1 : Int32) (x2 : Int32) (S : St) (h : f_X5_having x1 x2 S = some res) : Zt E Γ 6 0 0 (wTown E a S) [(0, .ref (a 0)), (1, .int x1), (2, .int x2)] 0 [] := by
  unfold f_X5_having at h
  refine z_aload_n C 0 rfl rfl dX5_having_0 ?_
  refine z_iload_n C 2 rfl rfl dX5_having_1 ?_
  obtain ⟨q2, e2, h⟩ := bd_e h
  refine z_callVr C (b := a 0) (As := [.int x2]) (rest := []) (c_X5_tallyOn E a x2 S e2) rfl gX5_having_X5_tallyOn rfl rfl rfl 1 rfl (by decide +kernel) ⟨Nat.le_of_ble_eq_true rfl, Nat.le_of_ble_eq_true rfl⟩ [0, 1, 2, 3, 4, 5, 6, 7, 8, 9, 10, 11, 12, 13, 14, 15] (wl_X5_having_2 E a S) (by decide) (wl_X5_having_3 E a _ _) (wTown E a q2) (wl_X5_having_4 E a S q2) 0 5 rfl rfl rfl (Nat.le_of_ble_eq_true rfl) dX5_having_2 ⟨Nat.zero_le _, Nat.zero_le _⟩ _ rfl ?_
  refine z_astore_n C [(3, .ref (a 11)), (0, .ref (a 0)), (1, .int x1), (2, .int x2)] rfl (by decide) rfl dX5_having_5 ?_
  refine z_iconst C (v := (0 : Int32)) (by decide) dX5_having_6 ?_
  refine z_istore C [(4, .int (0 : Int32)), (3, .ref (a 11)), (0, .ref (a 0)), (1, .int x1), (2, .int x2)] (by decide) rfl dX5_having_7 ?_
  refine z_iconst C (v := (0 : Int32)) (by decide) dX5_having_9 ?_
  refine z_istore C [(5, .int (0 : Int32)), (4, .int (0 : Int32)), (3, .ref (a 11)), (0, .ref (a 0)), (1, .int x1), (2, .int x2)] (by decide) rfl dX5_having_10 ?_
  refine Zt_l [(0, .ref (a 0)), (1, .int x1), (3, .ref (a 11)), (4, .int (0 : Int32)), (5, .int (0 : Int32))] [3, 4, 2, 1, 0] rfl ?_
  exact L_X5_having_12 a C R 1000 x1 (0 : Int32) (0 : Int32) q2 h

theorem c_X5_having (E : zEnv) (a : Nat → Nat) (x1 : Int32) (x2 : Int32) (S : St) {res : (Int32 × St)} (h : f_X5_having x1 x2 S = some res) : Kti E yX5_having wsX5_having rm_X5_having (wTown E a S) (wTown E a res.2) [.ref (a 0), .int x1, .int x2] res.1 :=
  z_enti (cc := cX5_having) (maxL := 6) (rt := .int) (by decide +kernel) rfl (Nat.le_of_ble_eq_true rfl) (fun Γ C R => L_X5_having a C R x1 x2 S h)

abbrev rm_X5_allNumbers : Room := { frames := 3, cells := 0, slots := 0, locals := 69 }
theorem inw_X5_allNumbers_X5 : ∀ w ∈ wsX50, w ∈ wsX5_allNumbers := fun _ h => List.mem_cons_of_mem _ (List.mem_append_left _ (List.mem_append_right _ h))
theorem inw_X5_allNumbers_X2 : ∀ w ∈ wsX20, w ∈ wsX5_allNumbers := fun _ h => List.mem_cons_of_mem _ (List.mem_append_right _ h)
set_option maxHeartbeats 4000000 in
theorem wl_X5_allNumbers_0 (E : zEnv) (a : Nat → Nat) (S : St) : ([11, 12, 13, 14, 15] : List Nat).map (fun i => (wTown E a S)[i]?) = (wTally E (fun k => a (11 + k)) (sb 16 S)).map some := rfl
set_option maxHeartbeats 4000000 in
theorem wl_X5_allNumbers_1 (E : zEnv) (a : Nat → Nat) (S U : St) : (wTally E (fun k => a (11 + k)) U).map (fun q => q.1) = (wTally E (fun k => a (11 + k)) S).map (fun q => q.1) := rfl
set_option maxHeartbeats 4000000 in
theorem wl_X5_allNumbers_2 (E : zEnv) (a : Nat → Nat) (S : St) : ([0, 1, 2, 3, 4, 5, 6, 7, 8, 9, 10, 11, 12, 13, 14, 15] : List Nat).map (fun i => (wTown E a S)[i]?) = (wTown E a S).map some := rfl
set_option maxHeartbeats 4000000 in
theorem wl_X5_allNumbers_3 (E : zEnv) (a : Nat → Nat) (S U : St) : (wTown E a U).map (fun q => q.1) = (wTown E a S).map (fun q => q.1) := rfl
set_option maxHeartbeats 4000000 in
theorem wl_X5_allNumbers_4 (E : zEnv) (a : Nat → Nat) (S U : St) : (wTown E a U) = zrep [0, 1, 2, 3, 4, 5, 6, 7, 8, 9, 10, 11, 12, 13, 14, 15] (wTown E a U) (wTown E a S) := zrep_of (isR := []) 16 rfl [] rfl rfl rfl rfl (by decide +kernel) (by decide +kernel)
noncomputable def f_X5_allNumbers_45 (k12 : Int32 → Int32 → Int32 → St → Option (Int32 × St)) (x2 : Int32) (x5 : Int32) (y0 : Int32) (y1 : Int32) (S : St) : Option (Int32 × St) := (k12 x2 (y0 + y1) (x5 + (1 : Int32)) S)
noncomputable def f_X5_allNumbers_12 (n : Nat) : Int32 → Int32 → Int32 → St → Option (Int32 × St) := Nat.rec (motive := fun _ => Int32 → Int32 → Int32 → St → Option (Int32 × St)) (fun _ _ _ _ => none) (fun _ ih => fun x2 x4 x5 S => (if (S 0 0) ≤ x5 then (some (x4, S)) else ((f_X2_valueOf x5 x2 (sb 16 S)).bind (fun q1 => (if q1 = (-4 : Int32) then (f_X5_allNumbers_45 ih x2 x5 x4 (0 : Int32) S) else (f_X5_allNumbers_45 ih x2 x5 x4 q1 S)))))) n
theorem f_X5_allNumbers_12_s (n : Nat) (x2 : Int32) (x4 : Int32) (x5 : Int32) (S : St) : f_X5_allNumbers_12 (n + 1) x2 x4 x5 S = (if (S 0 0) ≤ x5 then (some (x4, S)) else ((f_X2_valueOf x5 x2 (sb 16 S)).bind (fun q1 => (if q1 = (-4 : Int32) then (f_X5_allNumbers_45 (f_X5_allNumbers_12 n) x2 x5 x4 (0 : Int32) S) else (f_X5_allNumbers_45 (f_X5_allNumbers_12 n) x2 x5 x4 q1 S))))) := rfl
noncomputable def f_X5_allNumbers (x1 : Int32) (x2 : Int32) (S : St) : Option (Int32 × St) := ((f_X5_tallyOn x1 S).bind (fun q2 => (f_X5_allNumbers_12 1000 x2 (0 : Int32) (0 : Int32) q2)))
set_option maxHeartbeats 4000000 in
set_option maxRecDepth 100000 in
theorem L_X5_allNumbers_45 {E : zEnv} {Γ : zG} (a : Nat → Nat) (C : zC E Γ cX5_allNumbers RX5 7 rm_X5_allNumbers wsX5_allNumbers) {res : (Int32 × St)} (R : zRi E Γ cX5_allNumbers 7 .int (wTown E a res.2) res.1) (k12 : Int32 → Int32 → Int32 → St → Option (Int32 × St)) (hk12 : ∀ (x2 : Int32) (x4 : Int32) (x5 : Int32) (S : St), k12 x2 x4 x5 S = some res → Zt E Γ 7 0 0 (wTown E a S) [(0, .ref (a 0)), (2, .int x2), (3, .ref (a 11)), (4, .int x4), (5, .int x5)] 12 []) (x2 : Int32) (x5 : Int32) (y0 : Int32) (y1 : Int32) (S : St) (h : f_X5_allNumbers_45 k12 x2 x5 y0 y1 S = some res) : Zt E Γ 7 0 0 (wTown E a S) [(0, .ref (a 0)), (2, .int x2), (3, .ref (a 11)), (5, .int x5)] 45 [.int y1, .int y0] := by
  unfold f_X5_allNumbers_45 at h
  refine z_iadd C dX5_allNumbers_45 ?_
  refine z_istore C [(4, .int (y0 + y1)), (0, .ref (a 0)), (2, .int x2), (3, .ref (a 11)), (5, .int x5)] (by decide) rfl dX5_allNumbers_46 ?_
  refine z_iinc C [(5, .int (x5 + (1 : Int32))), (4, .int (y0 + y1)), (0, .ref (a 0)), (2, .int x2), (3, .ref (a 11))] 4 rfl (by first | rfl | decide) (by decide) rfl dX5_allNumbers_48 ?_
  refine z_goto C 12 (by decide) dX5_allNumbers_51 ?_
  refine Zt_l [(0, .ref (a 0)), (2, .int x2), (3, .ref (a 11)), (4, .int (y0 + y1)), (5, .int (x5 + (1 : Int32)))] [2, 3, 4, 1, 0] rfl ?_
  exact hk12 x2 (y0 + y1) (x5 + (1 : Int32)) S h

set_option maxHeartbeats 4000000 in
set_option maxRecDepth 100000 in
theorem L_X5_allNumbers_12 {E : zEnv} {Γ : zG} (a : Nat → Nat) (C : zC E Γ cX5_allNumbers RX5 7 rm_X5_allNumbers wsX5_allNumbers) {res : (Int32 × St)} (R : zRi E Γ cX5_allNumbers 7 .int (wTown E a res.2) res.1) : ∀ (n : Nat) (x2 : Int32) (x4 : Int32) (x5 : Int32) (S : St), f_X5_allNumbers_12 n x2 x4 x5 S = some res → Zt E Γ 7 0 0 (wTown E a S) [(0, .ref (a 0)), (2, .int x2), (3, .ref (a 11)), (4, .int x4), (5, .int x5)] 12 [] := by
  intro n
  induction n with
  | zero =>
    intro x2 x4 x5 S h
    cases h
  | succ n ih =>
    intro x2 x4 x5 S h
    rw [f_X5_allNumbers_12_s] at h
    refine z_iload C 4 rfl dX5_allNumbers_12 ?_
    refine z_aload_n C 0 rfl rfl dX5_allNumbers_14 ?_
    refine z_get C 0 rfl (C := RX5) (T := TX5) (N := 16) (ci := 5) rfl inw_X5_allNumbers_X5 0 (by decide) (ref := "EldestAge$Town") (List.mem_of_getElem? (i := 1) rfl) rfl (v := .int (S 0 0)) rfl dX5_allNumbers_15 ?_
    refine z_icmp_ge C 54 (by decide) h dX5_allNumbers_18 (fun hc h => ?_) (fun hc h => ?_)
    · refine z_iload C 3 rfl dX5_allNumbers_54 ?_
      obtain rfl := Option.some.inj h
      exact R rfl 56 _ dX5_allNumbers_56
    · refine z_aload_n C 2 rfl rfl dX5_allNumbers_21 ?_
      refine z_iload C 4 rfl dX5_allNumbers_22 ?_
      refine z_iload_n C 1 rfl rfl dX5_allNumbers_24 ?_
      obtain ⟨q1, e1, h⟩ := bd_e h
      refine z_callVi C (b := a 11) (As := [.int x5, .int x2]) (rest := []) (c_X2_valueOf E (fun k => a (11 + k)) x5 x2 (sb 16 S) e1) rfl gX5_allNumbers_X2_valueOf rfl rfl rfl 2 rfl (by decide +kernel) ⟨Nat.le_of_ble_eq_true rfl, Nat.le_of_ble_eq_true rfl⟩ [11, 12, 13, 14, 15] (wl_X5_allNumbers_0 E a S) (by decide) rfl (wTown E a S) (zrep_self (wl_X5_allNumbers_0 E a S)) 0 2 rfl rfl rfl (Nat.le_of_ble_eq_true rfl) dX5_allNumbers_25 ⟨Nat.zero_le _, Nat.zero_le _⟩ _ rfl ?_
      refine z_istore C [(6, .int q1), (0, .ref (a 0)), (2, .int x2), (3, .ref (a 11)), (4, .int x4), (5, .int x5)] (by decide) rfl dX5_allNumbers_28 ?_
      refine z_iload C 4 rfl dX5_allNumbers_30 ?_
      refine z_iload C 0 rfl dX5_allNumbers_32 ?_
      refine z_bipush C (v := (-4 : Int32)) (by decide) dX5_allNumbers_34 ?_
      refine z_icmp_ne C 43 (by decide) h dX5_allNumbers_36 (fun hc h => ?_) (fun hc h => ?_)
      · refine z_iconst C (v := (0 : Int32)) (by decide) dX5_allNumbers_39 ?_
        refine z_goto C 45 (by decide) dX5_allNumbers_40 ?_
        refine Zt_l [(0, .ref (a 0)), (2, .int x2), (3, .ref (a 11)), (5, .int x5)] [1, 2, 3, 5] rfl ?_
        exact L_X5_allNumbers_45 a C R _ ih x2 x5 x4 (0 : Int32) S h
      · refine z_iload C 0 rfl dX5_allNumbers_43 ?_
        refine Zt_l [(0, .ref (a 0)), (2, .int x2), (3, .ref (a 11)), (5, .int x5)] [1, 2, 3, 5] rfl ?_
        exact L_X5_allNumbers_45 a C R _ ih x2 x5 x4 q1 S h

set_option maxHeartbeats 4000000 in
set_option maxRecDepth 100000 in
theorem L_X5_allNumbers {E : zEnv} {Γ : zG} (a : Nat → Nat) (C : zC E Γ cX5_allNumbers RX5 7 rm_X5_allNumbers wsX5_allNumbers) {res : (Int32 × St)} (R : zRi E Γ cX5_allNumbers 7 .int (wTown E a res.2) res.1) (x1 : Int32) (x2 : Int32) (S : St) (h : f_X5_allNumbers x1 x2 S = some res) : Zt E Γ 7 0 0 (wTown E a S) [(0, .ref (a 0)), (1, .int x1), (2, .int x2)] 0 [] := by
  unfold f_X5_allNumbers at h
  refine z_aload_n C 0 rfl rfl dX5_allNumbers_0 ?_
  refine z_iload_n C 1 rfl rfl dX5_allNumbers_1 ?_
  obtain ⟨q2, e2, h⟩ := bd_e h
  refine z_callVr C (b := a 0) (As := [.int x1]) (rest := []) (c_X5_tallyOn E a x1 S e2) rfl gX5_allNumbers_X5_tallyOn rfl rfl rfl 1 rfl (by decide +kernel) ⟨Nat.le_of_ble_eq_true rfl, Nat.le_of_ble_eq_true rfl⟩ [0, 1, 2, 3, 4, 5, 6, 7, 8, 9, 10, 11, 12, 13, 14, 15] (wl_X5_allNumbers_2 E a S) (by decide) (wl_X5_allNumbers_3 E a _ _) (wTown E a q2) (wl_X5_allNumbers_4 E a S q2) 0 5 rfl rfl rfl (Nat.le_of_ble_eq_true rfl) dX5_allNumbers_2 ⟨Nat.zero_le _, Nat.zero_le _⟩ _ rfl ?_
  refine z_astore_n C [(3, .ref (a 11)), (0, .ref (a 0)), (1, .int x1), (2, .int x2)] rfl (by decide) rfl dX5_allNumbers_5 ?_
  refine z_iconst C (v := (0 : Int32)) (by decide) dX5_allNumbers_6 ?_
  refine z_istore C [(4, .int (0 : Int32)), (3, .ref (a 11)), (0, .ref (a 0)), (1, .int x1), (2, .int x2)] (by decide) rfl dX5_allNumbers_7 ?_
  refine z_iconst C (v := (0 : Int32)) (by decide) dX5_allNumbers_9 ?_
  refine z_istore C [(5, .int (0 : Int32)), (4, .int (0 : Int32)), (3, .ref (a 11)), (0, .ref (a 0)), (1, .int x1), (2, .int x2)] (by decide) rfl dX5_allNumbers_10 ?_
  refine Zt_l [(0, .ref (a 0)), (2, .int x2), (3, .ref (a 11)), (4, .int (0 : Int32)), (5, .int (0 : Int32))] [3, 5, 2, 1, 0] rfl ?_
  exact L_X5_allNumbers_12 a C R 1000 x2 (0 : Int32) (0 : Int32) q2 h

theorem c_X5_allNumbers (E : zEnv) (a : Nat → Nat) (x1 : Int32) (x2 : Int32) (S : St) {res : (Int32 × St)} (h : f_X5_allNumbers x1 x2 S = some res) : Kti E yX5_allNumbers wsX5_allNumbers rm_X5_allNumbers (wTown E a S) (wTown E a res.2) [.ref (a 0), .int x1, .int x2] res.1 :=
  z_enti (cc := cX5_allNumbers) (maxL := 7) (rt := .int) (by decide +kernel) rfl (Nat.le_of_ble_eq_true rfl) (fun Γ C R => L_X5_allNumbers a C R x1 x2 S h)
