abbrev rm_X3_isWhole : Room := { frames := 1, cells := 0, slots := 0, locals := 21 }
theorem inw_X3_isWhole_X5 : ∀ w ∈ wsX50, w ∈ wsX3_isWhole := fun _ h => List.mem_cons_of_mem _ (List.mem_append_right _ h)
set_option maxHeartbeats 4000000 in
theorem wl_X3_isWhole_0 (E : zEnv) (a : Nat → Nat) (S : St) : ([2, 3, 4, 5, 6, 7, 8, 9, 10, 11, 12, 13, 14, 15, 16, 17] : List Nat).map (fun i => (wTapeTown E a S)[i]?) = (wTown E (fun k => a (2 + k)) (sb 16 S)).map some := rfl
set_option maxHeartbeats 4000000 in
theorem wl_X3_isWhole_1 (E : zEnv) (a : Nat → Nat) (S U : St) : (wTown E (fun k => a (2 + k)) U).map (fun q => q.1) = (wTown E (fun k => a (2 + k)) S).map (fun q => q.1) := rfl
noncomputable def f_X3_isWhole_77 (n : Nat) : Int32 → St → Option Int32 := Nat.rec (motive := fun _ => Int32 → St → Option Int32) (fun _ _ => none) (fun _ ih => fun x2 S => (if (S 27 0) ≤ x2 then (some (1 : Int32)) else (ix x2 4 ((f_X5_isHouse (S 28 (Int32.toNatClampNeg x2)) (sb 16 S)).bind (fun q1 => (if q1 = 0 then (some (0 : Int32)) else (ih (x2 + (1 : Int32)) S))))))) n
theorem f_X3_isWhole_77_s (n : Nat) (x2 : Int32) (S : St) : f_X3_isWhole_77 (n + 1) x2 S = (if (S 27 0) ≤ x2 then (some (1 : Int32)) else (ix x2 4 ((f_X5_isHouse (S 28 (Int32.toNatClampNeg x2)) (sb 16 S)).bind (fun q1 => (if q1 = 0 then (some (0 : Int32)) else ((f_X3_isWhole_77 n) (x2 + (1 : Int32)) S)))))) := rfl
noncomputable def f_X3_isWhole_75 (S : St) : Option Int32 := (f_X3_isWhole_77 1000 (0 : Int32) S)
noncomputable def f_X3_isWhole_33 (n : Nat) : Int32 → St → Option Int32 := Nat.rec (motive := fun _ => Int32 → St → Option Int32) (fun _ _ => none) (fun _ ih => fun x2 S => (if (S 23 0) ≤ x2 then (f_X3_isWhole_75 S) else (ix x2 12 ((f_X5_isOne (S 25 (Int32.toNatClampNeg x2)) (sb 16 S)).bind (fun q2 => (if q2 = 0 then (some (0 : Int32)) else (ix x2 12 ((f_X5_isHouse (S 26 (Int32.toNatClampNeg x2)) (sb 16 S)).bind (fun q3 => (if q3 = 0 then (some (0 : Int32)) else (ih (x2 + (1 : Int32)) S))))))))))) n
theorem f_X3_isWhole_33_s (n : Nat) (x2 : Int32) (S : St) : f_X3_isWhole_33 (n + 1) x2 S = (if (S 23 0) ≤ x2 then (f_X3_isWhole_75 S) else (ix x2 12 ((f_X5_isOne (S 25 (Int32.toNatClampNeg x2)) (sb 16 S)).bind (fun q2 => (if q2 = 0 then (some (0 : Int32)) else (ix x2 12 ((f_X5_isHouse (S 26 (Int32.toNatClampNeg x2)) (sb 16 S)).bind (fun q3 => (if q3 = 0 then (some (0 : Int32)) else ((f_X3_isWhole_33 n) (x2 + (1 : Int32)) S)))))))))) := rfl
noncomputable def f_X3_isWhole_31 (S : St) : Option Int32 := (f_X3_isWhole_33 1000 (0 : Int32) S)
noncomputable def f_X3_isWhole_2 (n : Nat) : Int32 → St → Option Int32 := Nat.rec (motive := fun _ => Int32 → St → Option Int32) (fun _ _ => none) (fun _ ih => fun x2 S => (if (S 18 0) ≤ x2 then (f_X3_isWhole_31 S) else (ix x2 14 ((f_X5_isHouse (S 21 (Int32.toNatClampNeg x2)) (sb 16 S)).bind (fun q4 => (if q4 = 0 then (some (0 : Int32)) else (ih (x2 + (1 : Int32)) S))))))) n
theorem f_X3_isWhole_2_s (n : Nat) (x2 : Int32) (S : St) : f_X3_isWhole_2 (n + 1) x2 S = (if (S 18 0) ≤ x2 then (f_X3_isWhole_31 S) else (ix x2 14 ((f_X5_isHouse (S 21 (Int32.toNatClampNeg x2)) (sb 16 S)).bind (fun q4 => (if q4 = 0 then (some (0 : Int32)) else ((f_X3_isWhole_2 n) (x2 + (1 : Int32)) S)))))) := rfl
noncomputable def f_X3_isWhole (S : St) : Option Int32 := (f_X3_isWhole_2 1000 (0 : Int32) S)
set_option maxHeartbeats 4000000 in
set_option maxRecDepth 100000 in
theorem L_X3_isWhole_77 {E : zEnv} {Γ : zG} (a : Nat → Nat) (C : zC E Γ cX3_isWhole RX3 3 rm_X3_isWhole wsX3_isWhole) {res : Int32} {S : St} (R : zRi E Γ cX3_isWhole 3 .boolean (wTapeTown E a S) res) : ∀ (n : Nat) (x2 : Int32), f_X3_isWhole_77 n x2 S = some res → Zt E Γ 3 0 0 (wTapeTown E a S) [(1, .ref (a 2)), (2, .int x2)] 77 [] := by
  intro n
  induction n with
  | zero =>
    intro x2 h
    cases h
  | succ n ih =>
    intro x2 h
    rw [f_X3_isWhole_77_s] at h
    refine z_iload_n C 1 rfl rfl dX3_isWhole_77 ?_
    refine z_aload_n C 0 rfl rfl dX3_isWhole_78 ?_
    refine z_get C 2 rfl (C := RX5) (T := TX5) (N := 16) (ci := 5) rfl inw_X3_isWhole_X5 11 (by decide) (ref := "EldestAge$Town") (List.mem_of_getElem? (i := 6) rfl) rfl (v := .int (S 27 0)) rfl dX3_isWhole_79 ?_
    refine z_icmp_ge C 106 (by decide) h dX3_isWhole_82 (fun hc h => ?_) (fun hc h => ?_)
    · refine z_iconst C (v := (1 : Int32)) (by decide) dX3_isWhole_106 ?_
      obtain rfl := Option.some.inj h
      exact R z_n1 107 _ dX3_isWhole_107
    · refine z_aload_n C 0 rfl rfl dX3_isWhole_85 ?_
      refine z_aload_n C 0 rfl rfl dX3_isWhole_86 ?_
      refine z_get C 2 rfl (C := RX5) (T := TX5) (N := 16) (ci := 5) rfl inw_X3_isWhole_X5 12 (by decide) (ref := "EldestAge$Town") (List.mem_of_getElem? (i := 7) rfl) rfl (v := .ref (a 10)) rfl dX3_isWhole_87 ?_
      refine z_iload_n C 1 rfl rfl dX3_isWhole_90 ?_
      refine z_iald C (N := 4) (f := (S 28)) 10 rfl h dX3_isWhole_91 (fun h => ?_)
      obtain ⟨q1, e1, h⟩ := bd_e h
      refine z_callVi C (b := a 2) (As := [.int (S 28 (Int32.toNatClampNeg x2))]) (rest := []) (c_X5_isHouse E (fun k => a (2 + k)) (S 28 (Int32.toNatClampNeg x2)) (sb 16 S) e1) rfl gX3_isWhole_X5_isHouse rfl rfl rfl 1 rfl (by decide +kernel) ⟨Nat.le_of_ble_eq_true rfl, Nat.le_of_ble_eq_true rfl⟩ [2, 3, 4, 5, 6, 7, 8, 9, 10, 11, 12, 13, 14, 15, 16, 17] (wl_X3_isWhole_0 E a S) (by decide) rfl (wTapeTown E a S) (zrep_self (wl_X3_isWhole_0 E a S)) 0 5 rfl rfl rfl (Nat.le_of_ble_eq_true rfl) dX3_isWhole_92 ⟨Nat.zero_le _, Nat.zero_le _⟩ _ rfl ?_
      refine z_if_ne C 100 (by decide) h dX3_isWhole_95 (fun hc h => ?_) (fun hc h => ?_)
      · refine z_iconst C (v := (0 : Int32)) (by decide) dX3_isWhole_98 ?_
        obtain rfl := Option.some.inj h
        exact R z_n0 99 _ dX3_isWhole_99
      · refine z_iinc C [(2, .int (x2 + (1 : Int32))), (1, .ref (a 2))] 1 rfl (by first | rfl | decide) (by decide) rfl dX3_isWhole_100 ?_
        refine z_goto C 77 (by decide) dX3_isWhole_103 ?_
        refine Zt_l [(1, .ref (a 2)), (2, .int (x2 + (1 : Int32)))] [1, 0] rfl ?_
        exact ih (x2 + (1 : Int32)) h

set_option maxHeartbeats 4000000 in
set_option maxRecDepth 100000 in
theorem L_X3_isWhole_75 {E : zEnv} {Γ : zG} (a : Nat → Nat) (C : zC E Γ cX3_isWhole RX3 3 rm_X3_isWhole wsX3_isWhole) {res : Int32} {S : St} (R : zRi E Γ cX3_isWhole 3 .boolean (wTapeTown E a S) res) (h : f_X3_isWhole_75 S = some res) : Zt E Γ 3 0 0 (wTapeTown E a S) [(1, .ref (a 2))] 75 [] := by
  unfold f_X3_isWhole_75 at h
  refine z_iconst C (v := (0 : Int32)) (by decide) dX3_isWhole_75 ?_
  refine z_istore_n C [(2, .int (0 : Int32)), (1, .ref (a 2))] rfl (by decide) rfl dX3_isWhole_76 ?_
  refine Zt_l [(1, .ref (a 2)), (2, .int (0 : Int32))] [1, 0] rfl ?_
  exact L_X3_isWhole_77 a C R 1000 (0 : Int32) h

set_option maxHeartbeats 4000000 in
set_option maxRecDepth 100000 in
theorem L_X3_isWhole_33 {E : zEnv} {Γ : zG} (a : Nat → Nat) (C : zC E Γ cX3_isWhole RX3 3 rm_X3_isWhole wsX3_isWhole) {res : Int32} {S : St} (R : zRi E Γ cX3_isWhole 3 .boolean (wTapeTown E a S) res) : ∀ (n : Nat) (x2 : Int32), f_X3_isWhole_33 n x2 S = some res → Zt E Γ 3 0 0 (wTapeTown E a S) [(1, .ref (a 2)), (2, .int x2)] 33 [] := by
  intro n
  induction n with
  | zero =>
    intro x2 h
    cases h
  | succ n ih =>
    intro x2 h
    rw [f_X3_isWhole_33_s] at h
    refine z_iload_n C 1 rfl rfl dX3_isWhole_33 ?_
    refine z_aload_n C 0 rfl rfl dX3_isWhole_34 ?_
    refine z_get C 2 rfl (C := RX5) (T := TX5) (N := 16) (ci := 5) rfl inw_X3_isWhole_X5 7 (by decide) (ref := "EldestAge$Town") (List.mem_of_getElem? (i := 3) rfl) rfl (v := .int (S 23 0)) rfl dX3_isWhole_35 ?_
    refine z_icmp_ge C 75 (by decide) h dX3_isWhole_38 (fun hc h => ?_) (fun hc h => ?_)
    · refine Zt_l [(1, .ref (a 2))] [0] rfl ?_
      exact L_X3_isWhole_75 a C R h
    · refine z_aload_n C 0 rfl rfl dX3_isWhole_41 ?_
      refine z_aload_n C 0 rfl rfl dX3_isWhole_42 ?_
      refine z_get C 2 rfl (C := RX5) (T := TX5) (N := 16) (ci := 5) rfl inw_X3_isWhole_X5 9 (by decide) (ref := "EldestAge$Town") (List.mem_of_getElem? (i := 4) rfl) rfl (v := .ref (a 8)) rfl dX3_isWhole_43 ?_
      refine z_iload_n C 1 rfl rfl dX3_isWhole_46 ?_
      refine z_iald C (N := 12) (f := (S 25)) 8 rfl h dX3_isWhole_47 (fun h => ?_)
      obtain ⟨q2, e2, h⟩ := bd_e h
      refine z_callVi C (b := a 2) (As := [.int (S 25 (Int32.toNatClampNeg x2))]) (rest := []) (c_X5_isOne E (fun k => a (2 + k)) (S 25 (Int32.toNatClampNeg x2)) (sb 16 S) e2) rfl gX3_isWhole_X5_isOne rfl rfl rfl 1 rfl (by decide +kernel) ⟨Nat.le_of_ble_eq_true rfl, Nat.le_of_ble_eq_true rfl⟩ [2, 3, 4, 5, 6, 7, 8, 9, 10, 11, 12, 13, 14, 15, 16, 17] (wl_X3_isWhole_0 E a S) (by decide) rfl (wTapeTown E a S) (zrep_self (wl_X3_isWhole_0 E a S)) 0 5 rfl rfl rfl (Nat.le_of_ble_eq_true rfl) dX3_isWhole_48 ⟨Nat.zero_le _, Nat.zero_le _⟩ _ rfl ?_
      refine z_if_eq C 67 (by decide) h dX3_isWhole_51 (fun hc h => ?_) (fun hc h => ?_)
      · refine z_iconst C (v := (0 : Int32)) (by decide) dX3_isWhole_67 ?_
        obtain rfl := Option.some.inj h
        exact R z_n0 68 _ dX3_isWhole_68
      · refine z_aload_n C 0 rfl rfl dX3_isWhole_54 ?_
        refine z_aload_n C 0 rfl rfl dX3_isWhole_55 ?_
        refine z_get C 2 rfl (C := RX5) (T := TX5) (N := 16) (ci := 5) rfl inw_X3_isWhole_X5 10 (by decide) (ref := "EldestAge$Town") (List.mem_of_getElem? (i := 5) rfl) rfl (v := .ref (a 9)) rfl dX3_isWhole_56 ?_
        refine z_iload_n C 1 rfl rfl dX3_isWhole_59 ?_
        refine z_iald C (N := 12) (f := (S 26)) 9 rfl h dX3_isWhole_60 (fun h => ?_)
        obtain ⟨q3, e3, h⟩ := bd_e h
        refine z_callVi C (b := a 2) (As := [.int (S 26 (Int32.toNatClampNeg x2))]) (rest := []) (c_X5_isHouse E (fun k => a (2 + k)) (S 26 (Int32.toNatClampNeg x2)) (sb 16 S) e3) rfl gX3_isWhole_X5_isHouse rfl rfl rfl 1 rfl (by decide +kernel) ⟨Nat.le_of_ble_eq_true rfl, Nat.le_of_ble_eq_true rfl⟩ [2, 3, 4, 5, 6, 7, 8, 9, 10, 11, 12, 13, 14, 15, 16, 17] (wl_X3_isWhole_0 E a S) (by decide) rfl (wTapeTown E a S) (zrep_self (wl_X3_isWhole_0 E a S)) 0 5 rfl rfl rfl (Nat.le_of_ble_eq_true rfl) dX3_isWhole_61 ⟨Nat.zero_le _, Nat.zero_le _⟩ _ rfl ?_
        refine z_if_ne C 69 (by decide) h dX3_isWhole_64 (fun hc h => ?_) (fun hc h => ?_)
        · refine z_iconst C (v := (0 : Int32)) (by decide) dX3_isWhole_67 ?_
          obtain rfl := Option.some.inj h
          exact R z_n0 68 _ dX3_isWhole_68
        · refine z_iinc C [(2, .int (x2 + (1 : Int32))), (1, .ref (a 2))] 1 rfl (by first | rfl | decide) (by decide) rfl dX3_isWhole_69 ?_
          refine z_goto C 33 (by decide) dX3_isWhole_72 ?_
          refine Zt_l [(1, .ref (a 2)), (2, .int (x2 + (1 : Int32)))] [1, 0] rfl ?_
          exact ih (x2 + (1 : Int32)) h

set_option maxHeartbeats 4000000 in
set_option maxRecDepth 100000 in
theorem L_X3_isWhole_31 {E : zEnv} {Γ : zG} (a : Nat → Nat) (C : zC E Γ cX3_isWhole RX3 3 rm_X3_isWhole wsX3_isWhole) {res : Int32} {S : St} (R : zRi E Γ cX3_isWhole 3 .boolean (wTapeTown E a S) res) (h : f_X3_isWhole_31 S = some res) : Zt E Γ 3 0 0 (wTapeTown E a S) [(1, .ref (a 2))] 31 [] := by
  unfold f_X3_isWhole_31 at h
  refine z_iconst C (v := (0 : Int32)) (by decide) dX3_isWhole_31 ?_
  refine z_istore_n C [(2, .int (0 : Int32)), (1, .ref (a 2))] rfl (by decide) rfl dX3_isWhole_32 ?_
  refine Zt_l [(1, .ref (a 2)), (2, .int (0 : Int32))] [1, 0] rfl ?_
  exact L_X3_isWhole_33 a C R 1000 (0 : Int32) h

set_option maxHeartbeats 4000000 in
set_option maxRecDepth 100000 in
theorem L_X3_isWhole_2 {E : zEnv} {Γ : zG} (a : Nat → Nat) (C : zC E Γ cX3_isWhole RX3 3 rm_X3_isWhole wsX3_isWhole) {res : Int32} {S : St} (R : zRi E Γ cX3_isWhole 3 .boolean (wTapeTown E a S) res) : ∀ (n : Nat) (x2 : Int32), f_X3_isWhole_2 n x2 S = some res → Zt E Γ 3 0 0 (wTapeTown E a S) [(1, .ref (a 2)), (2, .int x2)] 2 [] := by
  intro n
  induction n with
  | zero =>
    intro x2 h
    cases h
  | succ n ih =>
    intro x2 h
    rw [f_X3_isWhole_2_s] at h
    refine z_iload_n C 1 rfl rfl dX3_isWhole_2 ?_
    refine z_aload_n C 0 rfl rfl dX3_isWhole_3 ?_
    refine z_get C 2 rfl (C := RX5) (T := TX5) (N := 16) (ci := 5) rfl inw_X3_isWhole_X5 2 (by decide) (ref := "EldestAge$Town") (List.mem_of_getElem? (i := 1) rfl) rfl (v := .int (S 18 0)) rfl dX3_isWhole_4 ?_
    refine z_icmp_ge C 31 (by decide) h dX3_isWhole_7 (fun hc h => ?_) (fun hc h => ?_)
    · refine Zt_l [(1, .ref (a 2))] [0] rfl ?_
      exact L_X3_isWhole_31 a C R h
    · refine z_aload_n C 0 rfl rfl dX3_isWhole_10 ?_
      refine z_aload_n C 0 rfl rfl dX3_isWhole_11 ?_
      refine z_get C 2 rfl (C := RX5) (T := TX5) (N := 16) (ci := 5) rfl inw_X3_isWhole_X5 5 (by decide) (ref := "EldestAge$Town") (List.mem_of_getElem? (i := 2) rfl) rfl (v := .ref (a 5)) rfl dX3_isWhole_12 ?_
      refine z_iload_n C 1 rfl rfl dX3_isWhole_15 ?_
      refine z_iald C (N := 14) (f := (S 21)) 5 rfl h dX3_isWhole_16 (fun h => ?_)
      obtain ⟨q4, e4, h⟩ := bd_e h
      refine z_callVi C (b := a 2) (As := [.int (S 21 (Int32.toNatClampNeg x2))]) (rest := []) (c_X5_isHouse E (fun k => a (2 + k)) (S 21 (Int32.toNatClampNeg x2)) (sb 16 S) e4) rfl gX3_isWhole_X5_isHouse rfl rfl rfl 1 rfl (by decide +kernel) ⟨Nat.le_of_ble_eq_true rfl, Nat.le_of_ble_eq_true rfl⟩ [2, 3, 4, 5, 6, 7, 8, 9, 10, 11, 12, 13, 14, 15, 16, 17] (wl_X3_isWhole_0 E a S) (by decide) rfl (wTapeTown E a S) (zrep_self (wl_X3_isWhole_0 E a S)) 0 5 rfl rfl rfl (Nat.le_of_ble_eq_true rfl) dX3_isWhole_17 ⟨Nat.zero_le _, Nat.zero_le _⟩ _ rfl ?_
      refine z_if_ne C 25 (by decide) h dX3_isWhole_20 (fun hc h => ?_) (fun hc h => ?_)
      · refine z_iconst C (v := (0 : Int32)) (by decide) dX3_isWhole_23 ?_
        obtain rfl := Option.some.inj h
        exact R z_n0 24 _ dX3_isWhole_24
      · refine z_iinc C [(2, .int (x2 + (1 : Int32))), (1, .ref (a 2))] 1 rfl (by first | rfl | decide) (by decide) rfl dX3_isWhole_25 ?_
        refine z_goto C 2 (by decide) dX3_isWhole_28 ?_
        refine Zt_l [(1, .ref (a 2)), (2, .int (x2 + (1 : Int32)))] [1, 0] rfl ?_
        exact ih (x2 + (1 : Int32)) h

set_option maxHeartbeats 4000000 in
set_option maxRecDepth 100000 in
theorem L_X3_isWhole {E : zEnv} {Γ : zG} (a : Nat → Nat) (C : zC E Γ cX3_isWhole RX3 3 rm_X3_isWhole wsX3_isWhole) {res : Int32} {S : St} (R : zRi E Γ cX3_isWhole 3 .boolean (wTapeTown E a S) res) (h : f_X3_isWhole S = some res) : Zt E Γ 3 0 0 (wTapeTown E a S) [(0, .ref (a 0)), (1, .ref (a 2))] 0 [] := by
  unfold f_X3_isWhole at h
  refine z_iconst C (v := (0 : Int32)) (by decide) dX3_isWhole_0 ?_
  refine z_istore_n C [(2, .int (0 : Int32)), (0, .ref (a 0)), (1, .ref (a 2))] rfl (by decide) rfl dX3_isWhole_1 ?_
  refine Zt_l [(1, .ref (a 2)), (2, .int (0 : Int32))] [2, 0] rfl ?_
  exact L_X3_isWhole_2 a C R 1000 (0 : Int32) h

theorem c_X3_isWhole (E : zEnv) (a : Nat → Nat) (S : St) {res : Int32} (h : f_X3_isWhole S = some res) : Kti E yX3_isWhole wsX3_isWhole rm_X3_isWhole (wTapeTown E a S) (wTapeTown E a S) [.ref (a 0), .ref (a 2)] res :=
  z_enti (cc := cX3_isWhole) (maxL := 3) (rt := .boolean) (by decide +kernel) rfl (Nat.le_of_ble_eq_true rfl) (fun Γ C R => L_X3_isWhole a C R h)

abbrev rm_X3_housesLine : Room := { frames := 3, cells := 0, slots := 0, locals := 64 }
theorem inw_X3_housesLine_X3 : ∀ w ∈ wsX30, w ∈ wsX3_housesLine := fun _ h => List.mem_cons_of_mem _ (List.mem_append_left _ (List.mem_append_right _ h))
theorem inw_X3_housesLine_X5 : ∀ w ∈ wsX50, w ∈ wsX3_housesLine := fun _ h => List.mem_cons_of_mem _ (List.mem_append_right _ h)
set_option maxHeartbeats 4000000 in
theorem wl_X3_housesLine_0 (E : zEnv) (a : Nat → Nat) (S : St) (v : Int32) : (wTapeTown E a (st 10 (fun _ => v) S)) = (wTapeTown E a S).set 0 (a 0, .inr (3, List.set [.ref (a 1), .int (S 1 0), .int (S 2 0), .int (S 3 0), .int (S 4 0), .int (S 5 0), .int (S 6 0), .int (S 7 0), .int (S 8 0), .int (S 9 0), .int (S 10 0), .int (S 11 0)] 10 (.int v))) := rfl
set_option maxHeartbeats 4000000 in
theorem wl_X3_housesLine_1 (E : zEnv) (a : Nat → Nat) (S : St) : ([0, 1] : List Nat).map (fun i => (wTapeTown E a S)[i]?) = (wTape E a (sb 0 S)).map some := rfl
set_option maxHeartbeats 4000000 in
theorem wl_X3_housesLine_2 (E : zEnv) (a : Nat → Nat) (S U : St) : (wTape E a U).map (fun q => q.1) = (wTape E a S).map (fun q => q.1) := rfl
set_option maxHeartbeats 4000000 in
theorem wl_X3_housesLine_3 (E : zEnv) (a : Nat → Nat) (S U : St) : (wTapeTown E a (pt 0 16 U S)) = zrep [0, 1] (wTape E a U) (wTapeTown E a S) := zrep_of (isR := [2, 3, 4, 5, 6, 7, 8, 9, 10, 11, 12, 13, 14, 15, 16, 17]) 18 rfl [some (a 2, .inr (5, [.int (S 16 0), .int (S 17 0), .int (S 18 0), .ref (a 3), .ref (a 4), .ref (a 5), .ref (a 6), .int (S 23 0), .ref (a 7), .ref (a 8), .ref (a 9), .int (S 27 0), .ref (a 10), .ref (a 11), .ref (a 12), .ref (a 13)])), some (a 3, .inl (zI E, 14, .inl (S 19))), some (a 4, .inl (zI E, 14, .inl (S 20))), some (a 5, .inl (zI E, 14, .inl (S 21))), some (a 6, .inl (zI E, 14, .inl (S 22))), some (a 7, .inl (zI E, 12, .inl (S 24))), some (a 8, .inl (zI E, 12, .inl (S 25))), some (a 9, .inl (zI E, 12, .inl (S 26))), some (a 10, .inl (zI E, 4, .inl (S 28))), some (a 11, .inl (zI E, 4, .inl (S 29))), some (a 12, .inl (zI E, 4, .inl (S 30))), some (a 13, .inr (2, [.ref (a 14), .ref (a 15), .ref (a 16), .ref (a 17)])), some (a 14, .inl (zI E, 8, .inl (S 32))), some (a 15, .inl (zI E, 8, .inl (S 33))), some (a 16, .inl (zI E, 8, .inl (S 34))), some (a 17, .inl (zI E, 8, .inl (S 35)))] rfl rfl rfl rfl (by decide +kernel) (by decide +kernel)
set_option maxHeartbeats 4000000 in
theorem wl_X3_housesLine_4 (E : zEnv) (a : Nat → Nat) (S : St) (v : Int32) : (wTapeTown E a (st 16 (fun _ => v) S)) = (wTapeTown E a S).set 2 (a 2, .inr (5, List.set [.int (S 16 0), .int (S 17 0), .int (S 18 0), .ref (a 3), .ref (a 4), .ref (a 5), .ref (a 6), .int (S 23 0), .ref (a 7), .ref (a 8), .ref (a 9), .int (S 27 0), .ref (a 10), .ref (a 11), .ref (a 12), .ref (a 13)] 0 (.int v))) := rfl
noncomputable def f_X3_housesLine (S : St) : Option (Int32 × St) := (if (S 10 0) = 0 then ((f_X3_figure (1 : Int32) (8 : Int32) (sb 0 (st 10 (fun _ => (1 : Int32)) S))).bind (fun q1 => (if q1.1 = 0 then (some ((0 : Int32), (pt 0 16 q1.2 (st 10 (fun _ => (1 : Int32)) S)))) else ((f_X3_sign (sb 0 (st 16 (fun _ => (q1.2 8 0)) (pt 0 16 q1.2 (st 10 (fun _ => (1 : Int32)) S))))).bind (fun q2 => (zb q2.1 (some (q2.1, (pt 0 16 q2.2 (st 16 (fun _ => (q1.2 8 0)) (pt 0 16 q1.2 (st 10 (fun _ => (1 : Int32)) S)))))))))))) else ((f_X3_fail (4 : Int32) (S 7 0) (sb 0 S)).bind (fun q3 => (zb q3.1 (some (q3.1, (pt 0 16 q3.2 S)))))))
set_option maxHeartbeats 4000000 in
set_option maxRecDepth 100000 in
theorem L_X3_housesLine {E : zEnv} {Γ : zG} (a : Nat → Nat) (C : zC E Γ cX3_housesLine RX3 2 rm_X3_housesLine wsX3_housesLine) {res : (Int32 × St)} (R : zRi E Γ cX3_housesLine 2 .boolean (wTapeTown E a res.2) res.1) (S : St) (h : f_X3_housesLine S = some res) : Zt E Γ 2 0 0 (wTapeTown E a S) [(0, .ref (a 0)), (1, .ref (a 2))] 0 [] := by
  unfold f_X3_housesLine at h
  refine z_aload_n C 0 rfl rfl dX3_housesLine_0 ?_
  refine z_get C 0 rfl (C := RX3) (T := TX3) (N := 12) (ci := 3) rfl inw_X3_housesLine_X3 10 (by decide) (ref := "EldestAge$Tape") (List.mem_of_getElem? (i := 1) rfl) rfl (v := .int (S 10 0)) rfl dX3_housesLine_1 ?_
  refine z_if_eq C 17 (by decide) h dX3_housesLine_4 (fun hc h => ?_) (fun hc h => ?_)
  · refine z_aload_n C 0 rfl rfl dX3_housesLine_17 ?_
    refine z_iconst C (v := (1 : Int32)) (by decide) dX3_housesLine_18 ?_
    refine z_put C 0 rfl (C := RX3) (T := TX3) (N := 12) (ci := 3) rfl inw_X3_housesLine_X3 tyX3 tyX3_ok nmX3 10 (by decide) (ref := "EldestAge$Tape") (List.mem_of_getElem? (i := 1) rfl) rfl rfl (ty := .boolean) (v := .int (1 : Int32)) (by decide +kernel) (by decide +kernel) rfl (Nat.le_of_ble_eq_true rfl) (wTapeTown E a (st 10 (fun _ => (1 : Int32)) S)) (wl_X3_housesLine_0 E a S (1 : Int32)) dX3_housesLine_19 ?_
    refine z_aload_n C 0 rfl rfl dX3_housesLine_22 ?_
    refine z_iconst C (v := (1 : Int32)) (by decide) dX3_housesLine_23 ?_
    refine z_bipush C (v := (8 : Int32)) (by decide) dX3_housesLine_24 ?_
    obtain ⟨q1, e1, h⟩ := bd_e h
    refine z_callVi C (b := a 0) (As := [.int (1 : Int32), .int (8 : Int32)]) (rest := []) (c_X3_figure E a (1 : Int32) (8 : Int32) (sb 0 (st 10 (fun _ => (1 : Int32)) S)) e1) rfl gX3_housesLine_X3_figure rfl rfl rfl 2 rfl (by decide +kernel) ⟨Nat.le_of_ble_eq_true rfl, Nat.le_of_ble_eq_true rfl⟩ [0, 1] (wl_X3_housesLine_1 E a (st 10 (fun _ => (1 : Int32)) S)) (by decide) (wl_X3_housesLine_2 E a _ _) (wTapeTown E a (pt 0 16 q1.2 (st 10 (fun _ => (1 : Int32)) S))) (wl_X3_housesLine_3 E a (st 10 (fun _ => (1 : Int32)) S) q1.2) 0 3 rfl rfl rfl (Nat.le_of_ble_eq_true rfl) dX3_housesLine_26 ⟨Nat.zero_le _, Nat.zero_le _⟩ _ rfl ?_
    refine z_if_ne C 34 (by decide) h dX3_housesLine_29 (fun hc h => ?_) (fun hc h => ?_)
    · refine z_iconst C (v := (0 : Int32)) (by decide) dX3_housesLine_32 ?_
      obtain rfl := Option.some.inj h
      exact R z_n0 33 _ dX3_housesLine_33
    · refine z_aload_n C 1 rfl rfl dX3_housesLine_34 ?_
      refine z_aload_n C 0 rfl rfl dX3_housesLine_35 ?_
      refine z_get C 0 rfl (C := RX3) (T := TX3) (N := 12) (ci := 3) rfl inw_X3_housesLine_X3 8 (by decide) (ref := "EldestAge$Tape") (List.mem_of_getElem? (i := 3) rfl) rfl (v := .int (q1.2 8 0)) rfl dX3_housesLine_36 ?_
      refine z_put C 2 rfl (C := RX5) (T := TX5) (N := 16) (ci := 5) rfl inw_X3_housesLine_X5 tyX5 tyX5_ok nmX5 0 (by decide) (ref := "EldestAge$Town") (List.mem_of_getElem? (i := 4) rfl) rfl rfl (ty := .int) (v := .int (q1.2 8 0)) (by decide +kernel) rfl rfl (Nat.le_of_ble_eq_true rfl) (wTapeTown E a (st 16 (fun _ => (q1.2 8 0)) (pt 0 16 q1.2 (st 10 (fun _ => (1 : Int32)) S)))) (wl_X3_housesLine_4 E a (pt 0 16 q1.2 (st 10 (fun _ => (1 : Int32)) S)) (q1.2 8 0)) dX3_housesLine_39 ?_
      refine z_aload_n C 0 rfl rfl dX3_housesLine_42 ?_
      obtain ⟨q2, e2, h⟩ := bd_e h
      refine z_callVi C (b := a 0) (As := []) (rest := []) (c_X3_sign E a (sb 0 (st 16 (fun _ => (q1.2 8 0)) (pt 0 16 q1.2 (st 10 (fun _ => (1 : Int32)) S)))) e2) rfl gX3_housesLine_X3_sign rfl rfl rfl 0 rfl (by decide +kernel) ⟨Nat.le_of_ble_eq_true rfl, Nat.le_of_ble_eq_true rfl⟩ [0, 1] (wl_X3_housesLine_1 E a (st 16 (fun _ => (q1.2 8 0)) (pt 0 16 q1.2 (st 10 (fun _ => (1 : Int32)) S)))) (by decide) (wl_X3_housesLine_2 E a _ _) (wTapeTown E a (pt 0 16 q2.2 (st 16 (fun _ => (q1.2 8 0)) (pt 0 16 q1.2 (st 10 (fun _ => (1 : Int32)) S))))) (wl_X3_housesLine_3 E a (st 16 (fun _ => (q1.2 8 0)) (pt 0 16 q1.2 (st 10 (fun _ => (1 : Int32)) S))) q2.2) 0 3 rfl rfl rfl (Nat.le_of_ble_eq_true rfl) dX3_housesLine_43 ⟨Nat.zero_le _, Nat.zero_le _⟩ _ rfl ?_
      have hz := zb_n (zb_e h).1
      replace h := (zb_e h).2
      obtain rfl := Option.some.inj h
      exact R hz 46 _ dX3_housesLine_46
  · refine z_aload_n C 0 rfl rfl dX3_housesLine_7 ?_
    refine z_iconst C (v := (4 : Int32)) (by decide) dX3_housesLine_8 ?_
    refine z_aload_n C 0 rfl rfl dX3_housesLine_9 ?_
    refine z_get C 0 rfl (C := RX3) (T := TX3) (N := 12) (ci := 3) rfl inw_X3_housesLine_X3 7 (by decide) (ref := "EldestAge$Tape") (List.mem_of_getElem? (i := 2) rfl) rfl (v := .int (S 7 0)) rfl dX3_housesLine_10 ?_
    obtain ⟨q3, e3, h⟩ := bd_e h
    refine z_callVi C (b := a 0) (As := [.int (4 : Int32), .int (S 7 0)]) (rest := []) (c_X3_fail E a (4 : Int32) (S 7 0) (sb 0 S) e3) rfl gX3_housesLine_X3_fail rfl rfl rfl 2 rfl (by decide +kernel) ⟨Nat.le_of_ble_eq_true rfl, Nat.le_of_ble_eq_true rfl⟩ [0, 1] (wl_X3_housesLine_1 E a S) (by decide) (wl_X3_housesLine_2 E a _ _) (wTapeTown E a (pt 0 16 q3.2 S)) (wl_X3_housesLine_3 E a S q3.2) 0 3 rfl rfl rfl (Nat.le_of_ble_eq_true rfl) dX3_housesLine_13 ⟨Nat.zero_le _, Nat.zero_le _⟩ _ rfl ?_
    have hz := zb_n (zb_e h).1
    replace h := (zb_e h).2
    obtain rfl := Option.some.inj h
    exact R hz 16 _ dX3_housesLine_16

theorem c_X3_housesLine (E : zEnv) (a : Nat → Nat) (S : St) {res : (Int32 × St)} (h : f_X3_housesLine S = some res) : Kti E yX3_housesLine wsX3_housesLine rm_X3_housesLine (wTapeTown E a S) (wTapeTown E a res.2) [.ref (a 0), .ref (a 2)] res.1 :=
  z_enti (cc := cX3_housesLine) (maxL := 2) (rt := .boolean) (by decide +kernel) rfl (Nat.le_of_ble_eq_true rfl) (fun Γ C R => L_X3_housesLine a C R S h)

abbrev rm_X3_lawLine : Room := { frames := 6, cells := 0, slots := 0, locals := 127 }
theorem inw_X3_lawLine_X3 : ∀ w ∈ wsX30, w ∈ wsX3_lawLine := fun _ h => List.mem_cons_of_mem _ (List.mem_append_left _ (List.mem_append_right _ h))
theorem inw_X3_lawLine_X5 : ∀ w ∈ wsX50, w ∈ wsX3_lawLine := fun _ h => List.mem_cons_of_mem _ (List.mem_append_right _ h)
set_option maxHeartbeats 4000000 in
theorem wl_X3_lawLine_0 (E : zEnv) (a : Nat → Nat) (S : St) (v : Int32) : (wTapeTown E a (st 11 (fun _ => v) S)) = (wTapeTown E a S).set 0 (a 0, .inr (3, List.set [.ref (a 1), .int (S 1 0), .int (S 2 0), .int (S 3 0), .int (S 4 0), .int (S 5 0), .int (S 6 0), .int (S 7 0), .int (S 8 0), .int (S 9 0), .int (S 10 0), .int (S 11 0)] 11 (.int v))) := rfl
set_option maxHeartbeats 4000000 in
theorem wl_X3_lawLine_1 (E : zEnv) (a : Nat → Nat) (S : St) : ([0, 1] : List Nat).map (fun i => (wTapeTown E a S)[i]?) = (wTape E a (sb 0 S)).map some := rfl
set_option maxHeartbeats 4000000 in
theorem wl_X3_lawLine_2 (E : zEnv) (a : Nat → Nat) (S U : St) : (wTape E a U).map (fun q => q.1) = (wTape E a S).map (fun q => q.1) := rfl
set_option maxHeartbeats 4000000 in
theorem wl_X3_lawLine_3 (E : zEnv) (a : Nat → Nat) (S U : St) : (wTapeTown E a (pt 0 16 U S)) = zrep [0, 1] (wTape E a U) (wTapeTown E a S) := zrep_of (isR := [2, 3, 4, 5, 6, 7, 8, 9, 10, 11, 12, 13, 14, 15, 16, 17]) 18 rfl [some (a 2, .inr (5, [.int (S 16 0), .int (S 17 0), .int (S 18 0), .ref (a 3), .ref (a 4), .ref (a 5), .ref (a 6), .int (S 23 0), .ref (a 7), .ref (a 8), .ref (a 9), .int (S 27 0), .ref (a 10), .ref (a 11), .ref (a 12), .ref (a 13)])), some (a 3, .inl (zI E, 14, .inl (S 19))), some (a 4, .inl (zI E, 14, .inl (S 20))), some (a 5, .inl (zI E, 14, .inl (S 21))), some (a 6, .inl (zI E, 14, .inl (S 22))), some (a 7, .inl (zI E, 12, .inl (S 24))), some (a 8, .inl (zI E, 12, .inl (S 25))), some (a 9, .inl (zI E, 12, .inl (S 26))), some (a 10, .inl (zI E, 4, .inl (S 28))), some (a 11, .inl (zI E, 4, .inl (S 29))), some (a 12, .inl (zI E, 4, .inl (S 30))), some (a 13, .inr (2, [.ref (a 14), .ref (a 15), .ref (a 16), .ref (a 17)])), some (a 14, .inl (zI E, 8, .inl (S 32))), some (a 15, .inl (zI E, 8, .inl (S 33))), some (a 16, .inl (zI E, 8, .inl (S 34))), some (a 17, .inl (zI E, 8, .inl (S 35)))] rfl rfl rfl rfl (by decide +kernel) (by decide +kernel)
set_option maxHeartbeats 4000000 in
theorem wl_X3_lawLine_4 (E : zEnv) (a : Nat → Nat) (S : St) (v : Int32) : (wTapeTown E a (st 17 (fun _ => v) S)) = (wTapeTown E a S).set 2 (a 2, .inr (5, List.set [.int (S 16 0), .int (S 17 0), .int (S 18 0), .ref (a 3), .ref (a 4), .ref (a 5), .ref (a 6), .int (S 23 0), .ref (a 7), .ref (a 8), .ref (a 9), .int (S 27 0), .ref (a 10), .ref (a 11), .ref (a 12), .ref (a 13)] 1 (.int v))) := rfl
noncomputable def f_X3_lawLine (S : St) : Option (Int32 × St) := (if (S 11 0) = 0 then ((f_X3_next (sb 0 (st 11 (fun _ => (1 : Int32)) S))).bind (fun q1 => (if q1.1 = 0 then (some ((0 : Int32), (pt 0 16 q1.2 (st 11 (fun _ => (1 : Int32)) S)))) else ((f_X3_lawNamed (sb 0 (pt 0 16 q1.2 (st 11 (fun _ => (1 : Int32)) S)))).bind (fun q2 => (if q2 = (-4 : Int32) then ((f_X3_fail (2 : Int32) (q1.2 7 0) (sb 0 (st 17 (fun _ => q2) (pt 0 16 q1.2 (st 11 (fun _ => (1 : Int32)) S))))).bind (fun q3 => (zb q3.1 (some (q3.1, (pt 0 16 q3.2 (st 17 (fun _ => q2) (pt 0 16 q1.2 (st 11 (fun _ => (1 : Int32)) S))))))))) else ((f_X3_sign (sb 0 (st 17 (fun _ => q2) (pt 0 16 q1.2 (st 11 (fun _ => (1 : Int32)) S))))).bind (fun q4 => (zb q4.1 (some (q4.1, (pt 0 16 q4.2 (st 17 (fun _ => q2) (pt 0 16 q1.2 (st 11 (fun _ => (1 : Int32)) S))))))))))))))) else ((f_X3_fail (4 : Int32) (S 7 0) (sb 0 S)).bind (fun q5 => (zb q5.1 (some (q5.1, (pt 0 16 q5.2 S)))))))
set_option maxHeartbeats 4000000 in
set_option maxRecDepth 100000 in
theorem L_X3_lawLine {E : zEnv} {Γ : zG} (a : Nat → Nat) (C : zC E Γ cX3_lawLine RX3 2 rm_X3_lawLine wsX3_lawLine) {res : (Int32 × St)} (R : zRi E Γ cX3_lawLine 2 .boolean (wTapeTown E a res.2) res.1) (S : St) (h : f_X3_lawLine S = some res) : Zt E Γ 2 0 0 (wTapeTown E a S) [(0, .ref (a 0)), (1, .ref (a 2))] 0 [] := by
  unfold f_X3_lawLine at h
  refine z_aload_n C 0 rfl rfl dX3_lawLine_0 ?_
  refine z_get C 0 rfl (C := RX3) (T := TX3) (N := 12) (ci := 3) rfl inw_X3_lawLine_X3 11 (by decide) (ref := "EldestAge$Tape") (List.mem_of_getElem? (i := 1) rfl) rfl (v := .int (S 11 0)) rfl dX3_lawLine_1 ?_
  refine z_if_eq C 17 (by decide) h dX3_lawLine_4 (fun hc h => ?_) (fun hc h => ?_)
  · refine z_aload_n C 0 rfl rfl dX3_lawLine_17 ?_
    refine z_iconst C (v := (1 : Int32)) (by decide) dX3_lawLine_18 ?_
    refine z_put C 0 rfl (C := RX3) (T := TX3) (N := 12) (ci := 3) rfl inw_X3_lawLine_X3 tyX3 tyX3_ok nmX3 11 (by decide) (ref := "EldestAge$Tape") (List.mem_of_getElem? (i := 1) rfl) rfl rfl (ty := .boolean) (v := .int (1 : Int32)) (by decide +kernel) (by decide +kernel) rfl (Nat.le_of_ble_eq_true rfl) (wTapeTown E a (st 11 (fun _ => (1 : Int32)) S)) (wl_X3_lawLine_0 E a S (1 : Int32)) dX3_lawLine_19 ?_
    refine z_aload_n C 0 rfl rfl dX3_lawLine_22 ?_
    obtain ⟨q1, e1, h⟩ := bd_e h
    refine z_callVi C (b := a 0) (As := []) (rest := []) (c_X3_next E a (sb 0 (st 11 (fun _ => (1 : Int32)) S)) e1) rfl gX3_lawLine_X3_next rfl rfl rfl 0 rfl (by decide +kernel) ⟨Nat.le_of_ble_eq_true rfl, Nat.le_of_ble_eq_true rfl⟩ [0, 1] (wl_X3_lawLine_1 E a (st 11 (fun _ => (1 : Int32)) S)) (by decide) (wl_X3_lawLine_2 E a _ _) (wTapeTown E a (pt 0 16 q1.2 (st 11 (fun _ => (1 : Int32)) S))) (wl_X3_lawLine_3 E a (st 11 (fun _ => (1 : Int32)) S) q1.2) 0 3 rfl rfl rfl (Nat.le_of_ble_eq_true rfl) dX3_lawLine_23 ⟨Nat.zero_le _, Nat.zero_le _⟩ _ rfl ?_
    refine z_if_ne C 31 (by decide) h dX3_lawLine_26 (fun hc h => ?_) (fun hc h => ?_)
    · refine z_iconst C (v := (0 : Int32)) (by decide) dX3_lawLine_29 ?_
      obtain rfl := Option.some.inj h
      exact R z_n0 30 _ dX3_lawLine_30
    · refine z_aload_n C 1 rfl rfl dX3_lawLine_31 ?_
      refine z_aload_n C 0 rfl rfl dX3_lawLine_32 ?_
      obtain ⟨q2, e2, h⟩ := bd_e h
      refine z_callVi C (b := a 0) (As := []) (rest := [.ref (a 2)]) (c_X3_lawNamed E a (sb 0 (pt 0 16 q1.2 (st 11 (fun _ => (1 : Int32)) S))) e2) rfl gX3_lawLine_X3_lawNamed rfl rfl rfl 0 rfl (by decide +kernel) ⟨Nat.le_of_ble_eq_true rfl, Nat.le_of_ble_eq_true rfl⟩ [0, 1] (wl_X3_lawLine_1 E a (pt 0 16 q1.2 (st 11 (fun _ => (1 : Int32)) S))) (by decide) rfl (wTapeTown E a (pt 0 16 q1.2 (st 11 (fun _ => (1 : Int32)) S))) (zrep_self (wl_X3_lawLine_1 E a (pt 0 16 q1.2 (st 11 (fun _ => (1 : Int32)) S)))) 0 3 rfl rfl rfl (Nat.le_of_ble_eq_true rfl) dX3_lawLine_33 ⟨Nat.zero_le _, Nat.zero_le _⟩ _ rfl ?_
      refine z_put C 2 rfl (C := RX5) (T := TX5) (N := 16) (ci := 5) rfl inw_X3_lawLine_X5 tyX5 tyX5_ok nmX5 1 (by decide) (ref := "EldestAge$Town") (List.mem_of_getElem? (i := 3) rfl) rfl rfl (ty := .int) (v := .int q2) (by decide +kernel) rfl rfl (Nat.le_of_ble_eq_true rfl) (wTapeTown E a (st 17 (fun _ => q2) (pt 0 16 q1.2 (st 11 (fun _ => (1 : Int32)) S)))) (wl_X3_lawLine_4 E a (pt 0 16 q1.2 (st 11 (fun _ => (1 : Int32)) S)) q2) dX3_lawLine_36 ?_
      refine z_aload_n C 1 rfl rfl dX3_lawLine_39 ?_
      refine z_get C 2 rfl (C := RX5) (T := TX5) (N := 16) (ci := 5) rfl inw_X3_lawLine_X5 1 (by decide) (ref := "EldestAge$Town") (List.mem_of_getElem? (i := 3) rfl) rfl (v := .int q2) rfl dX3_lawLine_40 ?_
      refine z_bipush C (v := (-4 : Int32)) (by decide) dX3_lawLine_43 ?_
      refine z_icmp_ne C 60 (by decide) h dX3_lawLine_45 (fun hc h => ?_) (fun hc h => ?_)
      · refine z_aload_n C 0 rfl rfl dX3_lawLine_48 ?_
        refine z_iconst C (v := (2 : Int32)) (by decide) dX3_lawLine_49 ?_
        refine z_aload_n C 0 rfl rfl dX3_lawLine_50 ?_
        refine z_get C 0 rfl (C := RX3) (T := TX3) (N := 12) (ci := 3) rfl inw_X3_lawLine_X3 7 (by decide) (ref := "EldestAge$Tape") (List.mem_of_getElem? (i := 2) rfl) rfl (v := .int (q1.2 7 0)) rfl dX3_lawLine_51 ?_
        obtain ⟨q3, e3, h⟩ := bd_e h
        refine z_callVi C (b := a 0) (As := [.int (2 : Int32), .int (q1.2 7 0)]) (rest := []) (c_X3_fail E a (2 : Int32) (q1.2 7 0) (sb 0 (st 17 (fun _ => q2) (pt 0 16 q1.2 (st 11 (fun _ => (1 : Int32)) S)))) e3) rfl gX3_lawLine_X3_fail rfl rfl rfl 2 rfl (by decide +kernel) ⟨Nat.le_of_ble_eq_true rfl, Nat.le_of_ble_eq_true rfl⟩ [0, 1] (wl_X3_lawLine_1 E a (st 17 (fun _ => q2) (pt 0 16 q1.2 (st 11 (fun _ => (1 : Int32)) S)))) (by decide) (wl_X3_lawLine_2 E a _ _) (wTapeTown E a (pt 0 16 q3.2 (st 17 (fun _ => q2) (pt 0 16 q1.2 (st 11 (fun _ => (1 : Int32)) S))))) (wl_X3_lawLine_3 E a (st 17 (fun _ => q2) (pt 0 16 q1.2 (st 11 (fun _ => (1 : Int32)) S))) q3.2) 0 3 rfl rfl rfl (Nat.le_of_ble_eq_true rfl) dX3_lawLine_54 ⟨Nat.zero_le _, Nat.zero_le _⟩ _ rfl ?_
        refine z_goto C 64 (by decide) dX3_lawLine_57 ?_
        have hz := zb_n (zb_e h).1
        replace h := (zb_e h).2
        obtain rfl := Option.some.inj h
        exact R hz 64 _ dX3_lawLine_64
      · refine z_aload_n C 0 rfl rfl dX3_lawLine_60 ?_
        obtain ⟨q4, e4, h⟩ := bd_e h
        refine z_callVi C (b := a 0) (As := []) (rest := []) (c_X3_sign E a (sb 0 (st 17 (fun _ => q2) (pt 0 16 q1.2 (st 11 (fun _ => (1 : Int32)) S)))) e4) rfl gX3_lawLine_X3_sign rfl rfl rfl 0 rfl (by decide +kernel) ⟨Nat.le_of_ble_eq_true rfl, Nat.le_of_ble_eq_true rfl⟩ [0, 1] (wl_X3_lawLine_1 E a (st 17 (fun _ => q2) (pt 0 16 q1.2 (st 11 (fun _ => (1 : Int32)) S)))) (by decide) (wl_X3_lawLine_2 E a _ _) (wTapeTown E a (pt 0 16 q4.2 (st 17 (fun _ => q2) (pt 0 16 q1.2 (st 11 (fun _ => (1 : Int32)) S))))) (wl_X3_lawLine_3 E a (st 17 (fun _ => q2) (pt 0 16 q1.2 (st 11 (fun _ => (1 : Int32)) S))) q4.2) 0 3 rfl rfl rfl (Nat.le_of_ble_eq_true rfl) dX3_lawLine_61 ⟨Nat.zero_le _, Nat.zero_le _⟩ _ rfl ?_
        have hz := zb_n (zb_e h).1
        replace h := (zb_e h).2
        obtain rfl := Option.some.inj h
        exact R hz 64 _ dX3_lawLine_64
  · refine z_aload_n C 0 rfl rfl dX3_lawLine_7 ?_
    refine z_iconst C (v := (4 : Int32)) (by decide) dX3_lawLine_8 ?_
    refine z_aload_n C 0 rfl rfl dX3_lawLine_9 ?_
    refine z_get C 0 rfl (C := RX3) (T := TX3) (N := 12) (ci := 3) rfl inw_X3_lawLine_X3 7 (by decide) (ref := "EldestAge$Tape") (List.mem_of_getElem? (i := 2) rfl) rfl (v := .int (S 7 0)) rfl dX3_lawLine_10 ?_
    obtain ⟨q5, e5, h⟩ := bd_e h
    refine z_callVi C (b := a 0) (As := [.int (4 : Int32), .int (S 7 0)]) (rest := []) (c_X3_fail E a (4 : Int32) (S 7 0) (sb 0 S) e5) rfl gX3_lawLine_X3_fail rfl rfl rfl 2 rfl (by decide +kernel) ⟨Nat.le_of_ble_eq_true rfl, Nat.le_of_ble_eq_true rfl⟩ [0, 1] (wl_X3_lawLine_1 E a S) (by decide) (wl_X3_lawLine_2 E a _ _) (wTapeTown E a (pt 0 16 q5.2 S)) (wl_X3_lawLine_3 E a S q5.2) 0 3 rfl rfl rfl (Nat.le_of_ble_eq_true rfl) dX3_lawLine_13 ⟨Nat.zero_le _, Nat.zero_le _⟩ _ rfl ?_
    have hz := zb_n (zb_e h).1
    replace h := (zb_e h).2
    obtain rfl := Option.some.inj h
    exact R hz 16 _ dX3_lawLine_16

theorem c_X3_lawLine (E : zEnv) (a : Nat → Nat) (S : St) {res : (Int32 × St)} (h : f_X3_lawLine S = some res) : Kti E yX3_lawLine wsX3_lawLine rm_X3_lawLine (wTapeTown E a S) (wTapeTown E a res.2) [.ref (a 0), .ref (a 2)] res.1 :=
  z_enti (cc := cX3_lawLine) (maxL := 2) (rt := .boolean) (by decide +kernel) rfl (Nat.le_of_ble_eq_true rfl) (fun Γ C R => L_X3_lawLine a C R S h)

abbrev rm_X3_oneLine : Room := { frames := 6, cells := 0, slots := 0, locals := 127 }
theorem inw_X3_oneLine_X5 : ∀ w ∈ wsX50, w ∈ wsX3_oneLine := fun _ h => List.mem_cons_of_mem _ (List.mem_append_left _ (List.mem_append_right _ h))
theorem inw_X3_oneLine_X3 : ∀ w ∈ wsX30, w ∈ wsX3_oneLine := fun _ h => List.mem_cons_of_mem _ (List.mem_append_right _ h)
set_option maxHeartbeats 4000000 in
theorem wl_X3_oneLine_0 (E : zEnv) (a : Nat → Nat) (S : St) : ([0, 1] : List Nat).map (fun i => (wTapeTown E a S)[i]?) = (wTape E a (sb 0 S)).map some := rfl
set_option maxHeartbeats 4000000 in
theorem wl_X3_oneLine_1 (E : zEnv) (a : Nat → Nat) (S U : St) : (wTape E a U).map (fun q => q.1) = (wTape E a S).map (fun q => q.1) := rfl
set_option maxHeartbeats 4000000 in
theorem wl_X3_oneLine_2 (E : zEnv) (a : Nat → Nat) (S U : St) : (wTapeTown E a (pt 0 16 U S)) = zrep [0, 1] (wTape E a U) (wTapeTown E a S) := zrep_of (isR := [2, 3, 4, 5, 6, 7, 8, 9, 10, 11, 12, 13, 14, 15, 16, 17]) 18 rfl [some (a 2, .inr (5, [.int (S 16 0), .int (S 17 0), .int (S 18 0), .ref (a 3), .ref (a 4), .ref (a 5), .ref (a 6), .int (S 23 0), .ref (a 7), .ref (a 8), .ref (a 9), .int (S 27 0), .ref (a 10), .ref (a 11), .ref (a 12), .ref (a 13)])), some (a 3, .inl (zI E, 14, .inl (S 19))), some (a 4, .inl (zI E, 14, .inl (S 20))), some (a 5, .inl (zI E, 14, .inl (S 21))), some (a 6, .inl (zI E, 14, .inl (S 22))), some (a 7, .inl (zI E, 12, .inl (S 24))), some (a 8, .inl (zI E, 12, .inl (S 25))), some (a 9, .inl (zI E, 12, .inl (S 26))), some (a 10, .inl (zI E, 4, .inl (S 28))), some (a 11, .inl (zI E, 4, .inl (S 29))), some (a 12, .inl (zI E, 4, .inl (S 30))), some (a 13, .inr (2, [.ref (a 14), .ref (a 15), .ref (a 16), .ref (a 17)])), some (a 14, .inl (zI E, 8, .inl (S 32))), some (a 15, .inl (zI E, 8, .inl (S 33))), some (a 16, .inl (zI E, 8, .inl (S 34))), some (a 17, .inl (zI E, 8, .inl (S 35)))] rfl rfl rfl rfl (by decide +kernel) (by decide +kernel)
set_option maxHeartbeats 4000000 in
theorem wl_X3_oneLine_3 (E : zEnv) (a : Nat → Nat) (S : St) : ([2, 3, 4, 5, 6, 7, 8, 9, 10, 11, 12, 13, 14, 15, 16, 17] : List Nat).map (fun i => (wTapeTown E a S)[i]?) = (wTown E (fun k => a (2 + k)) (sb 16 S)).map some := rfl
set_option maxHeartbeats 4000000 in
theorem wl_X3_oneLine_4 (E : zEnv) (a : Nat → Nat) (S U : St) : (wTown E (fun k => a (2 + k)) U).map (fun q => q.1) = (wTown E (fun k => a (2 + k)) S).map (fun q => q.1) := rfl
set_option maxHeartbeats 4000000 in
theorem wl_X3_oneLine_5 (E : zEnv) (a : Nat → Nat) (S U : St) : (wTapeTown E a (pt 16 32 U S)) = zrep [2, 3, 4, 5, 6, 7, 8, 9, 10, 11, 12, 13, 14, 15, 16, 17] (wTown E (fun k => a (2 + k)) U) (wTapeTown E a S) := zrep_of (isR := [0, 1]) 18 rfl [some (a 0, .inr (3, [.ref (a 1), .int (S 1 0), .int (S 2 0), .int (S 3 0), .int (S 4 0), .int (S 5 0), .int (S 6 0), .int (S 7 0), .int (S 8 0), .int (S 9 0), .int (S 10 0), .int (S 11 0)])), some (a 1, .inl (zI E, 400, .inl (S 0)))] rfl rfl rfl rfl (by decide +kernel) (by decide +kernel)
noncomputable def f_X3_oneLine_175 (S : St) : Option (Int32 × St) := (some ((1 : Int32), S))
noncomputable def f_X3_oneLine (S : St) : Option (Int32 × St) := (if (S 18 0) < (10 : Int32) then ((f_X3_next (sb 0 S)).bind (fun q1 => (if q1.1 = 0 then (some ((0 : Int32), (pt 0 16 q1.2 S))) else ((f_X3_kindNamed (sb 0 (pt 0 16 q1.2 S))).bind (fun q2 => (if q2 = (-4 : Int32) then ((f_X3_fail (2 : Int32) (q1.2 7 0) (sb 0 (pt 0 16 q1.2 S))).bind (fun q3 => (zb q3.1 (some (q3.1, (pt 0 16 q3.2 (pt 0 16 q1.2 S))))))) else ((f_X3_date (sb 0 (pt 0 16 q1.2 S))).bind (fun q4 => (if q4.1 = 0 then (some ((0 : Int32), (pt 0 16 q4.2 (pt 0 16 q1.2 S)))) else ((f_X3_figure (0 : Int32) (7 : Int32) (sb 0 (pt 0 16 q4.2 (pt 0 16 q1.2 S)))).bind (fun q5 => (if q5.1 = 0 then (some ((0 : Int32), (pt 0 16 q5.2 (pt 0 16 q4.2 (pt 0 16 q1.2 S))))) else ((f_X3_next (sb 0 (pt 0 16 q5.2 (pt 0 16 q4.2 (pt 0 16 q1.2 S))))).bind (fun q6 => (if q6.1 = 0 then (some ((0 : Int32), (pt 0 16 q6.2 (pt 0 16 q5.2 (pt 0 16 q4.2 (pt 0 16 q1.2 S)))))) else ((f_X3_isName 5 (sb 0 (pt 0 16 q6.2 (pt 0 16 q5.2 (pt 0 16 q4.2 (pt 0 16 q1.2 S)))))).bind (fun q7 => (if q7 = 0 then ((f_X5_addOne q2 (q4.2 9 0) (q5.2 8 0) (36000 : Int32) (sb 16 (pt 0 16 q6.2 (pt 0 16 q5.2 (pt 0 16 q4.2 (pt 0 16 q1.2 S)))))).bind (fun q8 => (if (q6.2 6 0) = (3 : Int32) then (f_X3_oneLine_175 (pt 16 32 q8 (pt 0 16 q6.2 (pt 0 16 q5.2 (pt 0 16 q4.2 (pt 0 16 q1.2 S)))))) else ((f_X3_fail (2 : Int32) (q6.2 7 0) (sb 0 (pt 16 32 q8 (pt 0 16 q6.2 (pt 0 16 q5.2 (pt 0 16 q4.2 (pt 0 16 q1.2 S))))))).bind (fun q9 => (if q9.1 = 0 then (some ((0 : Int32), (pt 0 16 q9.2 (pt 16 32 q8 (pt 0 16 q6.2 (pt 0 16 q5.2 (pt 0 16 q4.2 (pt 0 16 q1.2 S)))))))) else (f_X3_oneLine_175 (pt 0 16 q9.2 (pt 16 32 q8 (pt 0 16 q6.2 (pt 0 16 q5.2 (pt 0 16 q4.2 (pt 0 16 q1.2 S))))))))))))) else ((f_X3_date (sb 0 (pt 0 16 q6.2 (pt 0 16 q5.2 (pt 0 16 q4.2 (pt 0 16 q1.2 S)))))).bind (fun q10 => (if q10.1 = 0 then (some ((0 : Int32), (pt 0 16 q10.2 (pt 0 16 q6.2 (pt 0 16 q5.2 (pt 0 16 q4.2 (pt 0 16 q1.2 S))))))) else ((f_X5_addOne q2 (q4.2 9 0) (q5.2 8 0) (q10.2 9 0) (sb 16 (pt 0 16 q10.2 (pt 0 16 q6.2 (pt 0 16 q5.2 (pt 0 16 q4.2 (pt 0 16 q1.2 S))))))).bind (fun q11 => (if (q4.2 9 0) < (q10.2 9 0) then ((f_X3_sign (sb 0 (pt 16 32 q11 (pt 0 16 q10.2 (pt 0 16 q6.2 (pt 0 16 q5.2 (pt 0 16 q4.2 (pt 0 16 q1.2 S)))))))).bind (fun q12 => (zb q12.1 (some (q12.1, (pt 0 16 q12.2 (pt 16 32 q11 (pt 0 16 q10.2 (pt 0 16 q6.2 (pt 0 16 q5.2 (pt 0 16 q4.2 (pt 0 16 q1.2 S)))))))))))) else ((f_X3_fail (4 : Int32) (q10.2 7 0) (sb 0 (pt 16 32 q11 (pt 0 16 q10.2 (pt 0 16 q6.2 (pt 0 16 q5.2 (pt 0 16 q4.2 (pt 0 16 q1.2 S)))))))).bind (fun q13 => (zb q13.1 (some (q13.1, (pt 0 16 q13.2 (pt 16 32 q11 (pt 0 16 q10.2 (pt 0 16 q6.2 (pt 0 16 q5.2 (pt 0 16 q4.2 (pt 0 16 q1.2 S)))))))))))))))))))))))))))))))))))) else ((f_X3_fail (5 : Int32) (S 7 0) (sb 0 S)).bind (fun q14 => (zb q14.1 (some (q14.1, (pt 0 16 q14.2 S)))))))
set_option maxHeartbeats 4000000 in
set_option maxRecDepth 100000 in
theorem L_X3_oneLine_175 {E : zEnv} {Γ : zG} (a : Nat → Nat) (C : zC E Γ cX3_oneLine RX3 5 rm_X3_oneLine wsX3_oneLine) {res : (Int32 × St)} (R : zRi E Γ cX3_oneLine 5 .boolean (wTapeTown E a res.2) res.1) (S : St) (h : f_X3_oneLine_175 S = some res) : Zt E Γ 5 0 0 (wTapeTown E a S) [] 175 [] := by
  unfold f_X3_oneLine_175 at h
  refine z_iconst C (v := (1 : Int32)) (by decide) dX3_oneLine_175 ?_
  refine z_goto C 180 (by decide) dX3_oneLine_176 ?_
  obtain rfl := Option.some.inj h
  exact R z_n1 180 _ dX3_oneLine_180

set_option maxHeartbeats 4000000 in
set_option maxRecDepth 100000 in
theorem L_X3_oneLine {E : zEnv} {Γ : zG} (a : Nat → Nat) (C : zC E Γ cX3_oneLine RX3 5 rm_X3_oneLine wsX3_oneLine) {res : (Int32 × St)} (R : zRi E Γ cX3_oneLine 5 .boolean (wTapeTown E a res.2) res.1) (S : St) (h : f_X3_oneLine S = some res) : Zt E Γ 5 0 0 (wTapeTown E a S) [(0, .ref (a 0)), (1, .ref (a 2))] 0 [] := by
  unfold f_X3_oneLine at h
  refine z_aload_n C 1 rfl rfl dX3_oneLine_0 ?_
  refine z_get C 2 rfl (C := RX5) (T := TX5) (N := 16) (ci := 5) rfl inw_X3_oneLine_X5 2 (by decide) (ref := "EldestAge$Town") (List.mem_of_getElem? (i := 1) rfl) rfl (v := .int (S 18 0)) rfl dX3_oneLine_1 ?_
  refine z_bipush C (v := (10 : Int32)) (by decide) dX3_oneLine_4 ?_
  refine z_icmp_lt C 19 (by decide) h dX3_oneLine_6 (fun hc h => ?_) (fun hc h => ?_)
  · refine z_aload_n C 0 rfl rfl dX3_oneLine_19 ?_
    obtain ⟨q1, e1, h⟩ := bd_e h
    refine z_callVi C (b := a 0) (As := []) (rest := []) (c_X3_next E a (sb 0 S) e1) rfl gX3_oneLine_X3_next rfl rfl rfl 0 rfl (by decide +kernel) ⟨Nat.le_of_ble_eq_true rfl, Nat.le_of_ble_eq_true rfl⟩ [0, 1] (wl_X3_oneLine_0 E a S) (by decide) (wl_X3_oneLine_1 E a _ _) (wTapeTown E a (pt 0 16 q1.2 S)) (wl_X3_oneLine_2 E a S q1.2) 0 3 rfl rfl rfl (Nat.le_of_ble_eq_true rfl) dX3_oneLine_20 ⟨Nat.zero_le _, Nat.zero_le _⟩ _ rfl ?_
    refine z_if_ne C 28 (by decide) h dX3_oneLine_23 (fun hc h => ?_) (fun hc h => ?_)
    · refine z_iconst C (v := (0 : Int32)) (by decide) dX3_oneLine_26 ?_
      obtain rfl := Option.some.inj h
      exact R z_n0 27 _ dX3_oneLine_27
    · refine z_aload_n C 0 rfl rfl dX3_oneLine_28 ?_
      obtain ⟨q2, e2, h⟩ := bd_e h
      refine z_callVi C (b := a 0) (As := []) (rest := []) (c_X3_kindNamed E a (sb 0 (pt 0 16 q1.2 S)) e2) rfl gX3_oneLine_X3_kindNamed rfl rfl rfl 0 rfl (by decide +kernel) ⟨Nat.le_of_ble_eq_true rfl, Nat.le_of_ble_eq_true rfl⟩ [0, 1] (wl_X3_oneLine_0 E a (pt 0 16 q1.2 S)) (by decide) rfl (wTapeTown E a (pt 0 16 q1.2 S)) (zrep_self (wl_X3_oneLine_0 E a (pt 0 16 q1.2 S))) 0 3 rfl rfl rfl (Nat.le_of_ble_eq_true rfl) dX3_oneLine_29 ⟨Nat.zero_le _, Nat.zero_le _⟩ _ rfl ?_
      refine z_istore_n C [(2, .int q2), (0, .ref (a 0)), (1, .ref (a 2))] rfl (by decide) rfl dX3_oneLine_32 ?_
      refine z_iload_n C 0 rfl rfl dX3_oneLine_33 ?_
      refine z_bipush C (v := (-4 : Int32)) (by decide) dX3_oneLine_34 ?_
      refine z_icmp_ne C 49 (by decide) h dX3_oneLine_36 (fun hc h => ?_) (fun hc h => ?_)
      · refine z_aload_n C 1 rfl rfl dX3_oneLine_39 ?_
        refine z_iconst C (v := (2 : Int32)) (by decide) dX3_oneLine_40 ?_
        refine z_aload_n C 1 rfl rfl dX3_oneLine_41 ?_
        refine z_get C 0 rfl (C := RX3) (T := TX3) (N := 12) (ci := 3) rfl inw_X3_oneLine_X3 7 (by decide) (ref := "EldestAge$Tape") (List.mem_of_getElem? (i := 2) rfl) rfl (v := .int (q1.2 7 0)) rfl dX3_oneLine_42 ?_
        obtain ⟨q3, e3, h⟩ := bd_e h
        refine z_callVi C (b := a 0) (As := [.int (2 : Int32), .int (q1.2 7 0)]) (rest := []) (c_X3_fail E a (2 : Int32) (q1.2 7 0) (sb 0 (pt 0 16 q1.2 S)) e3) rfl gX3_oneLine_X3_fail rfl rfl rfl 2 rfl (by decide +kernel) ⟨Nat.le_of_ble_eq_true rfl, Nat.le_of_ble_eq_true rfl⟩ [0, 1] (wl_X3_oneLine_0 E a (pt 0 16 q1.2 S)) (by decide) (wl_X3_oneLine_1 E a _ _) (wTapeTown E a (pt 0 16 q3.2 (pt 0 16 q1.2 S))) (wl_X3_oneLine_2 E a (pt 0 16 q1.2 S) q3.2) 0 3 rfl rfl rfl (Nat.le_of_ble_eq_true rfl) dX3_oneLine_45 ⟨Nat.zero_le _, Nat.zero_le _⟩ _ rfl ?_
        have hz := zb_n (zb_e h).1
        replace h := (zb_e h).2
        obtain rfl := Option.some.inj h
        exact R hz 48 _ dX3_oneLine_48
      · refine z_aload_n C 1 rfl rfl dX3_oneLine_49 ?_
        obtain ⟨q4, e4, h⟩ := bd_e h
        refine z_callVi C (b := a 0) (As := []) (rest := []) (c_X3_date E a (sb 0 (pt 0 16 q1.2 S)) e4) rfl gX3_oneLine_X3_date rfl rfl rfl 0 rfl (by decide +kernel) ⟨Nat.le_of_ble_eq_true rfl, Nat.le_of_ble_eq_true rfl⟩ [0, 1] (wl_X3_oneLine_0 E a (pt 0 16 q1.2 S)) (by decide) (wl_X3_oneLine_1 E a _ _) (wTapeTown E a (pt 0 16 q4.2 (pt 0 16 q1.2 S))) (wl_X3_oneLine_2 E a (pt 0 16 q1.2 S) q4.2) 0 3 rfl rfl rfl (Nat.le_of_ble_eq_true rfl) dX3_oneLine_50 ⟨Nat.zero_le _, Nat.zero_le _⟩ _ rfl ?_
        refine z_if_ne C 58 (by decide) h dX3_oneLine_53 (fun hc h => ?_) (fun hc h => ?_)
        · refine z_iconst C (v := (0 : Int32)) (by decide) dX3_oneLine_56 ?_
          obtain rfl := Option.some.inj h
          exact R z_n0 57 _ dX3_oneLine_57
        · refine z_aload_n C 1 rfl rfl dX3_oneLine_58 ?_
          refine z_get C 0 rfl (C := RX3) (T := TX3) (N := 12) (ci := 3) rfl inw_X3_oneLine_X3 9 (by decide) (ref := "EldestAge$Tape") (List.mem_of_getElem? (i := 3) rfl) rfl (v := .int (q4.2 9 0)) rfl dX3_oneLine_59 ?_
          refine z_istore_n C [(3, .int (q4.2 9 0)), (2, .int q2), (0, .ref (a 0)), (1, .ref (a 2))] rfl (by decide) rfl dX3_oneLine_62 ?_
          refine z_aload_n C 2 rfl rfl dX3_oneLine_63 ?_
          refine z_iconst C (v := (0 : Int32)) (by decide) dX3_oneLine_64 ?_
          refine z_bipush C (v := (7 : Int32)) (by decide) dX3_oneLine_65 ?_
          obtain ⟨q5, e5, h⟩ := bd_e h
          refine z_callVi C (b := a 0) (As := [.int (0 : Int32), .int (7 : Int32)]) (rest := []) (c_X3_figure E a (0 : Int32) (7 : Int32) (sb 0 (pt 0 16 q4.2 (pt 0 16 q1.2 S))) e5) rfl gX3_oneLine_X3_figure rfl rfl rfl 2 rfl (by decide +kernel) ⟨Nat.le_of_ble_eq_true rfl, Nat.le_of_ble_eq_true rfl⟩ [0, 1] (wl_X3_oneLine_0 E a (pt 0 16 q4.2 (pt 0 16 q1.2 S))) (by decide) (wl_X3_oneLine_1 E a _ _) (wTapeTown E a (pt 0 16 q5.2 (pt 0 16 q4.2 (pt 0 16 q1.2 S)))) (wl_X3_oneLine_2 E a (pt 0 16 q4.2 (pt 0 16 q1.2 S)) q5.2) 0 3 rfl rfl rfl (Nat.le_of_ble_eq_true rfl) dX3_oneLine_67 ⟨Nat.zero_le _, Nat.zero_le _⟩ _ rfl ?_
          refine z_if_ne C 75 (by decide) h dX3_oneLine_70 (fun hc h => ?_) (fun hc h => ?_)
          · refine z_iconst C (v := (0 : Int32)) (by decide) dX3_oneLine_73 ?_
            obtain rfl := Option.some.inj h
            exact R z_n0 74 _ dX3_oneLine_74
          · refine z_aload_n C 2 rfl rfl dX3_oneLine_75 ?_
            refine z_get C 0 rfl (C := RX3) (T := TX3) (N := 12) (ci := 3) rfl inw_X3_oneLine_X3 8 (by decide) (ref := "EldestAge$Tape") (List.mem_of_getElem? (i := 4) rfl) rfl (v := .int (q5.2 8 0)) rfl dX3_oneLine_76 ?_
            refine z_istore C [(4, .int (q5.2 8 0)), (3, .int (q4.2 9 0)), (2, .int q2), (0, .ref (a 0)), (1, .ref (a 2))] (by decide) rfl dX3_oneLine_79 ?_
            refine z_aload_n C 3 rfl rfl dX3_oneLine_81 ?_
            obtain ⟨q6, e6, h⟩ := bd_e h
            refine z_callVi C (b := a 0) (As := []) (rest := []) (c_X3_next E a (sb 0 (pt 0 16 q5.2 (pt 0 16 q4.2 (pt 0 16 q1.2 S)))) e6) rfl gX3_oneLine_X3_next rfl rfl rfl 0 rfl (by decide +kernel) ⟨Nat.le_of_ble_eq_true rfl, Nat.le_of_ble_eq_true rfl⟩ [0, 1] (wl_X3_oneLine_0 E a (pt 0 16 q5.2 (pt 0 16 q4.2 (pt 0 16 q1.2 S)))) (by decide) (wl_X3_oneLine_1 E a _ _) (wTapeTown E a (pt 0 16 q6.2 (pt 0 16 q5.2 (pt 0 16 q4.2 (pt 0 16 q1.2 S))))) (wl_X3_oneLine_2 E a (pt 0 16 q5.2 (pt 0 16 q4.2 (pt 0 16 q1.2 S))) q6.2) 0 3 rfl rfl rfl (Nat.le_of_ble_eq_true rfl) dX3_oneLine_82 ⟨Nat.zero_le _, Nat.zero_le _⟩ _ rfl ?_
            refine z_if_ne C 90 (by decide) h dX3_oneLine_85 (fun hc h => ?_) (fun hc h => ?_)
            · refine z_iconst C (v := (0 : Int32)) (by decide) dX3_oneLine_88 ?_
              obtain rfl := Option.some.inj h
              exact R z_n0 89 _ dX3_oneLine_89
            · refine z_aload_n C 3 rfl rfl dX3_oneLine_90 ?_
              refine z_ldcS C 5 rfl dX3_oneLine_91 ?_
              obtain ⟨q7, e7, h⟩ := bd_e h
              refine z_callVi C (b := a 0) (As := [.ref (E.2.2.2.1 5)]) (rest := []) (c_X3_isName E a 5 (sb 0 (pt 0 16 q6.2 (pt 0 16 q5.2 (pt 0 16 q4.2 (pt 0 16 q1.2 S))))) e7) rfl gX3_oneLine_X3_isName rfl rfl rfl 1 rfl (by decide +kernel) ⟨Nat.le_of_ble_eq_true rfl, Nat.le_of_ble_eq_true rfl⟩ [0, 1] (wl_X3_oneLine_0 E a (pt 0 16 q6.2 (pt 0 16 q5.2 (pt 0 16 q4.2 (pt 0 16 q1.2 S))))) (by decide) rfl (wTapeTown E a (pt 0 16 q6.2 (pt 0 16 q5.2 (pt 0 16 q4.2 (pt 0 16 q1.2 S))))) (zrep_self (wl_X3_oneLine_0 E a (pt 0 16 q6.2 (pt 0 16 q5.2 (pt 0 16 q4.2 (pt 0 16 q1.2 S)))))) 0 3 rfl rfl rfl (Nat.le_of_ble_eq_true rfl) dX3_oneLine_93 ⟨Nat.zero_le _, Nat.zero_le _⟩ _ rfl ?_
              refine z_if_eq C 145 (by decide) h dX3_oneLine_96 (fun hc h => ?_) (fun hc h => ?_)
              · refine z_aload_n C 4 rfl rfl dX3_oneLine_145 ?_
                refine z_iload_n C 2 rfl rfl dX3_oneLine_146 ?_
                refine z_iload_n C 1 rfl rfl dX3_oneLine_147 ?_
                refine z_iload C 0 rfl dX3_oneLine_148 ?_
                refine z_ldc C (v := (36000 : Int32)) (List.mem_of_getElem? (i := 5) rfl) dX3_oneLine_150 ?_
                obtain ⟨q8, e8, h⟩ := bd_e h
                refine z_callVv C (b := a 2) (As := [.int q2, .int (q4.2 9 0), .int (q5.2 8 0), .int (36000 : Int32)]) (rest := []) (c_X5_addOne E (fun k => a (2 + k)) q2 (q4.2 9 0) (q5.2 8 0) (36000 : Int32) (sb 16 (pt 0 16 q6.2 (pt 0 16 q5.2 (pt 0 16 q4.2 (pt 0 16 q1.2 S))))) e8) rfl gX3_oneLine_X5_addOne rfl rfl rfl 4 rfl (by decide +kernel) ⟨Nat.le_of_ble_eq_true rfl, Nat.le_of_ble_eq_true rfl⟩ [2, 3, 4, 5, 6, 7, 8, 9, 10, 11, 12, 13, 14, 15, 16, 17] (wl_X3_oneLine_3 E a (pt 0 16 q6.2 (pt 0 16 q5.2 (pt 0 16 q4.2 (pt 0 16 q1.2 S))))) (by decide) (wl_X3_oneLine_4 E a _ _) (wTapeTown E a (pt 16 32 q8 (pt 0 16 q6.2 (pt 0 16 q5.2 (pt 0 16 q4.2 (pt 0 16 q1.2 S)))))) (wl_X3_oneLine_5 E a (pt 0 16 q6.2 (pt 0 16 q5.2 (pt 0 16 q4.2 (pt 0 16 q1.2 S)))) q8) 0 5 rfl rfl rfl (Nat.le_of_ble_eq_true rfl) dX3_oneLine_152 ⟨Nat.zero_le _, Nat.zero_le _⟩ _ rfl ?_
                refine z_aload_n C 3 rfl rfl dX3_oneLine_155 ?_
                refine z_get C 0 rfl (C := RX3) (T := TX3) (N := 12) (ci := 3) rfl inw_X3_oneLine_X3 6 (by decide) (ref := "EldestAge$Tape") (List.mem_of_getElem? (i := 6) rfl) rfl (v := .int (q6.2 6 0)) rfl dX3_oneLine_156 ?_
                refine z_iconst C (v := (3 : Int32)) (by decide) dX3_oneLine_159 ?_
                refine z_icmp_eq C 175 (by decide) h dX3_oneLine_160 (fun hc h => ?_) (fun hc h => ?_)
                · refine Zt_l [] [] rfl ?_
                  exact L_X3_oneLine_175 a C R (pt 16 32 q8 (pt 0 16 q6.2 (pt 0 16 q5.2 (pt 0 16 q4.2 (pt 0 16 q1.2 S))))) h
                · refine z_aload_n C 3 rfl rfl dX3_oneLine_163 ?_
                  refine z_iconst C (v := (2 : Int32)) (by decide) dX3_oneLine_164 ?_
                  refine z_aload_n C 3 rfl rfl dX3_oneLine_165 ?_
                  refine z_get C 0 rfl (C := RX3) (T := TX3) (N := 12) (ci := 3) rfl inw_X3_oneLine_X3 7 (by decide) (ref := "EldestAge$Tape") (List.mem_of_getElem? (i := 2) rfl) rfl (v := .int (q6.2 7 0)) rfl dX3_oneLine_166 ?_
                  obtain ⟨q9, e9, h⟩ := bd_e h
                  refine z_callVi C (b := a 0) (As := [.int (2 : Int32), .int (q6.2 7 0)]) (rest := []) (c_X3_fail E a (2 : Int32) (q6.2 7 0) (sb 0 (pt 16 32 q8 (pt 0 16 q6.2 (pt 0 16 q5.2 (pt 0 16 q4.2 (pt 0 16 q1.2 S)))))) e9) rfl gX3_oneLine_X3_fail rfl rfl rfl 2 rfl (by decide +kernel) ⟨Nat.le_of_ble_eq_true rfl, Nat.le_of_ble_eq_true rfl⟩ [0, 1] (wl_X3_oneLine_0 E a (pt 16 32 q8 (pt 0 16 q6.2 (pt 0 16 q5.2 (pt 0 16 q4.2 (pt 0 16 q1.2 S)))))) (by decide) (wl_X3_oneLine_1 E a _ _) (wTapeTown E a (pt 0 16 q9.2 (pt 16 32 q8 (pt 0 16 q6.2 (pt 0 16 q5.2 (pt 0 16 q4.2 (pt 0 16 q1.2 S))))))) (wl_X3_oneLine_2 E a (pt 16 32 q8 (pt 0 16 q6.2 (pt 0 16 q5.2 (pt 0 16 q4.2 (pt 0 16 q1.2 S))))) q9.2) 0 3 rfl rfl rfl (Nat.le_of_ble_eq_true rfl) dX3_oneLine_169 ⟨Nat.zero_le _, Nat.zero_le _⟩ _ rfl ?_
                  refine z_if_eq C 179 (by decide) h dX3_oneLine_172 (fun hc h => ?_) (fun hc h => ?_)
                  · refine z_iconst C (v := (0 : Int32)) (by decide) dX3_oneLine_179 ?_
                    obtain rfl := Option.some.inj h
                    exact R z_n0 180 _ dX3_oneLine_180
                  · refine Zt_l [] [] rfl ?_
                    exact L_X3_oneLine_175 a C R (pt 0 16 q9.2 (pt 16 32 q8 (pt 0 16 q6.2 (pt 0 16 q5.2 (pt 0 16 q4.2 (pt 0 16 q1.2 S)))))) h
              · refine z_aload_n C 3 rfl rfl dX3_oneLine_99 ?_
                obtain ⟨q10, e10, h⟩ := bd_e h
                refine z_callVi C (b := a 0) (As := []) (rest := []) (c_X3_date E a (sb 0 (pt 0 16 q6.2 (pt 0 16 q5.2 (pt 0 16 q4.2 (pt 0 16 q1.2 S))))) e10) rfl gX3_oneLine_X3_date rfl rfl rfl 0 rfl (by decide +kernel) ⟨Nat.le_of_ble_eq_true rfl, Nat.le_of_ble_eq_true rfl⟩ [0, 1] (wl_X3_oneLine_0 E a (pt 0 16 q6.2 (pt 0 16 q5.2 (pt 0 16 q4.2 (pt 0 16 q1.2 S))))) (by decide) (wl_X3_oneLine_1 E a _ _) (wTapeTown E a (pt 0 16 q10.2 (pt 0 16 q6.2 (pt 0 16 q5.2 (pt 0 16 q4.2 (pt 0 16 q1.2 S)))))) (wl_X3_oneLine_2 E a (pt 0 16 q6.2 (pt 0 16 q5.2 (pt 0 16 q4.2 (pt 0 16 q1.2 S)))) q10.2) 0 3 rfl rfl rfl (Nat.le_of_ble_eq_true rfl) dX3_oneLine_100 ⟨Nat.zero_le _, Nat.zero_le _⟩ _ rfl ?_
                refine z_if_ne C 108 (by decide) h dX3_oneLine_103 (fun hc h => ?_) (fun hc h => ?_)
                · refine z_iconst C (v := (0 : Int32)) (by decide) dX3_oneLine_106 ?_
                  obtain rfl := Option.some.inj h
                  exact R z_n0 107 _ dX3_oneLine_107
                · refine z_aload_n C 4 rfl rfl dX3_oneLine_108 ?_
                  refine z_iload_n C 2 rfl rfl dX3_oneLine_109 ?_
                  refine z_iload_n C 1 rfl rfl dX3_oneLine_110 ?_
                  refine z_iload C 0 rfl dX3_oneLine_111 ?_
                  refine z_aload_n C 3 rfl rfl dX3_oneLine_113 ?_
                  refine z_get C 0 rfl (C := RX3) (T := TX3) (N := 12) (ci := 3) rfl inw_X3_oneLine_X3 9 (by decide) (ref := "EldestAge$Tape") (List.mem_of_getElem? (i := 3) rfl) rfl (v := .int (q10.2 9 0)) rfl dX3_oneLine_114 ?_
                  obtain ⟨q11, e11, h⟩ := bd_e h
                  refine z_callVv C (b := a 2) (As := [.int q2, .int (q4.2 9 0), .int (q5.2 8 0), .int (q10.2 9 0)]) (rest := []) (c_X5_addOne E (fun k => a (2 + k)) q2 (q4.2 9 0) (q5.2 8 0) (q10.2 9 0) (sb 16 (pt 0 16 q10.2 (pt 0 16 q6.2 (pt 0 16 q5.2 (pt 0 16 q4.2 (pt 0 16 q1.2 S)))))) e11) rfl gX3_oneLine_X5_addOne rfl rfl rfl 4 rfl (by decide +kernel) ⟨Nat.le_of_ble_eq_true rfl, Nat.le_of_ble_eq_true rfl⟩ [2, 3, 4, 5, 6, 7, 8, 9, 10, 11, 12, 13, 14, 15, 16, 17] (wl_X3_oneLine_3 E a (pt 0 16 q10.2 (pt 0 16 q6.2 (pt 0 16 q5.2 (pt 0 16 q4.2 (pt 0 16 q1.2 S)))))) (by decide) (wl_X3_oneLine_4 E a _ _) (wTapeTown E a (pt 16 32 q11 (pt 0 16 q10.2 (pt 0 16 q6.2 (pt 0 16 q5.2 (pt 0 16 q4.2 (pt 0 16 q1.2 S))))))) (wl_X3_oneLine_5 E a (pt 0 16 q10.2 (pt 0 16 q6.2 (pt 0 16 q5.2 (pt 0 16 q4.2 (pt 0 16 q1.2 S))))) q11) 0 5 rfl rfl rfl (Nat.le_of_ble_eq_true rfl) dX3_oneLine_117 ⟨Nat.zero_le _, Nat.zero_le _⟩ _ rfl ?_
                  refine z_aload_n C 3 rfl rfl dX3_oneLine_120 ?_
                  refine z_get C 0 rfl (C := RX3) (T := TX3) (N := 12) (ci := 3) rfl inw_X3_oneLine_X3 9 (by decide) (ref := "EldestAge$Tape") (List.mem_of_getElem? (i := 3) rfl) rfl (v := .int (q10.2 9 0)) rfl dX3_oneLine_121 ?_
                  refine z_iload_n C 1 rfl rfl dX3_oneLine_124 ?_
                  refine z_icmp_gt C 140 (by decide) h dX3_oneLine_125 (fun hc h => ?_) (fun hc h => ?_)
                  · refine z_aload_n C 3 rfl rfl dX3_oneLine_140 ?_
                    obtain ⟨q12, e12, h⟩ := bd_e h
                    refine z_callVi C (b := a 0) (As := []) (rest := []) (c_X3_sign E a (sb 0 (pt 16 32 q11 (pt 0 16 q10.2 (pt 0 16 q6.2 (pt 0 16 q5.2 (pt 0 16 q4.2 (pt 0 16 q1.2 S))))))) e12) rfl gX3_oneLine_X3_sign rfl rfl rfl 0 rfl (by decide +kernel) ⟨Nat.le_of_ble_eq_true rfl, Nat.le_of_ble_eq_true rfl⟩ [0, 1] (wl_X3_oneLine_0 E a (pt 16 32 q11 (pt 0 16 q10.2 (pt 0 16 q6.2 (pt 0 16 q5.2 (pt 0 16 q4.2 (pt 0 16 q1.2 S))))))) (by decide) (wl_X3_oneLine_1 E a _ _) (wTapeTown E a (pt 0 16 q12.2 (pt 16 32 q11 (pt 0 16 q10.2 (pt 0 16 q6.2 (pt 0 16 q5.2 (pt 0 16 q4.2 (pt 0 16 q1.2 S)))))))) (wl_X3_oneLine_2 E a (pt 16 32 q11 (pt 0 16 q10.2 (pt 0 16 q6.2 (pt 0 16 q5.2 (pt 0 16 q4.2 (pt 0 16 q1.2 S)))))) q12.2) 0 3 rfl rfl rfl (Nat.le_of_ble_eq_true rfl) dX3_oneLine_141 ⟨Nat.zero_le _, Nat.zero_le _⟩ _ rfl ?_
                    have hz := zb_n (zb_e h).1
                    replace h := (zb_e h).2
                    obtain rfl := Option.some.inj h
                    exact R hz 144 _ dX3_oneLine_144
                  · refine z_aload_n C 3 rfl rfl dX3_oneLine_128 ?_
                    refine z_iconst C (v := (4 : Int32)) (by decide) dX3_oneLine_129 ?_
                    refine z_aload_n C 3 rfl rfl dX3_oneLine_130 ?_
                    refine z_get C 0 rfl (C := RX3) (T := TX3) (N := 12) (ci := 3) rfl inw_X3_oneLine_X3 7 (by decide) (ref := "EldestAge$Tape") (List.mem_of_getElem? (i := 2) rfl) rfl (v := .int (q10.2 7 0)) rfl dX3_oneLine_131 ?_
                    obtain ⟨q13, e13, h⟩ := bd_e h
                    refine z_callVi C (b := a 0) (As := [.int (4 : Int32), .int (q10.2 7 0)]) (rest := []) (c_X3_fail E a (4 : Int32) (q10.2 7 0) (sb 0 (pt 16 32 q11 (pt 0 16 q10.2 (pt 0 16 q6.2 (pt 0 16 q5.2 (pt 0 16 q4.2 (pt 0 16 q1.2 S))))))) e13) rfl gX3_oneLine_X3_fail rfl rfl rfl 2 rfl (by decide +kernel) ⟨Nat.le_of_ble_eq_true rfl, Nat.le_of_ble_eq_true rfl⟩ [0, 1] (wl_X3_oneLine_0 E a (pt 16 32 q11 (pt 0 16 q10.2 (pt 0 16 q6.2 (pt 0 16 q5.2 (pt 0 16 q4.2 (pt 0 16 q1.2 S))))))) (by decide) (wl_X3_oneLine_1 E a _ _) (wTapeTown E a (pt 0 16 q13.2 (pt 16 32 q11 (pt 0 16 q10.2 (pt 0 16 q6.2 (pt 0 16 q5.2 (pt 0 16 q4.2 (pt 0 16 q1.2 S)))))))) (wl_X3_oneLine_2 E a (pt 16 32 q11 (pt 0 16 q10.2 (pt 0 16 q6.2 (pt 0 16 q5.2 (pt 0 16 q4.2 (pt 0 16 q1.2 S)))))) q13.2) 0 3 rfl rfl rfl (Nat.le_of_ble_eq_true rfl) dX3_oneLine_134 ⟨Nat.zero_le _, Nat.zero_le _⟩ _ rfl ?_
                    refine z_goto C 144 (by decide) dX3_oneLine_137 ?_
                    have hz := zb_n (zb_e h).1
                    replace h := (zb_e h).2
                    obtain rfl := Option.some.inj h
                    exact R hz 144 _ dX3_oneLine_144
  · refine z_aload_n C 0 rfl rfl dX3_oneLine_9 ?_
    refine z_iconst C (v := (5 : Int32)) (by decide) dX3_oneLine_10 ?_
    refine z_aload_n C 0 rfl rfl dX3_oneLine_11 ?_
    refine z_get C 0 rfl (C := RX3) (T := TX3) (N := 12) (ci := 3) rfl inw_X3_oneLine_X3 7 (by decide) (ref := "EldestAge$Tape") (List.mem_of_getElem? (i := 2) rfl) rfl (v := .int (S 7 0)) rfl dX3_oneLine_12 ?_
    obtain ⟨q14, e14, h⟩ := bd_e h
    refine z_callVi C (b := a 0) (As := [.int (5 : Int32), .int (S 7 0)]) (rest := []) (c_X3_fail E a (5 : Int32) (S 7 0) (sb 0 S) e14) rfl gX3_oneLine_X3_fail rfl rfl rfl 2 rfl (by decide +kernel) ⟨Nat.le_of_ble_eq_true rfl, Nat.le_of_ble_eq_true rfl⟩ [0, 1] (wl_X3_oneLine_0 E a S) (by decide) (wl_X3_oneLine_1 E a _ _) (wTapeTown E a (pt 0 16 q14.2 S)) (wl_X3_oneLine_2 E a S q14.2) 0 3 rfl rfl rfl (Nat.le_of_ble_eq_true rfl) dX3_oneLine_15 ⟨Nat.zero_le _, Nat.zero_le _⟩ _ rfl ?_
    have hz := zb_n (zb_e h).1
    replace h := (zb_e h).2
    obtain rfl := Option.some.inj h
    exact R hz 18 _ dX3_oneLine_18

theorem c_X3_oneLine (E : zEnv) (a : Nat → Nat) (S : St) {res : (Int32 × St)} (h : f_X3_oneLine S = some res) : Kti E yX3_oneLine wsX3_oneLine rm_X3_oneLine (wTapeTown E a S) (wTapeTown E a res.2) [.ref (a 0), .ref (a 2)] res.1 :=
  z_enti (cc := cX3_oneLine) (maxL := 5) (rt := .boolean) (by decide +kernel) rfl (Nat.le_of_ble_eq_true rfl) (fun Γ C R => L_X3_oneLine a C R S h)

abbrev rm_X3_moveLine : Room := { frames := 4, cells := 0, slots := 0, locals := 85 }
theorem inw_X3_moveLine_X5 : ∀ w ∈ wsX50, w ∈ wsX3_moveLine := fun _ h => List.mem_cons_of_mem _ (List.mem_append_left _ (List.mem_append_right _ h))
theorem inw_X3_moveLine_X3 : ∀ w ∈ wsX30, w ∈ wsX3_moveLine := fun _ h => List.mem_cons_of_mem _ (List.mem_append_right _ h)
set_option maxHeartbeats 4000000 in
theorem wl_X3_moveLine_0 (E : zEnv) (a : Nat → Nat) (S : St) : ([0, 1] : List Nat).map (fun i => (wTapeTown E a S)[i]?) = (wTape E a (sb 0 S)).map some := rfl
set_option maxHeartbeats 4000000 in
theorem wl_X3_moveLine_1 (E : zEnv) (a : Nat → Nat) (S U : St) : (wTape E a U).map (fun q => q.1) = (wTape E a S).map (fun q => q.1) := rfl
set_option maxHeartbeats 4000000 in
theorem wl_X3_moveLine_2 (E : zEnv) (a : Nat → Nat) (S U : St) : (wTapeTown E a (pt 0 16 U S)) = zrep [0, 1] (wTape E a U) (wTapeTown E a S) := zrep_of (isR := [2, 3, 4, 5, 6, 7, 8, 9, 10, 11, 12, 13, 14, 15, 16, 17]) 18 rfl [some (a 2, .inr (5, [.int (S 16 0), .int (S 17 0), .int (S 18 0), .ref (a 3), .ref (a 4), .ref (a 5), .ref (a 6), .int (S 23 0), .ref (a 7), .ref (a 8), .ref (a 9), .int (S 27 0), .ref (a 10), .ref (a 11), .ref (a 12), .ref (a 13)])), some (a 3, .inl (zI E, 14, .inl (S 19))), some (a 4, .inl (zI E, 14, .inl (S 20))), some (a 5, .inl (zI E, 14, .inl (S 21))), some (a 6, .inl (zI E, 14, .inl (S 22))), some (a 7, .inl (zI E, 12, .inl (S 24))), some (a 8, .inl (zI E, 12, .inl (S 25))), some (a 9, .inl (zI E, 12, .inl (S 26))), some (a 10, .inl (zI E, 4, .inl (S 28))), some (a 11, .inl (zI E, 4, .inl (S 29))), some (a 12, .inl (zI E, 4, .inl (S 30))), some (a 13, .inr (2, [.ref (a 14), .ref (a 15), .ref (a 16), .ref (a 17)])), some (a 14, .inl (zI E, 8, .inl (S 32))), some (a 15, .inl (zI E, 8, .inl (S 33))), some (a 16, .inl (zI E, 8, .inl (S 34))), some (a 17, .inl (zI E, 8, .inl (S 35)))] rfl rfl rfl rfl (by decide +kernel) (by decide +kernel)
set_option maxHeartbeats 4000000 in
theorem wl_X3_moveLine_3 (E : zEnv) (a : Nat → Nat) (S : St) : ([2, 3, 4, 5, 6, 7, 8, 9, 10, 11, 12, 13, 14, 15, 16, 17] : List Nat).map (fun i => (wTapeTown E a S)[i]?) = (wTown E (fun k => a (2 + k)) (sb 16 S)).map some := rfl
set_option maxHeartbeats 4000000 in
theorem wl_X3_moveLine_4 (E : zEnv) (a : Nat → Nat) (S U : St) : (wTown E (fun k => a (2 + k)) U).map (fun q => q.1) = (wTown E (fun k => a (2 + k)) S).map (fun q => q.1) := rfl
set_option maxHeartbeats 4000000 in
theorem wl_X3_moveLine_5 (E : zEnv) (a : Nat → Nat) (S U : St) : (wTapeTown E a (pt 16 32 U S)) = zrep [2, 3, 4, 5, 6, 7, 8, 9, 10, 11, 12, 13, 14, 15, 16, 17] (wTown E (fun k => a (2 + k)) U) (wTapeTown E a S) := zrep_of (isR := [0, 1]) 18 rfl [some (a 0, .inr (3, [.ref (a 1), .int (S 1 0), .int (S 2 0), .int (S 3 0), .int (S 4 0), .int (S 5 0), .int (S 6 0), .int (S 7 0), .int (S 8 0), .int (S 9 0), .int (S 10 0), .int (S 11 0)])), some (a 1, .inl (zI E, 400, .inl (S 0)))] rfl rfl rfl rfl (by decide +kernel) (by decide +kernel)
noncomputable def f_X3_moveLine (S : St) : Option (Int32 × St) := (if (S 23 0) < (12 : Int32) then ((f_X3_date (sb 0 S)).bind (fun q1 => (if q1.1 = 0 then (some ((0 : Int32), (pt 0 16 q1.2 S))) else ((f_X5_isTooEarly (q1.2 9 0) (sb 16 (pt 0 16 q1.2 S))).bind (fun q2 => (if q2 = 0 then ((f_X3_figure (0 : Int32) (9 : Int32) (sb 0 (pt 0 16 q1.2 S))).bind (fun q3 => (if q3.1 = 0 then (some ((0 : Int32), (pt 0 16 q3.2 (pt 0 16 q1.2 S)))) else ((f_X3_figure (0 : Int32) (7 : Int32) (sb 0 (pt 0 16 q3.2 (pt 0 16 q1.2 S)))).bind (fun q4 => (if q4.1 = 0 then (some ((0 : Int32), (pt 0 16 q4.2 (pt 0 16 q3.2 (pt 0 16 q1.2 S))))) else ((f_X5_putMove (q1.2 9 0) (q3.2 8 0) (q4.2 8 0) (sb 16 (pt 0 16 q4.2 (pt 0 16 q3.2 (pt 0 16 q1.2 S))))).bind (fun q5 => ((f_X3_sign (sb 0 (pt 16 32 q5 (pt 0 16 q4.2 (pt 0 16 q3.2 (pt 0 16 q1.2 S)))))).bind (fun q6 => (zb q6.1 (some (q6.1, (pt 0 16 q6.2 (pt 16 32 q5 (pt 0 16 q4.2 (pt 0 16 q3.2 (pt 0 16 q1.2 S)))))))))))))))))) else ((f_X3_fail (4 : Int32) (q1.2 7 0) (sb 0 (pt 0 16 q1.2 S))).bind (fun q7 => (zb q7.1 (some (q7.1, (pt 0 16 q7.2 (pt 0 16 q1.2 S))))))))))))) else ((f_X3_fail (5 : Int32) (S 7 0) (sb 0 S)).bind (fun q8 => (zb q8.1 (some (q8.1, (pt 0 16 q8.2 S)))))))
set_option maxHeartbeats 4000000 in
set_option maxRecDepth 100000 in
theorem L_X3_moveLine {E : zEnv} {Γ : zG} (a : Nat → Nat) (C : zC E Γ cX3_moveLine RX3 4 rm_X3_moveLine wsX3_moveLine) {res : (Int32 × St)} (R : zRi E Γ cX3_moveLine 4 .boolean (wTapeTown E a res.2) res.1) (S : St) (h : f_X3_moveLine S = some res) : Zt E Γ 4 0 0 (wTapeTown E a S) [(0, .ref (a 0)), (1, .ref (a 2))] 0 [] := by
  unfold f_X3_moveLine at h
  refine z_aload_n C 1 rfl rfl dX3_moveLine_0 ?_
  refine z_get C 2 rfl (C := RX5) (T := TX5) (N := 16) (ci := 5) rfl inw_X3_moveLine_X5 7 (by decide) (ref := "EldestAge$Town") (List.mem_of_getElem? (i := 1) rfl) rfl (v := .int (S 23 0)) rfl dX3_moveLine_1 ?_
  refine z_bipush C (v := (12 : Int32)) (by decide) dX3_moveLine_4 ?_
  refine z_icmp_lt C 19 (by decide) h dX3_moveLine_6 (fun hc h => ?_) (fun hc h => ?_)
  · refine z_aload_n C 0 rfl rfl dX3_moveLine_19 ?_
    obtain ⟨q1, e1, h⟩ := bd_e h
    refine z_callVi C (b := a 0) (As := []) (rest := []) (c_X3_date E a (sb 0 S) e1) rfl gX3_moveLine_X3_date rfl rfl rfl 0 rfl (by decide +kernel) ⟨Nat.le_of_ble_eq_true rfl, Nat.le_of_ble_eq_true rfl⟩ [0, 1] (wl_X3_moveLine_0 E a S) (by decide) (wl_X3_moveLine_1 E a _ _) (wTapeTown E a (pt 0 16 q1.2 S)) (wl_X3_moveLine_2 E a S q1.2) 0 3 rfl rfl rfl (Nat.le_of_ble_eq_true rfl) dX3_moveLine_20 ⟨Nat.zero_le _, Nat.zero_le _⟩ _ rfl ?_
    refine z_if_ne C 28 (by decide) h dX3_moveLine_23 (fun hc h => ?_) (fun hc h => ?_)
    · refine z_iconst C (v := (0 : Int32)) (by decide) dX3_moveLine_26 ?_
      obtain rfl := Option.some.inj h
      exact R z_n0 27 _ dX3_moveLine_27
    · refine z_aload_n C 0 rfl rfl dX3_moveLine_28 ?_
      refine z_get C 0 rfl (C := RX3) (T := TX3) (N := 12) (ci := 3) rfl inw_X3_moveLine_X3 9 (by decide) (ref := "EldestAge$Tape") (List.mem_of_getElem? (i := 3) rfl) rfl (v := .int (q1.2 9 0)) rfl dX3_moveLine_29 ?_
      refine z_istore_n C [(2, .int (q1.2 9 0)), (0, .ref (a 0)), (1, .ref (a 2))] rfl (by decide) rfl dX3_moveLine_32 ?_
      refine z_aload_n C 2 rfl rfl dX3_moveLine_33 ?_
      refine z_iload_n C 0 rfl rfl dX3_moveLine_34 ?_
      obtain ⟨q2, e2, h⟩ := bd_e h
      refine z_callVi C (b := a 2) (As := [.int (q1.2 9 0)]) (rest := []) (c_X5_isTooEarly E (fun k => a (2 + k)) (q1.2 9 0) (sb 16 (pt 0 16 q1.2 S)) e2) rfl gX3_moveLine_X5_isTooEarly rfl rfl rfl 1 rfl (by decide +kernel) ⟨Nat.le_of_ble_eq_true rfl, Nat.le_of_ble_eq_true rfl⟩ [2, 3, 4, 5, 6, 7, 8, 9, 10, 11, 12, 13, 14, 15, 16, 17] (wl_X3_moveLine_3 E a (pt 0 16 q1.2 S)) (by decide) rfl (wTapeTown E a (pt 0 16 q1.2 S)) (zrep_self (wl_X3_moveLine_3 E a (pt 0 16 q1.2 S))) 0 5 rfl rfl rfl (Nat.le_of_ble_eq_true rfl) dX3_moveLine_35 ⟨Nat.zero_le _, Nat.zero_le _⟩ _ rfl ?_
      refine z_if_eq C 51 (by decide) h dX3_moveLine_38 (fun hc h => ?_) (fun hc h => ?_)
      · refine z_aload_n C 1 rfl rfl dX3_moveLine_51 ?_
        refine z_iconst C (v := (0 : Int32)) (by decide) dX3_moveLine_52 ?_
        refine z_bipush C (v := (9 : Int32)) (by decide) dX3_moveLine_53 ?_
        obtain ⟨q3, e3, h⟩ := bd_e h
        refine z_callVi C (b := a 0) (As := [.int (0 : Int32), .int (9 : Int32)]) (rest := []) (c_X3_figure E a (0 : Int32) (9 : Int32) (sb 0 (pt 0 16 q1.2 S)) e3) rfl gX3_moveLine_X3_figure rfl rfl rfl 2 rfl (by decide +kernel) ⟨Nat.le_of_ble_eq_true rfl, Nat.le_of_ble_eq_true rfl⟩ [0, 1] (wl_X3_moveLine_0 E a (pt 0 16 q1.2 S)) (by decide) (wl_X3_moveLine_1 E a _ _) (wTapeTown E a (pt 0 16 q3.2 (pt 0 16 q1.2 S))) (wl_X3_moveLine_2 E a (pt 0 16 q1.2 S) q3.2) 0 3 rfl rfl rfl (Nat.le_of_ble_eq_true rfl) dX3_moveLine_55 ⟨Nat.zero_le _, Nat.zero_le _⟩ _ rfl ?_
        refine z_if_ne C 63 (by decide) h dX3_moveLine_58 (fun hc h => ?_) (fun hc h => ?_)
        · refine z_iconst C (v := (0 : Int32)) (by decide) dX3_moveLine_61 ?_
          obtain rfl := Option.some.inj h
          exact R z_n0 62 _ dX3_moveLine_62
        · refine z_aload_n C 1 rfl rfl dX3_moveLine_63 ?_
          refine z_get C 0 rfl (C := RX3) (T := TX3) (N := 12) (ci := 3) rfl inw_X3_moveLine_X3 8 (by decide) (ref := "EldestAge$Tape") (List.mem_of_getElem? (i := 4) rfl) rfl (v := .int (q3.2 8 0)) rfl dX3_moveLine_64 ?_
          refine z_istore_n C [(3, .int (q3.2 8 0)), (2, .int (q1.2 9 0)), (0, .ref (a 0)), (1, .ref (a 2))] rfl (by decide) rfl dX3_moveLine_67 ?_
          refine z_aload_n C 2 rfl rfl dX3_moveLine_68 ?_
          refine z_iconst C (v := (0 : Int32)) (by decide) dX3_moveLine_69 ?_
          refine z_bipush C (v := (7 : Int32)) (by decide) dX3_moveLine_70 ?_
          obtain ⟨q4, e4, h⟩ := bd_e h
          refine z_callVi C (b := a 0) (As := [.int (0 : Int32), .int (7 : Int32)]) (rest := []) (c_X3_figure E a (0 : Int32) (7 : Int32) (sb 0 (pt 0 16 q3.2 (pt 0 16 q1.2 S))) e4) rfl gX3_moveLine_X3_figure rfl rfl rfl 2 rfl (by decide +kernel) ⟨Nat.le_of_ble_eq_true rfl, Nat.le_of_ble_eq_true rfl⟩ [0, 1] (wl_X3_moveLine_0 E a (pt 0 16 q3.2 (pt 0 16 q1.2 S))) (by decide) (wl_X3_moveLine_1 E a _ _) (wTapeTown E a (pt 0 16 q4.2 (pt 0 16 q3.2 (pt 0 16 q1.2 S)))) (wl_X3_moveLine_2 E a (pt 0 16 q3.2 (pt 0 16 q1.2 S)) q4.2) 0 3 rfl rfl rfl (Nat.le_of_ble_eq_true rfl) dX3_moveLine_72 ⟨Nat.zero_le _, Nat.zero_le _⟩ _ rfl ?_
          refine z_if_ne C 80 (by decide) h dX3_moveLine_75 (fun hc h => ?_) (fun hc h => ?_)
          · refine z_iconst C (v := (0 : Int32)) (by decide) dX3_moveLine_78 ?_
            obtain rfl := Option.some.inj h
            exact R z_n0 79 _ dX3_moveLine_79
          · refine z_aload_n C 3 rfl rfl dX3_moveLine_80 ?_
            refine z_iload_n C 1 rfl rfl dX3_moveLine_81 ?_
            refine z_iload_n C 0 rfl rfl dX3_moveLine_82 ?_
            refine z_aload_n C 2 rfl rfl dX3_moveLine_83 ?_
            refine z_get C 0 rfl (C := RX3) (T := TX3) (N := 12) (ci := 3) rfl inw_X3_moveLine_X3 8 (by decide) (ref := "EldestAge$Tape") (List.mem_of_getElem? (i := 4) rfl) rfl (v := .int (q4.2 8 0)) rfl dX3_moveLine_84 ?_
            obtain ⟨q5, e5, h⟩ := bd_e h
            refine z_callVv C (b := a 2) (As := [.int (q1.2 9 0), .int (q3.2 8 0), .int (q4.2 8 0)]) (rest := []) (c_X5_putMove E (fun k => a (2 + k)) (q1.2 9 0) (q3.2 8 0) (q4.2 8 0) (sb 16 (pt 0 16 q4.2 (pt 0 16 q3.2 (pt 0 16 q1.2 S)))) e5) rfl gX3_moveLine_X5_putMove rfl rfl rfl 3 rfl (by decide +kernel) ⟨Nat.le_of_ble_eq_true rfl, Nat.le_of_ble_eq_true rfl⟩ [2, 3, 4, 5, 6, 7, 8, 9, 10, 11, 12, 13, 14, 15, 16, 17] (wl_X3_moveLine_3 E a (pt 0 16 q4.2 (pt 0 16 q3.2 (pt 0 16 q1.2 S)))) (by decide) (wl_X3_moveLine_4 E a _ _) (wTapeTown E a (pt 16 32 q5 (pt 0 16 q4.2 (pt 0 16 q3.2 (pt 0 16 q1.2 S))))) (wl_X3_moveLine_5 E a (pt 0 16 q4.2 (pt 0 16 q3.2 (pt 0 16 q1.2 S))) q5) 0 5 rfl rfl rfl (Nat.le_of_ble_eq_true rfl) dX3_moveLine_87 ⟨Nat.zero_le _, Nat.zero_le _⟩ _ rfl ?_
            refine z_aload_n C 2 rfl rfl dX3_moveLine_90 ?_
            obtain ⟨q6, e6, h⟩ := bd_e h
            refine z_callVi C (b := a 0) (As := []) (rest := []) (c_X3_sign E a (sb 0 (pt 16 32 q5 (pt 0 16 q4.2 (pt 0 16 q3.2 (pt 0 16 q1.2 S))))) e6) rfl gX3_moveLine_X3_sign rfl rfl rfl 0 rfl (by decide +kernel) ⟨Nat.le_of_ble_eq_true rfl, Nat.le_of_ble_eq_true rfl⟩ [0, 1] (wl_X3_moveLine_0 E a (pt 16 32 q5 (pt 0 16 q4.2 (pt 0 16 q3.2 (pt 0 16 q1.2 S))))) (by decide) (wl_X3_moveLine_1 E a _ _) (wTapeTown E a (pt 0 16 q6.2 (pt 16 32 q5 (pt 0 16 q4.2 (pt 0 16 q3.2 (pt 0 16 q1.2 S)))))) (wl_X3_moveLine_2 E a (pt 16 32 q5 (pt 0 16 q4.2 (pt 0 16 q3.2 (pt 0 16 q1.2 S)))) q6.2) 0 3 rfl rfl rfl (Nat.le_of_ble_eq_true rfl) dX3_moveLine_91 ⟨Nat.zero_le _, Nat.zero_le _⟩ _ rfl ?_
            have hz := zb_n (zb_e h).1
            replace h := (zb_e h).2
            obtain rfl := Option.some.inj h
            exact R hz 94 _ dX3_moveLine_94
      · refine z_aload_n C 1 rfl rfl dX3_moveLine_41 ?_
        refine z_iconst C (v := (4 : Int32)) (by decide) dX3_moveLine_42 ?_
        refine z_aload_n C 1 rfl rfl dX3_moveLine_43 ?_
        refine z_get C 0 rfl (C := RX3) (T := TX3) (N := 12) (ci := 3) rfl inw_X3_moveLine_X3 7 (by decide) (ref := "EldestAge$Tape") (List.mem_of_getElem? (i := 2) rfl) rfl (v := .int (q1.2 7 0)) rfl dX3_moveLine_44 ?_
        obtain ⟨q7, e7, h⟩ := bd_e h
        refine z_callVi C (b := a 0) (As := [.int (4 : Int32), .int (q1.2 7 0)]) (rest := []) (c_X3_fail E a (4 : Int32) (q1.2 7 0) (sb 0 (pt 0 16 q1.2 S)) e7) rfl gX3_moveLine_X3_fail rfl rfl rfl 2 rfl (by decide +kernel) ⟨Nat.le_of_ble_eq_true rfl, Nat.le_of_ble_eq_true rfl⟩ [0, 1] (wl_X3_moveLine_0 E a (pt 0 16 q1.2 S)) (by decide) (wl_X3_moveLine_1 E a _ _) (wTapeTown E a (pt 0 16 q7.2 (pt 0 16 q1.2 S))) (wl_X3_moveLine_2 E a (pt 0 16 q1.2 S) q7.2) 0 3 rfl rfl rfl (Nat.le_of_ble_eq_true rfl) dX3_moveLine_47 ⟨Nat.zero_le _, Nat.zero_le _⟩ _ rfl ?_
        have hz := zb_n (zb_e h).1
        replace h := (zb_e h).2
        obtain rfl := Option.some.inj h
        exact R hz 50 _ dX3_moveLine_50
  · refine z_aload_n C 0 rfl rfl dX3_moveLine_9 ?_
    refine z_iconst C (v := (5 : Int32)) (by decide) dX3_moveLine_10 ?_
    refine z_aload_n C 0 rfl rfl dX3_moveLine_11 ?_
    refine z_get C 0 rfl (C := RX3) (T := TX3) (N := 12) (ci := 3) rfl inw_X3_moveLine_X3 7 (by decide) (ref := "EldestAge$Tape") (List.mem_of_getElem? (i := 2) rfl) rfl (v := .int (S 7 0)) rfl dX3_moveLine_12 ?_
    obtain ⟨q8, e8, h⟩ := bd_e h
    refine z_callVi C (b := a 0) (As := [.int (5 : Int32), .int (S 7 0)]) (rest := []) (c_X3_fail E a (5 : Int32) (S 7 0) (sb 0 S) e8) rfl gX3_moveLine_X3_fail rfl rfl rfl 2 rfl (by decide +kernel) ⟨Nat.le_of_ble_eq_true rfl, Nat.le_of_ble_eq_true rfl⟩ [0, 1] (wl_X3_moveLine_0 E a S) (by decide) (wl_X3_moveLine_1 E a _ _) (wTapeTown E a (pt 0 16 q8.2 S)) (wl_X3_moveLine_2 E a S q8.2) 0 3 rfl rfl rfl (Nat.le_of_ble_eq_true rfl) dX3_moveLine_15 ⟨Nat.zero_le _, Nat.zero_le _⟩ _ rfl ?_
    have hz := zb_n (zb_e h).1
    replace h := (zb_e h).2
    obtain rfl := Option.some.inj h
    exact R hz 18 _ dX3_moveLine_18

theorem c_X3_moveLine (E : zEnv) (a : Nat → Nat) (S : St) {res : (Int32 × St)} (h : f_X3_moveLine S = some res) : Kti E yX3_moveLine wsX3_moveLine rm_X3_moveLine (wTapeTown E a S) (wTapeTown E a res.2) [.ref (a 0), .ref (a 2)] res.1 :=
  z_enti (cc := cX3_moveLine) (maxL := 4) (rt := .boolean) (by decide +kernel) rfl (Nat.le_of_ble_eq_true rfl) (fun Γ C R => L_X3_moveLine a C R S h)

abbrev rm_X3_expectLine : Room := { frames := 4, cells := 0, slots := 0, locals := 85 }
theorem inw_X3_expectLine_X5 : ∀ w ∈ wsX50, w ∈ wsX3_expectLine := fun _ h => List.mem_cons_of_mem _ (List.mem_append_left _ (List.mem_append_right _ h))
theorem inw_X3_expectLine_X3 : ∀ w ∈ wsX30, w ∈ wsX3_expectLine := fun _ h => List.mem_cons_of_mem _ (List.mem_append_right _ h)
set_option maxHeartbeats 4000000 in
theorem wl_X3_expectLine_0 (E : zEnv) (a : Nat → Nat) (S : St) : ([0, 1] : List Nat).map (fun i => (wTapeTown E a S)[i]?) = (wTape E a (sb 0 S)).map some := rfl
set_option maxHeartbeats 4000000 in
theorem wl_X3_expectLine_1 (E : zEnv) (a : Nat → Nat) (S U : St) : (wTape E a U).map (fun q => q.1) = (wTape E a S).map (fun q => q.1) := rfl
set_option maxHeartbeats 4000000 in
theorem wl_X3_expectLine_2 (E : zEnv) (a : Nat → Nat) (S U : St) : (wTapeTown E a (pt 0 16 U S)) = zrep [0, 1] (wTape E a U) (wTapeTown E a S) := zrep_of (isR := [2, 3, 4, 5, 6, 7, 8, 9, 10, 11, 12, 13, 14, 15, 16, 17]) 18 rfl [some (a 2, .inr (5, [.int (S 16 0), .int (S 17 0), .int (S 18 0), .ref (a 3), .ref (a 4), .ref (a 5), .ref (a 6), .int (S 23 0), .ref (a 7), .ref (a 8), .ref (a 9), .int (S 27 0), .ref (a 10), .ref (a 11), .ref (a 12), .ref (a 13)])), some (a 3, .inl (zI E, 14, .inl (S 19))), some (a 4, .inl (zI E, 14, .inl (S 20))), some (a 5, .inl (zI E, 14, .inl (S 21))), some (a 6, .inl (zI E, 14, .inl (S 22))), some (a 7, .inl (zI E, 12, .inl (S 24))), some (a 8, .inl (zI E, 12, .inl (S 25))), some (a 9, .inl (zI E, 12, .inl (S 26))), some (a 10, .inl (zI E, 4, .inl (S 28))), some (a 11, .inl (zI E, 4, .inl (S 29))), some (a 12, .inl (zI E, 4, .inl (S 30))), some (a 13, .inr (2, [.ref (a 14), .ref (a 15), .ref (a 16), .ref (a 17)])), some (a 14, .inl (zI E, 8, .inl (S 32))), some (a 15, .inl (zI E, 8, .inl (S 33))), some (a 16, .inl (zI E, 8, .inl (S 34))), some (a 17, .inl (zI E, 8, .inl (S 35)))] rfl rfl rfl rfl (by decide +kernel) (by decide +kernel)
set_option maxHeartbeats 4000000 in
theorem wl_X3_expectLine_3 (E : zEnv) (a : Nat → Nat) (S : St) : ([2, 3, 4, 5, 6, 7, 8, 9, 10, 11, 12, 13, 14, 15, 16, 17] : List Nat).map (fun i => (wTapeTown E a S)[i]?) = (wTown E (fun k => a (2 + k)) (sb 16 S)).map some := rfl
set_option maxHeartbeats 4000000 in
theorem wl_X3_expectLine_4 (E : zEnv) (a : Nat → Nat) (S U : St) : (wTown E (fun k => a (2 + k)) U).map (fun q => q.1) = (wTown E (fun k => a (2 + k)) S).map (fun q => q.1) := rfl
set_option maxHeartbeats 4000000 in
theorem wl_X3_expectLine_5 (E : zEnv) (a : Nat → Nat) (S U : St) : (wTapeTown E a (pt 16 32 U S)) = zrep [2, 3, 4, 5, 6, 7, 8, 9, 10, 11, 12, 13, 14, 15, 16, 17] (wTown E (fun k => a (2 + k)) U) (wTapeTown E a S) := zrep_of (isR := [0, 1]) 18 rfl [some (a 0, .inr (3, [.ref (a 1), .int (S 1 0), .int (S 2 0), .int (S 3 0), .int (S 4 0), .int (S 5 0), .int (S 6 0), .int (S 7 0), .int (S 8 0), .int (S 9 0), .int (S 10 0), .int (S 11 0)])), some (a 1, .inl (zI E, 400, .inl (S 0)))] rfl rfl rfl rfl (by decide +kernel) (by decide +kernel)
noncomputable def f_X3_expectLine (S : St) : Option (Int32 × St) := (if (S 27 0) < (4 : Int32) then ((f_X3_figure (0 : Int32) (7 : Int32) (sb 0 S)).bind (fun q1 => (if q1.1 = 0 then (some ((0 : Int32), (pt 0 16 q1.2 S))) else ((f_X3_date (sb 0 (pt 0 16 q1.2 S))).bind (fun q2 => (if q2.1 = 0 then (some ((0 : Int32), (pt 0 16 q2.2 (pt 0 16 q1.2 S)))) else ((f_X3_date (sb 0 (pt 0 16 q2.2 (pt 0 16 q1.2 S)))).bind (fun q3 => (if q3.1 = 0 then (some ((0 : Int32), (pt 0 16 q3.2 (pt 0 16 q2.2 (pt 0 16 q1.2 S))))) else ((f_X5_addBirth (q1.2 8 0) (q2.2 9 0) (q3.2 9 0) (sb 16 (pt 0 16 q3.2 (pt 0 16 q2.2 (pt 0 16 q1.2 S))))).bind (fun q4 => (if (q2.2 9 0) ≤ (q3.2 9 0) then ((f_X3_sign (sb 0 (pt 16 32 q4 (pt 0 16 q3.2 (pt 0 16 q2.2 (pt 0 16 q1.2 S)))))).bind (fun q5 => (zb q5.1 (some (q5.1, (pt 0 16 q5.2 (pt 16 32 q4 (pt 0 16 q3.2 (pt 0 16 q2.2 (pt 0 16 q1.2 S)))))))))) else ((f_X3_fail (4 : Int32) (q3.2 7 0) (sb 0 (pt 16 32 q4 (pt 0 16 q3.2 (pt 0 16 q2.2 (pt 0 16 q1.2 S)))))).bind (fun q6 => (zb q6.1 (some (q6.1, (pt 0 16 q6.2 (pt 16 32 q4 (pt 0 16 q3.2 (pt 0 16 q2.2 (pt 0 16 q1.2 S)))))))))))))))))))))) else ((f_X3_fail (5 : Int32) (S 7 0) (sb 0 S)).bind (fun q7 => (zb q7.1 (some (q7.1, (pt 0 16 q7.2 S)))))))
set_option maxHeartbeats 4000000 in
set_option maxRecDepth 100000 in
theorem L_X3_expectLine {E : zEnv} {Γ : zG} (a : Nat → Nat) (C : zC E Γ cX3_expectLine RX3 4 rm_X3_expectLine wsX3_expectLine) {res : (Int32 × St)} (R : zRi E Γ cX3_expectLine 4 .boolean (wTapeTown E a res.2) res.1) (S : St) (h : f_X3_expectLine S = some res) : Zt E Γ 4 0 0 (wTapeTown E a S) [(0, .ref (a 0)), (1, .ref (a 2))] 0 [] := by
  unfold f_X3_expectLine at h
  refine z_aload_n C 1 rfl rfl dX3_expectLine_0 ?_
  refine z_get C 2 rfl (C := RX5) (T := TX5) (N := 16) (ci := 5) rfl inw_X3_expectLine_X5 11 (by decide) (ref := "EldestAge$Town") (List.mem_of_getElem? (i := 1) rfl) rfl (v := .int (S 27 0)) rfl dX3_expectLine_1 ?_
  refine z_iconst C (v := (4 : Int32)) (by decide) dX3_expectLine_4 ?_
  refine z_icmp_lt C 18 (by decide) h dX3_expectLine_5 (fun hc h => ?_) (fun hc h => ?_)
  · refine z_aload_n C 0 rfl rfl dX3_expectLine_18 ?_
    refine z_iconst C (v := (0 : Int32)) (by decide) dX3_expectLine_19 ?_
    refine z_bipush C (v := (7 : Int32)) (by decide) dX3_expectLine_20 ?_
    obtain ⟨q1, e1, h⟩ := bd_e h
    refine z_callVi C (b := a 0) (As := [.int (0 : Int32), .int (7 : Int32)]) (rest := []) (c_X3_figure E a (0 : Int32) (7 : Int32) (sb 0 S) e1) rfl gX3_expectLine_X3_figure rfl rfl rfl 2 rfl (by decide +kernel) ⟨Nat.le_of_ble_eq_true rfl, Nat.le_of_ble_eq_true rfl⟩ [0, 1] (wl_X3_expectLine_0 E a S) (by decide) (wl_X3_expectLine_1 E a _ _) (wTapeTown E a (pt 0 16 q1.2 S)) (wl_X3_expectLine_2 E a S q1.2) 0 3 rfl rfl rfl (Nat.le_of_ble_eq_true rfl) dX3_expectLine_22 ⟨Nat.zero_le _, Nat.zero_le _⟩ _ rfl ?_
    refine z_if_ne C 30 (by decide) h dX3_expectLine_25 (fun hc h => ?_) (fun hc h => ?_)
    · refine z_iconst C (v := (0 : Int32)) (by decide) dX3_expectLine_28 ?_
      obtain rfl := Option.some.inj h
      exact R z_n0 29 _ dX3_expectLine_29
    · refine z_aload_n C 0 rfl rfl dX3_expectLine_30 ?_
      refine z_get C 0 rfl (C := RX3) (T := TX3) (N := 12) (ci := 3) rfl inw_X3_expectLine_X3 8 (by decide) (ref := "EldestAge$Tape") (List.mem_of_getElem? (i := 3) rfl) rfl (v := .int (q1.2 8 0)) rfl dX3_expectLine_31 ?_
      refine z_istore_n C [(2, .int (q1.2 8 0)), (0, .ref (a 0)), (1, .ref (a 2))] rfl (by decide) rfl dX3_expectLine_34 ?_
      refine z_aload_n C 1 rfl rfl dX3_expectLine_35 ?_
      obtain ⟨q2, e2, h⟩ := bd_e h
      refine z_callVi C (b := a 0) (As := []) (rest := []) (c_X3_date E a (sb 0 (pt 0 16 q1.2 S)) e2) rfl gX3_expectLine_X3_date rfl rfl rfl 0 rfl (by decide +kernel) ⟨Nat.le_of_ble_eq_true rfl, Nat.le_of_ble_eq_true rfl⟩ [0, 1] (wl_X3_expectLine_0 E a (pt 0 16 q1.2 S)) (by decide) (wl_X3_expectLine_1 E a _ _) (wTapeTown E a (pt 0 16 q2.2 (pt 0 16 q1.2 S))) (wl_X3_expectLine_2 E a (pt 0 16 q1.2 S) q2.2) 0 3 rfl rfl rfl (Nat.le_of_ble_eq_true rfl) dX3_expectLine_36 ⟨Nat.zero_le _, Nat.zero_le _⟩ _ rfl ?_
      refine z_if_ne C 44 (by decide) h dX3_expectLine_39 (fun hc h => ?_) (fun hc h => ?_)
      · refine z_iconst C (v := (0 : Int32)) (by decide) dX3_expectLine_42 ?_
        obtain rfl := Option.some.inj h
        exact R z_n0 43 _ dX3_expectLine_43
      · refine z_aload_n C 1 rfl rfl dX3_expectLine_44 ?_
        refine z_get C 0 rfl (C := RX3) (T := TX3) (N := 12) (ci := 3) rfl inw_X3_expectLine_X3 9 (by decide) (ref := "EldestAge$Tape") (List.mem_of_getElem? (i := 4) rfl) rfl (v := .int (q2.2 9 0)) rfl dX3_expectLine_45 ?_
        refine z_istore_n C [(3, .int (q2.2 9 0)), (2, .int (q1.2 8 0)), (0, .ref (a 0)), (1, .ref (a 2))] rfl (by decide) rfl dX3_expectLine_48 ?_
        refine z_aload_n C 2 rfl rfl dX3_expectLine_49 ?_
        obtain ⟨q3, e3, h⟩ := bd_e h
        refine z_callVi C (b := a 0) (As := []) (rest := []) (c_X3_date E a (sb 0 (pt 0 16 q2.2 (pt 0 16 q1.2 S))) e3) rfl gX3_expectLine_X3_date rfl rfl rfl 0 rfl (by decide +kernel) ⟨Nat.le_of_ble_eq_true rfl, Nat.le_of_ble_eq_true rfl⟩ [0, 1] (wl_X3_expectLine_0 E a (pt 0 16 q2.2 (pt 0 16 q1.2 S))) (by decide) (wl_X3_expectLine_1 E a _ _) (wTapeTown E a (pt 0 16 q3.2 (pt 0 16 q2.2 (pt 0 16 q1.2 S)))) (wl_X3_expectLine_2 E a (pt 0 16 q2.2 (pt 0 16 q1.2 S)) q3.2) 0 3 rfl rfl rfl (Nat.le_of_ble_eq_true rfl) dX3_expectLine_50 ⟨Nat.zero_le _, Nat.zero_le _⟩ _ rfl ?_
        refine z_if_ne C 58 (by decide) h dX3_expectLine_53 (fun hc h => ?_) (fun hc h => ?_)
        · refine z_iconst C (v := (0 : Int32)) (by decide) dX3_expectLine_56 ?_
          obtain rfl := Option.some.inj h
          exact R z_n0 57 _ dX3_expectLine_57
        · refine z_aload_n C 3 rfl rfl dX3_expectLine_58 ?_
          refine z_iload_n C 1 rfl rfl dX3_expectLine_59 ?_
          refine z_iload_n C 0 rfl rfl dX3_expectLine_60 ?_
          refine z_aload_n C 2 rfl rfl dX3_expectLine_61 ?_
          refine z_get C 0 rfl (C := RX3) (T := TX3) (N := 12) (ci := 3) rfl inw_X3_expectLine_X3 9 (by decide) (ref := "EldestAge$Tape") (List.mem_of_getElem? (i := 4) rfl) rfl (v := .int (q3.2 9 0)) rfl dX3_expectLine_62 ?_
          obtain ⟨q4, e4, h⟩ := bd_e h
          refine z_callVv C (b := a 2) (As := [.int (q1.2 8 0), .int (q2.2 9 0), .int (q3.2 9 0)]) (rest := []) (c_X5_addBirth E (fun k => a (2 + k)) (q1.2 8 0) (q2.2 9 0) (q3.2 9 0) (sb 16 (pt 0 16 q3.2 (pt 0 16 q2.2 (pt 0 16 q1.2 S)))) e4) rfl gX3_expectLine_X5_addBirth rfl rfl rfl 3 rfl (by decide +kernel) ⟨Nat.le_of_ble_eq_true rfl, Nat.le_of_ble_eq_true rfl⟩ [2, 3, 4, 5, 6, 7, 8, 9, 10, 11, 12, 13, 14, 15, 16, 17] (wl_X3_expectLine_3 E a (pt 0 16 q3.2 (pt 0 16 q2.2 (pt 0 16 q1.2 S)))) (by decide) (wl_X3_expectLine_4 E a _ _) (wTapeTown E a (pt 16 32 q4 (pt 0 16 q3.2 (pt 0 16 q2.2 (pt 0 16 q1.2 S))))) (wl_X3_expectLine_5 E a (pt 0 16 q3.2 (pt 0 16 q2.2 (pt 0 16 q1.2 S))) q4) 0 5 rfl rfl rfl (Nat.le_of_ble_eq_true rfl) dX3_expectLine_65 ⟨Nat.zero_le _, Nat.zero_le _⟩ _ rfl ?_
          refine z_aload_n C 2 rfl rfl dX3_expectLine_68 ?_
          refine z_get C 0 rfl (C := RX3) (T := TX3) (N := 12) (ci := 3) rfl inw_X3_expectLine_X3 9 (by decide) (ref := "EldestAge$Tape") (List.mem_of_getElem? (i := 4) rfl) rfl (v := .int (q3.2 9 0)) rfl dX3_expectLine_69 ?_
          refine z_iload_n C 0 rfl rfl dX3_expectLine_72 ?_
          refine z_icmp_ge C 88 (by decide) h dX3_expectLine_73 (fun hc h => ?_) (fun hc h => ?_)
          · refine z_aload_n C 2 rfl rfl dX3_expectLine_88 ?_
            obtain ⟨q5, e5, h⟩ := bd_e h
            refine z_callVi C (b := a 0) (As := []) (rest := []) (c_X3_sign E a (sb 0 (pt 16 32 q4 (pt 0 16 q3.2 (pt 0 16 q2.2 (pt 0 16 q1.2 S))))) e5) rfl gX3_expectLine_X3_sign rfl rfl rfl 0 rfl (by decide +kernel) ⟨Nat.le_of_ble_eq_true rfl, Nat.le_of_ble_eq_true rfl⟩ [0, 1] (wl_X3_expectLine_0 E a (pt 16 32 q4 (pt 0 16 q3.2 (pt 0 16 q2.2 (pt 0 16 q1.2 S))))) (by decide) (wl_X3_expectLine_1 E a _ _) (wTapeTown E a (pt 0 16 q5.2 (pt 16 32 q4 (pt 0 16 q3.2 (pt 0 16 q2.2 (pt 0 16 q1.2 S)))))) (wl_X3_expectLine_2 E a (pt 16 32 q4 (pt 0 16 q3.2 (pt 0 16 q2.2 (pt 0 16 q1.2 S)))) q5.2) 0 3 rfl rfl rfl (Nat.le_of_ble_eq_true rfl) dX3_expectLine_89 ⟨Nat.zero_le _, Nat.zero_le _⟩ _ rfl ?_
            have hz := zb_n (zb_e h).1
            replace h := (zb_e h).2
            obtain rfl := Option.some.inj h
            exact R hz 92 _ dX3_expectLine_92
          · refine z_aload_n C 2 rfl rfl dX3_expectLine_76 ?_
            refine z_iconst C (v := (4 : Int32)) (by decide) dX3_expectLine_77 ?_
            refine z_aload_n C 2 rfl rfl dX3_expectLine_78 ?_
            refine z_get C 0 rfl (C := RX3) (T := TX3) (N := 12) (ci := 3) rfl inw_X3_expectLine_X3 7 (by decide) (ref := "EldestAge$Tape") (List.mem_of_getElem? (i := 2) rfl) rfl (v := .int (q3.2 7 0)) rfl dX3_expectLine_79 ?_
            obtain ⟨q6, e6, h⟩ := bd_e h
            refine z_callVi C (b := a 0) (As := [.int (4 : Int32), .int (q3.2 7 0)]) (rest := []) (c_X3_fail E a (4 : Int32) (q3.2 7 0) (sb 0 (pt 16 32 q4 (pt 0 16 q3.2 (pt 0 16 q2.2 (pt 0 16 q1.2 S))))) e6) rfl gX3_expectLine_X3_fail rfl rfl rfl 2 rfl (by decide +kernel) ⟨Nat.le_of_ble_eq_true rfl, Nat.le_of_ble_eq_true rfl⟩ [0, 1] (wl_X3_expectLine_0 E a (pt 16 32 q4 (pt 0 16 q3.2 (pt 0 16 q2.2 (pt 0 16 q1.2 S))))) (by decide) (wl_X3_expectLine_1 E a _ _) (wTapeTown E a (pt 0 16 q6.2 (pt 16 32 q4 (pt 0 16 q3.2 (pt 0 16 q2.2 (pt 0 16 q1.2 S)))))) (wl_X3_expectLine_2 E a (pt 16 32 q4 (pt 0 16 q3.2 (pt 0 16 q2.2 (pt 0 16 q1.2 S)))) q6.2) 0 3 rfl rfl rfl (Nat.le_of_ble_eq_true rfl) dX3_expectLine_82 ⟨Nat.zero_le _, Nat.zero_le _⟩ _ rfl ?_
            refine z_goto C 92 (by decide) dX3_expectLine_85 ?_
            have hz := zb_n (zb_e h).1
            replace h := (zb_e h).2
            obtain rfl := Option.some.inj h
            exact R hz 92 _ dX3_expectLine_92
  · refine z_aload_n C 0 rfl rfl dX3_expectLine_8 ?_
    refine z_iconst C (v := (5 : Int32)) (by decide) dX3_expectLine_9 ?_
    refine z_aload_n C 0 rfl rfl dX3_expectLine_10 ?_
    refine z_get C 0 rfl (C := RX3) (T := TX3) (N := 12) (ci := 3) rfl inw_X3_expectLine_X3 7 (by decide) (ref := "EldestAge$Tape") (List.mem_of_getElem? (i := 2) rfl) rfl (v := .int (S 7 0)) rfl dX3_expectLine_11 ?_
    obtain ⟨q7, e7, h⟩ := bd_e h
    refine z_callVi C (b := a 0) (As := [.int (5 : Int32), .int (S 7 0)]) (rest := []) (c_X3_fail E a (5 : Int32) (S 7 0) (sb 0 S) e7) rfl gX3_expectLine_X3_fail rfl rfl rfl 2 rfl (by decide +kernel) ⟨Nat.le_of_ble_eq_true rfl, Nat.le_of_ble_eq_true rfl⟩ [0, 1] (wl_X3_expectLine_0 E a S) (by decide) (wl_X3_expectLine_1 E a _ _) (wTapeTown E a (pt 0 16 q7.2 S)) (wl_X3_expectLine_2 E a S q7.2) 0 3 rfl rfl rfl (Nat.le_of_ble_eq_true rfl) dX3_expectLine_14 ⟨Nat.zero_le _, Nat.zero_le _⟩ _ rfl ?_
    have hz := zb_n (zb_e h).1
    replace h := (zb_e h).2
    obtain rfl := Option.some.inj h
    exact R hz 17 _ dX3_expectLine_17

theorem c_X3_expectLine (E : zEnv) (a : Nat → Nat) (S : St) {res : (Int32 × St)} (h : f_X3_expectLine S = some res) : Kti E yX3_expectLine wsX3_expectLine rm_X3_expectLine (wTapeTown E a S) (wTapeTown E a res.2) [.ref (a 0), .ref (a 2)] res.1 :=
  z_enti (cc := cX3_expectLine) (maxL := 4) (rt := .boolean) (by decide +kernel) rfl (Nat.le_of_ble_eq_true rfl) (fun Γ C R => L_X3_expectLine a C R S h)

abbrev rm_X3_line : Room := { frames := 7, cells := 0, slots := 0, locals := 151 }
theorem inw_X3_line_X3 : ∀ w ∈ wsX30, w ∈ wsX3_line := fun _ h => List.mem_cons_of_mem _ (List.mem_append_left _ (List.mem_append_right _ h))
theorem inw_X3_line_X5 : ∀ w ∈ wsX50, w ∈ wsX3_line := fun _ h => List.mem_cons_of_mem _ (List.mem_append_right _ h)
set_option maxHeartbeats 4000000 in
theorem wl_X3_line_0 (E : zEnv) (a : Nat → Nat) (S : St) : ([0, 1] : List Nat).map (fun i => (wTapeTown E a S)[i]?) = (wTape E a (sb 0 S)).map some := rfl
set_option maxHeartbeats 4000000 in
theorem wl_X3_line_1 (E : zEnv) (a : Nat → Nat) (S U : St) : (wTape E a U).map (fun q => q.1) = (wTape E a S).map (fun q => q.1) := rfl
set_option maxHeartbeats 4000000 in
theorem wl_X3_line_2 (E : zEnv) (a : Nat → Nat) (S U : St) : (wTapeTown E a (pt 0 16 U S)) = zrep [0, 1] (wTape E a U) (wTapeTown E a S) := zrep_of (isR := [2, 3, 4, 5, 6, 7, 8, 9, 10, 11, 12, 13, 14, 15, 16, 17]) 18 rfl [some (a 2, .inr (5, [.int (S 16 0), .int (S 17 0), .int (S 18 0), .ref (a 3), .ref (a 4), .ref (a 5), .ref (a 6), .int (S 23 0), .ref (a 7), .ref (a 8), .ref (a 9), .int (S 27 0), .ref (a 10), .ref (a 11), .ref (a 12), .ref (a 13)])), some (a 3, .inl (zI E, 14, .inl (S 19))), some (a 4, .inl (zI E, 14, .inl (S 20))), some (a 5, .inl (zI E, 14, .inl (S 21))), some (a 6, .inl (zI E, 14, .inl (S 22))), some (a 7, .inl (zI E, 12, .inl (S 24))), some (a 8, .inl (zI E, 12, .inl (S 25))), some (a 9, .inl (zI E, 12, .inl (S 26))), some (a 10, .inl (zI E, 4, .inl (S 28))), some (a 11, .inl (zI E, 4, .inl (S 29))), some (a 12, .inl (zI E, 4, .inl (S 30))), some (a 13, .inr (2, [.ref (a 14), .ref (a 15), .ref (a 16), .ref (a 17)])), some (a 14, .inl (zI E, 8, .inl (S 32))), some (a 15, .inl (zI E, 8, .inl (S 33))), some (a 16, .inl (zI E, 8, .inl (S 34))), some (a 17, .inl (zI E, 8, .inl (S 35)))] rfl rfl rfl rfl (by decide +kernel) (by decide +kernel)
set_option maxHeartbeats 4000000 in
theorem wl_X3_line_3 (E : zEnv) (a : Nat → Nat) (S : St) : ([0, 1, 2, 3, 4, 5, 6, 7, 8, 9, 10, 11, 12, 13, 14, 15, 16, 17] : List Nat).map (fun i => (wTapeTown E a S)[i]?) = (wTapeTown E a S).map some := rfl
set_option maxHeartbeats 4000000 in
theorem wl_X3_line_4 (E : zEnv) (a : Nat → Nat) (S U : St) : (wTapeTown E a U).map (fun q => q.1) = (wTapeTown E a S).map (fun q => q.1) := rfl
set_option maxHeartbeats 4000000 in
theorem wl_X3_line_5 (E : zEnv) (a : Nat → Nat) (S U : St) : (wTapeTown E a U) = zrep [0, 1, 2, 3, 4, 5, 6, 7, 8, 9, 10, 11, 12, 13, 14, 15, 16, 17] (wTapeTown E a U) (wTapeTown E a S) := zrep_of (isR := []) 18 rfl [] rfl rfl rfl rfl (by decide +kernel) (by decide +kernel)
noncomputable def f_X3_line (S : St) : Option (Int32 × St) := ((f_X3_isName 0 (sb 0 S)).bind (fun q1 => (if q1 = 0 then ((f_X3_isName 1 (sb 0 S)).bind (fun q2 => (if q2 = 0 then ((f_X3_isName 2 (sb 0 S)).bind (fun q3 => (if q3 = 0 then ((f_X3_isName 3 (sb 0 S)).bind (fun q4 => (if q4 = 0 then ((f_X3_isName 4 (sb 0 S)).bind (fun q5 => (if q5 = 0 then ((f_X3_fail (2 : Int32) (S 7 0) (sb 0 S)).bind (fun q6 => (zb q6.1 (some (q6.1, (pt 0 16 q6.2 S)))))) else ((f_X3_expectLine S).bind (fun q7 => (zb q7.1 (some (q7.1, q7.2)))))))) else ((f_X3_moveLine S).bind (fun q8 => (zb q8.1 (some (q8.1, q8.2)))))))) else ((f_X3_oneLine S).bind (fun q9 => (zb q9.1 (some (q9.1, q9.2)))))))) else ((f_X3_lawLine S).bind (fun q10 => (zb q10.1 (some (q10.1, q10.2)))))))) else ((f_X3_housesLine S).bind (fun q11 => (zb q11.1 (some (q11.1, q11.2))))))))
set_option maxHeartbeats 4000000 in
set_option maxRecDepth 100000 in
theorem L_X3_line {E : zEnv} {Γ : zG} (a : Nat → Nat) (C : zC E Γ cX3_line RX3 2 rm_X3_line wsX3_line) {res : (Int32 × St)} (R : zRi E Γ cX3_line 2 .boolean (wTapeTown E a res.2) res.1) (S : St) (h : f_X3_line S = some res) : Zt E Γ 2 0 0 (wTapeTown E a S) [(0, .ref (a 0)), (1, .ref (a 2))] 0 [] := by
  unfold f_X3_line at h
  refine z_aload_n C 0 rfl rfl dX3_line_0 ?_
  refine z_ldcS C 0 rfl dX3_line_1 ?_
  obtain ⟨q1, e1, h⟩ := bd_e h
  refine z_callVi C (b := a 0) (As := [.ref (E.2.2.2.1 0)]) (rest := []) (c_X3_isName E a 0 (sb 0 S) e1) rfl gX3_line_X3_isName rfl rfl rfl 1 rfl (by decide +kernel) ⟨Nat.le_of_ble_eq_true rfl, Nat.le_of_ble_eq_true rfl⟩ [0, 1] (wl_X3_line_0 E a S) (by decide) rfl (wTapeTown E a S) (zrep_self (wl_X3_line_0 E a S)) 0 3 rfl rfl rfl (Nat.le_of_ble_eq_true rfl) dX3_line_3 ⟨Nat.zero_le _, Nat.zero_le _⟩ _ rfl ?_
  refine z_if_eq C 15 (by decide) h dX3_line_6 (fun hc h => ?_) (fun hc h => ?_)
  · refine z_aload_n C 0 rfl rfl dX3_line_15 ?_
    refine z_ldcS C 1 rfl dX3_line_16 ?_
    obtain ⟨q2, e2, h⟩ := bd_e h
    refine z_callVi C (b := a 0) (As := [.ref (E.2.2.2.1 1)]) (rest := []) (c_X3_isName E a 1 (sb 0 S) e2) rfl gX3_line_X3_isName rfl rfl rfl 1 rfl (by decide +kernel) ⟨Nat.le_of_ble_eq_true rfl, Nat.le_of_ble_eq_true rfl⟩ [0, 1] (wl_X3_line_0 E a S) (by decide) rfl (wTapeTown E a S) (zrep_self (wl_X3_line_0 E a S)) 0 3 rfl rfl rfl (Nat.le_of_ble_eq_true rfl) dX3_line_18 ⟨Nat.zero_le _, Nat.zero_le _⟩ _ rfl ?_
    refine z_if_eq C 30 (by decide) h dX3_line_21 (fun hc h => ?_) (fun hc h => ?_)
    · refine z_aload_n C 0 rfl rfl dX3_line_30 ?_
      refine z_ldcS C 2 rfl dX3_line_31 ?_
      obtain ⟨q3, e3, h⟩ := bd_e h
      refine z_callVi C (b := a 0) (As := [.ref (E.2.2.2.1 2)]) (rest := []) (c_X3_isName E a 2 (sb 0 S) e3) rfl gX3_line_X3_isName rfl rfl rfl 1 rfl (by decide +kernel) ⟨Nat.le_of_ble_eq_true rfl, Nat.le_of_ble_eq_true rfl⟩ [0, 1] (wl_X3_line_0 E a S) (by decide) rfl (wTapeTown E a S) (zrep_self (wl_X3_line_0 E a S)) 0 3 rfl rfl rfl (Nat.le_of_ble_eq_true rfl) dX3_line_33 ⟨Nat.zero_le _, Nat.zero_le _⟩ _ rfl ?_
      refine z_if_eq C 45 (by decide) h dX3_line_36 (fun hc h => ?_) (fun hc h => ?_)
      · refine z_aload_n C 0 rfl rfl dX3_line_45 ?_
        refine z_ldcS C 3 rfl dX3_line_46 ?_
        obtain ⟨q4, e4, h⟩ := bd_e h
        refine z_callVi C (b := a 0) (As := [.ref (E.2.2.2.1 3)]) (rest := []) (c_X3_isName E a 3 (sb 0 S) e4) rfl gX3_line_X3_isName rfl rfl rfl 1 rfl (by decide +kernel) ⟨Nat.le_of_ble_eq_true rfl, Nat.le_of_ble_eq_true rfl⟩ [0, 1] (wl_X3_line_0 E a S) (by decide) rfl (wTapeTown E a S) (zrep_self (wl_X3_line_0 E a S)) 0 3 rfl rfl rfl (Nat.le_of_ble_eq_true rfl) dX3_line_48 ⟨Nat.zero_le _, Nat.zero_le _⟩ _ rfl ?_
        refine z_if_eq C 60 (by decide) h dX3_line_51 (fun hc h => ?_) (fun hc h => ?_)
        · refine z_aload_n C 0 rfl rfl dX3_line_60 ?_
          refine z_ldcS C 4 rfl dX3_line_61 ?_
          obtain ⟨q5, e5, h⟩ := bd_e h
          refine z_callVi C (b := a 0) (As := [.ref (E.2.2.2.1 4)]) (rest := []) (c_X3_isName E a 4 (sb 0 S) e5) rfl gX3_line_X3_isName rfl rfl rfl 1 rfl (by decide +kernel) ⟨Nat.le_of_ble_eq_true rfl, Nat.le_of_ble_eq_true rfl⟩ [0, 1] (wl_X3_line_0 E a S) (by decide) rfl (wTapeTown E a S) (zrep_self (wl_X3_line_0 E a S)) 0 3 rfl rfl rfl (Nat.le_of_ble_eq_true rfl) dX3_line_63 ⟨Nat.zero_le _, Nat.zero_le _⟩ _ rfl ?_
          refine z_if_eq C 75 (by decide) h dX3_line_66 (fun hc h => ?_) (fun hc h => ?_)
          · refine z_aload_n C 0 rfl rfl dX3_line_75 ?_
            refine z_iconst C (v := (2 : Int32)) (by decide) dX3_line_76 ?_
            refine z_aload_n C 0 rfl rfl dX3_line_77 ?_
            refine z_get C 0 rfl (C := RX3) (T := TX3) (N := 12) (ci := 3) rfl inw_X3_line_X3 7 (by decide) (ref := "EldestAge$Tape") (List.mem_of_getElem? (i := 1) rfl) rfl (v := .int (S 7 0)) rfl dX3_line_78 ?_
            obtain ⟨q6, e6, h⟩ := bd_e h
            refine z_callVi C (b := a 0) (As := [.int (2 : Int32), .int (S 7 0)]) (rest := []) (c_X3_fail E a (2 : Int32) (S 7 0) (sb 0 S) e6) rfl gX3_line_X3_fail rfl rfl rfl 2 rfl (by decide +kernel) ⟨Nat.le_of_ble_eq_true rfl, Nat.le_of_ble_eq_true rfl⟩ [0, 1] (wl_X3_line_0 E a S) (by decide) (wl_X3_line_1 E a _ _) (wTapeTown E a (pt 0 16 q6.2 S)) (wl_X3_line_2 E a S q6.2) 0 3 rfl rfl rfl (Nat.le_of_ble_eq_true rfl) dX3_line_81 ⟨Nat.zero_le _, Nat.zero_le _⟩ _ rfl ?_
            have hz := zb_n (zb_e h).1
            replace h := (zb_e h).2
            obtain rfl := Option.some.inj h
            exact R hz 84 _ dX3_line_84
          · refine z_aload_n C 0 rfl rfl dX3_line_69 ?_
            refine z_aload_n C 1 rfl rfl dX3_line_70 ?_
            obtain ⟨q7, e7, h⟩ := bd_e h
            refine z_callVi C (b := a 0) (As := [.ref (a 2)]) (rest := []) (c_X3_expectLine E a S e7) rfl gX3_line_X3_expectLine rfl rfl rfl 1 rfl (by decide +kernel) ⟨Nat.le_of_ble_eq_true rfl, Nat.le_of_ble_eq_true rfl⟩ [0, 1, 2, 3, 4, 5, 6, 7, 8, 9, 10, 11, 12, 13, 14, 15, 16, 17] (wl_X3_line_3 E a S) (by decide) (wl_X3_line_4 E a _ _) (wTapeTown E a q7.2) (wl_X3_line_5 E a S q7.2) 0 3 rfl rfl rfl (Nat.le_of_ble_eq_true rfl) dX3_line_71 ⟨Nat.zero_le _, Nat.zero_le _⟩ _ rfl ?_
            have hz := zb_n (zb_e h).1
            replace h := (zb_e h).2
            obtain rfl := Option.some.inj h
            exact R hz 74 _ dX3_line_74
        · refine z_aload_n C 0 rfl rfl dX3_line_54 ?_
          refine z_aload_n C 1 rfl rfl dX3_line_55 ?_
          obtain ⟨q8, e8, h⟩ := bd_e h
          refine z_callVi C (b := a 0) (As := [.ref (a 2)]) (rest := []) (c_X3_moveLine E a S e8) rfl gX3_line_X3_moveLine rfl rfl rfl 1 rfl (by decide +kernel) ⟨Nat.le_of_ble_eq_true rfl, Nat.le_of_ble_eq_true rfl⟩ [0, 1, 2, 3, 4, 5, 6, 7, 8, 9, 10, 11, 12, 13, 14, 15, 16, 17] (wl_X3_line_3 E a S) (by decide) (wl_X3_line_4 E a _ _) (wTapeTown E a q8.2) (wl_X3_line_5 E a S q8.2) 0 3 rfl rfl rfl (Nat.le_of_ble_eq_true rfl) dX3_line_56 ⟨Nat.zero_le _, Nat.zero_le _⟩ _ rfl ?_
          have hz := zb_n (zb_e h).1
          replace h := (zb_e h).2
          obtain rfl := Option.some.inj h
          exact R hz 59 _ dX3_line_59
      · refine z_aload_n C 0 rfl rfl dX3_line_39 ?_
        refine z_aload_n C 1 rfl rfl dX3_line_40 ?_
        obtain ⟨q9, e9, h⟩ := bd_e h
        refine z_callVi C (b := a 0) (As := [.ref (a 2)]) (rest := []) (c_X3_oneLine E a S e9) rfl gX3_line_X3_oneLine rfl rfl rfl 1 rfl (by decide +kernel) ⟨Nat.le_of_ble_eq_true rfl, Nat.le_of_ble_eq_true rfl⟩ [0, 1, 2, 3, 4, 5, 6, 7, 8, 9, 10, 11, 12, 13, 14, 15, 16, 17] (wl_X3_line_3 E a S) (by decide) (wl_X3_line_4 E a _ _) (wTapeTown E a q9.2) (wl_X3_line_5 E a S q9.2) 0 3 rfl rfl rfl (Nat.le_of_ble_eq_true rfl) dX3_line_41 ⟨Nat.zero_le _, Nat.zero_le _⟩ _ rfl ?_
        have hz := zb_n (zb_e h).1
        replace h := (zb_e h).2
        obtain rfl := Option.some.inj h
        exact R hz 44 _ dX3_line_44
    · refine z_aload_n C 0 rfl rfl dX3_line_24 ?_
      refine z_aload_n C 1 rfl rfl dX3_line_25 ?_
      obtain ⟨q10, e10, h⟩ := bd_e h
      refine z_callVi C (b := a 0) (As := [.ref (a 2)]) (rest := []) (c_X3_lawLine E a S e10) rfl gX3_line_X3_lawLine rfl rfl rfl 1 rfl (by decide +kernel) ⟨Nat.le_of_ble_eq_true rfl, Nat.le_of_ble_eq_true rfl⟩ [0, 1, 2, 3, 4, 5, 6, 7, 8, 9, 10, 11, 12, 13, 14, 15, 16, 17] (wl_X3_line_3 E a S) (by decide) (wl_X3_line_4 E a _ _) (wTapeTown E a q10.2) (wl_X3_line_5 E a S q10.2) 0 3 rfl rfl rfl (Nat.le_of_ble_eq_true rfl) dX3_line_26 ⟨Nat.zero_le _, Nat.zero_le _⟩ _ rfl ?_
      have hz := zb_n (zb_e h).1
      replace h := (zb_e h).2
      obtain rfl := Option.some.inj h
      exact R hz 29 _ dX3_line_29
  · refine z_aload_n C 0 rfl rfl dX3_line_9 ?_
    refine z_aload_n C 1 rfl rfl dX3_line_10 ?_
    obtain ⟨q11, e11, h⟩ := bd_e h
    refine z_callVi C (b := a 0) (As := [.ref (a 2)]) (rest := []) (c_X3_housesLine E a S e11) rfl gX3_line_X3_housesLine rfl rfl rfl 1 rfl (by decide +kernel) ⟨Nat.le_of_ble_eq_true rfl, Nat.le_of_ble_eq_true rfl⟩ [0, 1, 2, 3, 4, 5, 6, 7, 8, 9, 10, 11, 12, 13, 14, 15, 16, 17] (wl_X3_line_3 E a S) (by decide) (wl_X3_line_4 E a _ _) (wTapeTown E a q11.2) (wl_X3_line_5 E a S q11.2) 0 3 rfl rfl rfl (Nat.le_of_ble_eq_true rfl) dX3_line_11 ⟨Nat.zero_le _, Nat.zero_le _⟩ _ rfl ?_
    have hz := zb_n (zb_e h).1
    replace h := (zb_e h).2
    obtain rfl := Option.some.inj h
    exact R hz 14 _ dX3_line_14

theorem c_X3_line (E : zEnv) (a : Nat → Nat) (S : St) {res : (Int32 × St)} (h : f_X3_line S = some res) : Kti E yX3_line wsX3_line rm_X3_line (wTapeTown E a S) (wTapeTown E a res.2) [.ref (a 0), .ref (a 2)] res.1 :=
  z_enti (cc := cX3_line) (maxL := 2) (rt := .boolean) (by decide +kernel) rfl (Nat.le_of_ble_eq_true rfl) (fun Γ C R => L_X3_line a C R S h)

abbrev rm_X3_tell : Room := { frames := 8, cells := 0, slots := 0, locals := 172 }
theorem inw_X3_tell_X3 : ∀ w ∈ wsX30, w ∈ wsX3_tell := fun _ h => List.mem_cons_of_mem _ (List.mem_append_left _ (List.mem_append_right _ h))
theorem inw_X3_tell_X5 : ∀ w ∈ wsX50, w ∈ wsX3_tell := fun _ h => List.mem_cons_of_mem _ (List.mem_append_right _ h)
set_option maxHeartbeats 4000000 in
theorem wl_X3_tell_0 (E : zEnv) (a : Nat → Nat) (S : St) : ([0, 1, 2, 3, 4, 5, 6, 7, 8, 9, 10, 11, 12, 13, 14, 15, 16, 17] : List Nat).map (fun i => (wTapeTown E a S)[i]?) = (wTapeTown E a S).map some := rfl
set_option maxHeartbeats 4000000 in
theorem wl_X3_tell_1 (E : zEnv) (a : Nat → Nat) (S U : St) : (wTapeTown E a U).map (fun q => q.1) = (wTapeTown E a S).map (fun q => q.1) := rfl
set_option maxHeartbeats 4000000 in
theorem wl_X3_tell_2 (E : zEnv) (a : Nat → Nat) (S : St) : ([0, 1] : List Nat).map (fun i => (wTapeTown E a S)[i]?) = (wTape E a (sb 0 S)).map some := rfl
set_option maxHeartbeats 4000000 in
theorem wl_X3_tell_3 (E : zEnv) (a : Nat → Nat) (S U : St) : (wTape E a U).map (fun q => q.1) = (wTape E a S).map (fun q => q.1) := rfl
set_option maxHeartbeats 4000000 in
theorem wl_X3_tell_4 (E : zEnv) (a : Nat → Nat) (S U : St) : (wTapeTown E a (pt 0 16 U S)) = zrep [0, 1] (wTape E a U) (wTapeTown E a S) := zrep_of (isR := [2, 3, 4, 5, 6, 7, 8, 9, 10, 11, 12, 13, 14, 15, 16, 17]) 18 rfl [some (a 2, .inr (5, [.int (S 16 0), .int (S 17 0), .int (S 18 0), .ref (a 3), .ref (a 4), .ref (a 5), .ref (a 6), .int (S 23 0), .ref (a 7), .ref (a 8), .ref (a 9), .int (S 27 0), .ref (a 10), .ref (a 11), .ref (a 12), .ref (a 13)])), some (a 3, .inl (zI E, 14, .inl (S 19))), some (a 4, .inl (zI E, 14, .inl (S 20))), some (a 5, .inl (zI E, 14, .inl (S 21))), some (a 6, .inl (zI E, 14, .inl (S 22))), some (a 7, .inl (zI E, 12, .inl (S 24))), some (a 8, .inl (zI E, 12, .inl (S 25))), some (a 9, .inl (zI E, 12, .inl (S 26))), some (a 10, .inl (zI E, 4, .inl (S 28))), some (a 11, .inl (zI E, 4, .inl (S 29))), some (a 12, .inl (zI E, 4, .inl (S 30))), some (a 13, .inr (2, [.ref (a 14), .ref (a 15), .ref (a 16), .ref (a 17)])), some (a 14, .inl (zI E, 8, .inl (S 32))), some (a 15, .inl (zI E, 8, .inl (S 33))), some (a 16, .inl (zI E, 8, .inl (S 34))), some (a 17, .inl (zI E, 8, .inl (S 35)))] rfl rfl rfl rfl (by decide +kernel) (by decide +kernel)
set_option maxHeartbeats 4000000 in
theorem wl_X3_tell_5 (E : zEnv) (a : Nat → Nat) (S U : St) : (wTapeTown E a U) = zrep [0, 1, 2, 3, 4, 5, 6, 7, 8, 9, 10, 11, 12, 13, 14, 15, 16, 17] (wTapeTown E a U) (wTapeTown E a S) := zrep_of (isR := []) 18 rfl [] rfl rfl rfl rfl (by decide +kernel) (by decide +kernel)
set_option maxHeartbeats 4000000 in
theorem wl_X3_tell_6 (E : zEnv) (a : Nat → Nat) (S : St) (v : Int32) : (wTapeTown E a (st 2 (fun _ => v) S)) = (wTapeTown E a S).set 0 (a 0, .inr (3, List.set [.ref (a 1), .int (S 1 0), .int (S 2 0), .int (S 3 0), .int (S 4 0), .int (S 5 0), .int (S 6 0), .int (S 7 0), .int (S 8 0), .int (S 9 0), .int (S 10 0), .int (S 11 0)] 2 (.int v))) := rfl
set_option maxHeartbeats 4000000 in
theorem wl_X3_tell_7 (E : zEnv) (a : Nat → Nat) (S : St) : ([2, 3, 4, 5, 6, 7, 8, 9, 10, 11, 12, 13, 14, 15, 16, 17] : List Nat).map (fun i => (wTapeTown E a S)[i]?) = (wTown E (fun k => a (2 + k)) (sb 16 S)).map some := rfl
set_option maxHeartbeats 4000000 in
theorem wl_X3_tell_8 (E : zEnv) (a : Nat → Nat) (S U : St) : (wTown E (fun k => a (2 + k)) U).map (fun q => q.1) = (wTown E (fun k => a (2 + k)) S).map (fun q => q.1) := rfl
set_option maxHeartbeats 4000000 in
theorem wl_X3_tell_9 (E : zEnv) (a : Nat → Nat) (S U : St) : (wTapeTown E a (pt 16 32 U S)) = zrep [2, 3, 4, 5, 6, 7, 8, 9, 10, 11, 12, 13, 14, 15, 16, 17] (wTown E (fun k => a (2 + k)) U) (wTapeTown E a S) := zrep_of (isR := [0, 1]) 18 rfl [some (a 0, .inr (3, [.ref (a 1), .int (S 1 0), .int (S 2 0), .int (S 3 0), .int (S 4 0), .int (S 5 0), .int (S 6 0), .int (S 7 0), .int (S 8 0), .int (S 9 0), .int (S 10 0), .int (S 11 0)])), some (a 1, .inl (zI E, 400, .inl (S 0)))] rfl rfl rfl rfl (by decide +kernel) (by decide +kernel)
set_option maxHeartbeats 4000000 in
theorem wl_X3_tell_10 (E : zEnv) (a : Nat → Nat) (S : St) (v : Int32) : (wTapeTown E a (st 5 (fun _ => v) S)) = (wTapeTown E a S).set 0 (a 0, .inr (3, List.set [.ref (a 1), .int (S 1 0), .int (S 2 0), .int (S 3 0), .int (S 4 0), .int (S 5 0), .int (S 6 0), .int (S 7 0), .int (S 8 0), .int (S 9 0), .int (S 10 0), .int (S 11 0)] 5 (.int v))) := rfl
set_option maxHeartbeats 4000000 in
theorem wl_X3_tell_11 (E : zEnv) (a : Nat → Nat) (S : St) (v : Int32) : (wTapeTown E a (st 3 (fun _ => v) S)) = (wTapeTown E a S).set 0 (a 0, .inr (3, List.set [.ref (a 1), .int (S 1 0), .int (S 2 0), .int (S 3 0), .int (S 4 0), .int (S 5 0), .int (S 6 0), .int (S 7 0), .int (S 8 0), .int (S 9 0), .int (S 10 0), .int (S 11 0)] 3 (.int v))) := rfl
set_option maxHeartbeats 4000000 in
theorem wl_X3_tell_12 (E : zEnv) (a : Nat → Nat) (S : St) (v : Int32) : (wTapeTown E a (st 4 (fun _ => v) S)) = (wTapeTown E a S).set 0 (a 0, .inr (3, List.set [.ref (a 1), .int (S 1 0), .int (S 2 0), .int (S 3 0), .int (S 4 0), .int (S 5 0), .int (S 6 0), .int (S 7 0), .int (S 8 0), .int (S 9 0), .int (S 10 0), .int (S 11 0)] 4 (.int v))) := rfl
set_option maxHeartbeats 4000000 in
theorem wl_X3_tell_13 (E : zEnv) (a : Nat → Nat) (S : St) (v : Int32) : (wTapeTown E a (st 10 (fun _ => v) S)) = (wTapeTown E a S).set 0 (a 0, .inr (3, List.set [.ref (a 1), .int (S 1 0), .int (S 2 0), .int (S 3 0), .int (S 4 0), .int (S 5 0), .int (S 6 0), .int (S 7 0), .int (S 8 0), .int (S 9 0), .int (S 10 0), .int (S 11 0)] 10 (.int v))) := rfl
set_option maxHeartbeats 4000000 in
theorem wl_X3_tell_14 (E : zEnv) (a : Nat → Nat) (S : St) (v : Int32) : (wTapeTown E a (st 11 (fun _ => v) S)) = (wTapeTown E a S).set 0 (a 0, .inr (3, List.set [.ref (a 1), .int (S 1 0), .int (S 2 0), .int (S 3 0), .int (S 4 0), .int (S 5 0), .int (S 6 0), .int (S 7 0), .int (S 8 0), .int (S 9 0), .int (S 10 0), .int (S 11 0)] 11 (.int v))) := rfl
noncomputable def f_X3_tell_80 (S : St) : Option (Int32 × St) := (some ((1 : Int32), S))
noncomputable def f_X3_tell_59 (S : St) : Option (Int32 × St) := ((f_X3_isWhole S).bind (fun q1 => (if q1 = 0 then ((f_X3_fail (6 : Int32) (S 1 0) (sb 0 S)).bind (fun q2 => (if q2.1 = 0 then (some ((0 : Int32), (pt 0 16 q2.2 S))) else (f_X3_tell_80 (pt 0 16 q2.2 S))))) else (f_X3_tell_80 S))))
noncomputable def f_X3_tell_36 (n : Nat) : Int32 → St → Option (Int32 × St) := Nat.rec (motive := fun _ => Int32 → St → Option (Int32 × St)) (fun _ _ => none) (fun _ ih => fun x2 S => (if (400 : Int32) < x2 then (some ((0 : Int32), S)) else ((f_X3_next (sb 0 S)).bind (fun q3 => (if q3.1 = 0 then (some ((0 : Int32), (pt 0 16 q3.2 S))) else (if (q3.2 6 0) = 0 then (f_X3_tell_59 (pt 0 16 q3.2 S)) else ((f_X3_line (pt 0 16 q3.2 S)).bind (fun q4 => (if q4.1 = 0 then (some ((0 : Int32), q4.2)) else (ih (x2 + (1 : Int32)) (st 2 (fun _ => ((q4.2 2 0) + (1 : Int32))) q4.2))))))))))) n
theorem f_X3_tell_36_s (n : Nat) (x2 : Int32) (S : St) : f_X3_tell_36 (n + 1) x2 S = (if (400 : Int32) < x2 then (some ((0 : Int32), S)) else ((f_X3_next (sb 0 S)).bind (fun q3 => (if q3.1 = 0 then (some ((0 : Int32), (pt 0 16 q3.2 S))) else (if (q3.2 6 0) = 0 then (f_X3_tell_59 (pt 0 16 q3.2 S)) else ((f_X3_line (pt 0 16 q3.2 S)).bind (fun q4 => (if q4.1 = 0 then (some ((0 : Int32), q4.2)) else ((f_X3_tell_36 n) (x2 + (1 : Int32)) (st 2 (fun _ => ((q4.2 2 0) + (1 : Int32))) q4.2)))))))))) := rfl
noncomputable def f_X3_tell (S : St) : Option (Int32 × St) := ((f_X5_begin (sb 16 S)).bind (fun q5 => (f_X3_tell_36 1000 (0 : Int32) (st 11 (fun _ => (0 : Int32)) (st 10 (fun _ => (0 : Int32)) (st 4 (fun _ => (0 : Int32)) (st 3 (fun _ => (0 : Int32)) (st 2 (fun _ => (0 : Int32)) (st 5 (fun _ => (0 : Int32)) (pt 16 32 q5 S))))))))))
set_option maxHeartbeats 4000000 in
set_option maxRecDepth 100000 in
theorem L_X3_tell_80 {E : zEnv} {Γ : zG} (a : Nat → Nat) (C : zC E Γ cX3_tell RX3 3 rm_X3_tell wsX3_tell) {res : (Int32 × St)} (R : zRi E Γ cX3_tell 3 .boolean (wTapeTown E a res.2) res.1) (S : St) (h : f_X3_tell_80 S = some res) : Zt E Γ 3 0 0 (wTapeTown E a S) [] 80 [] := by
  unfold f_X3_tell_80 at h
  refine z_iconst C (v := (1 : Int32)) (by decide) dX3_tell_80 ?_
  refine z_goto C 85 (by decide) dX3_tell_81 ?_
  obtain rfl := Option.some.inj h
  exact R z_n1 85 _ dX3_tell_85

set_option maxHeartbeats 4000000 in
set_option maxRecDepth 100000 in
theorem L_X3_tell_59 {E : zEnv} {Γ : zG} (a : Nat → Nat) (C : zC E Γ cX3_tell RX3 3 rm_X3_tell wsX3_tell) {res : (Int32 × St)} (R : zRi E Γ cX3_tell 3 .boolean (wTapeTown E a res.2) res.1) (S : St) (h : f_X3_tell_59 S = some res) : Zt E Γ 3 0 0 (wTapeTown E a S) [(0, .ref (a 0)), (1, .ref (a 2))] 59 [] := by
  unfold f_X3_tell_59 at h
  refine z_aload_n C 0 rfl rfl dX3_tell_59 ?_
  refine z_aload_n C 1 rfl rfl dX3_tell_60 ?_
  obtain ⟨q1, e1, h⟩ := bd_e h
  refine z_callVi C (b := a 0) (As := [.ref (a 2)]) (rest := []) (c_X3_isWhole E a S e1) rfl gX3_tell_X3_isWhole rfl rfl rfl 1 rfl (by decide +kernel) ⟨Nat.le_of_ble_eq_true rfl, Nat.le_of_ble_eq_true rfl⟩ [0, 1, 2, 3, 4, 5, 6, 7, 8, 9, 10, 11, 12, 13, 14, 15, 16, 17] (wl_X3_tell_0 E a S) (by decide) rfl (wTapeTown E a S) (zrep_self (wl_X3_tell_0 E a S)) 0 3 rfl rfl rfl (Nat.le_of_ble_eq_true rfl) dX3_tell_61 ⟨Nat.zero_le _, Nat.zero_le _⟩ _ rfl ?_
  refine z_if_ne C 80 (by decide) h dX3_tell_64 (fun hc h => ?_) (fun hc h => ?_)
  · refine z_aload_n C 0 rfl rfl dX3_tell_67 ?_
    refine z_bipush C (v := (6 : Int32)) (by decide) dX3_tell_68 ?_
    refine z_aload_n C 0 rfl rfl dX3_tell_70 ?_
    refine z_get C 0 rfl (C := RX3) (T := TX3) (N := 12) (ci := 3) rfl inw_X3_tell_X3 1 (by decide) (ref := "EldestAge$Tape") (List.mem_of_getElem? (i := 8) rfl) rfl (v := .int (S 1 0)) rfl dX3_tell_71 ?_
    obtain ⟨q2, e2, h⟩ := bd_e h
    refine z_callVi C (b := a 0) (As := [.int (6 : Int32), .int (S 1 0)]) (rest := []) (c_X3_fail E a (6 : Int32) (S 1 0) (sb 0 S) e2) rfl gX3_tell_X3_fail rfl rfl rfl 2 rfl (by decide +kernel) ⟨Nat.le_of_ble_eq_true rfl, Nat.le_of_ble_eq_true rfl⟩ [0, 1] (wl_X3_tell_2 E a S) (by decide) (wl_X3_tell_3 E a _ _) (wTapeTown E a (pt 0 16 q2.2 S)) (wl_X3_tell_4 E a S q2.2) 0 3 rfl rfl rfl (Nat.le_of_ble_eq_true rfl) dX3_tell_74 ⟨Nat.zero_le _, Nat.zero_le _⟩ _ rfl ?_
    refine z_if_eq C 84 (by decide) h dX3_tell_77 (fun hc h => ?_) (fun hc h => ?_)
    · refine z_iconst C (v := (0 : Int32)) (by decide) dX3_tell_84 ?_
      obtain rfl := Option.some.inj h
      exact R z_n0 85 _ dX3_tell_85
    · refine Zt_l [] [] rfl ?_
      exact L_X3_tell_80 a C R (pt 0 16 q2.2 S) h
  · refine Zt_l [] [] rfl ?_
    exact L_X3_tell_80 a C R S h

set_option maxHeartbeats 4000000 in
set_option maxRecDepth 100000 in
theorem L_X3_tell_36 {E : zEnv} {Γ : zG} (a : Nat → Nat) (C : zC E Γ cX3_tell RX3 3 rm_X3_tell wsX3_tell) {res : (Int32 × St)} (R : zRi E Γ cX3_tell 3 .boolean (wTapeTown E a res.2) res.1) : ∀ (n : Nat) (x2 : Int32) (S : St), f_X3_tell_36 n x2 S = some res → Zt E Γ 3 0 0 (wTapeTown E a S) [(0, .ref (a 0)), (1, .ref (a 2)), (2, .int x2)] 36 [] := by
  intro n
  induction n with
  | zero =>
    intro x2 S h
    cases h
  | succ n ih =>
    intro x2 S h
    rw [f_X3_tell_36_s] at h
    refine z_iload_n C 2 rfl rfl dX3_tell_36 ?_
    refine z_sipush C (v := (400 : Int32)) (by decide) dX3_tell_37 ?_
    refine z_icmp_gt C 112 (by decide) h dX3_tell_40 (fun hc h => ?_) (fun hc h => ?_)
    · refine z_iconst C (v := (0 : Int32)) (by decide) dX3_tell_112 ?_
      obtain rfl := Option.some.inj h
      exact R z_n0 113 _ dX3_tell_113
    · refine z_aload_n C 0 rfl rfl dX3_tell_43 ?_
      obtain ⟨q3, e3, h⟩ := bd_e h
      refine z_callVi C (b := a 0) (As := []) (rest := []) (c_X3_next E a (sb 0 S) e3) rfl gX3_tell_X3_next rfl rfl rfl 0 rfl (by decide +kernel) ⟨Nat.le_of_ble_eq_true rfl, Nat.le_of_ble_eq_true rfl⟩ [0, 1] (wl_X3_tell_2 E a S) (by decide) (wl_X3_tell_3 E a _ _) (wTapeTown E a (pt 0 16 q3.2 S)) (wl_X3_tell_4 E a S q3.2) 0 3 rfl rfl rfl (Nat.le_of_ble_eq_true rfl) dX3_tell_44 ⟨Nat.zero_le _, Nat.zero_le _⟩ _ rfl ?_
      refine z_if_ne C 52 (by decide) h dX3_tell_47 (fun hc h => ?_) (fun hc h => ?_)
      · refine z_iconst C (v := (0 : Int32)) (by decide) dX3_tell_50 ?_
        obtain rfl := Option.some.inj h
        exact R z_n0 51 _ dX3_tell_51
      · refine z_aload_n C 0 rfl rfl dX3_tell_52 ?_
        refine z_get C 0 rfl (C := RX3) (T := TX3) (N := 12) (ci := 3) rfl inw_X3_tell_X3 6 (by decide) (ref := "EldestAge$Tape") (List.mem_of_getElem? (i := 7) rfl) rfl (v := .int (q3.2 6 0)) rfl dX3_tell_53 ?_
        refine z_if_ne C 86 (by decide) h dX3_tell_56 (fun hc h => ?_) (fun hc h => ?_)
        · refine Zt_l [(0, .ref (a 0)), (1, .ref (a 2))] [0, 1] rfl ?_
          exact L_X3_tell_59 a C R (pt 0 16 q3.2 S) h
        · refine z_aload_n C 0 rfl rfl dX3_tell_86 ?_
          refine z_aload_n C 1 rfl rfl dX3_tell_87 ?_
          obtain ⟨q4, e4, h⟩ := bd_e h
          refine z_callVi C (b := a 0) (As := [.ref (a 2)]) (rest := []) (c_X3_line E a (pt 0 16 q3.2 S) e4) rfl gX3_tell_X3_line rfl rfl rfl 1 rfl (by decide +kernel) ⟨Nat.le_of_ble_eq_true rfl, Nat.le_of_ble_eq_true rfl⟩ [0, 1, 2, 3, 4, 5, 6, 7, 8, 9, 10, 11, 12, 13, 14, 15, 16, 17] (wl_X3_tell_0 E a (pt 0 16 q3.2 S)) (by decide) (wl_X3_tell_1 E a _ _) (wTapeTown E a q4.2) (wl_X3_tell_5 E a (pt 0 16 q3.2 S) q4.2) 0 3 rfl rfl rfl (Nat.le_of_ble_eq_true rfl) dX3_tell_88 ⟨Nat.zero_le _, Nat.zero_le _⟩ _ rfl ?_
          refine z_if_ne C 96 (by decide) h dX3_tell_91 (fun hc h => ?_) (fun hc h => ?_)
          · refine z_iconst C (v := (0 : Int32)) (by decide) dX3_tell_94 ?_
            obtain rfl := Option.some.inj h
            exact R z_n0 95 _ dX3_tell_95
          · refine z_aload_n C 0 rfl rfl dX3_tell_96 ?_
            refine z_dup C rfl dX3_tell_97 ?_
            refine z_get C 0 rfl (C := RX3) (T := TX3) (N := 12) (ci := 3) rfl inw_X3_tell_X3 2 (by decide) (ref := "EldestAge$Tape") (List.mem_of_getElem? (i := 2) rfl) rfl (v := .int (q4.2 2 0)) rfl dX3_tell_98 ?_
            refine z_iconst C (v := (1 : Int32)) (by decide) dX3_tell_101 ?_
            refine z_iadd C dX3_tell_102 ?_
            refine z_put C 0 rfl (C := RX3) (T := TX3) (N := 12) (ci := 3) rfl inw_X3_tell_X3 tyX3 tyX3_ok nmX3 2 (by decide) (ref := "EldestAge$Tape") (List.mem_of_getElem? (i := 2) rfl) rfl rfl (ty := .int) (v := .int ((q4.2 2 0) + (1 : Int32))) (by decide +kernel) rfl rfl (Nat.le_of_ble_eq_true rfl) (wTapeTown E a (st 2 (fun _ => ((q4.2 2 0) + (1 : Int32))) q4.2)) (wl_X3_tell_6 E a q4.2 ((q4.2 2 0) + (1 : Int32))) dX3_tell_103 ?_
            refine z_iinc C [(2, .int (x2 + (1 : Int32))), (0, .ref (a 0)), (1, .ref (a 2))] 2 rfl (by first | rfl | decide) (by decide) rfl dX3_tell_106 ?_
            refine z_goto C 36 (by decide) dX3_tell_109 ?_
            refine Zt_l [(0, .ref (a 0)), (1, .ref (a 2)), (2, .int (x2 + (1 : Int32)))] [1, 2, 0] rfl ?_
            exact ih (x2 + (1 : Int32)) (st 2 (fun _ => ((q4.2 2 0) + (1 : Int32))) q4.2) h

set_option maxHeartbeats 4000000 in
set_option maxRecDepth 100000 in
theorem L_X3_tell {E : zEnv} {Γ : zG} (a : Nat → Nat) (C : zC E Γ cX3_tell RX3 3 rm_X3_tell wsX3_tell) {res : (Int32 × St)} (R : zRi E Γ cX3_tell 3 .boolean (wTapeTown E a res.2) res.1) (S : St) (h : f_X3_tell S = some res) : Zt E Γ 3 0 0 (wTapeTown E a S) [(0, .ref (a 0)), (1, .ref (a 2))] 0 [] := by
  unfold f_X3_tell at h
  refine z_aload_n C 1 rfl rfl dX3_tell_0 ?_
  obtain ⟨q5, e5, h⟩ := bd_e h
  refine z_callVv C (b := a 2) (As := []) (rest := []) (c_X5_begin E (fun k => a (2 + k)) (sb 16 S) e5) rfl gX3_tell_X5_begin rfl rfl rfl 0 rfl (by decide +kernel) ⟨Nat.le_of_ble_eq_true rfl, Nat.le_of_ble_eq_true rfl⟩ [2, 3, 4, 5, 6, 7, 8, 9, 10, 11, 12, 13, 14, 15, 16, 17] (wl_X3_tell_7 E a S) (by decide) (wl_X3_tell_8 E a _ _) (wTapeTown E a (pt 16 32 q5 S)) (wl_X3_tell_9 E a S q5) 0 5 rfl rfl rfl (Nat.le_of_ble_eq_true rfl) dX3_tell_1 ⟨Nat.zero_le _, Nat.zero_le _⟩ _ rfl ?_
  refine z_aload_n C 0 rfl rfl dX3_tell_4 ?_
  refine z_iconst C (v := (0 : Int32)) (by decide) dX3_tell_5 ?_
  refine z_put C 0 rfl (C := RX3) (T := TX3) (N := 12) (ci := 3) rfl inw_X3_tell_X3 tyX3 tyX3_ok nmX3 5 (by decide) (ref := "EldestAge$Tape") (List.mem_of_getElem? (i := 1) rfl) rfl rfl (ty := .int) (v := .int (0 : Int32)) (by decide +kernel) rfl rfl (Nat.le_of_ble_eq_true rfl) (wTapeTown E a (st 5 (fun _ => (0 : Int32)) (pt 16 32 q5 S))) (wl_X3_tell_10 E a (pt 16 32 q5 S) (0 : Int32)) dX3_tell_6 ?_
  refine z_aload_n C 0 rfl rfl dX3_tell_9 ?_
  refine z_iconst C (v := (0 : Int32)) (by decide) dX3_tell_10 ?_
  refine z_put C 0 rfl (C := RX3) (T := TX3) (N := 12) (ci := 3) rfl inw_X3_tell_X3 tyX3 tyX3_ok nmX3 2 (by decide) (ref := "EldestAge$Tape") (List.mem_of_getElem? (i := 2) rfl) rfl rfl (ty := .int) (v := .int (0 : Int32)) (by decide +kernel) rfl rfl (Nat.le_of_ble_eq_true rfl) (wTapeTown E a (st 2 (fun _ => (0 : Int32)) (st 5 (fun _ => (0 : Int32)) (pt 16 32 q5 S)))) (wl_X3_tell_6 E a (st 5 (fun _ => (0 : Int32)) (pt 16 32 q5 S)) (0 : Int32)) dX3_tell_11 ?_
  refine z_aload_n C 0 rfl rfl dX3_tell_14 ?_
  refine z_iconst C (v := (0 : Int32)) (by decide) dX3_tell_15 ?_
  refine z_put C 0 rfl (C := RX3) (T := TX3) (N := 12) (ci := 3) rfl inw_X3_tell_X3 tyX3 tyX3_ok nmX3 3 (by decide) (ref := "EldestAge$Tape") (List.mem_of_getElem? (i := 3) rfl) rfl rfl (ty := .int) (v := .int (0 : Int32)) (by decide +kernel) rfl rfl (Nat.le_of_ble_eq_true rfl) (wTapeTown E a (st 3 (fun _ => (0 : Int32)) (st 2 (fun _ => (0 : Int32)) (st 5 (fun _ => (0 : Int32)) (pt 16 32 q5 S))))) (wl_X3_tell_11 E a (st 2 (fun _ => (0 : Int32)) (st 5 (fun _ => (0 : Int32)) (pt 16 32 q5 S))) (0 : Int32)) dX3_tell_16 ?_
  refine z_aload_n C 0 rfl rfl dX3_tell_19 ?_
  refine z_iconst C (v := (0 : Int32)) (by decide) dX3_tell_20 ?_
  refine z_put C 0 rfl (C := RX3) (T := TX3) (N := 12) (ci := 3) rfl inw_X3_tell_X3 tyX3 tyX3_ok nmX3 4 (by decide) (ref := "EldestAge$Tape") (List.mem_of_getElem? (i := 4) rfl) rfl rfl (ty := .int) (v := .int (0 : Int32)) (by decide +kernel) rfl rfl (Nat.le_of_ble_eq_true rfl) (wTapeTown E a (st 4 (fun _ => (0 : Int32)) (st 3 (fun _ => (0 : Int32)) (st 2 (fun _ => (0 : Int32)) (st 5 (fun _ => (0 : Int32)) (pt 16 32 q5 S)))))) (wl_X3_tell_12 E a (st 3 (fun _ => (0 : Int32)) (st 2 (fun _ => (0 : Int32)) (st 5 (fun _ => (0 : Int32)) (pt 16 32 q5 S)))) (0 : Int32)) dX3_tell_21 ?_
  refine z_aload_n C 0 rfl rfl dX3_tell_24 ?_
  refine z_iconst C (v := (0 : Int32)) (by decide) dX3_tell_25 ?_
  refine z_put C 0 rfl (C := RX3) (T := TX3) (N := 12) (ci := 3) rfl inw_X3_tell_X3 tyX3 tyX3_ok nmX3 10 (by decide) (ref := "EldestAge$Tape") (List.mem_of_getElem? (i := 5) rfl) rfl rfl (ty := .boolean) (v := .int (0 : Int32)) (by decide +kernel) (by decide +kernel) rfl (Nat.le_of_ble_eq_true rfl) (wTapeTown E a (st 10 (fun _ => (0 : Int32)) (st 4 (fun _ => (0 : Int32)) (st 3 (fun _ => (0 : Int32)) (st 2 (fun _ => (0 : Int32)) (st 5 (fun _ => (0 : Int32)) (pt 16 32 q5 S))))))) (wl_X3_tell_13 E a (st 4 (fun _ => (0 : Int32)) (st 3 (fun _ => (0 : Int32)) (st 2 (fun _ => (0 : Int32)) (st 5 (fun _ => (0 : Int32)) (pt 16 32 q5 S))))) (0 : Int32)) dX3_tell_26 ?_
  refine z_aload_n C 0 rfl rfl dX3_tell_29 ?_
  refine z_iconst C (v := (0 : Int32)) (by decide) dX3_tell_30 ?_
  refine z_put C 0 rfl (C := RX3) (T := TX3) (N := 12) (ci := 3) rfl inw_X3_tell_X3 tyX3 tyX3_ok nmX3 11 (by decide) (ref := "EldestAge$Tape") (List.mem_of_getElem? (i := 6) rfl) rfl rfl (ty := .boolean) (v := .int (0 : Int32)) (by decide +kernel) (by decide +kernel) rfl (Nat.le_of_ble_eq_true rfl) (wTapeTown E a (st 11 (fun _ => (0 : Int32)) (st 10 (fun _ => (0 : Int32)) (st 4 (fun _ => (0 : Int32)) (st 3 (fun _ => (0 : Int32)) (st 2 (fun _ => (0 : Int32)) (st 5 (fun _ => (0 : Int32)) (pt 16 32 q5 S)))))))) (wl_X3_tell_14 E a (st 10 (fun _ => (0 : Int32)) (st 4 (fun _ => (0 : Int32)) (st 3 (fun _ => (0 : Int32)) (st 2 (fun _ => (0 : Int32)) (st 5 (fun _ => (0 : Int32)) (pt 16 32 q5 S)))))) (0 : Int32)) dX3_tell_31 ?_
  refine z_iconst C (v := (0 : Int32)) (by decide) dX3_tell_34 ?_
  refine z_istore_n C [(2, .int (0 : Int32)), (0, .ref (a 0)), (1, .ref (a 2))] rfl (by decide) rfl dX3_tell_35 ?_
  refine Zt_l [(0, .ref (a 0)), (1, .ref (a 2)), (2, .int (0 : Int32))] [1, 2, 0] rfl ?_
  exact L_X3_tell_36 a C R 1000 (0 : Int32) (st 11 (fun _ => (0 : Int32)) (st 10 (fun _ => (0 : Int32)) (st 4 (fun _ => (0 : Int32)) (st 3 (fun _ => (0 : Int32)) (st 2 (fun _ => (0 : Int32)) (st 5 (fun _ => (0 : Int32)) (pt 16 32 q5 S))))))) h

theorem c_X3_tell (E : zEnv) (a : Nat → Nat) (S : St) {res : (Int32 × St)} (h : f_X3_tell S = some res) : Kti E yX3_tell wsX3_tell rm_X3_tell (wTapeTown E a S) (wTapeTown E a res.2) [.ref (a 0), .ref (a 2)] res.1 :=
  z_enti (cc := cX3_tell) (maxL := 3) (rt := .boolean) (by decide +kernel) rfl (Nat.le_of_ble_eq_true rfl) (fun Γ C R => L_X3_tell a C R S h)

abbrev rm_X6_feed : Room := { frames := 1, cells := 0, slots := 0, locals := 23 }
theorem inw_X6_feed_X6 : ∀ w ∈ wsX60, w ∈ wsX6_feed := fun _ h => List.mem_cons_of_mem _ (List.mem_append_left _ (List.mem_append_right _ h))
theorem inw_X6_feed_X3 : ∀ w ∈ wsX30, w ∈ wsX6_feed := fun _ h => List.mem_cons_of_mem _ (List.mem_append_right _ h)
set_option maxHeartbeats 4000000 in
theorem wl_X6_feed_0 (E : zEnv) (a : Nat → Nat) (S : St) : ([35, 36] : List Nat).map (fun i => (wEA E a S)[i]?) = (wTape E (fun k => a (67 + k)) (sb 128 S)).map some := rfl
set_option maxHeartbeats 4000000 in
theorem wl_X6_feed_1 (E : zEnv) (a : Nat → Nat) (S U : St) : (wTape E (fun k => a (67 + k)) U).map (fun q => q.1) = (wTape E (fun k => a (67 + k)) S).map (fun q => q.1) := rfl
set_option maxHeartbeats 4000000 in
theorem wl_X6_feed_2 (E : zEnv) (a : Nat → Nat) (S U : St) : (wEA E a (pt 128 16 U S)) = zrep [35, 36] (wTape E (fun k => a (67 + k)) U) (wEA E a S) := zrep_of (isR := [0, 1, 2, 3, 4, 5, 6, 7, 8, 9, 10, 11, 12, 13, 14, 15, 16, 17, 18, 19, 20, 21, 22, 23, 24, 25, 26, 27, 28, 29, 30, 31, 32, 33, 34, 37, 38, 39, 40, 41, 42, 43, 44, 45, 46, 47, 48, 49, 50, 51, 52, 53, 54, 55, 56, 57, 58, 59, 60, 61, 62, 63, 64, 65, 66, 67, 68, 69, 70, 71, 72, 73, 74, 75, 76, 77, 78, 79, 80, 81, 82, 83, 84, 85, 86, 87, 88, 89, 90, 91, 92, 93, 94, 95, 96, 97, 98, 99, 100]) 101 rfl [some (a 0, .inr (6, [.ref (a 1), .ref (a 17), .ref (a 65), .ref (a 66), .ref (a 67), .ref (a 69), .ref (a 73), .ref (a 77), .ref (a 93), .int (S 184 0), .int (S 185 0)])), some (a 1, .inr (5, [.int (S 0 0), .int (S 1 0), .int (S 2 0), .ref (a 2), .ref (a 3), .ref (a 4), .ref (a 5), .int (S 7 0), .ref (a 6), .ref (a 7), .ref (a 8), .int (S 11 0), .ref (a 9), .ref (a 10), .ref (a 11), .ref (a 12)])), some (a 2, .inl (zI E, 14, .inl (S 3))), some (a 3, .inl (zI E, 14, .inl (S 4))), some (a 4, .inl (zI E, 14, .inl (S 5))), some (a 5, .inl (zI E, 14, .inl (S 6))), some (a 6, .inl (zI E, 12, .inl (S 8))), some (a 7, .inl (zI E, 12, .inl (S 9))), some (a 8, .inl (zI E, 12, .inl (S 10))), some (a 9, .inl (zI E, 4, .inl (S 12))), some (a 10, .inl (zI E, 4, .inl (S 13))), some (a 11, .inl (zI E, 4, .inl (S 14))), some (a 12, .inr (2, [.ref (a 13), .ref (a 14), .ref (a 15), .ref (a 16)])), some (a 13, .inl (zI E, 8, .inl (S 16))), some (a 14, .inl (zI E, 8, .inl (S 17))), some (a 15, .inl (zI E, 8, .inl (S 18))), some (a 16, .inl (zI E, 8, .inl (S 19))), some (a 17, .inr (5, [.int (S 32 0), .int (S 33 0), .int (S 34 0), .ref (a 18), .ref (a 19), .ref (a 20), .ref (a 21), .int (S 39 0), .ref (a 22), .ref (a 23), .ref (a 24), .int (S 43 0), .ref (a 25), .ref (a 26), .ref (a 27), .ref (a 28)])), some (a 18, .inl (zI E, 14, .inl (S 35))), some (a 19, .inl (zI E, 14, .inl (S 36))), some (a 20, .inl (zI E, 14, .inl (S 37))), some (a 21, .inl (zI E, 14, .inl (S 38))), some (a 22, .inl (zI E, 12, .inl (S 40))), some (a 23, .inl (zI E, 12, .inl (S 41))), some (a 24, .inl (zI E, 12, .inl (S 42))), some (a 25, .inl (zI E, 4, .inl (S 44))), some (a 26, .inl (zI E, 4, .inl (S 45))), some (a 27, .inl (zI E, 4, .inl (S 46))), some (a 28, .inr (2, [.ref (a 29), .ref (a 30), .ref (a 31), .ref (a 32)])), some (a 29, .inl (zI E, 8, .inl (S 48))), some (a 30, .inl (zI E, 8, .inl (S 49))), some (a 31, .inl (zI E, 8, .inl (S 50))), some (a 32, .inl (zI E, 8, .inl (S 51))), some (a 65, .inl (zT E, 2, .inr (.inr (.inr (.inr (va_up (va_up (fun _ => none) 0 (some (a 33))) 1 (some (a 49)))))))), some (a 66, .inl (zZ E, 2, .inl (S 186))), some (a 69, .inr (4, [.int (S 144 0), .ref (a 70), .ref (a 71), .ref (a 72), .int (S 148 0)])), some (a 70, .inl (zI E, 4, .inl (S 145))), some (a 71, .inl (zI E, 4, .inl (S 146))), some (a 72, .inl (zI E, 4, .inl (S 147))), some (a 73, .inr (4, [.int (S 152 0), .ref (a 74), .ref (a 75), .ref (a 76), .int (S 156 0)])), some (a 74, .inl (zI E, 8, .inl (S 153))), some (a 75, .inl (zI E, 8, .inl (S 154))), some (a 76, .inl (zI E, 8, .inl (S 155))), some (a 77, .inr (0, [.int (S 160 0), .ref (a 78), .ref (a 79), .ref (a 80), .ref (a 81), .ref (a 82), .ref (a 83), .ref (a 88)])), some (a 78, .inl (zI E, 4, .inl (S 161))), some (a 79, .inl (zI E, 4, .inl (S 162))), some (a 80, .inl (zI E, 4, .inl (S 163))), some (a 81, .inl (zI E, 4, .inl (S 164))), some (a 82, .inl (zI E, 4, .inl (S 165))), some (a 83, .inr (2, [.ref (a 84), .ref (a 85), .ref (a 86), .ref (a 87)])), some (a 84, .inl (zI E, 8, .inl (S 168))), some (a 85, .inl (zI E, 8, .inl (S 169))), some (a 86, .inl (zI E, 8, .inl (S 170))), some (a 87, .inl (zI E, 8, .inl (S 171))), some (a 88, .inr (2, [.ref (a 89), .ref (a 90), .ref (a 91), .ref (a 92)])), some (a 89, .inl (zI E, 8, .inl (S 172))), some (a 90, .inl (zI E, 8, .inl (S 173))), some (a 91, .inl (zI E, 8, .inl (S 174))), some (a 92, .inl (zI E, 8, .inl (S 175))), some (a 93, .inr (1, [.ref (a 94), .ref (a 99), .ref (a 100)])), some (a 94, .inl (zII E, 4, .inr (.inr (.inr (.inr (va_up (va_up (va_up (va_up (fun _ => none) 0 (some (a 95))) 1 (some (a 96))) 2 (some (a 97))) 3 (some (a 98)))))))), some (a 95, .inl (zI E, 40, .inl (S 176))), some (a 96, .inl (zI E, 40, .inl (S 177))), some (a 97, .inl (zI E, 40, .inl (S 178))), some (a 98, .inl (zI E, 40, .inl (S 179))), some (a 99, .inl (zI E, 4, .inl (S 180))), some (a 100, .inl (zI E, 4, .inl (S 181))), some (a 33, .inr (5, [.int (S 64 0), .int (S 65 0), .int (S 66 0), .ref (a 34), .ref (a 35), .ref (a 36), .ref (a 37), .int (S 71 0), .ref (a 38), .ref (a 39), .ref (a 40), .int (S 75 0), .ref (a 41), .ref (a 42), .ref (a 43), .ref (a 44)])), some (a 34, .inl (zI E, 14, .inl (S 67))), some (a 35, .inl (zI E, 14, .inl (S 68))), some (a 36, .inl (zI E, 14, .inl (S 69))), some (a 37, .inl (zI E, 14, .inl (S 70))), some (a 38, .inl (zI E, 12, .inl (S 72))), some (a 39, .inl (zI E, 12, .inl (S 73))), some (a 40, .inl (zI E, 12, .inl (S 74))), some (a 41, .inl (zI E, 4, .inl (S 76))), some (a 42, .inl (zI E, 4, .inl (S 77))), some (a 43, .inl (zI E, 4, .inl (S 78))), some (a 44, .inr (2, [.ref (a 45), .ref (a 46), .ref (a 47), .ref (a 48)])), some (a 45, .inl (zI E, 8, .inl (S 80))), some (a 46, .inl (zI E, 8, .inl (S 81))), some (a 47, .inl (zI E, 8, .inl (S 82))), some (a 48, .inl (zI E, 8, .inl (S 83))), some (a 49, .inr (5, [.int (S 96 0), .int (S 97 0), .int (S 98 0), .ref (a 50), .ref (a 51), .ref (a 52), .ref (a 53), .int (S 103 0), .ref (a 54), .ref (a 55), .ref (a 56), .int (S 107 0), .ref (a 57), .ref (a 58), .ref (a 59), .ref (a 60)])), some (a 50, .inl (zI E, 14, .inl (S 99))), some (a 51, .inl (zI E, 14, .inl (S 100))), some (a 52, .inl (zI E, 14, .inl (S 101))), some (a 53, .inl (zI E, 14, .inl (S 102))), some (a 54, .inl (zI E, 12, .inl (S 104))), some (a 55, .inl (zI E, 12, .inl (S 105))), some (a 56, .inl (zI E, 12, .inl (S 106))), some (a 57, .inl (zI E, 4, .inl (S 108))), some (a 58, .inl (zI E, 4, .inl (S 109))), some (a 59, .inl (zI E, 4, .inl (S 110))), some (a 60, .inr (2, [.ref (a 61), .ref (a 62), .ref (a 63), .ref (a 64)])), some (a 61, .inl (zI E, 8, .inl (S 112))), some (a 62, .inl (zI E, 8, .inl (S 113))), some (a 63, .inl (zI E, 8, .inl (S 114))), some (a 64, .inl (zI E, 8, .inl (S 115)))] rfl rfl rfl rfl (by decide +kernel) (by decide +kernel)
noncomputable def f_X6_feed (x1 : Int64) (S : St) : Option (Int32 × St) := ((f_X3_append x1 (sb 128 S)).bind (fun q1 => (if q1.1 = 0 then (some ((-3 : Int32), (pt 128 16 q1.2 S))) else (some ((q1.2 1 0), (pt 128 16 q1.2 S))))))
set_option maxHeartbeats 4000000 in
set_option maxRecDepth 100000 in
theorem L_X6_feed {E : zEnv} {Γ : zG} (a : Nat → Nat) (C : zC E Γ cX6_feed RX6 3 rm_X6_feed wsX6_feed) {res : (Int32 × St)} (R : zRi E Γ cX6_feed 3 .int (wEA E a res.2) res.1) (x1 : Int64) (S : St) (h : f_X6_feed x1 S = some res) : Zt E Γ 3 0 0 (wEA E a S) [(0, .ref (a 0)), (1, .long x1)] 0 [] := by
  unfold f_X6_feed at h
  refine z_aload_n C 0 rfl rfl dX6_feed_0 ?_
  refine z_get C 0 rfl (C := RX6) (T := TX6) (N := 11) (ci := 6) rfl inw_X6_feed_X6 4 (by decide) (ref := "EldestAge") (List.mem_of_getElem? (i := 1) rfl) rfl (v := .ref (a 67)) rfl dX6_feed_1 ?_
  refine z_lload_n C 1 rfl rfl dX6_feed_4 ?_
  obtain ⟨q1, e1, h⟩ := bd_e h
  refine z_callVi C (b := a 67) (As := [.long x1]) (rest := []) (c_X3_append E (fun k => a (67 + k)) x1 (sb 128 S) e1) rfl gX6_feed_X3_append rfl rfl rfl 1 rfl (by decide +kernel) ⟨Nat.le_of_ble_eq_true rfl, Nat.le_of_ble_eq_true rfl⟩ [35, 36] (wl_X6_feed_0 E a S) (by decide) (wl_X6_feed_1 E a _ _) (wEA E a (pt 128 16 q1.2 S)) (wl_X6_feed_2 E a S q1.2) 0 3 rfl rfl rfl (Nat.le_of_ble_eq_true rfl) dX6_feed_5 ⟨Nat.zero_le _, Nat.zero_le _⟩ _ rfl ?_
  refine z_if_eq C 21 (by decide) h dX6_feed_8 (fun hc h => ?_) (fun hc h => ?_)
  · refine z_bipush C (v := (-3 : Int32)) (by decide) dX6_feed_21 ?_
    obtain rfl := Option.some.inj h
    exact R rfl 23 _ dX6_feed_23
  · refine z_aload_n C 0 rfl rfl dX6_feed_11 ?_
    refine z_get C 0 rfl (C := RX6) (T := TX6) (N := 11) (ci := 6) rfl inw_X6_feed_X6 4 (by decide) (ref := "EldestAge") (List.mem_of_getElem? (i := 1) rfl) rfl (v := .ref (a 67)) rfl dX6_feed_12 ?_
    refine z_get C 35 rfl (C := RX3) (T := TX3) (N := 12) (ci := 3) rfl inw_X6_feed_X3 1 (by decide) (ref := "EldestAge$Tape") (List.mem_of_getElem? (i := 2) rfl) rfl (v := .int (q1.2 1 0)) rfl dX6_feed_15 ?_
    refine z_goto C 23 (by decide) dX6_feed_18 ?_
    obtain rfl := Option.some.inj h
    exact R rfl 23 _ dX6_feed_23

theorem c_X6_feed (E : zEnv) (a : Nat → Nat) (x1 : Int64) (S : St) {res : (Int32 × St)} (h : f_X6_feed x1 S = some res) : Kti E yX6_feed wsX6_feed rm_X6_feed (wEA E a S) (wEA E a res.2) [.ref (a 0), .long x1] res.1 :=
  z_enti (cc := cX6_feed) (maxL := 3) (rt := .int) (by decide +kernel) rfl (Nat.le_of_ble_eq_true rfl) (fun Γ C R => L_X6_feed a C R x1 S h)

abbrev rm_X6_street : Room := { frames := 9, cells := 0, slots := 0, locals := 194 }
theorem inw_X6_street_X6 : ∀ w ∈ wsX60, w ∈ wsX6_street := fun _ h => List.mem_cons_of_mem _ (List.mem_append_left _ (List.mem_append_left _ (List.mem_append_left _ (List.mem_append_right _ h))))
theorem inw_X6_street_X3 : ∀ w ∈ wsX30, w ∈ wsX6_street := fun _ h => List.mem_cons_of_mem _ (List.mem_append_left _ (List.mem_append_left _ (List.mem_append_right _ h)))
theorem inw_X6_street_X4 : ∀ w ∈ wsX40, w ∈ wsX6_street := fun _ h => List.mem_cons_of_mem _ (List.mem_append_left _ (List.mem_append_right _ h))
theorem inw_X6_street_X5 : ∀ w ∈ wsX50, w ∈ wsX6_street := fun _ h => List.mem_cons_of_mem _ (List.mem_append_right _ h)
set_option maxHeartbeats 4000000 in
theorem wl_X6_street_0 (E : zEnv) (a : Nat → Nat) (S : St) (f : Nat → Int32) : (wEA E a (st 186 f S)) = (wEA E a S).set 34 (a 66, .inl (zZ E, 2, .inl f)) := rfl
set_option maxHeartbeats 4000000 in
theorem wl_X6_street_1 (E : zEnv) (a : Nat → Nat) (S : St) : ([35, 36, 17, 18, 19, 20, 21, 22, 23, 24, 25, 26, 27, 28, 29, 30, 31, 32] : List Nat).map (fun i => (wEA E a S)[i]?) = (wTapeTown E (ja 2 (fun k => a (67 + k)) (fun k => a (17 + k))) (jn 16 (sb 128 S) (sb 32 S))).map some := rfl
set_option maxHeartbeats 4000000 in
theorem wl_X6_street_2 (E : zEnv) (a : Nat → Nat) (S U : St) : (wTapeTown E (ja 2 (fun k => a (67 + k)) (fun k => a (17 + k))) U).map (fun q => q.1) = (wTapeTown E (ja 2 (fun k => a (67 + k)) (fun k => a (17 + k))) S).map (fun q => q.1) := rfl
set_option maxHeartbeats 4000000 in
theorem wl_X6_street_3 (E : zEnv) (a : Nat → Nat) (S U : St) : (wEA E a (pt 32 32 (sb 16 U) (pt 128 16 U S))) = zrep [35, 36, 17, 18, 19, 20, 21, 22, 23, 24, 25, 26, 27, 28, 29, 30, 31, 32] (wTapeTown E (ja 2 (fun k => a (67 + k)) (fun k => a (17 + k))) U) (wEA E a S) := zrep_of (isR := [0, 1, 2, 3, 4, 5, 6, 7, 8, 9, 10, 11, 12, 13, 14, 15, 16, 33, 34, 37, 38, 39, 40, 41, 42, 43, 44, 45, 46, 47, 48, 49, 50, 51, 52, 53, 54, 55, 56, 57, 58, 59, 60, 61, 62, 63, 64, 65, 66, 67, 68, 69, 70, 71, 72, 73, 74, 75, 76, 77, 78, 79, 80, 81, 82, 83, 84, 85, 86, 87, 88, 89, 90, 91, 92, 93, 94, 95, 96, 97, 98, 99, 100]) 101 rfl [some (a 0, .inr (6, [.ref (a 1), .ref (a 17), .ref (a 65), .ref (a 66), .ref (a 67), .ref (a 69), .ref (a 73), .ref (a 77), .ref (a 93), .int (S 184 0), .int (S 185 0)])), some (a 1, .inr (5, [.int (S 0 0), .int (S 1 0), .int (S 2 0), .ref (a 2), .ref (a 3), .ref (a 4), .ref (a 5), .int (S 7 0), .ref (a 6), .ref (a 7), .ref (a 8), .int (S 11 0), .ref (a 9), .ref (a 10), .ref (a 11), .ref (a 12)])), some (a 2, .inl (zI E, 14, .inl (S 3))), some (a 3, .inl (zI E, 14, .inl (S 4))), some (a 4, .inl (zI E, 14, .inl (S 5))), some (a 5, .inl (zI E, 14, .inl (S 6))), some (a 6, .inl (zI E, 12, .inl (S 8))), some (a 7, .inl (zI E, 12, .inl (S 9))), some (a 8, .inl (zI E, 12, .inl (S 10))), some (a 9, .inl (zI E, 4, .inl (S 12))), some (a 10, .inl (zI E, 4, .inl (S 13))), some (a 11, .inl (zI E, 4, .inl (S 14))), some (a 12, .inr (2, [.ref (a 13), .ref (a 14), .ref (a 15), .ref (a 16)])), some (a 13, .inl (zI E, 8, .inl (S 16))), some (a 14, .inl (zI E, 8, .inl (S 17))), some (a 15, .inl (zI E, 8, .inl (S 18))), some (a 16, .inl (zI E, 8, .inl (S 19))), some (a 65, .inl (zT E, 2, .inr (.inr (.inr (.inr (va_up (va_up (fun _ => none) 0 (some (a 33))) 1 (some (a 49)))))))), some (a 66, .inl (zZ E, 2, .inl (S 186))), some (a 69, .inr (4, [.int (S 144 0), .ref (a 70), .ref (a 71), .ref (a 72), .int (S 148 0)])), some (a 70, .inl (zI E, 4, .inl (S 145))), some (a 71, .inl (zI E, 4, .inl (S 146))), some (a 72, .inl (zI E, 4, .inl (S 147))), some (a 73, .inr (4, [.int (S 152 0), .ref (a 74), .ref (a 75), .ref (a 76), .int (S 156 0)])), some (a 74, .inl (zI E, 8, .inl (S 153))), some (a 75, .inl (zI E, 8, .inl (S 154))), some (a 76, .inl (zI E, 8, .inl (S 155))), some (a 77, .inr (0, [.int (S 160 0), .ref (a 78), .ref (a 79), .ref (a 80), .ref (a 81), .ref (a 82), .ref (a 83), .ref (a 88)])), some (a 78, .inl (zI E, 4, .inl (S 161))), some (a 79, .inl (zI E, 4, .inl (S 162))), some (a 80, .inl (zI E, 4, .inl (S 163))), some (a 81, .inl (zI E, 4, .inl (S 164))), some (a 82, .inl (zI E, 4, .inl (S 165))), some (a 83, .inr (2, [.ref (a 84), .ref (a 85), .ref (a 86), .ref (a 87)])), some (a 84, .inl (zI E, 8, .inl (S 168))), some (a 85, .inl (zI E, 8, .inl (S 169))), some (a 86, .inl (zI E, 8, .inl (S 170))), some (a 87, .inl (zI E, 8, .inl (S 171))), some (a 88, .inr (2, [.ref (a 89), .ref (a 90), .ref (a 91), .ref (a 92)])), some (a 89, .inl (zI E, 8, .inl (S 172))), some (a 90, .inl (zI E, 8, .inl (S 173))), some (a 91, .inl (zI E, 8, .inl (S 174))), some (a 92, .inl (zI E, 8, .inl (S 175))), some (a 93, .inr (1, [.ref (a 94), .ref (a 99), .ref (a 100)])), some (a 94, .inl (zII E, 4, .inr (.inr (.inr (.inr (va_up (va_up (va_up (va_up (fun _ => none) 0 (some (a 95))) 1 (some (a 96))) 2 (some (a 97))) 3 (some (a 98)))))))), some (a 95, .inl (zI E, 40, .inl (S 176))), some (a 96, .inl (zI E, 40, .inl (S 177))), some (a 97, .inl (zI E, 40, .inl (S 178))), some (a 98, .inl (zI E, 40, .inl (S 179))), some (a 99, .inl (zI E, 4, .inl (S 180))), some (a 100, .inl (zI E, 4, .inl (S 181))), some (a 33, .inr (5, [.int (S 64 0), .int (S 65 0), .int (S 66 0), .ref (a 34), .ref (a 35), .ref (a 36), .ref (a 37), .int (S 71 0), .ref (a 38), .ref (a 39), .ref (a 40), .int (S 75 0), .ref (a 41), .ref (a 42), .ref (a 43), .ref (a 44)])), some (a 34, .inl (zI E, 14, .inl (S 67))), some (a 35, .inl (zI E, 14, .inl (S 68))), some (a 36, .inl (zI E, 14, .inl (S 69))), some (a 37, .inl (zI E, 14, .inl (S 70))), some (a 38, .inl (zI E, 12, .inl (S 72))), some (a 39, .inl (zI E, 12, .inl (S 73))), some (a 40, .inl (zI E, 12, .inl (S 74))), some (a 41, .inl (zI E, 4, .inl (S 76))), some (a 42, .inl (zI E, 4, .inl (S 77))), some (a 43, .inl (zI E, 4, .inl (S 78))), some (a 44, .inr (2, [.ref (a 45), .ref (a 46), .ref (a 47), .ref (a 48)])), some (a 45, .inl (zI E, 8, .inl (S 80))), some (a 46, .inl (zI E, 8, .inl (S 81))), some (a 47, .inl (zI E, 8, .inl (S 82))), some (a 48, .inl (zI E, 8, .inl (S 83))), some (a 49, .inr (5, [.int (S 96 0), .int (S 97 0), .int (S 98 0), .ref (a 50), .ref (a 51), .ref (a 52), .ref (a 53), .int (S 103 0), .ref (a 54), .ref (a 55), .ref (a 56), .int (S 107 0), .ref (a 57), .ref (a 58), .ref (a 59), .ref (a 60)])), some (a 50, .inl (zI E, 14, .inl (S 99))), some (a 51, .inl (zI E, 14, .inl (S 100))), some (a 52, .inl (zI E, 14, .inl (S 101))), some (a 53, .inl (zI E, 14, .inl (S 102))), some (a 54, .inl (zI E, 12, .inl (S 104))), some (a 55, .inl (zI E, 12, .inl (S 105))), some (a 56, .inl (zI E, 12, .inl (S 106))), some (a 57, .inl (zI E, 4, .inl (S 108))), some (a 58, .inl (zI E, 4, .inl (S 109))), some (a 59, .inl (zI E, 4, .inl (S 110))), some (a 60, .inr (2, [.ref (a 61), .ref (a 62), .ref (a 63), .ref (a 64)])), some (a 61, .inl (zI E, 8, .inl (S 112))), some (a 62, .inl (zI E, 8, .inl (S 113))), some (a 63, .inl (zI E, 8, .inl (S 114))), some (a 64, .inl (zI E, 8, .inl (S 115)))] rfl rfl rfl rfl (by decide +kernel) (by decide +kernel)
set_option maxHeartbeats 4000000 in
theorem wl_X6_street_4 (E : zEnv) (a : Nat → Nat) (S : St) (v : Int32) : (wEA E a (st 129 (fun _ => v) S)) = (wEA E a S).set 35 (a 67, .inr (3, List.set [.ref (a 68), .int (S 129 0), .int (S 130 0), .int (S 131 0), .int (S 132 0), .int (S 133 0), .int (S 134 0), .int (S 135 0), .int (S 136 0), .int (S 137 0), .int (S 138 0), .int (S 139 0)] 1 (.int v))) := rfl
set_option maxHeartbeats 4000000 in
theorem wl_X6_street_5 (E : zEnv) (a : Nat → Nat) (S : St) (v : Int32) : (wEA E a (st 184 (fun _ => v) S)) = (wEA E a S).set 0 (a 0, .inr (6, List.set [.ref (a 1), .ref (a 17), .ref (a 65), .ref (a 66), .ref (a 67), .ref (a 69), .ref (a 73), .ref (a 77), .ref (a 93), .int (S 184 0), .int (S 185 0)] 9 (.int v))) := rfl
set_option maxHeartbeats 4000000 in
theorem wl_X6_street_6 (E : zEnv) (a : Nat → Nat) (S : St) : ([1, 2, 3, 4, 5, 6, 7, 8, 9, 10, 11, 12, 13, 14, 15, 16, 17, 18, 19, 20, 21, 22, 23, 24, 25, 26, 27, 28, 29, 30, 31, 32] : List Nat).map (fun i => (wEA E a S)[i]?) = (wTown2 E (ja 16 (fun k => a (1 + k)) (fun k => a (17 + k))) (jn 32 (sb 0 S) (sb 32 S))).map some := rfl
set_option maxHeartbeats 4000000 in
theorem wl_X6_street_7 (E : zEnv) (a : Nat → Nat) (S U : St) : (wTown2 E (ja 16 (fun k => a (1 + k)) (fun k => a (17 + k))) U).map (fun q => q.1) = (wTown2 E (ja 16 (fun k => a (1 + k)) (fun k => a (17 + k))) S).map (fun q => q.1) := rfl
set_option maxHeartbeats 4000000 in
theorem wl_X6_street_8 (E : zEnv) (a : Nat → Nat) (S U : St) : (wEA E a (pt 32 32 (sb 32 U) (pt 0 32 U S))) = zrep [1, 2, 3, 4, 5, 6, 7, 8, 9, 10, 11, 12, 13, 14, 15, 16, 17, 18, 19, 20, 21, 22, 23, 24, 25, 26, 27, 28, 29, 30, 31, 32] (wTown2 E (ja 16 (fun k => a (1 + k)) (fun k => a (17 + k))) U) (wEA E a S) := zrep_of (isR := [0, 33, 34, 35, 36, 37, 38, 39, 40, 41, 42, 43, 44, 45, 46, 47, 48, 49, 50, 51, 52, 53, 54, 55, 56, 57, 58, 59, 60, 61, 62, 63, 64, 65, 66, 67, 68, 69, 70, 71, 72, 73, 74, 75, 76, 77, 78, 79, 80, 81, 82, 83, 84, 85, 86, 87, 88, 89, 90, 91, 92, 93, 94, 95, 96, 97, 98, 99, 100]) 101 rfl [some (a 0, .inr (6, [.ref (a 1), .ref (a 17), .ref (a 65), .ref (a 66), .ref (a 67), .ref (a 69), .ref (a 73), .ref (a 77), .ref (a 93), .int (S 184 0), .int (S 185 0)])), some (a 65, .inl (zT E, 2, .inr (.inr (.inr (.inr (va_up (va_up (fun _ => none) 0 (some (a 33))) 1 (some (a 49)))))))), some (a 66, .inl (zZ E, 2, .inl (S 186))), some (a 67, .inr (3, [.ref (a 68), .int (S 129 0), .int (S 130 0), .int (S 131 0), .int (S 132 0), .int (S 133 0), .int (S 134 0), .int (S 135 0), .int (S 136 0), .int (S 137 0), .int (S 138 0), .int (S 139 0)])), some (a 68, .inl (zI E, 400, .inl (S 128))), some (a 69, .inr (4, [.int (S 144 0), .ref (a 70), .ref (a 71), .ref (a 72), .int (S 148 0)])), some (a 70, .inl (zI E, 4, .inl (S 145))), some (a 71, .inl (zI E, 4, .inl (S 146))), some (a 72, .inl (zI E, 4, .inl (S 147))), some (a 73, .inr (4, [.int (S 152 0), .ref (a 74), .ref (a 75), .ref (a 76), .int (S 156 0)])), some (a 74, .inl (zI E, 8, .inl (S 153))), some (a 75, .inl (zI E, 8, .inl (S 154))), some (a 76, .inl (zI E, 8, .inl (S 155))), some (a 77, .inr (0, [.int (S 160 0), .ref (a 78), .ref (a 79), .ref (a 80), .ref (a 81), .ref (a 82), .ref (a 83), .ref (a 88)])), some (a 78, .inl (zI E, 4, .inl (S 161))), some (a 79, .inl (zI E, 4, .inl (S 162))), some (a 80, .inl (zI E, 4, .inl (S 163))), some (a 81, .inl (zI E, 4, .inl (S 164))), some (a 82, .inl (zI E, 4, .inl (S 165))), some (a 83, .inr (2, [.ref (a 84), .ref (a 85), .ref (a 86), .ref (a 87)])), some (a 84, .inl (zI E, 8, .inl (S 168))), some (a 85, .inl (zI E, 8, .inl (S 169))), some (a 86, .inl (zI E, 8, .inl (S 170))), some (a 87, .inl (zI E, 8, .inl (S 171))), some (a 88, .inr (2, [.ref (a 89), .ref (a 90), .ref (a 91), .ref (a 92)])), some (a 89, .inl (zI E, 8, .inl (S 172))), some (a 90, .inl (zI E, 8, .inl (S 173))), some (a 91, .inl (zI E, 8, .inl (S 174))), some (a 92, .inl (zI E, 8, .inl (S 175))), some (a 93, .inr (1, [.ref (a 94), .ref (a 99), .ref (a 100)])), some (a 94, .inl (zII E, 4, .inr (.inr (.inr (.inr (va_up (va_up (va_up (va_up (fun _ => none) 0 (some (a 95))) 1 (some (a 96))) 2 (some (a 97))) 3 (some (a 98)))))))), some (a 95, .inl (zI E, 40, .inl (S 176))), some (a 96, .inl (zI E, 40, .inl (S 177))), some (a 97, .inl (zI E, 40, .inl (S 178))), some (a 98, .inl (zI E, 40, .inl (S 179))), some (a 99, .inl (zI E, 4, .inl (S 180))), some (a 100, .inl (zI E, 4, .inl (S 181))), some (a 33, .inr (5, [.int (S 64 0), .int (S 65 0), .int (S 66 0), .ref (a 34), .ref (a 35), .ref (a 36), .ref (a 37), .int (S 71 0), .ref (a 38), .ref (a 39), .ref (a 40), .int (S 75 0), .ref (a 41), .ref (a 42), .ref (a 43), .ref (a 44)])), some (a 34, .inl (zI E, 14, .inl (S 67))), some (a 35, .inl (zI E, 14, .inl (S 68))), some (a 36, .inl (zI E, 14, .inl (S 69))), some (a 37, .inl (zI E, 14, .inl (S 70))), some (a 38, .inl (zI E, 12, .inl (S 72))), some (a 39, .inl (zI E, 12, .inl (S 73))), some (a 40, .inl (zI E, 12, .inl (S 74))), some (a 41, .inl (zI E, 4, .inl (S 76))), some (a 42, .inl (zI E, 4, .inl (S 77))), some (a 43, .inl (zI E, 4, .inl (S 78))), some (a 44, .inr (2, [.ref (a 45), .ref (a 46), .ref (a 47), .ref (a 48)])), some (a 45, .inl (zI E, 8, .inl (S 80))), some (a 46, .inl (zI E, 8, .inl (S 81))), some (a 47, .inl (zI E, 8, .inl (S 82))), some (a 48, .inl (zI E, 8, .inl (S 83))), some (a 49, .inr (5, [.int (S 96 0), .int (S 97 0), .int (S 98 0), .ref (a 50), .ref (a 51), .ref (a 52), .ref (a 53), .int (S 103 0), .ref (a 54), .ref (a 55), .ref (a 56), .int (S 107 0), .ref (a 57), .ref (a 58), .ref (a 59), .ref (a 60)])), some (a 50, .inl (zI E, 14, .inl (S 99))), some (a 51, .inl (zI E, 14, .inl (S 100))), some (a 52, .inl (zI E, 14, .inl (S 101))), some (a 53, .inl (zI E, 14, .inl (S 102))), some (a 54, .inl (zI E, 12, .inl (S 104))), some (a 55, .inl (zI E, 12, .inl (S 105))), some (a 56, .inl (zI E, 12, .inl (S 106))), some (a 57, .inl (zI E, 4, .inl (S 108))), some (a 58, .inl (zI E, 4, .inl (S 109))), some (a 59, .inl (zI E, 4, .inl (S 110))), some (a 60, .inr (2, [.ref (a 61), .ref (a 62), .ref (a 63), .ref (a 64)])), some (a 61, .inl (zI E, 8, .inl (S 112))), some (a 62, .inl (zI E, 8, .inl (S 113))), some (a 63, .inl (zI E, 8, .inl (S 114))), some (a 64, .inl (zI E, 8, .inl (S 115)))] rfl rfl rfl rfl (by decide +kernel) (by decide +kernel)
set_option maxHeartbeats 4000000 in
theorem wl_X6_street_9 (E : zEnv) (a : Nat → Nat) (S : St) (v : Int32) : (wEA E a (st 148 (fun _ => v) S)) = (wEA E a S).set 37 (a 69, .inr (4, List.set [.int (S 144 0), .ref (a 70), .ref (a 71), .ref (a 72), .int (S 148 0)] 4 (.int v))) := rfl
set_option maxHeartbeats 4000000 in
theorem wl_X6_street_10 (E : zEnv) (a : Nat → Nat) (S : St) (v : Int32) : (wEA E a (st 156 (fun _ => v) S)) = (wEA E a S).set 41 (a 73, .inr (4, List.set [.int (S 152 0), .ref (a 74), .ref (a 75), .ref (a 76), .int (S 156 0)] 4 (.int v))) := rfl
noncomputable def f_X6_street_75 (n : Nat) : Int32 → St → Option (Int32 × St) := Nat.rec (motive := fun _ => Int32 → St → Option (Int32 × St)) (fun _ _ => none) (fun _ ih => fun x2 S => (if (2 : Int32) ≤ x2 then (some ((S 130 0), S)) else (ix x2 2 (ih (x2 + (1 : Int32)) (st 186 (upd (S 186) (Int32.toNatClampNeg x2) (vp_nar .boolean (0 : Int32))) S))))) n
theorem f_X6_street_75_s (n : Nat) (x2 : Int32) (S : St) : f_X6_street_75 (n + 1) x2 S = (if (2 : Int32) ≤ x2 then (some ((S 130 0), S)) else (ix x2 2 ((f_X6_street_75 n) (x2 + (1 : Int32)) (st 186 (upd (S 186) (Int32.toNatClampNeg x2) (vp_nar .boolean (0 : Int32))) S)))) := rfl
noncomputable def f_X6_street (S : St) : Option (Int32 × St) := ((f_X3_tell (jn 16 (sb 128 S) (sb 32 S))).bind (fun q1 => (if q1.1 = 0 then (some (((-10 : Int32) - (q1.2 4 0)), (st 184 (fun _ => (q1.2 3 0)) (st 129 (fun _ => (0 : Int32)) (pt 32 32 (sb 16 q1.2) (pt 128 16 q1.2 S)))))) else ((f_X5_copyOf (jn 32 (sb 0 (st 184 (fun _ => (q1.2 3 0)) (st 129 (fun _ => (0 : Int32)) (pt 32 32 (sb 16 q1.2) (pt 128 16 q1.2 S))))) (sb 32 (st 184 (fun _ => (q1.2 3 0)) (st 129 (fun _ => (0 : Int32)) (pt 32 32 (sb 16 q1.2) (pt 128 16 q1.2 S))))))).bind (fun q2 => (f_X6_street_75 1000 (0 : Int32) (st 156 (fun _ => (0 : Int32)) (st 148 (fun _ => (0 : Int32)) (pt 32 32 (sb 32 q2) (pt 0 32 q2 (st 184 (fun _ => (q1.2 3 0)) (st 129 (fun _ => (0 : Int32)) (pt 32 32 (sb 16 q1.2) (pt 128 16 q1.2 S))))))))))))))
set_option maxHeartbeats 4000000 in
set_option maxRecDepth 100000 in
theorem L_X6_street_75 {E : zEnv} {Γ : zG} (a : Nat → Nat) (C : zC E Γ cX6_street RX6 3 rm_X6_street wsX6_street) {res : (Int32 × St)} (R : zRi E Γ cX6_street 3 .int (wEA E a res.2) res.1) : ∀ (n : Nat) (x2 : Int32) (S : St), f_X6_street_75 n x2 S = some res → Zt E Γ 3 0 0 (wEA E a S) [(0, .ref (a 0)), (2, .int x2)] 75 [] := by
  intro n
  induction n with
  | zero =>
    intro x2 S h
    cases h
  | succ n ih =>
    intro x2 S h
    rw [f_X6_street_75_s] at h
    refine z_iload_n C 1 rfl rfl dX6_street_75 ?_
    refine z_iconst C (v := (2 : Int32)) (by decide) dX6_street_76 ?_
    refine z_icmp_ge C 93 (by decide) h dX6_street_77 (fun hc h => ?_) (fun hc h => ?_)
    · refine z_aload_n C 0 rfl rfl dX6_street_93 ?_
      refine z_get C 0 rfl (C := RX6) (T := TX6) (N := 11) (ci := 6) rfl inw_X6_street_X6 4 (by decide) (ref := "EldestAge") (List.mem_of_getElem? (i := 1) rfl) rfl (v := .ref (a 67)) rfl dX6_street_94 ?_
      refine z_get C 35 rfl (C := RX3) (T := TX3) (N := 12) (ci := 3) rfl inw_X6_street_X3 2 (by decide) (ref := "EldestAge$Tape") (List.mem_of_getElem? (i := 12) rfl) rfl (v := .int (S 130 0)) rfl dX6_street_97 ?_
      obtain rfl := Option.some.inj h
      exact R rfl 100 _ dX6_street_100
    · refine z_aload_n C 0 rfl rfl dX6_street_80 ?_
      refine z_get C 0 rfl (C := RX6) (T := TX6) (N := 11) (ci := 6) rfl inw_X6_street_X6 3 (by decide) (ref := "EldestAge") (List.mem_of_getElem? (i := 11) rfl) rfl (v := .ref (a 66)) rfl dX6_street_81 ?_
      refine z_iload_n C 1 rfl rfl dX6_street_84 ?_
      refine z_iconst C (v := (0 : Int32)) (by decide) dX6_street_85 ?_
      refine z_zast C (N := 2) (f := (S 186)) 34 rfl h (wEA E a (st 186 (upd (S 186) (Int32.toNatClampNeg x2) (vp_nar .boolean (0 : Int32))) S)) (wl_X6_street_0 E a S (upd (S 186) (Int32.toNatClampNeg x2) (vp_nar .boolean (0 : Int32)))) dX6_street_86 (fun h => ?_)
      refine z_iinc C [(2, .int (x2 + (1 : Int32))), (0, .ref (a 0))] 1 rfl (by first | rfl | decide) (by decide) rfl dX6_street_87 ?_
      refine z_goto C 75 (by decide) dX6_street_90 ?_
      refine Zt_l [(0, .ref (a 0)), (2, .int (x2 + (1 : Int32)))] [1, 0] rfl ?_
      exact ih (x2 + (1 : Int32)) (st 186 (upd (S 186) (Int32.toNatClampNeg x2) (vp_nar .boolean (0 : Int32))) S) h

set_option maxHeartbeats 4000000 in
set_option maxRecDepth 100000 in
theorem L_X6_street {E : zEnv} {Γ : zG} (a : Nat → Nat) (C : zC E Γ cX6_street RX6 3 rm_X6_street wsX6_street) {res : (Int32 × St)} (R : zRi E Γ cX6_street 3 .int (wEA E a res.2) res.1) (S : St) (h : f_X6_street S = some res) : Zt E Γ 3 0 0 (wEA E a S) [(0, .ref (a 0))] 0 [] := by
  unfold f_X6_street at h
  refine z_aload_n C 0 rfl rfl dX6_street_0 ?_
  refine z_get C 0 rfl (C := RX6) (T := TX6) (N := 11) (ci := 6) rfl inw_X6_street_X6 4 (by decide) (ref := "EldestAge") (List.mem_of_getElem? (i := 1) rfl) rfl (v := .ref (a 67)) rfl dX6_street_1 ?_
  refine z_aload_n C 0 rfl rfl dX6_street_4 ?_
  refine z_get C 0 rfl (C := RX6) (T := TX6) (N := 11) (ci := 6) rfl inw_X6_street_X6 1 (by decide) (ref := "EldestAge") (List.mem_of_getElem? (i := 2) rfl) rfl (v := .ref (a 17)) rfl dX6_street_5 ?_
  obtain ⟨q1, e1, h⟩ := bd_e h
  refine z_callVi C (b := a 67) (As := [.ref (a 17)]) (rest := []) (c_X3_tell E (ja 2 (fun k => a (67 + k)) (fun k => a (17 + k))) (jn 16 (sb 128 S) (sb 32 S)) e1) rfl gX6_street_X3_tell rfl rfl rfl 1 rfl (by decide +kernel) ⟨Nat.le_of_ble_eq_true rfl, Nat.le_of_ble_eq_true rfl⟩ [35, 36, 17, 18, 19, 20, 21, 22, 23, 24, 25, 26, 27, 28, 29, 30, 31, 32] (wl_X6_street_1 E a S) (by decide) (wl_X6_street_2 E a _ _) (wEA E a (pt 32 32 (sb 16 q1.2) (pt 128 16 q1.2 S))) (wl_X6_street_3 E a S q1.2) 0 3 rfl rfl rfl (Nat.le_of_ble_eq_true rfl) dX6_street_8 ⟨Nat.zero_le _, Nat.zero_le _⟩ _ rfl ?_
  refine z_istore_n C [(1, .int q1.1), (0, .ref (a 0))] rfl (by decide) rfl dX6_street_11 ?_
  refine z_aload_n C 1 rfl rfl dX6_street_12 ?_
  refine z_get C 0 rfl (C := RX6) (T := TX6) (N := 11) (ci := 6) rfl inw_X6_street_X6 4 (by decide) (ref := "EldestAge") (List.mem_of_getElem? (i := 1) rfl) rfl (v := .ref (a 67)) rfl dX6_street_13 ?_
  refine z_iconst C (v := (0 : Int32)) (by decide) dX6_street_16 ?_
  refine z_put C 35 rfl (C := RX3) (T := TX3) (N := 12) (ci := 3) rfl inw_X6_street_X3 tyX3 tyX3_ok nmX3 1 (by decide) (ref := "EldestAge$Tape") (List.mem_of_getElem? (i := 3) rfl) rfl rfl (ty := .int) (v := .int (0 : Int32)) (by decide +kernel) rfl rfl (Nat.le_of_ble_eq_true rfl) (wEA E a (st 129 (fun _ => (0 : Int32)) (pt 32 32 (sb 16 q1.2) (pt 128 16 q1.2 S)))) (wl_X6_street_4 E a (pt 32 32 (sb 16 q1.2) (pt 128 16 q1.2 S)) (0 : Int32)) dX6_street_17 ?_
  refine z_aload_n C 1 rfl rfl dX6_street_20 ?_
  refine z_aload_n C 1 rfl rfl dX6_street_21 ?_
  refine z_get C 0 rfl (C := RX6) (T := TX6) (N := 11) (ci := 6) rfl inw_X6_street_X6 4 (by decide) (ref := "EldestAge") (List.mem_of_getElem? (i := 1) rfl) rfl (v := .ref (a 67)) rfl dX6_street_22 ?_
  refine z_get C 35 rfl (C := RX3) (T := TX3) (N := 12) (ci := 3) rfl inw_X6_street_X3 3 (by decide) (ref := "EldestAge$Tape") (List.mem_of_getElem? (i := 4) rfl) rfl (v := .int (q1.2 3 0)) rfl dX6_street_25 ?_
  refine z_put C 0 rfl (C := RX6) (T := TX6) (N := 11) (ci := 6) rfl inw_X6_street_X6 tyX6 tyX6_ok nmX6 9 (by decide) (ref := "EldestAge") (List.mem_of_getElem? (i := 5) rfl) rfl rfl (ty := .int) (v := .int (q1.2 3 0)) (by decide +kernel) rfl rfl (Nat.le_of_ble_eq_true rfl) (wEA E a (st 184 (fun _ => (q1.2 3 0)) (st 129 (fun _ => (0 : Int32)) (pt 32 32 (sb 16 q1.2) (pt 128 16 q1.2 S))))) (wl_X6_street_5 E a (st 129 (fun _ => (0 : Int32)) (pt 32 32 (sb 16 q1.2) (pt 128 16 q1.2 S))) (q1.2 3 0)) dX6_street_28 ?_
  refine z_iload_n C 0 rfl rfl dX6_street_31 ?_
  refine z_if_ne C 46 (by decide) h dX6_street_32 (fun hc h => ?_) (fun hc h => ?_)
  · refine z_bipush C (v := (-10 : Int32)) (by decide) dX6_street_35 ?_
    refine z_aload_n C 1 rfl rfl dX6_street_37 ?_
    refine z_get C 0 rfl (C := RX6) (T := TX6) (N := 11) (ci := 6) rfl inw_X6_street_X6 4 (by decide) (ref := "EldestAge") (List.mem_of_getElem? (i := 1) rfl) rfl (v := .ref (a 67)) rfl dX6_street_38 ?_
    refine z_get C 35 rfl (C := RX3) (T := TX3) (N := 12) (ci := 3) rfl inw_X6_street_X3 4 (by decide) (ref := "EldestAge$Tape") (List.mem_of_getElem? (i := 6) rfl) rfl (v := .int (q1.2 4 0)) rfl dX6_street_41 ?_
    refine z_isub C dX6_street_44 ?_
    obtain rfl := Option.some.inj h
    exact R rfl 45 _ dX6_street_45
  · refine z_aload_n C 1 rfl rfl dX6_street_46 ?_
    refine z_get C 0 rfl (C := RX6) (T := TX6) (N := 11) (ci := 6) rfl inw_X6_street_X6 0 (by decide) (ref := "EldestAge") (List.mem_of_getElem? (i := 7) rfl) rfl (v := .ref (a 1)) rfl dX6_street_47 ?_
    refine z_aload_n C 1 rfl rfl dX6_street_50 ?_
    refine z_get C 0 rfl (C := RX6) (T := TX6) (N := 11) (ci := 6) rfl inw_X6_street_X6 1 (by decide) (ref := "EldestAge") (List.mem_of_getElem? (i := 2) rfl) rfl (v := .ref (a 17)) rfl dX6_street_51 ?_
    obtain ⟨q2, e2, h⟩ := bd_e h
    refine z_callVv C (b := a 1) (As := [.ref (a 17)]) (rest := []) (c_X5_copyOf E (ja 16 (fun k => a (1 + k)) (fun k => a (17 + k))) (jn 32 (sb 0 (st 184 (fun _ => (q1.2 3 0)) (st 129 (fun _ => (0 : Int32)) (pt 32 32 (sb 16 q1.2) (pt 128 16 q1.2 S))))) (sb 32 (st 184 (fun _ => (q1.2 3 0)) (st 129 (fun _ => (0 : Int32)) (pt 32 32 (sb 16 q1.2) (pt 128 16 q1.2 S)))))) e2) rfl gX6_street_X5_copyOf rfl rfl rfl 1 rfl (by decide +kernel) ⟨Nat.le_of_ble_eq_true rfl, Nat.le_of_ble_eq_true rfl⟩ [1, 2, 3, 4, 5, 6, 7, 8, 9, 10, 11, 12, 13, 14, 15, 16, 17, 18, 19, 20, 21, 22, 23, 24, 25, 26, 27, 28, 29, 30, 31, 32] (wl_X6_street_6 E a (st 184 (fun _ => (q1.2 3 0)) (st 129 (fun _ => (0 : Int32)) (pt 32 32 (sb 16 q1.2) (pt 128 16 q1.2 S))))) (by decide) (wl_X6_street_7 E a _ _) (wEA E a (pt 32 32 (sb 32 q2) (pt 0 32 q2 (st 184 (fun _ => (q1.2 3 0)) (st 129 (fun _ => (0 : Int32)) (pt 32 32 (sb 16 q1.2) (pt 128 16 q1.2 S))))))) (wl_X6_street_8 E a (st 184 (fun _ => (q1.2 3 0)) (st 129 (fun _ => (0 : Int32)) (pt 32 32 (sb 16 q1.2) (pt 128 16 q1.2 S)))) q2) 0 5 rfl rfl rfl (Nat.le_of_ble_eq_true rfl) dX6_street_54 ⟨Nat.zero_le _, Nat.zero_le _⟩ _ rfl ?_
    refine z_aload_n C 1 rfl rfl dX6_street_57 ?_
    refine z_get C 0 rfl (C := RX6) (T := TX6) (N := 11) (ci := 6) rfl inw_X6_street_X6 5 (by decide) (ref := "EldestAge") (List.mem_of_getElem? (i := 8) rfl) rfl (v := .ref (a 69)) rfl dX6_street_58 ?_
    refine z_iconst C (v := (0 : Int32)) (by decide) dX6_street_61 ?_
    refine z_put C 37 rfl (C := RX4) (T := TX4) (N := 5) (ci := 4) rfl inw_X6_street_X4 tyX4 tyX4_ok nmX4 4 (by decide) (ref := "EldestAge$Told") (List.mem_of_getElem? (i := 9) rfl) rfl rfl (ty := .int) (v := .int (0 : Int32)) (by decide +kernel) rfl rfl (Nat.le_of_ble_eq_true rfl) (wEA E a (st 148 (fun _ => (0 : Int32)) (pt 32 32 (sb 32 q2) (pt 0 32 q2 (st 184 (fun _ => (q1.2 3 0)) (st 129 (fun _ => (0 : Int32)) (pt 32 32 (sb 16 q1.2) (pt 128 16 q1.2 S)))))))) (wl_X6_street_9 E a (pt 32 32 (sb 32 q2) (pt 0 32 q2 (st 184 (fun _ => (q1.2 3 0)) (st 129 (fun _ => (0 : Int32)) (pt 32 32 (sb 16 q1.2) (pt 128 16 q1.2 S)))))) (0 : Int32)) dX6_street_62 ?_
    refine z_aload_n C 1 rfl rfl dX6_street_65 ?_
    refine z_get C 0 rfl (C := RX6) (T := TX6) (N := 11) (ci := 6) rfl inw_X6_street_X6 6 (by decide) (ref := "EldestAge") (List.mem_of_getElem? (i := 10) rfl) rfl (v := .ref (a 73)) rfl dX6_street_66 ?_
    refine z_iconst C (v := (0 : Int32)) (by decide) dX6_street_69 ?_
    refine z_put C 41 rfl (C := RX4) (T := TX4) (N := 5) (ci := 4) rfl inw_X6_street_X4 tyX4 tyX4_ok nmX4 4 (by decide) (ref := "EldestAge$Told") (List.mem_of_getElem? (i := 9) rfl) rfl rfl (ty := .int) (v := .int (0 : Int32)) (by decide +kernel) rfl rfl (Nat.le_of_ble_eq_true rfl) (wEA E a (st 156 (fun _ => (0 : Int32)) (st 148 (fun _ => (0 : Int32)) (pt 32 32 (sb 32 q2) (pt 0 32 q2 (st 184 (fun _ => (q1.2 3 0)) (st 129 (fun _ => (0 : Int32)) (pt 32 32 (sb 16 q1.2) (pt 128 16 q1.2 S))))))))) (wl_X6_street_10 E a (st 148 (fun _ => (0 : Int32)) (pt 32 32 (sb 32 q2) (pt 0 32 q2 (st 184 (fun _ => (q1.2 3 0)) (st 129 (fun _ => (0 : Int32)) (pt 32 32 (sb 16 q1.2) (pt 128 16 q1.2 S))))))) (0 : Int32)) dX6_street_70 ?_
    refine z_iconst C (v := (0 : Int32)) (by decide) dX6_street_73 ?_
    refine z_istore_n C [(2, .int (0 : Int32)), (1, .int q1.1), (0, .ref (a 0))] rfl (by decide) rfl dX6_street_74 ?_
    refine Zt_l [(0, .ref (a 0)), (2, .int (0 : Int32))] [2, 0] rfl ?_
    exact L_X6_street_75 a C R 1000 (0 : Int32) (st 156 (fun _ => (0 : Int32)) (st 148 (fun _ => (0 : Int32)) (pt 32 32 (sb 32 q2) (pt 0 32 q2 (st 184 (fun _ => (q1.2 3 0)) (st 129 (fun _ => (0 : Int32)) (pt 32 32 (sb 16 q1.2) (pt 128 16 q1.2 S)))))))) h

theorem c_X6_street (E : zEnv) (a : Nat → Nat) (S : St) {res : (Int32 × St)} (h : f_X6_street S = some res) : Kti E yX6_street wsX6_street rm_X6_street (wEA E a S) (wEA E a res.2) [.ref (a 0)] res.1 :=
  z_enti (cc := cX6_street) (maxL := 3) (rt := .int) (by decide +kernel) rfl (Nat.le_of_ble_eq_true rfl) (fun Γ C R => L_X6_street a C R S h)
