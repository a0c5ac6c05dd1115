abbrev rm_X6_end : Room := { frames := 0, cells := 0, slots := 0, locals := 0 }
theorem inw_X6_end_X6 : ∀ w ∈ wsX60, w ∈ wsX6_end := fun _ h => List.mem_cons_of_mem _ (List.mem_append_left _ (List.mem_append_right _ h))
theorem inw_X6_end_X3 : ∀ w ∈ wsX30, w ∈ wsX6_end := fun _ h => List.mem_cons_of_mem _ (List.mem_append_right _ h)
set_option maxHeartbeats 4000000 in
theorem wl_X6_end_0 (E : zEnv) (a : Nat → Nat) (S : St) (v : Int32) : (wEA E a (st 129 (fun _ => v) S)) = (wEA E a S).set 35 (a 67, .inr (3, List.set [.ref (a 68), .int (S 129 0), .int (S 130 0), .int (S 131 0), .int (S 132 0), .int (S 133 0), .int (S 134 0), .int (S 135 0), .int (S 136 0), .int (S 137 0), .int (S 138 0), .int (S 139 0)] 1 (.int v))) := rfl
noncomputable def f_X6_end (x1 : Int32) (S : St) : Option (Int32 × St) := (if x1 < 0 then (some ((-1 : Int32), S)) else (if x1 ≤ (S 129 0) then (some ((S 129 0), (st 129 (fun _ => x1) S))) else (some ((-1 : Int32), S))))
set_option maxHeartbeats 4000000 in
set_option maxRecDepth 100000 in
theorem L_X6_end {E : zEnv} {Γ : zG} (a : Nat → Nat) (C : zC E Γ cX6_end RX6 3 rm_X6_end wsX6_end) {res : (Int32 × St)} (R : zRi E Γ cX6_end 3 .int (wEA E a res.2) res.1) (x1 : Int32) (S : St) (h : f_X6_end x1 S = some res) : Zt E Γ 3 0 0 (wEA E a S) [(0, .ref (a 0)), (1, .int x1)] 0 [] := by
  unfold f_X6_end at h
  refine z_iload_n C 1 rfl rfl dX6_end_0 ?_
  refine z_if_lt C 15 (by decide) h dX6_end_1 (fun hc h => ?_) (fun hc h => ?_)
  · refine z_iconst C (v := (-1 : Int32)) (by decide) dX6_end_15 ?_
    obtain rfl := Option.some.inj h
    exact R rfl 16 _ dX6_end_16
  · refine z_iload_n C 1 rfl rfl dX6_end_4 ?_
    refine z_aload_n C 0 rfl rfl dX6_end_5 ?_
    refine z_get C 0 rfl (C := RX6) (T := TX6) (N := 11) (ci := 6) rfl inw_X6_end_X6 4 (by decide) (ref := "EldestAge") (List.mem_of_getElem? (i := 1) rfl) rfl (v := .ref (a 67)) rfl dX6_end_6 ?_
    refine z_get C 35 rfl (C := RX3) (T := TX3) (N := 12) (ci := 3) rfl inw_X6_end_X3 1 (by decide) (ref := "EldestAge$Tape") (List.mem_of_getElem? (i := 2) rfl) rfl (v := .int (S 129 0)) rfl dX6_end_9 ?_
    refine z_icmp_le C 17 (by decide) h dX6_end_12 (fun hc h => ?_) (fun hc h => ?_)
    · refine z_aload_n C 0 rfl rfl dX6_end_17 ?_
      refine z_get C 0 rfl (C := RX6) (T := TX6) (N := 11) (ci := 6) rfl inw_X6_end_X6 4 (by decide) (ref := "EldestAge") (List.mem_of_getElem? (i := 1) rfl) rfl (v := .ref (a 67)) rfl dX6_end_18 ?_
      refine z_get C 35 rfl (C := RX3) (T := TX3) (N := 12) (ci := 3) rfl inw_X6_end_X3 1 (by decide) (ref := "EldestAge$Tape") (List.mem_of_getElem? (i := 2) rfl) rfl (v := .int (S 129 0)) rfl dX6_end_21 ?_
      refine z_istore_n C [(2, .int (S 129 0)), (0, .ref (a 0)), (1, .int x1)] rfl (by decide) rfl dX6_end_24 ?_
      refine z_aload_n C 1 rfl rfl dX6_end_25 ?_
      refine z_get C 0 rfl (C := RX6) (T := TX6) (N := 11) (ci := 6) rfl inw_X6_end_X6 4 (by decide) (ref := "EldestAge") (List.mem_of_getElem? (i := 1) rfl) rfl (v := .ref (a 67)) rfl dX6_end_26 ?_
      refine z_iload_n C 2 rfl rfl dX6_end_29 ?_
      refine z_put C 35 rfl (C := RX3) (T := TX3) (N := 12) (ci := 3) rfl inw_X6_end_X3 tyX3 tyX3_ok nmX3 1 (by decide) (ref := "EldestAge$Tape") (List.mem_of_getElem? (i := 2) rfl) rfl rfl (ty := .int) (v := .int x1) (by decide +kernel) rfl rfl (Nat.le_of_ble_eq_true rfl) (wEA E a (st 129 (fun _ => x1) S)) (wl_X6_end_0 E a S x1) dX6_end_30 ?_
      refine z_iload_n C 0 rfl rfl dX6_end_33 ?_
      obtain rfl := Option.some.inj h
      exact R rfl 34 _ dX6_end_34
    · refine z_iconst C (v := (-1 : Int32)) (by decide) dX6_end_15 ?_
      obtain rfl := Option.some.inj h
      exact R rfl 16 _ dX6_end_16

theorem c_X6_end (E : zEnv) (a : Nat → Nat) (x1 : Int32) (S : St) {res : (Int32 × St)} (h : f_X6_end x1 S = some res) : Kti E yX6_end wsX6_end rm_X6_end (wEA E a S) (wEA E a res.2) [.ref (a 0), .int x1] res.1 :=
  z_enti (cc := cX6_end) (maxL := 3) (rt := .int) (by decide +kernel) rfl (Nat.le_of_ble_eq_true rfl) (fun Γ C R => L_X6_end a C R x1 S h)

abbrev rm_X6_fault : Room := { frames := 0, cells := 0, slots := 0, locals := 0 }
theorem inw_X6_fault_X6 : ∀ w ∈ wsX60, w ∈ wsX6_fault := fun _ h => List.mem_cons_of_mem _ (List.mem_append_right _ h)
noncomputable def f_X6_fault (S : St) : Option Int32 := (some (S 184 0))
set_option maxHeartbeats 4000000 in
set_option maxRecDepth 100000 in
theorem L_X6_fault {E : zEnv} {Γ : zG} (a : Nat → Nat) (C : zC E Γ cX6_fault RX6 1 rm_X6_fault wsX6_fault) {res : Int32} {S : St} (R : zRi E Γ cX6_fault 1 .int (wEA E a S) res) (h : f_X6_fault S = some res) : Zt E Γ 1 0 0 (wEA E a S) [(0, .ref (a 0))] 0 [] := by
  unfold f_X6_fault at h
  refine z_aload_n C 0 rfl rfl dX6_fault_0 ?_
  refine z_get C 0 rfl (C := RX6) (T := TX6) (N := 11) (ci := 6) rfl inw_X6_fault_X6 9 (by decide) (ref := "EldestAge") (List.mem_of_getElem? (i := 1) rfl) rfl (v := .int (S 184 0)) rfl dX6_fault_1 ?_
  obtain rfl := Option.some.inj h
  exact R rfl 4 _ dX6_fault_4

theorem c_X6_fault (E : zEnv) (a : Nat → Nat) (S : St) {res : Int32} (h : f_X6_fault S = some res) : Kti E yX6_fault wsX6_fault rm_X6_fault (wEA E a S) (wEA E a S) [.ref (a 0)] res :=
  z_enti (cc := cX6_fault) (maxL := 1) (rt := .int) (by decide +kernel) rfl (Nat.le_of_ble_eq_true rfl) (fun Γ C R => L_X6_fault a C R h)

abbrev rm_X6_rule : Room := { frames := 0, cells := 0, slots := 0, locals := 0 }
theorem inw_X6_rule_X6 : ∀ w ∈ wsX60, w ∈ wsX6_rule := fun _ h => List.mem_cons_of_mem _ (List.mem_append_left _ (List.mem_append_right _ h))
theorem inw_X6_rule_X5 : ∀ w ∈ wsX50, w ∈ wsX6_rule := fun _ h => List.mem_cons_of_mem _ (List.mem_append_right _ h)
noncomputable def f_X6_rule (x1 : Int32) (S : St) : Option Int32 := (if x1 = (0 : Int32) then (some (S 0 0)) else (if x1 = (1 : Int32) then (some (S 1 0)) else (if x1 = (2 : Int32) then (some (S 2 0)) else (if x1 = (3 : Int32) then (some (S 7 0)) else (if x1 = (4 : Int32) then (some (S 11 0)) else (some (-1 : Int32)))))))
set_option maxHeartbeats 4000000 in
set_option maxRecDepth 100000 in
theorem L_X6_rule {E : zEnv} {Γ : zG} (a : Nat → Nat) (C : zC E Γ cX6_rule RX6 2 rm_X6_rule wsX6_rule) {res : Int32} {S : St} (R : zRi E Γ cX6_rule 2 .int (wEA E a S) res) (x1 : Int32) (h : f_X6_rule x1 S = some res) : Zt E Γ 2 0 0 (wEA E a S) [(0, .ref (a 0)), (1, .int x1)] 0 [] := by
  unfold f_X6_rule at h
  refine z_iload_n C 1 rfl rfl dX6_rule_0 ?_
  by_cases hc : x1 = (0 : Int32)
  · replace h := (if_e h).1 hc
    refine z_tableIn C 36 (by rw [hc]; decide) (by rw [hc]; decide) (off := 35) (by rw [hc]; rfl) (by decide) dX6_rule_1 ?_
    refine z_aload_n C 0 rfl rfl dX6_rule_36 ?_
    refine z_get C 0 rfl (C := RX6) (T := TX6) (N := 11) (ci := 6) rfl inw_X6_rule_X6 0 (by decide) (ref := "EldestAge") (List.mem_of_getElem? (i := 1) rfl) rfl (v := .ref (a 1)) rfl dX6_rule_37 ?_
    refine z_get C 1 rfl (C := RX5) (T := TX5) (N := 16) (ci := 5) rfl inw_X6_rule_X5 0 (by decide) (ref := "EldestAge$Town") (List.mem_of_getElem? (i := 2) rfl) rfl (v := .int (S 0 0)) rfl dX6_rule_40 ?_
    obtain rfl := Option.some.inj h
    exact R rfl 43 _ dX6_rule_43
  · replace h := (if_e h).2 hc
    have n1_0 := hc
    by_cases hc : x1 = (1 : Int32)
    · replace h := (if_e h).1 hc
      refine z_tableIn C 44 (by rw [hc]; decide) (by rw [hc]; decide) (off := 43) (by rw [hc]; rfl) (by decide) dX6_rule_1 ?_
      refine z_aload_n C 0 rfl rfl dX6_rule_44 ?_
      refine z_get C 0 rfl (C := RX6) (T := TX6) (N := 11) (ci := 6) rfl inw_X6_rule_X6 0 (by decide) (ref := "EldestAge") (List.mem_of_getElem? (i := 1) rfl) rfl (v := .ref (a 1)) rfl dX6_rule_45 ?_
      refine z_get C 1 rfl (C := RX5) (T := TX5) (N := 16) (ci := 5) rfl inw_X6_rule_X5 1 (by decide) (ref := "EldestAge$Town") (List.mem_of_getElem? (i := 3) rfl) rfl (v := .int (S 1 0)) rfl dX6_rule_48 ?_
      obtain rfl := Option.some.inj h
      exact R rfl 51 _ dX6_rule_51
    · replace h := (if_e h).2 hc
      have n1_1 := hc
      by_cases hc : x1 = (2 : Int32)
      · replace h := (if_e h).1 hc
        refine z_tableIn C 52 (by rw [hc]; decide) (by rw [hc]; decide) (off := 51) (by rw [hc]; rfl) (by decide) dX6_rule_1 ?_
        refine z_aload_n C 0 rfl rfl dX6_rule_52 ?_
        refine z_get C 0 rfl (C := RX6) (T := TX6) (N := 11) (ci := 6) rfl inw_X6_rule_X6 0 (by decide) (ref := "EldestAge") (List.mem_of_getElem? (i := 1) rfl) rfl (v := .ref (a 1)) rfl dX6_rule_53 ?_
        refine z_get C 1 rfl (C := RX5) (T := TX5) (N := 16) (ci := 5) rfl inw_X6_rule_X5 2 (by decide) (ref := "EldestAge$Town") (List.mem_of_getElem? (i := 4) rfl) rfl (v := .int (S 2 0)) rfl dX6_rule_56 ?_
        obtain rfl := Option.some.inj h
        exact R rfl 59 _ dX6_rule_59
      · replace h := (if_e h).2 hc
        have n1_2 := hc
        by_cases hc : x1 = (3 : Int32)
        · replace h := (if_e h).1 hc
          refine z_tableIn C 60 (by rw [hc]; decide) (by rw [hc]; decide) (off := 59) (by rw [hc]; rfl) (by decide) dX6_rule_1 ?_
          refine z_aload_n C 0 rfl rfl dX6_rule_60 ?_
          refine z_get C 0 rfl (C := RX6) (T := TX6) (N := 11) (ci := 6) rfl inw_X6_rule_X6 0 (by decide) (ref := "EldestAge") (List.mem_of_getElem? (i := 1) rfl) rfl (v := .ref (a 1)) rfl dX6_rule_61 ?_
          refine z_get C 1 rfl (C := RX5) (T := TX5) (N := 16) (ci := 5) rfl inw_X6_rule_X5 7 (by decide) (ref := "EldestAge$Town") (List.mem_of_getElem? (i := 5) rfl) rfl (v := .int (S 7 0)) rfl dX6_rule_64 ?_
          obtain rfl := Option.some.inj h
          exact R rfl 67 _ dX6_rule_67
        · replace h := (if_e h).2 hc
          have n1_3 := hc
          by_cases hc : x1 = (4 : Int32)
          · replace h := (if_e h).1 hc
            refine z_tableIn C 68 (by rw [hc]; decide) (by rw [hc]; decide) (off := 67) (by rw [hc]; rfl) (by decide) dX6_rule_1 ?_
            refine z_aload_n C 0 rfl rfl dX6_rule_68 ?_
            refine z_get C 0 rfl (C := RX6) (T := TX6) (N := 11) (ci := 6) rfl inw_X6_rule_X6 0 (by decide) (ref := "EldestAge") (List.mem_of_getElem? (i := 1) rfl) rfl (v := .ref (a 1)) rfl dX6_rule_69 ?_
            refine z_get C 1 rfl (C := RX5) (T := TX5) (N := 16) (ci := 5) rfl inw_X6_rule_X5 11 (by decide) (ref := "EldestAge$Town") (List.mem_of_getElem? (i := 6) rfl) rfl (v := .int (S 11 0)) rfl dX6_rule_72 ?_
            obtain rfl := Option.some.inj h
            exact R rfl 75 _ dX6_rule_75
          · replace h := (if_e h).2 hc
            have n1_4 := hc
            refine z_tableOut C 76 (z_out5 n1_0 n1_1 n1_2 n1_3 n1_4) (by decide) dX6_rule_1 ?_
            refine z_iconst C (v := (-1 : Int32)) (by decide) dX6_rule_76 ?_
            obtain rfl := Option.some.inj h
            exact R rfl 77 _ dX6_rule_77

theorem c_X6_rule (E : zEnv) (a : Nat → Nat) (x1 : Int32) (S : St) {res : Int32} (h : f_X6_rule x1 S = some res) : Kti E yX6_rule wsX6_rule rm_X6_rule (wEA E a S) (wEA E a S) [.ref (a 0), .int x1] res :=
  z_enti (cc := cX6_rule) (maxL := 2) (rt := .int) (by decide +kernel) rfl (Nat.le_of_ble_eq_true rfl) (fun Γ C R => L_X6_rule a C R x1 h)

abbrev rm_X6_one : Room := { frames := 1, cells := 0, slots := 0, locals := 21 }
theorem inw_X6_one_X6 : ∀ w ∈ wsX60, w ∈ wsX6_one := fun _ h => List.mem_cons_of_mem _ (List.mem_append_left _ (List.mem_append_right _ h))
theorem inw_X6_one_X5 : ∀ w ∈ wsX50, w ∈ wsX6_one := fun _ h => List.mem_cons_of_mem _ (List.mem_append_right _ h)
set_option maxHeartbeats 4000000 in
theorem wl_X6_one_0 (E : zEnv) (a : Nat → Nat) (S : St) : ([1, 2, 3, 4, 5, 6, 7, 8, 9, 10, 11, 12, 13, 14, 15, 16] : List Nat).map (fun i => (wEA E a S)[i]?) = (wTown E (fun k => a (1 + k)) (sb 0 S)).map some := rfl
set_option maxHeartbeats 4000000 in
theorem wl_X6_one_1 (E : zEnv) (a : Nat → Nat) (S U : St) : (wTown E (fun k => a (1 + k)) U).map (fun q => q.1) = (wTown E (fun k => a (1 + k)) S).map (fun q => q.1) := rfl
noncomputable def f_X6_one (x1 : Int32) (x2 : Int32) (S : St) : Option Int32 := ((f_X5_isOne x1 (sb 0 S)).bind (fun q1 => (if q1 = 0 then (some (-1 : Int32)) else (if x2 = (0 : Int32) then (ix x1 14 (some (S 3 (Int32.toNatClampNeg x1)))) else (if x2 = (1 : Int32) then (ix x1 14 (some (S 4 (Int32.toNatClampNeg x1)))) else (if x2 = (2 : Int32) then (ix x1 14 (some (S 5 (Int32.toNatClampNeg x1)))) else (if x2 = (3 : Int32) then ((f_X5_deathOf x1 (sb 0 S)).bind (fun q2 => (some q2))) else (some (-1 : Int32)))))))))
set_option maxHeartbeats 4000000 in
set_option maxRecDepth 100000 in
theorem L_X6_one {E : zEnv} {Γ : zG} (a : Nat → Nat) (C : zC E Γ cX6_one RX6 3 rm_X6_one wsX6_one) {res : Int32} {S : St} (R : zRi E Γ cX6_one 3 .int (wEA E a S) res) (x1 : Int32) (x2 : Int32) (h : f_X6_one x1 x2 S = some res) : Zt E Γ 3 0 0 (wEA E a S) [(0, .ref (a 0)), (1, .int x1), (2, .int x2)] 0 [] := by
  unfold f_X6_one at h
  refine z_aload_n C 0 rfl rfl dX6_one_0 ?_
  refine z_get C 0 rfl (C := RX6) (T := TX6) (N := 11) (ci := 6) rfl inw_X6_one_X6 0 (by decide) (ref := "EldestAge") (List.mem_of_getElem? (i := 1) rfl) rfl (v := .ref (a 1)) rfl dX6_one_1 ?_
  refine z_iload_n C 1 rfl rfl dX6_one_4 ?_
  obtain ⟨q1, e1, h⟩ := bd_e h
  refine z_callVi C (b := a 1) (As := [.int x1]) (rest := []) (c_X5_isOne E (fun k => a (1 + k)) x1 (sb 0 S) e1) rfl gX6_one_X5_isOne rfl rfl rfl 1 rfl (by decide +kernel) ⟨Nat.le_of_ble_eq_true rfl, Nat.le_of_ble_eq_true rfl⟩ [1, 2, 3, 4, 5, 6, 7, 8, 9, 10, 11, 12, 13, 14, 15, 16] (wl_X6_one_0 E a S) (by decide) rfl (wEA E a S) (zrep_self (wl_X6_one_0 E a S)) 0 5 rfl rfl rfl (Nat.le_of_ble_eq_true rfl) dX6_one_5 ⟨Nat.zero_le _, Nat.zero_le _⟩ _ rfl ?_
  refine z_if_ne C 13 (by decide) h dX6_one_8 (fun hc h => ?_) (fun hc h => ?_)
  · refine z_iconst C (v := (-1 : Int32)) (by decide) dX6_one_11 ?_
    obtain rfl := Option.some.inj h
    exact R rfl 12 _ dX6_one_12
  · refine z_iload_n C 2 rfl rfl dX6_one_13 ?_
    by_cases hc : x2 = (0 : Int32)
    · replace h := (if_e h).1 hc
      refine z_tableIn C 44 (by rw [hc]; decide) (by rw [hc]; decide) (off := 30) (by rw [hc]; rfl) (by decide) dX6_one_14 ?_
      refine z_aload_n C 0 rfl rfl dX6_one_44 ?_
      refine z_get C 0 rfl (C := RX6) (T := TX6) (N := 11) (ci := 6) rfl inw_X6_one_X6 0 (by decide) (ref := "EldestAge") (List.mem_of_getElem? (i := 1) rfl) rfl (v := .ref (a 1)) rfl dX6_one_45 ?_
      refine z_get C 1 rfl (C := RX5) (T := TX5) (N := 16) (ci := 5) rfl inw_X6_one_X5 3 (by decide) (ref := "EldestAge$Town") (List.mem_of_getElem? (i := 2) rfl) rfl (v := .ref (a 2)) rfl dX6_one_48 ?_
      refine z_iload_n C 1 rfl rfl dX6_one_51 ?_
      refine z_iald C (N := 14) (f := (S 3)) 2 rfl h dX6_one_52 (fun h => ?_)
      obtain rfl := Option.some.inj h
      exact R rfl 53 _ dX6_one_53
    · replace h := (if_e h).2 hc
      have n14_0 := hc
      by_cases hc : x2 = (1 : Int32)
      · replace h := (if_e h).1 hc
        refine z_tableIn C 54 (by rw [hc]; decide) (by rw [hc]; decide) (off := 40) (by rw [hc]; rfl) (by decide) dX6_one_14 ?_
        refine z_aload_n C 0 rfl rfl dX6_one_54 ?_
        refine z_get C 0 rfl (C := RX6) (T := TX6) (N := 11) (ci := 6) rfl inw_X6_one_X6 0 (by decide) (ref := "EldestAge") (List.mem_of_getElem? (i := 1) rfl) rfl (v := .ref (a 1)) rfl dX6_one_55 ?_
        refine z_get C 1 rfl (C := RX5) (T := TX5) (N := 16) (ci := 5) rfl inw_X6_one_X5 4 (by decide) (ref := "EldestAge$Town") (List.mem_of_getElem? (i := 3) rfl) rfl (v := .ref (a 3)) rfl dX6_one_58 ?_
        refine z_iload_n C 1 rfl rfl dX6_one_61 ?_
        refine z_iald C (N := 14) (f := (S 4)) 3 rfl h dX6_one_62 (fun h => ?_)
        obtain rfl := Option.some.inj h
        exact R rfl 63 _ dX6_one_63
      · replace h := (if_e h).2 hc
        have n14_1 := hc
        by_cases hc : x2 = (2 : Int32)
        · replace h := (if_e h).1 hc
          refine z_tableIn C 64 (by rw [hc]; decide) (by rw [hc]; decide) (off := 50) (by rw [hc]; rfl) (by decide) dX6_one_14 ?_
          refine z_aload_n C 0 rfl rfl dX6_one_64 ?_
          refine z_get C 0 rfl (C := RX6) (T := TX6) (N := 11) (ci := 6) rfl inw_X6_one_X6 0 (by decide) (ref := "EldestAge") (List.mem_of_getElem? (i := 1) rfl) rfl (v := .ref (a 1)) rfl dX6_one_65 ?_
          refine z_get C 1 rfl (C := RX5) (T := TX5) (N := 16) (ci := 5) rfl inw_X6_one_X5 5 (by decide) (ref := "EldestAge$Town") (List.mem_of_getElem? (i := 4) rfl) rfl (v := .ref (a 4)) rfl dX6_one_68 ?_
          refine z_iload_n C 1 rfl rfl dX6_one_71 ?_
          refine z_iald C (N := 14) (f := (S 5)) 4 rfl h dX6_one_72 (fun h => ?_)
          obtain rfl := Option.some.inj h
          exact R rfl 73 _ dX6_one_73
        · replace h := (if_e h).2 hc
          have n14_2 := hc
          by_cases hc : x2 = (3 : Int32)
          · replace h := (if_e h).1 hc
            refine z_tableIn C 74 (by rw [hc]; decide) (by rw [hc]; decide) (off := 60) (by rw [hc]; rfl) (by decide) dX6_one_14 ?_
            refine z_aload_n C 0 rfl rfl dX6_one_74 ?_
            refine z_get C 0 rfl (C := RX6) (T := TX6) (N := 11) (ci := 6) rfl inw_X6_one_X6 0 (by decide) (ref := "EldestAge") (List.mem_of_getElem? (i := 1) rfl) rfl (v := .ref (a 1)) rfl dX6_one_75 ?_
            refine z_iload_n C 1 rfl rfl dX6_one_78 ?_
            obtain ⟨q2, e2, h⟩ := bd_e h
            refine z_callVi C (b := a 1) (As := [.int x1]) (rest := []) (c_X5_deathOf E (fun k => a (1 + k)) x1 (sb 0 S) e2) rfl gX6_one_X5_deathOf rfl rfl rfl 1 rfl (by decide +kernel) ⟨Nat.le_of_ble_eq_true rfl, Nat.le_of_ble_eq_true rfl⟩ [1, 2, 3, 4, 5, 6, 7, 8, 9, 10, 11, 12, 13, 14, 15, 16] (wl_X6_one_0 E a S) (by decide) rfl (wEA E a S) (zrep_self (wl_X6_one_0 E a S)) 0 5 rfl rfl rfl (Nat.le_of_ble_eq_true rfl) dX6_one_79 ⟨Nat.zero_le _, Nat.zero_le _⟩ _ rfl ?_
            obtain rfl := Option.some.inj h
            exact R rfl 82 _ dX6_one_82
          · replace h := (if_e h).2 hc
            have n14_3 := hc
            refine z_tableOut C 83 (z_out4 n14_0 n14_1 n14_2 n14_3) (by decide) dX6_one_14 ?_
            refine z_iconst C (v := (-1 : Int32)) (by decide) dX6_one_83 ?_
            obtain rfl := Option.some.inj h
            exact R rfl 84 _ dX6_one_84

theorem c_X6_one (E : zEnv) (a : Nat → Nat) (x1 : Int32) (x2 : Int32) (S : St) {res : Int32} (h : f_X6_one x1 x2 S = some res) : Kti E yX6_one wsX6_one rm_X6_one (wEA E a S) (wEA E a S) [.ref (a 0), .int x1, .int x2] res :=
  z_enti (cc := cX6_one) (maxL := 3) (rt := .int) (by decide +kernel) rfl (Nat.le_of_ble_eq_true rfl) (fun Γ C R => L_X6_one a C R x1 x2 h)

abbrev rm_X6_moved : Room := { frames := 0, cells := 0, slots := 0, locals := 0 }
theorem inw_X6_moved_X6 : ∀ w ∈ wsX60, w ∈ wsX6_moved := fun _ h => List.mem_cons_of_mem _ (List.mem_append_left _ (List.mem_append_right _ h))
theorem inw_X6_moved_X5 : ∀ w ∈ wsX50, w ∈ wsX6_moved := fun _ h => List.mem_cons_of_mem _ (List.mem_append_right _ h)
noncomputable def f_X6_moved (x1 : Int32) (x2 : Int32) (S : St) : Option Int32 := (if x1 < 0 then (some (-1 : Int32)) else (if x1 < (S 7 0) then (if x2 = (0 : Int32) then (ix x1 12 (some (S 8 (Int32.toNatClampNeg x1)))) else (if x2 = (1 : Int32) then (ix x1 12 (some (S 9 (Int32.toNatClampNeg x1)))) else (if x2 = (2 : Int32) then (ix x1 12 (some (S 10 (Int32.toNatClampNeg x1)))) else (some (-1 : Int32))))) else (some (-1 : Int32))))
set_option maxHeartbeats 4000000 in
set_option maxRecDepth 100000 in
theorem L_X6_moved {E : zEnv} {Γ : zG} (a : Nat → Nat) (C : zC E Γ cX6_moved RX6 3 rm_X6_moved wsX6_moved) {res : Int32} {S : St} (R : zRi E Γ cX6_moved 3 .int (wEA E a S) res) (x1 : Int32) (x2 : Int32) (h : f_X6_moved x1 x2 S = some res) : Zt E Γ 3 0 0 (wEA E a S) [(0, .ref (a 0)), (1, .int x1), (2, .int x2)] 0 [] := by
  unfold f_X6_moved at h
  refine z_iload_n C 1 rfl rfl dX6_moved_0 ?_
  refine z_if_lt C 15 (by decide) h dX6_moved_1 (fun hc h => ?_) (fun hc h => ?_)
  · refine z_iconst C (v := (-1 : Int32)) (by decide) dX6_moved_15 ?_
    obtain rfl := Option.some.inj h
    exact R rfl 16 _ dX6_moved_16
  · refine z_iload_n C 1 rfl rfl dX6_moved_4 ?_
    refine z_aload_n C 0 rfl rfl dX6_moved_5 ?_
    refine z_get C 0 rfl (C := RX6) (T := TX6) (N := 11) (ci := 6) rfl inw_X6_moved_X6 0 (by decide) (ref := "EldestAge") (List.mem_of_getElem? (i := 1) rfl) rfl (v := .ref (a 1)) rfl dX6_moved_6 ?_
    refine z_get C 1 rfl (C := RX5) (T := TX5) (N := 16) (ci := 5) rfl inw_X6_moved_X5 7 (by decide) (ref := "EldestAge$Town") (List.mem_of_getElem? (i := 2) rfl) rfl (v := .int (S 7 0)) rfl dX6_moved_9 ?_
    refine z_icmp_lt C 17 (by decide) h dX6_moved_12 (fun hc h => ?_) (fun hc h => ?_)
    · refine z_iload_n C 2 rfl rfl dX6_moved_17 ?_
      by_cases hc : x2 = (0 : Int32)
      · replace h := (if_e h).1 hc
        refine z_tableIn C 44 (by rw [hc]; decide) (by rw [hc]; decide) (off := 26) (by rw [hc]; rfl) (by decide) dX6_moved_18 ?_
        refine z_aload_n C 0 rfl rfl dX6_moved_44 ?_
        refine z_get C 0 rfl (C := RX6) (T := TX6) (N := 11) (ci := 6) rfl inw_X6_moved_X6 0 (by decide) (ref := "EldestAge") (List.mem_of_getElem? (i := 1) rfl) rfl (v := .ref (a 1)) rfl dX6_moved_45 ?_
        refine z_get C 1 rfl (C := RX5) (T := TX5) (N := 16) (ci := 5) rfl inw_X6_moved_X5 8 (by decide) (ref := "EldestAge$Town") (List.mem_of_getElem? (i := 3) rfl) rfl (v := .ref (a 6)) rfl dX6_moved_48 ?_
        refine z_iload_n C 1 rfl rfl dX6_moved_51 ?_
        refine z_iald C (N := 12) (f := (S 8)) 6 rfl h dX6_moved_52 (fun h => ?_)
        obtain rfl := Option.some.inj h
        exact R rfl 53 _ dX6_moved_53
      · replace h := (if_e h).2 hc
        have n18_0 := hc
        by_cases hc : x2 = (1 : Int32)
        · replace h := (if_e h).1 hc
          refine z_tableIn C 54 (by rw [hc]; decide) (by rw [hc]; decide) (off := 36) (by rw [hc]; rfl) (by decide) dX6_moved_18 ?_
          refine z_aload_n C 0 rfl rfl dX6_moved_54 ?_
          refine z_get C 0 rfl (C := RX6) (T := TX6) (N := 11) (ci := 6) rfl inw_X6_moved_X6 0 (by decide) (ref := "EldestAge") (List.mem_of_getElem? (i := 1) rfl) rfl (v := .ref (a 1)) rfl dX6_moved_55 ?_
          refine z_get C 1 rfl (C := RX5) (T := TX5) (N := 16) (ci := 5) rfl inw_X6_moved_X5 9 (by decide) (ref := "EldestAge$Town") (List.mem_of_getElem? (i := 4) rfl) rfl (v := .ref (a 7)) rfl dX6_moved_58 ?_
          refine z_iload_n C 1 rfl rfl dX6_moved_61 ?_
          refine z_iald C (N := 12) (f := (S 9)) 7 rfl h dX6_moved_62 (fun h => ?_)
          obtain rfl := Option.some.inj h
          exact R rfl 63 _ dX6_moved_63
        · replace h := (if_e h).2 hc
          have n18_1 := hc
          by_cases hc : x2 = (2 : Int32)
          · replace h := (if_e h).1 hc
            refine z_tableIn C 64 (by rw [hc]; decide) (by rw [hc]; decide) (off := 46) (by rw [hc]; rfl) (by decide) dX6_moved_18 ?_
            refine z_aload_n C 0 rfl rfl dX6_moved_64 ?_
            refine z_get C 0 rfl (C := RX6) (T := TX6) (N := 11) (ci := 6) rfl inw_X6_moved_X6 0 (by decide) (ref := "EldestAge") (List.mem_of_getElem? (i := 1) rfl) rfl (v := .ref (a 1)) rfl dX6_moved_65 ?_
            refine z_get C 1 rfl (C := RX5) (T := TX5) (N := 16) (ci := 5) rfl inw_X6_moved_X5 10 (by decide) (ref := "EldestAge$Town") (List.mem_of_getElem? (i := 5) rfl) rfl (v := .ref (a 8)) rfl dX6_moved_68 ?_
            refine z_iload_n C 1 rfl rfl dX6_moved_71 ?_
            refine z_iald C (N := 12) (f := (S 10)) 8 rfl h dX6_moved_72 (fun h => ?_)
            obtain rfl := Option.some.inj h
            exact R rfl 73 _ dX6_moved_73
          · replace h := (if_e h).2 hc
            have n18_2 := hc
            refine z_tableOut C 74 (z_out3 n18_0 n18_1 n18_2) (by decide) dX6_moved_18 ?_
            refine z_iconst C (v := (-1 : Int32)) (by decide) dX6_moved_74 ?_
            obtain rfl := Option.some.inj h
            exact R rfl 75 _ dX6_moved_75
    · refine z_iconst C (v := (-1 : Int32)) (by decide) dX6_moved_15 ?_
      obtain rfl := Option.some.inj h
      exact R rfl 16 _ dX6_moved_16

theorem c_X6_moved (E : zEnv) (a : Nat → Nat) (x1 : Int32) (x2 : Int32) (S : St) {res : Int32} (h : f_X6_moved x1 x2 S = some res) : Kti E yX6_moved wsX6_moved rm_X6_moved (wEA E a S) (wEA E a S) [.ref (a 0), .int x1, .int x2] res :=
  z_enti (cc := cX6_moved) (maxL := 3) (rt := .int) (by decide +kernel) rfl (Nat.le_of_ble_eq_true rfl) (fun Γ C R => L_X6_moved a C R x1 x2 h)

abbrev rm_X6_expected : Room := { frames := 0, cells := 0, slots := 0, locals := 0 }
theorem inw_X6_expected_X6 : ∀ w ∈ wsX60, w ∈ wsX6_expected := fun _ h => List.mem_cons_of_mem _ (List.mem_append_left _ (List.mem_append_right _ h))
theorem inw_X6_expected_X5 : ∀ w ∈ wsX50, w ∈ wsX6_expected := fun _ h => List.mem_cons_of_mem _ (List.mem_append_right _ h)
noncomputable def f_X6_expected (x1 : Int32) (x2 : Int32) (S : St) : Option Int32 := (if x1 < 0 then (some (-1 : Int32)) else (if x1 < (S 11 0) then (if x2 = (0 : Int32) then (ix x1 4 (some (S 12 (Int32.toNatClampNeg x1)))) else (if x2 = (1 : Int32) then (ix x1 4 (some (S 13 (Int32.toNatClampNeg x1)))) else (if x2 = (2 : Int32) then (ix x1 4 (some (S 14 (Int32.toNatClampNeg x1)))) else (some (-1 : Int32))))) else (some (-1 : Int32))))
set_option maxHeartbeats 4000000 in
set_option maxRecDepth 100000 in
theorem L_X6_expected {E : zEnv} {Γ : zG} (a : Nat → Nat) (C : zC E Γ cX6_expected RX6 3 rm_X6_expected wsX6_expected) {res : Int32} {S : St} (R : zRi E Γ cX6_expected 3 .int (wEA E a S) res) (x1 : Int32) (x2 : Int32) (h : f_X6_expected x1 x2 S = some res) : Zt E Γ 3 0 0 (wEA E a S) [(0, .ref (a 0)), (1, .int x1), (2, .int x2)] 0 [] := by
  unfold f_X6_expected at h
  refine z_iload_n C 1 rfl rfl dX6_expected_0 ?_
  refine z_if_lt C 15 (by decide) h dX6_expected_1 (fun hc h => ?_) (fun hc h => ?_)
  · refine z_iconst C (v := (-1 : Int32)) (by decide) dX6_expected_15 ?_
    obtain rfl := Option.some.inj h
    exact R rfl 16 _ dX6_expected_16
  · refine z_iload_n C 1 rfl rfl dX6_expected_4 ?_
    refine z_aload_n C 0 rfl rfl dX6_expected_5 ?_
    refine z_get C 0 rfl (C := RX6) (T := TX6) (N := 11) (ci := 6) rfl inw_X6_expected_X6 0 (by decide) (ref := "EldestAge") (List.mem_of_getElem? (i := 1) rfl) rfl (v := .ref (a 1)) rfl dX6_expected_6 ?_
    refine z_get C 1 rfl (C := RX5) (T := TX5) (N := 16) (ci := 5) rfl inw_X6_expected_X5 11 (by decide) (ref := "EldestAge$Town") (List.mem_of_getElem? (i := 2) rfl) rfl (v := .int (S 11 0)) rfl dX6_expected_9 ?_
    refine z_icmp_lt C 17 (by decide) h dX6_expected_12 (fun hc h => ?_) (fun hc h => ?_)
    · refine z_iload_n C 2 rfl rfl dX6_expected_17 ?_
      by_cases hc : x2 = (0 : Int32)
      · replace h := (if_e h).1 hc
        refine z_tableIn C 44 (by rw [hc]; decide) (by rw [hc]; decide) (off := 26) (by rw [hc]; rfl) (by decide) dX6_expected_18 ?_
        refine z_aload_n C 0 rfl rfl dX6_expected_44 ?_
        refine z_get C 0 rfl (C := RX6) (T := TX6) (N := 11) (ci := 6) rfl inw_X6_expected_X6 0 (by decide) (ref := "EldestAge") (List.mem_of_getElem? (i := 1) rfl) rfl (v := .ref (a 1)) rfl dX6_expected_45 ?_
        refine z_get C 1 rfl (C := RX5) (T := TX5) (N := 16) (ci := 5) rfl inw_X6_expected_X5 12 (by decide) (ref := "EldestAge$Town") (List.mem_of_getElem? (i := 3) rfl) rfl (v := .ref (a 9)) rfl dX6_expected_48 ?_
        refine z_iload_n C 1 rfl rfl dX6_expected_51 ?_
        refine z_iald C (N := 4) (f := (S 12)) 9 rfl h dX6_expected_52 (fun h => ?_)
        obtain rfl := Option.some.inj h
        exact R rfl 53 _ dX6_expected_53
      · replace h := (if_e h).2 hc
        have n18_0 := hc
        by_cases hc : x2 = (1 : Int32)
        · replace h := (if_e h).1 hc
          refine z_tableIn C 54 (by rw [hc]; decide) (by rw [hc]; decide) (off := 36) (by rw [hc]; rfl) (by decide) dX6_expected_18 ?_
          refine z_aload_n C 0 rfl rfl dX6_expected_54 ?_
          refine z_get C 0 rfl (C := RX6) (T := TX6) (N := 11) (ci := 6) rfl inw_X6_expected_X6 0 (by decide) (ref := "EldestAge") (List.mem_of_getElem? (i := 1) rfl) rfl (v := .ref (a 1)) rfl dX6_expected_55 ?_
          refine z_get C 1 rfl (C := RX5) (T := TX5) (N := 16) (ci := 5) rfl inw_X6_expected_X5 13 (by decide) (ref := "EldestAge$Town") (List.mem_of_getElem? (i := 4) rfl) rfl (v := .ref (a 10)) rfl dX6_expected_58 ?_
          refine z_iload_n C 1 rfl rfl dX6_expected_61 ?_
          refine z_iald C (N := 4) (f := (S 13)) 10 rfl h dX6_expected_62 (fun h => ?_)
          obtain rfl := Option.some.inj h
          exact R rfl 63 _ dX6_expected_63
        · replace h := (if_e h).2 hc
          have n18_1 := hc
          by_cases hc : x2 = (2 : Int32)
          · replace h := (if_e h).1 hc
            refine z_tableIn C 64 (by rw [hc]; decide) (by rw [hc]; decide) (off := 46) (by rw [hc]; rfl) (by decide) dX6_expected_18 ?_
            refine z_aload_n C 0 rfl rfl dX6_expected_64 ?_
            refine z_get C 0 rfl (C := RX6) (T := TX6) (N := 11) (ci := 6) rfl inw_X6_expected_X6 0 (by decide) (ref := "EldestAge") (List.mem_of_getElem? (i := 1) rfl) rfl (v := .ref (a 1)) rfl dX6_expected_65 ?_
            refine z_get C 1 rfl (C := RX5) (T := TX5) (N := 16) (ci := 5) rfl inw_X6_expected_X5 14 (by decide) (ref := "EldestAge$Town") (List.mem_of_getElem? (i := 5) rfl) rfl (v := .ref (a 11)) rfl dX6_expected_68 ?_
            refine z_iload_n C 1 rfl rfl dX6_expected_71 ?_
            refine z_iald C (N := 4) (f := (S 14)) 11 rfl h dX6_expected_72 (fun h => ?_)
            obtain rfl := Option.some.inj h
            exact R rfl 73 _ dX6_expected_73
          · replace h := (if_e h).2 hc
            have n18_2 := hc
            refine z_tableOut C 74 (z_out3 n18_0 n18_1 n18_2) (by decide) dX6_expected_18 ?_
            refine z_iconst C (v := (-1 : Int32)) (by decide) dX6_expected_74 ?_
            obtain rfl := Option.some.inj h
            exact R rfl 75 _ dX6_expected_75
    · refine z_iconst C (v := (-1 : Int32)) (by decide) dX6_expected_15 ?_
      obtain rfl := Option.some.inj h
      exact R rfl 16 _ dX6_expected_16

theorem c_X6_expected (E : zEnv) (a : Nat → Nat) (x1 : Int32) (x2 : Int32) (S : St) {res : Int32} (h : f_X6_expected x1 x2 S = some res) : Kti E yX6_expected wsX6_expected rm_X6_expected (wEA E a S) (wEA E a S) [.ref (a 0), .int x1, .int x2] res :=
  z_enti (cc := cX6_expected) (maxL := 3) (rt := .int) (by decide +kernel) rfl (Nat.le_of_ble_eq_true rfl) (fun Γ C R => L_X6_expected a C R x1 x2 h)

abbrev rm_X6_law : Room := { frames := 1, cells := 0, slots := 0, locals := 20 }
theorem inw_X6_law_X6 : ∀ w ∈ wsX60, w ∈ wsX6_law := fun _ h => List.mem_cons_of_mem _ (List.mem_append_left _ (List.mem_append_right _ h))
theorem inw_X6_law_X5 : ∀ w ∈ wsX50, w ∈ wsX6_law := fun _ h => List.mem_cons_of_mem _ (List.mem_append_right _ h)
set_option maxHeartbeats 4000000 in
theorem wl_X6_law_0 (E : zEnv) (a : Nat → Nat) (S : St) (v : Int32) : (wEA E a (st 1 (fun _ => v) S)) = (wEA E a S).set 1 (a 1, .inr (5, List.set [.int (S 0 0), .int (S 1 0), .int (S 2 0), .ref (a 2), .ref (a 3), .ref (a 4), .ref (a 5), .int (S 7 0), .ref (a 6), .ref (a 7), .ref (a 8), .int (S 11 0), .ref (a 9), .ref (a 10), .ref (a 11), .ref (a 12)] 1 (.int v))) := rfl
noncomputable def f_X6_law (x1 : Int32) (S : St) : Option (Int32 × St) := ((f_X6_isLaw x1).bind (fun q1 => (if q1 = 0 then (some ((-1 : Int32), S)) else (some ((S 1 0), (st 1 (fun _ => x1) S))))))
set_option maxHeartbeats 4000000 in
set_option maxRecDepth 100000 in
theorem L_X6_law {E : zEnv} {Γ : zG} (a : Nat → Nat) (C : zC E Γ cX6_law RX6 3 rm_X6_law wsX6_law) {res : (Int32 × St)} (R : zRi E Γ cX6_law 3 .int (wEA E a res.2) res.1) (x1 : Int32) (S : St) (h : f_X6_law x1 S = some res) : Zt E Γ 3 0 0 (wEA E a S) [(0, .ref (a 0)), (1, .int x1)] 0 [] := by
  unfold f_X6_law at h
  refine z_iload_n C 1 rfl rfl dX6_law_0 ?_
  obtain ⟨q1, e1, h⟩ := bd_e h
  refine z_callSi C (rest := []) (c_X6_isLaw E x1 e1) gX6_law_X6_isLaw rfl rfl rfl 1 rfl (by decide +kernel) ⟨Nat.le_of_ble_eq_true rfl, Nat.le_of_ble_eq_true rfl⟩ [] rfl (by decide) rfl (wEA E a S) rfl (Nat.le_of_ble_eq_true rfl) dX6_law_1 ⟨Nat.zero_le _, Nat.zero_le _⟩ _ rfl ?_
  refine z_if_ne C 9 (by decide) h dX6_law_4 (fun hc h => ?_) (fun hc h => ?_)
  · refine z_iconst C (v := (-1 : Int32)) (by decide) dX6_law_7 ?_
    obtain rfl := Option.some.inj h
    exact R rfl 8 _ dX6_law_8
  · refine z_aload_n C 0 rfl rfl dX6_law_9 ?_
    refine z_get C 0 rfl (C := RX6) (T := TX6) (N := 11) (ci := 6) rfl inw_X6_law_X6 0 (by decide) (ref := "EldestAge") (List.mem_of_getElem? (i := 1) rfl) rfl (v := .ref (a 1)) rfl dX6_law_10 ?_
    refine z_get C 1 rfl (C := RX5) (T := TX5) (N := 16) (ci := 5) rfl inw_X6_law_X5 1 (by decide) (ref := "EldestAge$Town") (List.mem_of_getElem? (i := 2) rfl) rfl (v := .int (S 1 0)) rfl dX6_law_13 ?_
    refine z_istore_n C [(2, .int (S 1 0)), (0, .ref (a 0)), (1, .int x1)] rfl (by decide) rfl dX6_law_16 ?_
    refine z_aload_n C 1 rfl rfl dX6_law_17 ?_
    refine z_get C 0 rfl (C := RX6) (T := TX6) (N := 11) (ci := 6) rfl inw_X6_law_X6 0 (by decide) (ref := "EldestAge") (List.mem_of_getElem? (i := 1) rfl) rfl (v := .ref (a 1)) rfl dX6_law_18 ?_
    refine z_iload_n C 2 rfl rfl dX6_law_21 ?_
    refine z_put C 1 rfl (C := RX5) (T := TX5) (N := 16) (ci := 5) rfl inw_X6_law_X5 tyX5 tyX5_ok nmX5 1 (by decide) (ref := "EldestAge$Town") (List.mem_of_getElem? (i := 2) rfl) rfl rfl (ty := .int) (v := .int x1) (by decide +kernel) rfl rfl (Nat.le_of_ble_eq_true rfl) (wEA E a (st 1 (fun _ => x1) S)) (wl_X6_law_0 E a S x1) dX6_law_22 ?_
    refine z_iload_n C 0 rfl rfl dX6_law_25 ?_
    obtain rfl := Option.some.inj h
    exact R rfl 26 _ dX6_law_26

theorem c_X6_law (E : zEnv) (a : Nat → Nat) (x1 : Int32) (S : St) {res : (Int32 × St)} (h : f_X6_law x1 S = some res) : Kti E yX6_law wsX6_law rm_X6_law (wEA E a S) (wEA E a res.2) [.ref (a 0), .int x1] res.1 :=
  z_enti (cc := cX6_law) (maxL := 3) (rt := .int) (by decide +kernel) rfl (Nat.le_of_ble_eq_true rfl) (fun Γ C R => L_X6_law a C R x1 S h)

abbrev rm_X6_bear : Room := { frames := 1, cells := 0, slots := 0, locals := 24 }
theorem inw_X6_bear_X6 : ∀ w ∈ wsX60, w ∈ wsX6_bear := fun _ h => List.mem_cons_of_mem _ (List.mem_append_left _ (List.mem_append_right _ h))
theorem inw_X6_bear_X5 : ∀ w ∈ wsX50, w ∈ wsX6_bear := fun _ h => List.mem_cons_of_mem _ (List.mem_append_right _ h)
set_option maxHeartbeats 4000000 in
theorem wl_X6_bear_0 (E : zEnv) (a : Nat → Nat) (S : St) : ([1, 2, 3, 4, 5, 6, 7, 8, 9, 10, 11, 12, 13, 14, 15, 16] : List Nat).map (fun i => (wEA E a S)[i]?) = (wTown E (fun k => a (1 + k)) (sb 0 S)).map some := rfl
set_option maxHeartbeats 4000000 in
theorem wl_X6_bear_1 (E : zEnv) (a : Nat → Nat) (S U : St) : (wTown E (fun k => a (1 + k)) U).map (fun q => q.1) = (wTown E (fun k => a (1 + k)) S).map (fun q => q.1) := rfl
set_option maxHeartbeats 4000000 in
theorem wl_X6_bear_2 (E : zEnv) (a : Nat → Nat) (S U : St) : (wEA E a (pt 0 32 U S)) = zrep [1, 2, 3, 4, 5, 6, 7, 8, 9, 10, 11, 12, 13, 14, 15, 16] (wTown E (fun k => a (1 + k)) U) (wEA E a S) := zrep_of (isR := [0, 17, 18, 19, 20, 21, 22, 23, 24, 25, 26, 27, 28, 29, 30, 31, 32, 33, 34, 35, 36, 37, 38, 39, 40, 41, 42, 43, 44, 45, 46, 47, 48, 49, 50, 51, 52, 53, 54, 55, 56, 57, 58, 59, 60, 61, 62, 63, 64, 65, 66, 67, 68, 69, 70, 71, 72, 73, 74, 75, 76, 77, 78, 79, 80, 81, 82, 83, 84, 85, 86, 87, 88, 89, 90, 91, 92, 93, 94, 95, 96, 97, 98, 99, 100]) 101 rfl [some (a 0, .inr (6, [.ref (a 1), .ref (a 17), .ref (a 65), .ref (a 66), .ref (a 67), .ref (a 69), .ref (a 73), .ref (a 77), .ref (a 93), .int (S 184 0), .int (S 185 0)])), some (a 17, .inr (5, [.int (S 32 0), .int (S 33 0), .int (S 34 0), .ref (a 18), .ref (a 19), .ref (a 20), .ref (a 21), .int (S 39 0), .ref (a 22), .ref (a 23), .ref (a 24), .int (S 43 0), .ref (a 25), .ref (a 26), .ref (a 27), .ref (a 28)])), some (a 18, .inl (zI E, 14, .inl (S 35))), some (a 19, .inl (zI E, 14, .inl (S 36))), some (a 20, .inl (zI E, 14, .inl (S 37))), some (a 21, .inl (zI E, 14, .inl (S 38))), some (a 22, .inl (zI E, 12, .inl (S 40))), some (a 23, .inl (zI E, 12, .inl (S 41))), some (a 24, .inl (zI E, 12, .inl (S 42))), some (a 25, .inl (zI E, 4, .inl (S 44))), some (a 26, .inl (zI E, 4, .inl (S 45))), some (a 27, .inl (zI E, 4, .inl (S 46))), some (a 28, .inr (2, [.ref (a 29), .ref (a 30), .ref (a 31), .ref (a 32)])), some (a 29, .inl (zI E, 8, .inl (S 48))), some (a 30, .inl (zI E, 8, .inl (S 49))), some (a 31, .inl (zI E, 8, .inl (S 50))), some (a 32, .inl (zI E, 8, .inl (S 51))), some (a 65, .inl (zT E, 2, .inr (.inr (.inr (.inr (va_up (va_up (fun _ => none) 0 (some (a 33))) 1 (some (a 49)))))))), some (a 66, .inl (zZ E, 2, .inl (S 186))), some (a 67, .inr (3, [.ref (a 68), .int (S 129 0), .int (S 130 0), .int (S 131 0), .int (S 132 0), .int (S 133 0), .int (S 134 0), .int (S 135 0), .int (S 136 0), .int (S 137 0), .int (S 138 0), .int (S 139 0)])), some (a 68, .inl (zI E, 400, .inl (S 128))), some (a 69, .inr (4, [.int (S 144 0), .ref (a 70), .ref (a 71), .ref (a 72), .int (S 148 0)])), some (a 70, .inl (zI E, 4, .inl (S 145))), some (a 71, .inl (zI E, 4, .inl (S 146))), some (a 72, .inl (zI E, 4, .inl (S 147))), some (a 73, .inr (4, [.int (S 152 0), .ref (a 74), .ref (a 75), .ref (a 76), .int (S 156 0)])), some (a 74, .inl (zI E, 8, .inl (S 153))), some (a 75, .inl (zI E, 8, .inl (S 154))), some (a 76, .inl (zI E, 8, .inl (S 155))), some (a 77, .inr (0, [.int (S 160 0), .ref (a 78), .ref (a 79), .ref (a 80), .ref (a 81), .ref (a 82), .ref (a 83), .ref (a 88)])), some (a 78, .inl (zI E, 4, .inl (S 161))), some (a 79, .inl (zI E, 4, .inl (S 162))), some (a 80, .inl (zI E, 4, .inl (S 163))), some (a 81, .inl (zI E, 4, .inl (S 164))), some (a 82, .inl (zI E, 4, .inl (S 165))), some (a 83, .inr (2, [.ref (a 84), .ref (a 85), .ref (a 86), .ref (a 87)])), some (a 84, .inl (zI E, 8, .inl (S 168))), some (a 85, .inl (zI E, 8, .inl (S 169))), some (a 86, .inl (zI E, 8, .inl (S 170))), some (a 87, .inl (zI E, 8, .inl (S 171))), some (a 88, .inr (2, [.ref (a 89), .ref (a 90), .ref (a 91), .ref (a 92)])), some (a 89, .inl (zI E, 8, .inl (S 172))), some (a 90, .inl (zI E, 8, .inl (S 173))), some (a 91, .inl (zI E, 8, .inl (S 174))), some (a 92, .inl (zI E, 8, .inl (S 175))), some (a 93, .inr (1, [.ref (a 94), .ref (a 99), .ref (a 100)])), some (a 94, .inl (zII E, 4, .inr (.inr (.inr (.inr (va_up (va_up (va_up (va_up (fun _ => none) 0 (some (a 95))) 1 (some (a 96))) 2 (some (a 97))) 3 (some (a 98)))))))), some (a 95, .inl (zI E, 40, .inl (S 176))), some (a 96, .inl (zI E, 40, .inl (S 177))), some (a 97, .inl (zI E, 40, .inl (S 178))), some (a 98, .inl (zI E, 40, .inl (S 179))), some (a 99, .inl (zI E, 4, .inl (S 180))), some (a 100, .inl (zI E, 4, .inl (S 181))), some (a 33, .inr (5, [.int (S 64 0), .int (S 65 0), .int (S 66 0), .ref (a 34), .ref (a 35), .ref (a 36), .ref (a 37), .int (S 71 0), .ref (a 38), .ref (a 39), .ref (a 40), .int (S 75 0), .ref (a 41), .ref (a 42), .ref (a 43), .ref (a 44)])), some (a 34, .inl (zI E, 14, .inl (S 67))), some (a 35, .inl (zI E, 14, .inl (S 68))), some (a 36, .inl (zI E, 14, .inl (S 69))), some (a 37, .inl (zI E, 14, .inl (S 70))), some (a 38, .inl (zI E, 12, .inl (S 72))), some (a 39, .inl (zI E, 12, .inl (S 73))), some (a 40, .inl (zI E, 12, .inl (S 74))), some (a 41, .inl (zI E, 4, .inl (S 76))), some (a 42, .inl (zI E, 4, .inl (S 77))), some (a 43, .inl (zI E, 4, .inl (S 78))), some (a 44, .inr (2, [.ref (a 45), .ref (a 46), .ref (a 47), .ref (a 48)])), some (a 45, .inl (zI E, 8, .inl (S 80))), some (a 46, .inl (zI E, 8, .inl (S 81))), some (a 47, .inl (zI E, 8, .inl (S 82))), some (a 48, .inl (zI E, 8, .inl (S 83))), some (a 49, .inr (5, [.int (S 96 0), .int (S 97 0), .int (S 98 0), .ref (a 50), .ref (a 51), .ref (a 52), .ref (a 53), .int (S 103 0), .ref (a 54), .ref (a 55), .ref (a 56), .int (S 107 0), .ref (a 57), .ref (a 58), .ref (a 59), .ref (a 60)])), some (a 50, .inl (zI E, 14, .inl (S 99))), some (a 51, .inl (zI E, 14, .inl (S 100))), some (a 52, .inl (zI E, 14, .inl (S 101))), some (a 53, .inl (zI E, 14, .inl (S 102))), some (a 54, .inl (zI E, 12, .inl (S 104))), some (a 55, .inl (zI E, 12, .inl (S 105))), some (a 56, .inl (zI E, 12, .inl (S 106))), some (a 57, .inl (zI E, 4, .inl (S 108))), some (a 58, .inl (zI E, 4, .inl (S 109))), some (a 59, .inl (zI E, 4, .inl (S 110))), some (a 60, .inr (2, [.ref (a 61), .ref (a 62), .ref (a 63), .ref (a 64)])), some (a 61, .inl (zI E, 8, .inl (S 112))), some (a 62, .inl (zI E, 8, .inl (S 113))), some (a 63, .inl (zI E, 8, .inl (S 114))), some (a 64, .inl (zI E, 8, .inl (S 115)))] rfl rfl rfl rfl (by decide +kernel) (by decide +kernel)
noncomputable def f_X6_bear (x1 : Int32) (x2 : Int32) (x3 : Int32) (S : St) : Option (Int32 × St) := (if x1 < 0 then (some ((-1 : Int32), S)) else (if (5 : Int32) ≤ x1 then (some ((-1 : Int32), S)) else ((f_X6_isDay x2).bind (fun q1 => (if q1 = 0 then (some ((-1 : Int32), S)) else ((f_X5_isHouse x3 (sb 0 S)).bind (fun q2 => (if q2 = 0 then (some ((-1 : Int32), S)) else (if (S 2 0) < (10 : Int32) then ((f_X5_addOne x1 x2 x3 (36000 : Int32) (sb 0 S)).bind (fun q3 => (some (((q3 2 0) - (1 : Int32)), (pt 0 32 q3 S))))) else (some ((-3 : Int32), S)))))))))))
set_option maxHeartbeats 4000000 in
set_option maxRecDepth 100000 in
theorem L_X6_bear {E : zEnv} {Γ : zG} (a : Nat → Nat) (C : zC E Γ cX6_bear RX6 4 rm_X6_bear wsX6_bear) {res : (Int32 × St)} (R : zRi E Γ cX6_bear 4 .int (wEA E a res.2) res.1) (x1 : Int32) (x2 : Int32) (x3 : Int32) (S : St) (h : f_X6_bear x1 x2 x3 S = some res) : Zt E Γ 4 0 0 (wEA E a S) [(0, .ref (a 0)), (1, .int x1), (2, .int x2), (3, .int x3)] 0 [] := by
  unfold f_X6_bear at h
  refine z_iload_n C 1 rfl rfl dX6_bear_0 ?_
  refine z_if_lt C 27 (by decide) h dX6_bear_1 (fun hc h => ?_) (fun hc h => ?_)
  · refine z_iconst C (v := (-1 : Int32)) (by decide) dX6_bear_27 ?_
    obtain rfl := Option.some.inj h
    exact R rfl 28 _ dX6_bear_28
  · refine z_iload_n C 1 rfl rfl dX6_bear_4 ?_
    refine z_iconst C (v := (5 : Int32)) (by decide) dX6_bear_5 ?_
    refine z_icmp_ge C 27 (by decide) h dX6_bear_6 (fun hc h => ?_) (fun hc h => ?_)
    · refine z_iconst C (v := (-1 : Int32)) (by decide) dX6_bear_27 ?_
      obtain rfl := Option.some.inj h
      exact R rfl 28 _ dX6_bear_28
    · refine z_iload_n C 2 rfl rfl dX6_bear_9 ?_
      obtain ⟨q1, e1, h⟩ := bd_e h
      refine z_callSi C (rest := []) (c_X6_isDay E x2 e1) gX6_bear_X6_isDay rfl rfl rfl 1 rfl (by decide +kernel) ⟨Nat.le_of_ble_eq_true rfl, Nat.le_of_ble_eq_true rfl⟩ [] rfl (by decide) rfl (wEA E a S) rfl (Nat.le_of_ble_eq_true rfl) dX6_bear_10 ⟨Nat.zero_le _, Nat.zero_le _⟩ _ rfl ?_
      refine z_if_eq C 27 (by decide) h dX6_bear_13 (fun hc h => ?_) (fun hc h => ?_)
      · refine z_iconst C (v := (-1 : Int32)) (by decide) dX6_bear_27 ?_
        obtain rfl := Option.some.inj h
        exact R rfl 28 _ dX6_bear_28
      · refine z_aload_n C 0 rfl rfl dX6_bear_16 ?_
        refine z_get C 0 rfl (C := RX6) (T := TX6) (N := 11) (ci := 6) rfl inw_X6_bear_X6 0 (by decide) (ref := "EldestAge") (List.mem_of_getElem? (i := 1) rfl) rfl (v := .ref (a 1)) rfl dX6_bear_17 ?_
        refine z_iload_n C 3 rfl rfl dX6_bear_20 ?_
        obtain ⟨q2, e2, h⟩ := bd_e h
        refine z_callVi C (b := a 1) (As := [.int x3]) (rest := []) (c_X5_isHouse E (fun k => a (1 + k)) x3 (sb 0 S) e2) rfl gX6_bear_X5_isHouse rfl rfl rfl 1 rfl (by decide +kernel) ⟨Nat.le_of_ble_eq_true rfl, Nat.le_of_ble_eq_true rfl⟩ [1, 2, 3, 4, 5, 6, 7, 8, 9, 10, 11, 12, 13, 14, 15, 16] (wl_X6_bear_0 E a S) (by decide) rfl (wEA E a S) (zrep_self (wl_X6_bear_0 E a S)) 0 5 rfl rfl rfl (Nat.le_of_ble_eq_true rfl) dX6_bear_21 ⟨Nat.zero_le _, Nat.zero_le _⟩ _ rfl ?_
        refine z_if_ne C 29 (by decide) h dX6_bear_24 (fun hc h => ?_) (fun hc h => ?_)
        · refine z_iconst C (v := (-1 : Int32)) (by decide) dX6_bear_27 ?_
          obtain rfl := Option.some.inj h
          exact R rfl 28 _ dX6_bear_28
        · refine z_aload_n C 0 rfl rfl dX6_bear_29 ?_
          refine z_get C 0 rfl (C := RX6) (T := TX6) (N := 11) (ci := 6) rfl inw_X6_bear_X6 0 (by decide) (ref := "EldestAge") (List.mem_of_getElem? (i := 1) rfl) rfl (v := .ref (a 1)) rfl dX6_bear_30 ?_
          refine z_get C 1 rfl (C := RX5) (T := TX5) (N := 16) (ci := 5) rfl inw_X6_bear_X5 2 (by decide) (ref := "EldestAge$Town") (List.mem_of_getElem? (i := 2) rfl) rfl (v := .int (S 2 0)) rfl dX6_bear_33 ?_
          refine z_bipush C (v := (10 : Int32)) (by decide) dX6_bear_36 ?_
          refine z_icmp_lt C 44 (by decide) h dX6_bear_38 (fun hc h => ?_) (fun hc h => ?_)
          · refine z_aload_n C 0 rfl rfl dX6_bear_44 ?_
            refine z_get C 0 rfl (C := RX6) (T := TX6) (N := 11) (ci := 6) rfl inw_X6_bear_X6 0 (by decide) (ref := "EldestAge") (List.mem_of_getElem? (i := 1) rfl) rfl (v := .ref (a 1)) rfl dX6_bear_45 ?_
            refine z_iload_n C 1 rfl rfl dX6_bear_48 ?_
            refine z_iload_n C 2 rfl rfl dX6_bear_49 ?_
            refine z_iload_n C 3 rfl rfl dX6_bear_50 ?_
            refine z_ldc C (v := (36000 : Int32)) (List.mem_of_getElem? (i := 3) rfl) dX6_bear_51 ?_
            obtain ⟨q3, e3, h⟩ := bd_e h
            refine z_callVv C (b := a 1) (As := [.int x1, .int x2, .int x3, .int (36000 : Int32)]) (rest := []) (c_X5_addOne E (fun k => a (1 + k)) x1 x2 x3 (36000 : Int32) (sb 0 S) e3) rfl gX6_bear_X5_addOne rfl rfl rfl 4 rfl (by decide +kernel) ⟨Nat.le_of_ble_eq_true rfl, Nat.le_of_ble_eq_true rfl⟩ [1, 2, 3, 4, 5, 6, 7, 8, 9, 10, 11, 12, 13, 14, 15, 16] (wl_X6_bear_0 E a S) (by decide) (wl_X6_bear_1 E a _ _) (wEA E a (pt 0 32 q3 S)) (wl_X6_bear_2 E a S q3) 0 5 rfl rfl rfl (Nat.le_of_ble_eq_true rfl) dX6_bear_53 ⟨Nat.zero_le _, Nat.zero_le _⟩ _ rfl ?_
            refine z_aload_n C 0 rfl rfl dX6_bear_56 ?_
            refine z_get C 0 rfl (C := RX6) (T := TX6) (N := 11) (ci := 6) rfl inw_X6_bear_X6 0 (by decide) (ref := "EldestAge") (List.mem_of_getElem? (i := 1) rfl) rfl (v := .ref (a 1)) rfl dX6_bear_57 ?_
            refine z_get C 1 rfl (C := RX5) (T := TX5) (N := 16) (ci := 5) rfl inw_X6_bear_X5 2 (by decide) (ref := "EldestAge$Town") (List.mem_of_getElem? (i := 2) rfl) rfl (v := .int (q3 2 0)) rfl dX6_bear_60 ?_
            refine z_iconst C (v := (1 : Int32)) (by decide) dX6_bear_63 ?_
            refine z_isub C dX6_bear_64 ?_
            obtain rfl := Option.some.inj h
            exact R rfl 65 _ dX6_bear_65
          · refine z_bipush C (v := (-3 : Int32)) (by decide) dX6_bear_41 ?_
            obtain rfl := Option.some.inj h
            exact R rfl 43 _ dX6_bear_43

theorem c_X6_bear (E : zEnv) (a : Nat → Nat) (x1 : Int32) (x2 : Int32) (x3 : Int32) (S : St) {res : (Int32 × St)} (h : f_X6_bear x1 x2 x3 S = some res) : Kti E yX6_bear wsX6_bear rm_X6_bear (wEA E a S) (wEA E a res.2) [.ref (a 0), .int x1, .int x2, .int x3] res.1 :=
  z_enti (cc := cX6_bear) (maxL := 4) (rt := .int) (by decide +kernel) rfl (Nat.le_of_ble_eq_true rfl) (fun Γ C R => L_X6_bear a C R x1 x2 x3 S h)

abbrev rm_X6_die : Room := { frames := 1, cells := 0, slots := 0, locals := 21 }
theorem inw_X6_die_X6 : ∀ w ∈ wsX60, w ∈ wsX6_die := fun _ h => List.mem_cons_of_mem _ (List.mem_append_left _ (List.mem_append_right _ h))
theorem inw_X6_die_X5 : ∀ w ∈ wsX50, w ∈ wsX6_die := fun _ h => List.mem_cons_of_mem _ (List.mem_append_right _ h)
set_option maxHeartbeats 4000000 in
theorem wl_X6_die_0 (E : zEnv) (a : Nat → Nat) (S : St) : ([1, 2, 3, 4, 5, 6, 7, 8, 9, 10, 11, 12, 13, 14, 15, 16] : List Nat).map (fun i => (wEA E a S)[i]?) = (wTown E (fun k => a (1 + k)) (sb 0 S)).map some := rfl
set_option maxHeartbeats 4000000 in
theorem wl_X6_die_1 (E : zEnv) (a : Nat → Nat) (S U : St) : (wTown E (fun k => a (1 + k)) U).map (fun q => q.1) = (wTown E (fun k => a (1 + k)) S).map (fun q => q.1) := rfl
set_option maxHeartbeats 4000000 in
theorem wl_X6_die_2 (E : zEnv) (a : Nat → Nat) (S : St) (f : Nat → Int32) : (wEA E a (st 6 f S)) = (wEA E a S).set 5 (a 5, .inl (zI E, 14, .inl f)) := rfl
noncomputable def f_X6_die (x1 : Int32) (x2 : Int32) (S : St) : Option (Int32 × St) := ((f_X5_isOne x1 (sb 0 S)).bind (fun q1 => (if q1 = 0 then (some ((-1 : Int32), S)) else ((f_X6_isDay x2).bind (fun q2 => (if q2 = 0 then (some ((-1 : Int32), S)) else (ix x1 14 (if (S 4 (Int32.toNatClampNeg x1)) < x2 then ((f_X5_deathOf x1 (sb 0 S)).bind (fun q3 => (ix x1 14 (some (q3, (st 6 (upd (S 6) (Int32.toNatClampNeg x1) x2) S)))))) else (some ((-1 : Int32), S))))))))))
set_option maxHeartbeats 4000000 in
set_option maxRecDepth 100000 in
theorem L_X6_die {E : zEnv} {Γ : zG} (a : Nat → Nat) (C : zC E Γ cX6_die RX6 4 rm_X6_die wsX6_die) {res : (Int32 × St)} (R : zRi E Γ cX6_die 4 .int (wEA E a res.2) res.1) (x1 : Int32) (x2 : Int32) (S : St) (h : f_X6_die x1 x2 S = some res) : Zt E Γ 4 0 0 (wEA E a S) [(0, .ref (a 0)), (1, .int x1), (2, .int x2)] 0 [] := by
  unfold f_X6_die at h
  refine z_aload_n C 0 rfl rfl dX6_die_0 ?_
  refine z_get C 0 rfl (C := RX6) (T := TX6) (N := 11) (ci := 6) rfl inw_X6_die_X6 0 (by decide) (ref := "EldestAge") (List.mem_of_getElem? (i := 1) rfl) rfl (v := .ref (a 1)) rfl dX6_die_1 ?_
  refine z_iload_n C 1 rfl rfl dX6_die_4 ?_
  obtain ⟨q1, e1, h⟩ := bd_e h
  refine z_callVi C (b := a 1) (As := [.int x1]) (rest := []) (c_X5_isOne E (fun k => a (1 + k)) x1 (sb 0 S) e1) rfl gX6_die_X5_isOne rfl rfl rfl 1 rfl (by decide +kernel) ⟨Nat.le_of_ble_eq_true rfl, Nat.le_of_ble_eq_true rfl⟩ [1, 2, 3, 4, 5, 6, 7, 8, 9, 10, 11, 12, 13, 14, 15, 16] (wl_X6_die_0 E a S) (by decide) rfl (wEA E a S) (zrep_self (wl_X6_die_0 E a S)) 0 5 rfl rfl rfl (Nat.le_of_ble_eq_true rfl) dX6_die_5 ⟨Nat.zero_le _, Nat.zero_le _⟩ _ rfl ?_
  refine z_if_eq C 31 (by decide) h dX6_die_8 (fun hc h => ?_) (fun hc h => ?_)
  · refine z_iconst C (v := (-1 : Int32)) (by decide) dX6_die_31 ?_
    obtain rfl := Option.some.inj h
    exact R rfl 32 _ dX6_die_32
  · refine z_iload_n C 2 rfl rfl dX6_die_11 ?_
    obtain ⟨q2, e2, h⟩ := bd_e h
    refine z_callSi C (rest := []) (c_X6_isDay E x2 e2) gX6_die_X6_isDay rfl rfl rfl 1 rfl (by decide +kernel) ⟨Nat.le_of_ble_eq_true rfl, Nat.le_of_ble_eq_true rfl⟩ [] rfl (by decide) rfl (wEA E a S) rfl (Nat.le_of_ble_eq_true rfl) dX6_die_12 ⟨Nat.zero_le _, Nat.zero_le _⟩ _ rfl ?_
    refine z_if_eq C 31 (by decide) h dX6_die_15 (fun hc h => ?_) (fun hc h => ?_)
    · refine z_iconst C (v := (-1 : Int32)) (by decide) dX6_die_31 ?_
      obtain rfl := Option.some.inj h
      exact R rfl 32 _ dX6_die_32
    · refine z_iload_n C 2 rfl rfl dX6_die_18 ?_
      refine z_aload_n C 0 rfl rfl dX6_die_19 ?_
      refine z_get C 0 rfl (C := RX6) (T := TX6) (N := 11) (ci := 6) rfl inw_X6_die_X6 0 (by decide) (ref := "EldestAge") (List.mem_of_getElem? (i := 1) rfl) rfl (v := .ref (a 1)) rfl dX6_die_20 ?_
      refine z_get C 1 rfl (C := RX5) (T := TX5) (N := 16) (ci := 5) rfl inw_X6_die_X5 4 (by decide) (ref := "EldestAge$Town") (List.mem_of_getElem? (i := 2) rfl) rfl (v := .ref (a 3)) rfl dX6_die_23 ?_
      refine z_iload_n C 1 rfl rfl dX6_die_26 ?_
      refine z_iald C (N := 14) (f := (S 4)) 3 rfl h dX6_die_27 (fun h => ?_)
      refine z_icmp_gt C 33 (by decide) h dX6_die_28 (fun hc h => ?_) (fun hc h => ?_)
      · refine z_aload_n C 0 rfl rfl dX6_die_33 ?_
        refine z_get C 0 rfl (C := RX6) (T := TX6) (N := 11) (ci := 6) rfl inw_X6_die_X6 0 (by decide) (ref := "EldestAge") (List.mem_of_getElem? (i := 1) rfl) rfl (v := .ref (a 1)) rfl dX6_die_34 ?_
        refine z_iload_n C 1 rfl rfl dX6_die_37 ?_
        obtain ⟨q3, e3, h⟩ := bd_e h
        refine z_callVi C (b := a 1) (As := [.int x1]) (rest := []) (c_X5_deathOf E (fun k => a (1 + k)) x1 (sb 0 S) e3) rfl gX6_die_X5_deathOf rfl rfl rfl 1 rfl (by decide +kernel) ⟨Nat.le_of_ble_eq_true rfl, Nat.le_of_ble_eq_true rfl⟩ [1, 2, 3, 4, 5, 6, 7, 8, 9, 10, 11, 12, 13, 14, 15, 16] (wl_X6_die_0 E a S) (by decide) rfl (wEA E a S) (zrep_self (wl_X6_die_0 E a S)) 0 5 rfl rfl rfl (Nat.le_of_ble_eq_true rfl) dX6_die_38 ⟨Nat.zero_le _, Nat.zero_le _⟩ _ rfl ?_
        refine z_istore_n C [(3, .int q3), (0, .ref (a 0)), (1, .int x1), (2, .int x2)] rfl (by decide) rfl dX6_die_41 ?_
        refine z_aload_n C 1 rfl rfl dX6_die_42 ?_
        refine z_get C 0 rfl (C := RX6) (T := TX6) (N := 11) (ci := 6) rfl inw_X6_die_X6 0 (by decide) (ref := "EldestAge") (List.mem_of_getElem? (i := 1) rfl) rfl (v := .ref (a 1)) rfl dX6_die_43 ?_
        refine z_get C 1 rfl (C := RX5) (T := TX5) (N := 16) (ci := 5) rfl inw_X6_die_X5 6 (by decide) (ref := "EldestAge$Town") (List.mem_of_getElem? (i := 3) rfl) rfl (v := .ref (a 5)) rfl dX6_die_46 ?_
        refine z_iload_n C 2 rfl rfl dX6_die_49 ?_
        refine z_iload_n C 3 rfl rfl dX6_die_50 ?_
        refine z_iast C (N := 14) (f := (S 6)) 5 rfl h (wEA E a (st 6 (upd (S 6) (Int32.toNatClampNeg x1) x2) S)) (wl_X6_die_2 E a S (upd (S 6) (Int32.toNatClampNeg x1) x2)) dX6_die_51 (fun h => ?_)
        refine z_iload_n C 0 rfl rfl dX6_die_52 ?_
        obtain rfl := Option.some.inj h
        exact R rfl 53 _ dX6_die_53
      · refine z_iconst C (v := (-1 : Int32)) (by decide) dX6_die_31 ?_
        obtain rfl := Option.some.inj h
        exact R rfl 32 _ dX6_die_32

theorem c_X6_die (E : zEnv) (a : Nat → Nat) (x1 : Int32) (x2 : Int32) (S : St) {res : (Int32 × St)} (h : f_X6_die x1 x2 S = some res) : Kti E yX6_die wsX6_die rm_X6_die (wEA E a S) (wEA E a res.2) [.ref (a 0), .int x1, .int x2] res.1 :=
  z_enti (cc := cX6_die) (maxL := 4) (rt := .int) (by decide +kernel) rfl (Nat.le_of_ble_eq_true rfl) (fun Γ C R => L_X6_die a C R x1 x2 S h)

abbrev rm_X6_move : Room := { frames := 2, cells := 0, slots := 0, locals := 46 }
theorem inw_X6_move_X6 : ∀ w ∈ wsX60, w ∈ wsX6_move := fun _ h => List.mem_cons_of_mem _ (List.mem_append_left _ (List.mem_append_right _ h))
theorem inw_X6_move_X5 : ∀ w ∈ wsX50, w ∈ wsX6_move := fun _ h => List.mem_cons_of_mem _ (List.mem_append_right _ h)
set_option maxHeartbeats 4000000 in
theorem wl_X6_move_0 (E : zEnv) (a : Nat → Nat) (S : St) : ([1, 2, 3, 4, 5, 6, 7, 8, 9, 10, 11, 12, 13, 14, 15, 16] : List Nat).map (fun i => (wEA E a S)[i]?) = (wTown E (fun k => a (1 + k)) (sb 0 S)).map some := rfl
set_option maxHeartbeats 4000000 in
theorem wl_X6_move_1 (E : zEnv) (a : Nat → Nat) (S U : St) : (wTown E (fun k => a (1 + k)) U).map (fun q => q.1) = (wTown E (fun k => a (1 + k)) S).map (fun q => q.1) := rfl
set_option maxHeartbeats 4000000 in
theorem wl_X6_move_2 (E : zEnv) (a : Nat → Nat) (S U : St) : (wEA E a (pt 0 32 U S)) = zrep [1, 2, 3, 4, 5, 6, 7, 8, 9, 10, 11, 12, 13, 14, 15, 16] (wTown E (fun k => a (1 + k)) U) (wEA E a S) := zrep_of (isR := [0, 17, 18, 19, 20, 21, 22, 23, 24, 25, 26, 27, 28, 29, 30, 31, 32, 33, 34, 35, 36, 37, 38, 39, 40, 41, 42, 43, 44, 45, 46, 47, 48, 49, 50, 51, 52, 53, 54, 55, 56, 57, 58, 59, 60, 61, 62, 63, 64, 65, 66, 67, 68, 69, 70, 71, 72, 73, 74, 75, 76, 77, 78, 79, 80, 81, 82, 83, 84, 85, 86, 87, 88, 89, 90, 91, 92, 93, 94, 95, 96, 97, 98, 99, 100]) 101 rfl [some (a 0, .inr (6, [.ref (a 1), .ref (a 17), .ref (a 65), .ref (a 66), .ref (a 67), .ref (a 69), .ref (a 73), .ref (a 77), .ref (a 93), .int (S 184 0), .int (S 185 0)])), some (a 17, .inr (5, [.int (S 32 0), .int (S 33 0), .int (S 34 0), .ref (a 18), .ref (a 19), .ref (a 20), .ref (a 21), .int (S 39 0), .ref (a 22), .ref (a 23), .ref (a 24), .int (S 43 0), .ref (a 25), .ref (a 26), .ref (a 27), .ref (a 28)])), some (a 18, .inl (zI E, 14, .inl (S 35))), some (a 19, .inl (zI E, 14, .inl (S 36))), some (a 20, .inl (zI E, 14, .inl (S 37))), some (a 21, .inl (zI E, 14, .inl (S 38))), some (a 22, .inl (zI E, 12, .inl (S 40))), some (a 23, .inl (zI E, 12, .inl (S 41))), some (a 24, .inl (zI E, 12, .inl (S 42))), some (a 25, .inl (zI E, 4, .inl (S 44))), some (a 26, .inl (zI E, 4, .inl (S 45))), some (a 27, .inl (zI E, 4, .inl (S 46))), some (a 28, .inr (2, [.ref (a 29), .ref (a 30), .ref (a 31), .ref (a 32)])), some (a 29, .inl (zI E, 8, .inl (S 48))), some (a 30, .inl (zI E, 8, .inl (S 49))), some (a 31, .inl (zI E, 8, .inl (S 50))), some (a 32, .inl (zI E, 8, .inl (S 51))), some (a 65, .inl (zT E, 2, .inr (.inr (.inr (.inr (va_up (va_up (fun _ => none) 0 (some (a 33))) 1 (some (a 49)))))))), some (a 66, .inl (zZ E, 2, .inl (S 186))), some (a 67, .inr (3, [.ref (a 68), .int (S 129 0), .int (S 130 0), .int (S 131 0), .int (S 132 0), .int (S 133 0), .int (S 134 0), .int (S 135 0), .int (S 136 0), .int (S 137 0), .int (S 138 0), .int (S 139 0)])), some (a 68, .inl (zI E, 400, .inl (S 128))), some (a 69, .inr (4, [.int (S 144 0), .ref (a 70), .ref (a 71), .ref (a 72), .int (S 148 0)])), some (a 70, .inl (zI E, 4, .inl (S 145))), some (a 71, .inl (zI E, 4, .inl (S 146))), some (a 72, .inl (zI E, 4, .inl (S 147))), some (a 73, .inr (4, [.int (S 152 0), .ref (a 74), .ref (a 75), .ref (a 76), .int (S 156 0)])), some (a 74, .inl (zI E, 8, .inl (S 153))), some (a 75, .inl (zI E, 8, .inl (S 154))), some (a 76, .inl (zI E, 8, .inl (S 155))), some (a 77, .inr (0, [.int (S 160 0), .ref (a 78), .ref (a 79), .ref (a 80), .ref (a 81), .ref (a 82), .ref (a 83), .ref (a 88)])), some (a 78, .inl (zI E, 4, .inl (S 161))), some (a 79, .inl (zI E, 4, .inl (S 162))), some (a 80, .inl (zI E, 4, .inl (S 163))), some (a 81, .inl (zI E, 4, .inl (S 164))), some (a 82, .inl (zI E, 4, .inl (S 165))), some (a 83, .inr (2, [.ref (a 84), .ref (a 85), .ref (a 86), .ref (a 87)])), some (a 84, .inl (zI E, 8, .inl (S 168))), some (a 85, .inl (zI E, 8, .inl (S 169))), some (a 86, .inl (zI E, 8, .inl (S 170))), some (a 87, .inl (zI E, 8, .inl (S 171))), some (a 88, .inr (2, [.ref (a 89), .ref (a 90), .ref (a 91), .ref (a 92)])), some (a 89, .inl (zI E, 8, .inl (S 172))), some (a 90, .inl (zI E, 8, .inl (S 173))), some (a 91, .inl (zI E, 8, .inl (S 174))), some (a 92, .inl (zI E, 8, .inl (S 175))), some (a 93, .inr (1, [.ref (a 94), .ref (a 99), .ref (a 100)])), some (a 94, .inl (zII E, 4, .inr (.inr (.inr (.inr (va_up (va_up (va_up (va_up (fun _ => none) 0 (some (a 95))) 1 (some (a 96))) 2 (some (a 97))) 3 (some (a 98)))))))), some (a 95, .inl (zI E, 40, .inl (S 176))), some (a 96, .inl (zI E, 40, .inl (S 177))), some (a 97, .inl (zI E, 40, .inl (S 178))), some (a 98, .inl (zI E, 40, .inl (S 179))), some (a 99, .inl (zI E, 4, .inl (S 180))), some (a 100, .inl (zI E, 4, .inl (S 181))), some (a 33, .inr (5, [.int (S 64 0), .int (S 65 0), .int (S 66 0), .ref (a 34), .ref (a 35), .ref (a 36), .ref (a 37), .int (S 71 0), .ref (a 38), .ref (a 39), .ref (a 40), .int (S 75 0), .ref (a 41), .ref (a 42), .ref (a 43), .ref (a 44)])), some (a 34, .inl (zI E, 14, .inl (S 67))), some (a 35, .inl (zI E, 14, .inl (S 68))), some (a 36, .inl (zI E, 14, .inl (S 69))), some (a 37, .inl (zI E, 14, .inl (S 70))), some (a 38, .inl (zI E, 12, .inl (S 72))), some (a 39, .inl (zI E, 12, .inl (S 73))), some (a 40, .inl (zI E, 12, .inl (S 74))), some (a 41, .inl (zI E, 4, .inl (S 76))), some (a 42, .inl (zI E, 4, .inl (S 77))), some (a 43, .inl (zI E, 4, .inl (S 78))), some (a 44, .inr (2, [.ref (a 45), .ref (a 46), .ref (a 47), .ref (a 48)])), some (a 45, .inl (zI E, 8, .inl (S 80))), some (a 46, .inl (zI E, 8, .inl (S 81))), some (a 47, .inl (zI E, 8, .inl (S 82))), some (a 48, .inl (zI E, 8, .inl (S 83))), some (a 49, .inr (5, [.int (S 96 0), .int (S 97 0), .int (S 98 0), .ref (a 50), .ref (a 51), .ref (a 52), .ref (a 53), .int (S 103 0), .ref (a 54), .ref (a 55), .ref (a 56), .int (S 107 0), .ref (a 57), .ref (a 58), .ref (a 59), .ref (a 60)])), some (a 50, .inl (zI E, 14, .inl (S 99))), some (a 51, .inl (zI E, 14, .inl (S 100))), some (a 52, .inl (zI E, 14, .inl (S 101))), some (a 53, .inl (zI E, 14, .inl (S 102))), some (a 54, .inl (zI E, 12, .inl (S 104))), some (a 55, .inl (zI E, 12, .inl (S 105))), some (a 56, .inl (zI E, 12, .inl (S 106))), some (a 57, .inl (zI E, 4, .inl (S 108))), some (a 58, .inl (zI E, 4, .inl (S 109))), some (a 59, .inl (zI E, 4, .inl (S 110))), some (a 60, .inr (2, [.ref (a 61), .ref (a 62), .ref (a 63), .ref (a 64)])), some (a 61, .inl (zI E, 8, .inl (S 112))), some (a 62, .inl (zI E, 8, .inl (S 113))), some (a 63, .inl (zI E, 8, .inl (S 114))), some (a 64, .inl (zI E, 8, .inl (S 115)))] rfl rfl rfl rfl (by decide +kernel) (by decide +kernel)
noncomputable def f_X6_move (x1 : Int32) (x2 : Int32) (x3 : Int32) (S : St) : Option (Int32 × St) := ((f_X5_addMove x1 x2 x3 (sb 0 S)).bind (fun q1 => (some (q1.1, (pt 0 32 q1.2 S)))))
set_option maxHeartbeats 4000000 in
set_option maxRecDepth 100000 in
theorem L_X6_move {E : zEnv} {Γ : zG} (a : Nat → Nat) (C : zC E Γ cX6_move RX6 4 rm_X6_move wsX6_move) {res : (Int32 × St)} (R : zRi E Γ cX6_move 4 .int (wEA E a res.2) res.1) (x1 : Int32) (x2 : Int32) (x3 : Int32) (S : St) (h : f_X6_move x1 x2 x3 S = some res) : Zt E Γ 4 0 0 (wEA E a S) [(0, .ref (a 0)), (1, .int x1), (2, .int x2), (3, .int x3)] 0 [] := by
  unfold f_X6_move at h
  refine z_aload_n C 0 rfl rfl dX6_move_0 ?_
  refine z_get C 0 rfl (C := RX6) (T := TX6) (N := 11) (ci := 6) rfl inw_X6_move_X6 0 (by decide) (ref := "EldestAge") (List.mem_of_getElem? (i := 1) rfl) rfl (v := .ref (a 1)) rfl dX6_move_1 ?_
  refine z_iload_n C 1 rfl rfl dX6_move_4 ?_
  refine z_iload_n C 2 rfl rfl dX6_move_5 ?_
  refine z_iload_n C 3 rfl rfl dX6_move_6 ?_
  obtain ⟨q1, e1, h⟩ := bd_e h
  refine z_callVi C (b := a 1) (As := [.int x1, .int x2, .int x3]) (rest := []) (c_X5_addMove E (fun k => a (1 + k)) x1 x2 x3 (sb 0 S) e1) rfl gX6_move_X5_addMove rfl rfl rfl 3 rfl (by decide +kernel) ⟨Nat.le_of_ble_eq_true rfl, Nat.le_of_ble_eq_true rfl⟩ [1, 2, 3, 4, 5, 6, 7, 8, 9, 10, 11, 12, 13, 14, 15, 16] (wl_X6_move_0 E a S) (by decide) (wl_X6_move_1 E a _ _) (wEA E a (pt 0 32 q1.2 S)) (wl_X6_move_2 E a S q1.2) 0 5 rfl rfl rfl (Nat.le_of_ble_eq_true rfl) dX6_move_7 ⟨Nat.zero_le _, Nat.zero_le _⟩ _ rfl ?_
  obtain rfl := Option.some.inj h
  exact R rfl 10 _ dX6_move_10

theorem c_X6_move (E : zEnv) (a : Nat → Nat) (x1 : Int32) (x2 : Int32) (x3 : Int32) (S : St) {res : (Int32 × St)} (h : f_X6_move x1 x2 x3 S = some res) : Kti E yX6_move wsX6_move rm_X6_move (wEA E a S) (wEA E a res.2) [.ref (a 0), .int x1, .int x2, .int x3] res.1 :=
  z_enti (cc := cX6_move) (maxL := 4) (rt := .int) (by decide +kernel) rfl (Nat.le_of_ble_eq_true rfl) (fun Γ C R => L_X6_move a C R x1 x2 x3 S h)

abbrev rm_X6_undo : Room := { frames := 0, cells := 0, slots := 0, locals := 0 }
theorem inw_X6_undo_X6 : ∀ w ∈ wsX60, w ∈ wsX6_undo := fun _ h => List.mem_cons_of_mem _ (List.mem_append_left _ (List.mem_append_right _ h))
theorem inw_X6_undo_X5 : ∀ w ∈ wsX50, w ∈ wsX6_undo := fun _ h => List.mem_cons_of_mem _ (List.mem_append_right _ h)
set_option maxHeartbeats 4000000 in
theorem wl_X6_undo_0 (E : zEnv) (a : Nat → Nat) (S : St) (v : Int32) : (wEA E a (st 7 (fun _ => v) S)) = (wEA E a S).set 1 (a 1, .inr (5, List.set [.int (S 0 0), .int (S 1 0), .int (S 2 0), .ref (a 2), .ref (a 3), .ref (a 4), .ref (a 5), .int (S 7 0), .ref (a 6), .ref (a 7), .ref (a 8), .int (S 11 0), .ref (a 9), .ref (a 10), .ref (a 11), .ref (a 12)] 7 (.int v))) := rfl
noncomputable def f_X6_undo (x1 : Int32) (S : St) : Option (Int32 × St) := (if x1 < 0 then (some ((-1 : Int32), S)) else (if x1 ≤ (S 7 0) then (some ((S 7 0), (st 7 (fun _ => x1) S))) else (some ((-1 : Int32), S))))
set_option maxHeartbeats 4000000 in
set_option maxRecDepth 100000 in
theorem L_X6_undo {E : zEnv} {Γ : zG} (a : Nat → Nat) (C : zC E Γ cX6_undo RX6 3 rm_X6_undo wsX6_undo) {res : (Int32 × St)} (R : zRi E Γ cX6_undo 3 .int (wEA E a res.2) res.1) (x1 : Int32) (S : St) (h : f_X6_undo x1 S = some res) : Zt E Γ 3 0 0 (wEA E a S) [(0, .ref (a 0)), (1, .int x1)] 0 [] := by
  unfold f_X6_undo at h
  refine z_iload_n C 1 rfl rfl dX6_undo_0 ?_
  refine z_if_lt C 15 (by decide) h dX6_undo_1 (fun hc h => ?_) (fun hc h => ?_)
  · refine z_iconst C (v := (-1 : Int32)) (by decide) dX6_undo_15 ?_
    obtain rfl := Option.some.inj h
    exact R rfl 16 _ dX6_undo_16
  · refine z_iload_n C 1 rfl rfl dX6_undo_4 ?_
    refine z_aload_n C 0 rfl rfl dX6_undo_5 ?_
    refine z_get C 0 rfl (C := RX6) (T := TX6) (N := 11) (ci := 6) rfl inw_X6_undo_X6 0 (by decide) (ref := "EldestAge") (List.mem_of_getElem? (i := 1) rfl) rfl (v := .ref (a 1)) rfl dX6_undo_6 ?_
    refine z_get C 1 rfl (C := RX5) (T := TX5) (N := 16) (ci := 5) rfl inw_X6_undo_X5 7 (by decide) (ref := "EldestAge$Town") (List.mem_of_getElem? (i := 2) rfl) rfl (v := .int (S 7 0)) rfl dX6_undo_9 ?_
    refine z_icmp_le C 17 (by decide) h dX6_undo_12 (fun hc h => ?_) (fun hc h => ?_)
    · refine z_aload_n C 0 rfl rfl dX6_undo_17 ?_
      refine z_get C 0 rfl (C := RX6) (T := TX6) (N := 11) (ci := 6) rfl inw_X6_undo_X6 0 (by decide) (ref := "EldestAge") (List.mem_of_getElem? (i := 1) rfl) rfl (v := .ref (a 1)) rfl dX6_undo_18 ?_
      refine z_get C 1 rfl (C := RX5) (T := TX5) (N := 16) (ci := 5) rfl inw_X6_undo_X5 7 (by decide) (ref := "EldestAge$Town") (List.mem_of_getElem? (i := 2) rfl) rfl (v := .int (S 7 0)) rfl dX6_undo_21 ?_
      refine z_istore_n C [(2, .int (S 7 0)), (0, .ref (a 0)), (1, .int x1)] rfl (by decide) rfl dX6_undo_24 ?_
      refine z_aload_n C 1 rfl rfl dX6_undo_25 ?_
      refine z_get C 0 rfl (C := RX6) (T := TX6) (N := 11) (ci := 6) rfl inw_X6_undo_X6 0 (by decide) (ref := "EldestAge") (List.mem_of_getElem? (i := 1) rfl) rfl (v := .ref (a 1)) rfl dX6_undo_26 ?_
      refine z_iload_n C 2 rfl rfl dX6_undo_29 ?_
      refine z_put C 1 rfl (C := RX5) (T := TX5) (N := 16) (ci := 5) rfl inw_X6_undo_X5 tyX5 tyX5_ok nmX5 7 (by decide) (ref := "EldestAge$Town") (List.mem_of_getElem? (i := 2) rfl) rfl rfl (ty := .int) (v := .int x1) (by decide +kernel) rfl rfl (Nat.le_of_ble_eq_true rfl) (wEA E a (st 7 (fun _ => x1) S)) (wl_X6_undo_0 E a S x1) dX6_undo_30 ?_
      refine z_iload_n C 0 rfl rfl dX6_undo_33 ?_
      obtain rfl := Option.some.inj h
      exact R rfl 34 _ dX6_undo_34
    · refine z_iconst C (v := (-1 : Int32)) (by decide) dX6_undo_15 ?_
      obtain rfl := Option.some.inj h
      exact R rfl 16 _ dX6_undo_16

theorem c_X6_undo (E : zEnv) (a : Nat → Nat) (x1 : Int32) (S : St) {res : (Int32 × St)} (h : f_X6_undo x1 S = some res) : Kti E yX6_undo wsX6_undo rm_X6_undo (wEA E a S) (wEA E a res.2) [.ref (a 0), .int x1] res.1 :=
  z_enti (cc := cX6_undo) (maxL := 3) (rt := .int) (by decide +kernel) rfl (Nat.le_of_ble_eq_true rfl) (fun Γ C R => L_X6_undo a C R x1 S h)

abbrev rm_X6_years : Room := { frames := 1, cells := 0, slots := 0, locals := 22 }
theorem inw_X6_years_X6 : ∀ w ∈ wsX60, w ∈ wsX6_years := fun _ h => List.mem_cons_of_mem _ (List.mem_append_left _ (List.mem_append_right _ h))
theorem inw_X6_years_X5 : ∀ w ∈ wsX50, w ∈ wsX6_years := fun _ h => List.mem_cons_of_mem _ (List.mem_append_right _ h)
set_option maxHeartbeats 4000000 in
theorem wl_X6_years_0 (E : zEnv) (a : Nat → Nat) (S : St) : ([1, 2, 3, 4, 5, 6, 7, 8, 9, 10, 11, 12, 13, 14, 15, 16] : List Nat).map (fun i => (wEA E a S)[i]?) = (wTown E (fun k => a (1 + k)) (sb 0 S)).map some := rfl
set_option maxHeartbeats 4000000 in
theorem wl_X6_years_1 (E : zEnv) (a : Nat → Nat) (S U : St) : (wTown E (fun k => a (1 + k)) U).map (fun q => q.1) = (wTown E (fun k => a (1 + k)) S).map (fun q => q.1) := rfl
noncomputable def f_X6_years (x1 : Int32) (x2 : Int32) (S : St) : Option Int32 := ((f_X5_isOne x1 (sb 0 S)).bind (fun q1 => (if q1 = 0 then (some (-1 : Int32)) else ((f_X6_isDay x2).bind (fun q2 => (if q2 = 0 then (some (-1 : Int32)) else ((f_X5_isAlive x1 x2 (sb 0 S)).bind (fun q3 => (if q3 = 0 then (some (-4 : Int32)) else ((f_X5_yearsOf x1 x2 (sb 0 S)).bind (fun q4 => (some q4))))))))))))
set_option maxHeartbeats 4000000 in
set_option maxRecDepth 100000 in
theorem L_X6_years {E : zEnv} {Γ : zG} (a : Nat → Nat) (C : zC E Γ cX6_years RX6 3 rm_X6_years wsX6_years) {res : Int32} {S : St} (R : zRi E Γ cX6_years 3 .int (wEA E a S) res) (x1 : Int32) (x2 : Int32) (h : f_X6_years x1 x2 S = some res) : Zt E Γ 3 0 0 (wEA E a S) [(0, .ref (a 0)), (1, .int x1), (2, .int x2)] 0 [] := by
  unfold f_X6_years at h
  refine z_aload_n C 0 rfl rfl dX6_years_0 ?_
  refine z_get C 0 rfl (C := RX6) (T := TX6) (N := 11) (ci := 6) rfl inw_X6_years_X6 0 (by decide) (ref := "EldestAge") (List.mem_of_getElem? (i := 1) rfl) rfl (v := .ref (a 1)) rfl dX6_years_1 ?_
  refine z_iload_n C 1 rfl rfl dX6_years_4 ?_
  obtain ⟨q1, e1, h⟩ := bd_e h
  refine z_callVi C (b := a 1) (As := [.int x1]) (rest := []) (c_X5_isOne E (fun k => a (1 + k)) x1 (sb 0 S) e1) rfl gX6_years_X5_isOne rfl rfl rfl 1 rfl (by decide +kernel) ⟨Nat.le_of_ble_eq_true rfl, Nat.le_of_ble_eq_true rfl⟩ [1, 2, 3, 4, 5, 6, 7, 8, 9, 10, 11, 12, 13, 14, 15, 16] (wl_X6_years_0 E a S) (by decide) rfl (wEA E a S) (zrep_self (wl_X6_years_0 E a S)) 0 5 rfl rfl rfl (Nat.le_of_ble_eq_true rfl) dX6_years_5 ⟨Nat.zero_le _, Nat.zero_le _⟩ _ rfl ?_
  refine z_if_eq C 18 (by decide) h dX6_years_8 (fun hc h => ?_) (fun hc h => ?_)
  · refine z_iconst C (v := (-1 : Int32)) (by decide) dX6_years_18 ?_
    obtain rfl := Option.some.inj h
    exact R rfl 19 _ dX6_years_19
  · refine z_iload_n C 2 rfl rfl dX6_years_11 ?_
    obtain ⟨q2, e2, h⟩ := bd_e h
    refine z_callSi C (rest := []) (c_X6_isDay E x2 e2) gX6_years_X6_isDay rfl rfl rfl 1 rfl (by decide +kernel) ⟨Nat.le_of_ble_eq_true rfl, Nat.le_of_ble_eq_true rfl⟩ [] rfl (by decide) rfl (wEA E a S) rfl (Nat.le_of_ble_eq_true rfl) dX6_years_12 ⟨Nat.zero_le _, Nat.zero_le _⟩ _ rfl ?_
    refine z_if_ne C 20 (by decide) h dX6_years_15 (fun hc h => ?_) (fun hc h => ?_)
    · refine z_iconst C (v := (-1 : Int32)) (by decide) dX6_years_18 ?_
      obtain rfl := Option.some.inj h
      exact R rfl 19 _ dX6_years_19
    · refine z_aload_n C 0 rfl rfl dX6_years_20 ?_
      refine z_get C 0 rfl (C := RX6) (T := TX6) (N := 11) (ci := 6) rfl inw_X6_years_X6 0 (by decide) (ref := "EldestAge") (List.mem_of_getElem? (i := 1) rfl) rfl (v := .ref (a 1)) rfl dX6_years_21 ?_
      refine z_iload_n C 1 rfl rfl dX6_years_24 ?_
      refine z_iload_n C 2 rfl rfl dX6_years_25 ?_
      obtain ⟨q3, e3, h⟩ := bd_e h
      refine z_callVi C (b := a 1) (As := [.int x1, .int x2]) (rest := []) (c_X5_isAlive E (fun k => a (1 + k)) x1 x2 (sb 0 S) e3) rfl gX6_years_X5_isAlive rfl rfl rfl 2 rfl (by decide +kernel) ⟨Nat.le_of_ble_eq_true rfl, Nat.le_of_ble_eq_true rfl⟩ [1, 2, 3, 4, 5, 6, 7, 8, 9, 10, 11, 12, 13, 14, 15, 16] (wl_X6_years_0 E a S) (by decide) rfl (wEA E a S) (zrep_self (wl_X6_years_0 E a S)) 0 5 rfl rfl rfl (Nat.le_of_ble_eq_true rfl) dX6_years_26 ⟨Nat.zero_le _, Nat.zero_le _⟩ _ rfl ?_
      refine z_if_eq C 44 (by decide) h dX6_years_29 (fun hc h => ?_) (fun hc h => ?_)
      · refine z_bipush C (v := (-4 : Int32)) (by decide) dX6_years_44 ?_
        obtain rfl := Option.some.inj h
        exact R rfl 46 _ dX6_years_46
      · refine z_aload_n C 0 rfl rfl dX6_years_32 ?_
        refine z_get C 0 rfl (C := RX6) (T := TX6) (N := 11) (ci := 6) rfl inw_X6_years_X6 0 (by decide) (ref := "EldestAge") (List.mem_of_getElem? (i := 1) rfl) rfl (v := .ref (a 1)) rfl dX6_years_33 ?_
        refine z_iload_n C 1 rfl rfl dX6_years_36 ?_
        refine z_iload_n C 2 rfl rfl dX6_years_37 ?_
        obtain ⟨q4, e4, h⟩ := bd_e h
        refine z_callVi C (b := a 1) (As := [.int x1, .int x2]) (rest := []) (c_X5_yearsOf E (fun k => a (1 + k)) x1 x2 (sb 0 S) e4) rfl gX6_years_X5_yearsOf rfl rfl rfl 2 rfl (by decide +kernel) ⟨Nat.le_of_ble_eq_true rfl, Nat.le_of_ble_eq_true rfl⟩ [1, 2, 3, 4, 5, 6, 7, 8, 9, 10, 11, 12, 13, 14, 15, 16] (wl_X6_years_0 E a S) (by decide) rfl (wEA E a S) (zrep_self (wl_X6_years_0 E a S)) 0 5 rfl rfl rfl (Nat.le_of_ble_eq_true rfl) dX6_years_38 ⟨Nat.zero_le _, Nat.zero_le _⟩ _ rfl ?_
        refine z_goto C 46 (by decide) dX6_years_41 ?_
        obtain rfl := Option.some.inj h
        exact R rfl 46 _ dX6_years_46

theorem c_X6_years (E : zEnv) (a : Nat → Nat) (x1 : Int32) (x2 : Int32) (S : St) {res : Int32} (h : f_X6_years x1 x2 S = some res) : Kti E yX6_years wsX6_years rm_X6_years (wEA E a S) (wEA E a S) [.ref (a 0), .int x1, .int x2] res :=
  z_enti (cc := cX6_years) (maxL := 3) (rt := .int) (by decide +kernel) rfl (Nat.le_of_ble_eq_true rfl) (fun Γ C R => L_X6_years a C R x1 x2 h)

abbrev rm_X6_lives : Room := { frames := 1, cells := 0, slots := 0, locals := 23 }
theorem inw_X6_lives_X6 : ∀ w ∈ wsX60, w ∈ wsX6_lives := fun _ h => List.mem_cons_of_mem _ (List.mem_append_left _ (List.mem_append_right _ h))
theorem inw_X6_lives_X5 : ∀ w ∈ wsX50, w ∈ wsX6_lives := fun _ h => List.mem_cons_of_mem _ (List.mem_append_right _ h)
set_option maxHeartbeats 4000000 in
theorem wl_X6_lives_0 (E : zEnv) (a : Nat → Nat) (S : St) : ([1, 2, 3, 4, 5, 6, 7, 8, 9, 10, 11, 12, 13, 14, 15, 16] : List Nat).map (fun i => (wEA E a S)[i]?) = (wTown E (fun k => a (1 + k)) (sb 0 S)).map some := rfl
set_option maxHeartbeats 4000000 in
theorem wl_X6_lives_1 (E : zEnv) (a : Nat → Nat) (S U : St) : (wTown E (fun k => a (1 + k)) U).map (fun q => q.1) = (wTown E (fun k => a (1 + k)) S).map (fun q => q.1) := rfl
noncomputable def f_X6_lives (x1 : Int32) (x2 : Int32) (S : St) : Option Int32 := ((f_X5_isOne x1 (sb 0 S)).bind (fun q1 => (if q1 = 0 then (some (-1 : Int32)) else ((f_X6_isDay x2).bind (fun q2 => (if q2 = 0 then (some (-1 : Int32)) else ((f_X5_isAlive x1 x2 (sb 0 S)).bind (fun q3 => (if q3 = 0 then (some (-4 : Int32)) else ((f_X5_homeOf x1 x2 (sb 0 S)).bind (fun q4 => (some q4))))))))))))
set_option maxHeartbeats 4000000 in
set_option maxRecDepth 100000 in
theorem L_X6_lives {E : zEnv} {Γ : zG} (a : Nat → Nat) (C : zC E Γ cX6_lives RX6 3 rm_X6_lives wsX6_lives) {res : Int32} {S : St} (R : zRi E Γ cX6_lives 3 .int (wEA E a S) res) (x1 : Int32) (x2 : Int32) (h : f_X6_lives x1 x2 S = some res) : Zt E Γ 3 0 0 (wEA E a S) [(0, .ref (a 0)), (1, .int x1), (2, .int x2)] 0 [] := by
  unfold f_X6_lives at h
  refine z_aload_n C 0 rfl rfl dX6_lives_0 ?_
  refine z_get C 0 rfl (C := RX6) (T := TX6) (N := 11) (ci := 6) rfl inw_X6_lives_X6 0 (by decide) (ref := "EldestAge") (List.mem_of_getElem? (i := 1) rfl) rfl (v := .ref (a 1)) rfl dX6_lives_1 ?_
  refine z_iload_n C 1 rfl rfl dX6_lives_4 ?_
  obtain ⟨q1, e1, h⟩ := bd_e h
  refine z_callVi C (b := a 1) (As := [.int x1]) (rest := []) (c_X5_isOne E (fun k => a (1 + k)) x1 (sb 0 S) e1) rfl gX6_lives_X5_isOne rfl rfl rfl 1 rfl (by decide +kernel) ⟨Nat.le_of_ble_eq_true rfl, Nat.le_of_ble_eq_true rfl⟩ [1, 2, 3, 4, 5, 6, 7, 8, 9, 10, 11, 12, 13, 14, 15, 16] (wl_X6_lives_0 E a S) (by decide) rfl (wEA E a S) (zrep_self (wl_X6_lives_0 E a S)) 0 5 rfl rfl rfl (Nat.le_of_ble_eq_true rfl) dX6_lives_5 ⟨Nat.zero_le _, Nat.zero_le _⟩ _ rfl ?_
  refine z_if_eq C 18 (by decide) h dX6_lives_8 (fun hc h => ?_) (fun hc h => ?_)
  · refine z_iconst C (v := (-1 : Int32)) (by decide) dX6_lives_18 ?_
    obtain rfl := Option.some.inj h
    exact R rfl 19 _ dX6_lives_19
  · refine z_iload_n C 2 rfl rfl dX6_lives_11 ?_
    obtain ⟨q2, e2, h⟩ := bd_e h
    refine z_callSi C (rest := []) (c_X6_isDay E x2 e2) gX6_lives_X6_isDay rfl rfl rfl 1 rfl (by decide +kernel) ⟨Nat.le_of_ble_eq_true rfl, Nat.le_of_ble_eq_true rfl⟩ [] rfl (by decide) rfl (wEA E a S) rfl (Nat.le_of_ble_eq_true rfl) dX6_lives_12 ⟨Nat.zero_le _, Nat.zero_le _⟩ _ rfl ?_
    refine z_if_ne C 20 (by decide) h dX6_lives_15 (fun hc h => ?_) (fun hc h => ?_)
    · refine z_iconst C (v := (-1 : Int32)) (by decide) dX6_lives_18 ?_
      obtain rfl := Option.some.inj h
      exact R rfl 19 _ dX6_lives_19
    · refine z_aload_n C 0 rfl rfl dX6_lives_20 ?_
      refine z_get C 0 rfl (C := RX6) (T := TX6) (N := 11) (ci := 6) rfl inw_X6_lives_X6 0 (by decide) (ref := "EldestAge") (List.mem_of_getElem? (i := 1) rfl) rfl (v := .ref (a 1)) rfl dX6_lives_21 ?_
      refine z_iload_n C 1 rfl rfl dX6_lives_24 ?_
      refine z_iload_n C 2 rfl rfl dX6_lives_25 ?_
      obtain ⟨q3, e3, h⟩ := bd_e h
      refine z_callVi C (b := a 1) (As := [.int x1, .int x2]) (rest := []) (c_X5_isAlive E (fun k => a (1 + k)) x1 x2 (sb 0 S) e3) rfl gX6_lives_X5_isAlive rfl rfl rfl 2 rfl (by decide +kernel) ⟨Nat.le_of_ble_eq_true rfl, Nat.le_of_ble_eq_true rfl⟩ [1, 2, 3, 4, 5, 6, 7, 8, 9, 10, 11, 12, 13, 14, 15, 16] (wl_X6_lives_0 E a S) (by decide) rfl (wEA E a S) (zrep_self (wl_X6_lives_0 E a S)) 0 5 rfl rfl rfl (Nat.le_of_ble_eq_true rfl) dX6_lives_26 ⟨Nat.zero_le _, Nat.zero_le _⟩ _ rfl ?_
      refine z_if_eq C 44 (by decide) h dX6_lives_29 (fun hc h => ?_) (fun hc h => ?_)
      · refine z_bipush C (v := (-4 : Int32)) (by decide) dX6_lives_44 ?_
        obtain rfl := Option.some.inj h
        exact R rfl 46 _ dX6_lives_46
      · refine z_aload_n C 0 rfl rfl dX6_lives_32 ?_
        refine z_get C 0 rfl (C := RX6) (T := TX6) (N := 11) (ci := 6) rfl inw_X6_lives_X6 0 (by decide) (ref := "EldestAge") (List.mem_of_getElem? (i := 1) rfl) rfl (v := .ref (a 1)) rfl dX6_lives_33 ?_
        refine z_iload_n C 1 rfl rfl dX6_lives_36 ?_
        refine z_iload_n C 2 rfl rfl dX6_lives_37 ?_
        obtain ⟨q4, e4, h⟩ := bd_e h
        refine z_callVi C (b := a 1) (As := [.int x1, .int x2]) (rest := []) (c_X5_homeOf E (fun k => a (1 + k)) x1 x2 (sb 0 S) e4) rfl gX6_lives_X5_homeOf rfl rfl rfl 2 rfl (by decide +kernel) ⟨Nat.le_of_ble_eq_true rfl, Nat.le_of_ble_eq_true rfl⟩ [1, 2, 3, 4, 5, 6, 7, 8, 9, 10, 11, 12, 13, 14, 15, 16] (wl_X6_lives_0 E a S) (by decide) rfl (wEA E a S) (zrep_self (wl_X6_lives_0 E a S)) 0 5 rfl rfl rfl (Nat.le_of_ble_eq_true rfl) dX6_lives_38 ⟨Nat.zero_le _, Nat.zero_le _⟩ _ rfl ?_
        refine z_goto C 46 (by decide) dX6_lives_41 ?_
        obtain rfl := Option.some.inj h
        exact R rfl 46 _ dX6_lives_46

theorem c_X6_lives (E : zEnv) (a : Nat → Nat) (x1 : Int32) (x2 : Int32) (S : St) {res : Int32} (h : f_X6_lives x1 x2 S = some res) : Kti E yX6_lives wsX6_lives rm_X6_lives (wEA E a S) (wEA E a S) [.ref (a 0), .int x1, .int x2] res :=
  z_enti (cc := cX6_lives) (maxL := 3) (rt := .int) (by decide +kernel) rfl (Nat.le_of_ble_eq_true rfl) (fun Γ C R => L_X6_lives a C R x1 x2 h)

abbrev rm_X6_number : Room := { frames := 4, cells := 0, slots := 0, locals := 91 }
theorem inw_X6_number_X6 : ∀ w ∈ wsX60, w ∈ wsX6_number := fun _ h => List.mem_cons_of_mem _ (List.mem_append_left _ (List.mem_append_left _ (List.mem_append_right _ h)))
theorem inw_X6_number_X5 : ∀ w ∈ wsX50, w ∈ wsX6_number := fun _ h => List.mem_cons_of_mem _ (List.mem_append_left _ (List.mem_append_right _ h))
theorem inw_X6_number_X2 : ∀ w ∈ wsX20, w ∈ wsX6_number := fun _ h => List.mem_cons_of_mem _ (List.mem_append_right _ h)
set_option maxHeartbeats 4000000 in
theorem wl_X6_number_0 (E : zEnv) (a : Nat → Nat) (S : St) : ([1, 2, 3, 4, 5, 6, 7, 8, 9, 10, 11, 12, 13, 14, 15, 16] : List Nat).map (fun i => (wEA E a S)[i]?) = (wTown E (fun k => a (1 + k)) (sb 0 S)).map some := rfl
set_option maxHeartbeats 4000000 in
theorem wl_X6_number_1 (E : zEnv) (a : Nat → Nat) (S U : St) : (wTown E (fun k => a (1 + k)) U).map (fun q => q.1) = (wTown E (fun k => a (1 + k)) S).map (fun q => q.1) := rfl
set_option maxHeartbeats 4000000 in
theorem wl_X6_number_2 (E : zEnv) (a : Nat → Nat) (S U : St) : (wEA E a (pt 0 32 U S)) = zrep [1, 2, 3, 4, 5, 6, 7, 8, 9, 10, 11, 12, 13, 14, 15, 16] (wTown E (fun k => a (1 + k)) U) (wEA E a S) := zrep_of (isR := [0, 17, 18, 19, 20, 21, 22, 23, 24, 25, 26, 27, 28, 29, 30, 31, 32, 33, 34, 35, 36, 37, 38, 39, 40, 41, 42, 43, 44, 45, 46, 47, 48, 49, 50, 51, 52, 53, 54, 55, 56, 57, 58, 59, 60, 61, 62, 63, 64, 65, 66, 67, 68, 69, 70, 71, 72, 73, 74, 75, 76, 77, 78, 79, 80, 81, 82, 83, 84, 85, 86, 87, 88, 89, 90, 91, 92, 93, 94, 95, 96, 97, 98, 99, 100]) 101 rfl [some (a 0, .inr (6, [.ref (a 1), .ref (a 17), .ref (a 65), .ref (a 66), .ref (a 67), .ref (a 69), .ref (a 73), .ref (a 77), .ref (a 93), .int (S 184 0), .int (S 185 0)])), some (a 17, .inr (5, [.int (S 32 0), .int (S 33 0), .int (S 34 0), .ref (a 18), .ref (a 19), .ref (a 20), .ref (a 21), .int (S 39 0), .ref (a 22), .ref (a 23), .ref (a 24), .int (S 43 0), .ref (a 25), .ref (a 26), .ref (a 27), .ref (a 28)])), some (a 18, .inl (zI E, 14, .inl (S 35))), some (a 19, .inl (zI E, 14, .inl (S 36))), some (a 20, .inl (zI E, 14, .inl (S 37))), some (a 21, .inl (zI E, 14, .inl (S 38))), some (a 22, .inl (zI E, 12, .inl (S 40))), some (a 23, .inl (zI E, 12, .inl (S 41))), some (a 24, .inl (zI E, 12, .inl (S 42))), some (a 25, .inl (zI E, 4, .inl (S 44))), some (a 26, .inl (zI E, 4, .inl (S 45))), some (a 27, .inl (zI E, 4, .inl (S 46))), some (a 28, .inr (2, [.ref (a 29), .ref (a 30), .ref (a 31), .ref (a 32)])), some (a 29, .inl (zI E, 8, .inl (S 48))), some (a 30, .inl (zI E, 8, .inl (S 49))), some (a 31, .inl (zI E, 8, .inl (S 50))), some (a 32, .inl (zI E, 8, .inl (S 51))), some (a 65, .inl (zT E, 2, .inr (.inr (.inr (.inr (va_up (va_up (fun _ => none) 0 (some (a 33))) 1 (some (a 49)))))))), some (a 66, .inl (zZ E, 2, .inl (S 186))), some (a 67, .inr (3, [.ref (a 68), .int (S 129 0), .int (S 130 0), .int (S 131 0), .int (S 132 0), .int (S 133 0), .int (S 134 0), .int (S 135 0), .int (S 136 0), .int (S 137 0), .int (S 138 0), .int (S 139 0)])), some (a 68, .inl (zI E, 400, .inl (S 128))), some (a 69, .inr (4, [.int (S 144 0), .ref (a 70), .ref (a 71), .ref (a 72), .int (S 148 0)])), some (a 70, .inl (zI E, 4, .inl (S 145))), some (a 71, .inl (zI E, 4, .inl (S 146))), some (a 72, .inl (zI E, 4, .inl (S 147))), some (a 73, .inr (4, [.int (S 152 0), .ref (a 74), .ref (a 75), .ref (a 76), .int (S 156 0)])), some (a 74, .inl (zI E, 8, .inl (S 153))), some (a 75, .inl (zI E, 8, .inl (S 154))), some (a 76, .inl (zI E, 8, .inl (S 155))), some (a 77, .inr (0, [.int (S 160 0), .ref (a 78), .ref (a 79), .ref (a 80), .ref (a 81), .ref (a 82), .ref (a 83), .ref (a 88)])), some (a 78, .inl (zI E, 4, .inl (S 161))), some (a 79, .inl (zI E, 4, .inl (S 162))), some (a 80, .inl (zI E, 4, .inl (S 163))), some (a 81, .inl (zI E, 4, .inl (S 164))), some (a 82, .inl (zI E, 4, .inl (S 165))), some (a 83, .inr (2, [.ref (a 84), .ref (a 85), .ref (a 86), .ref (a 87)])), some (a 84, .inl (zI E, 8, .inl (S 168))), some (a 85, .inl (zI E, 8, .inl (S 169))), some (a 86, .inl (zI E, 8, .inl (S 170))), some (a 87, .inl (zI E, 8, .inl (S 171))), some (a 88, .inr (2, [.ref (a 89), .ref (a 90), .ref (a 91), .ref (a 92)])), some (a 89, .inl (zI E, 8, .inl (S 172))), some (a 90, .inl (zI E, 8, .inl (S 173))), some (a 91, .inl (zI E, 8, .inl (S 174))), some (a 92, .inl (zI E, 8, .inl (S 175))), some (a 93, .inr (1, [.ref (a 94), .ref (a 99), .ref (a 100)])), some (a 94, .inl (zII E, 4, .inr (.inr (.inr (.inr (va_up (va_up (va_up (va_up (fun _ => none) 0 (some (a 95))) 1 (some (a 96))) 2 (some (a 97))) 3 (some (a 98)))))))), some (a 95, .inl (zI E, 40, .inl (S 176))), some (a 96, .inl (zI E, 40, .inl (S 177))), some (a 97, .inl (zI E, 40, .inl (S 178))), some (a 98, .inl (zI E, 40, .inl (S 179))), some (a 99, .inl (zI E, 4, .inl (S 180))), some (a 100, .inl (zI E, 4, .inl (S 181))), some (a 33, .inr (5, [.int (S 64 0), .int (S 65 0), .int (S 66 0), .ref (a 34), .ref (a 35), .ref (a 36), .ref (a 37), .int (S 71 0), .ref (a 38), .ref (a 39), .ref (a 40), .int (S 75 0), .ref (a 41), .ref (a 42), .ref (a 43), .ref (a 44)])), some (a 34, .inl (zI E, 14, .inl (S 67))), some (a 35, .inl (zI E, 14, .inl (S 68))), some (a 36, .inl (zI E, 14, .inl (S 69))), some (a 37, .inl (zI E, 14, .inl (S 70))), some (a 38, .inl (zI E, 12, .inl (S 72))), some (a 39, .inl (zI E, 12, .inl (S 73))), some (a 40, .inl (zI E, 12, .inl (S 74))), some (a 41, .inl (zI E, 4, .inl (S 76))), some (a 42, .inl (zI E, 4, .inl (S 77))), some (a 43, .inl (zI E, 4, .inl (S 78))), some (a 44, .inr (2, [.ref (a 45), .ref (a 46), .ref (a 47), .ref (a 48)])), some (a 45, .inl (zI E, 8, .inl (S 80))), some (a 46, .inl (zI E, 8, .inl (S 81))), some (a 47, .inl (zI E, 8, .inl (S 82))), some (a 48, .inl (zI E, 8, .inl (S 83))), some (a 49, .inr (5, [.int (S 96 0), .int (S 97 0), .int (S 98 0), .ref (a 50), .ref (a 51), .ref (a 52), .ref (a 53), .int (S 103 0), .ref (a 54), .ref (a 55), .ref (a 56), .int (S 107 0), .ref (a 57), .ref (a 58), .ref (a 59), .ref (a 60)])), some (a 50, .inl (zI E, 14, .inl (S 99))), some (a 51, .inl (zI E, 14, .inl (S 100))), some (a 52, .inl (zI E, 14, .inl (S 101))), some (a 53, .inl (zI E, 14, .inl (S 102))), some (a 54, .inl (zI E, 12, .inl (S 104))), some (a 55, .inl (zI E, 12, .inl (S 105))), some (a 56, .inl (zI E, 12, .inl (S 106))), some (a 57, .inl (zI E, 4, .inl (S 108))), some (a 58, .inl (zI E, 4, .inl (S 109))), some (a 59, .inl (zI E, 4, .inl (S 110))), some (a 60, .inr (2, [.ref (a 61), .ref (a 62), .ref (a 63), .ref (a 64)])), some (a 61, .inl (zI E, 8, .inl (S 112))), some (a 62, .inl (zI E, 8, .inl (S 113))), some (a 63, .inl (zI E, 8, .inl (S 114))), some (a 64, .inl (zI E, 8, .inl (S 115)))] rfl rfl rfl rfl (by decide +kernel) (by decide +kernel)
noncomputable def f_X6_number (x1 : Int32) (x2 : Int32) (S : St) : Option (Int32 × St) := ((f_X5_isHouse x1 (sb 0 S)).bind (fun q1 => (if q1 = 0 then (some ((-1 : Int32), S)) else ((f_X6_isDay x2).bind (fun q2 => (if q2 = 0 then (some ((-1 : Int32), S)) else ((f_X5_numberOf x1 x2 (sb 0 S)).bind (fun q3 => (some (q3.1, (pt 0 32 q3.2 S)))))))))))
set_option maxHeartbeats 4000000 in
set_option maxRecDepth 100000 in
theorem L_X6_number {E : zEnv} {Γ : zG} (a : Nat → Nat) (C : zC E Γ cX6_number RX6 3 rm_X6_number wsX6_number) {res : (Int32 × St)} (R : zRi E Γ cX6_number 3 .int (wEA E a res.2) res.1) (x1 : Int32) (x2 : Int32) (S : St) (h : f_X6_number x1 x2 S = some res) : Zt E Γ 3 0 0 (wEA E a S) [(0, .ref (a 0)), (1, .int x1), (2, .int x2)] 0 [] := by
  unfold f_X6_number at h
  refine z_aload_n C 0 rfl rfl dX6_number_0 ?_
  refine z_get C 0 rfl (C := RX6) (T := TX6) (N := 11) (ci := 6) rfl inw_X6_number_X6 0 (by decide) (ref := "EldestAge") (List.mem_of_getElem? (i := 1) rfl) rfl (v := .ref (a 1)) rfl dX6_number_1 ?_
  refine z_iload_n C 1 rfl rfl dX6_number_4 ?_
  obtain ⟨q1, e1, h⟩ := bd_e h
  refine z_callVi C (b := a 1) (As := [.int x1]) (rest := []) (c_X5_isHouse E (fun k => a (1 + k)) x1 (sb 0 S) e1) rfl gX6_number_X5_isHouse rfl rfl rfl 1 rfl (by decide +kernel) ⟨Nat.le_of_ble_eq_true rfl, Nat.le_of_ble_eq_true rfl⟩ [1, 2, 3, 4, 5, 6, 7, 8, 9, 10, 11, 12, 13, 14, 15, 16] (wl_X6_number_0 E a S) (by decide) rfl (wEA E a S) (zrep_self (wl_X6_number_0 E a S)) 0 5 rfl rfl rfl (Nat.le_of_ble_eq_true rfl) dX6_number_5 ⟨Nat.zero_le _, Nat.zero_le _⟩ _ rfl ?_
  refine z_if_eq C 18 (by decide) h dX6_number_8 (fun hc h => ?_) (fun hc h => ?_)
  · refine z_iconst C (v := (-1 : Int32)) (by decide) dX6_number_18 ?_
    obtain rfl := Option.some.inj h
    exact R rfl 19 _ dX6_number_19
  · refine z_iload_n C 2 rfl rfl dX6_number_11 ?_
    obtain ⟨q2, e2, h⟩ := bd_e h
    refine z_callSi C (rest := []) (c_X6_isDay E x2 e2) gX6_number_X6_isDay rfl rfl rfl 1 rfl (by decide +kernel) ⟨Nat.le_of_ble_eq_true rfl, Nat.le_of_ble_eq_true rfl⟩ [] rfl (by decide) rfl (wEA E a S) rfl (Nat.le_of_ble_eq_true rfl) dX6_number_12 ⟨Nat.zero_le _, Nat.zero_le _⟩ _ rfl ?_
    refine z_if_ne C 20 (by decide) h dX6_number_15 (fun hc h => ?_) (fun hc h => ?_)
    · refine z_iconst C (v := (-1 : Int32)) (by decide) dX6_number_18 ?_
      obtain rfl := Option.some.inj h
      exact R rfl 19 _ dX6_number_19
    · refine z_aload_n C 0 rfl rfl dX6_number_20 ?_
      refine z_get C 0 rfl (C := RX6) (T := TX6) (N := 11) (ci := 6) rfl inw_X6_number_X6 0 (by decide) (ref := "EldestAge") (List.mem_of_getElem? (i := 1) rfl) rfl (v := .ref (a 1)) rfl dX6_number_21 ?_
      refine z_iload_n C 1 rfl rfl dX6_number_24 ?_
      refine z_iload_n C 2 rfl rfl dX6_number_25 ?_
      obtain ⟨q3, e3, h⟩ := bd_e h
      refine z_callVi C (b := a 1) (As := [.int x1, .int x2]) (rest := []) (c_X5_numberOf E (fun k => a (1 + k)) x1 x2 (sb 0 S) e3) rfl gX6_number_X5_numberOf rfl rfl rfl 2 rfl (by decide +kernel) ⟨Nat.le_of_ble_eq_true rfl, Nat.le_of_ble_eq_true rfl⟩ [1, 2, 3, 4, 5, 6, 7, 8, 9, 10, 11, 12, 13, 14, 15, 16] (wl_X6_number_0 E a S) (by decide) (wl_X6_number_1 E a _ _) (wEA E a (pt 0 32 q3.2 S)) (wl_X6_number_2 E a S q3.2) 0 5 rfl rfl rfl (Nat.le_of_ble_eq_true rfl) dX6_number_26 ⟨Nat.zero_le _, Nat.zero_le _⟩ _ rfl ?_
      obtain rfl := Option.some.inj h
      exact R rfl 29 _ dX6_number_29

theorem c_X6_number (E : zEnv) (a : Nat → Nat) (x1 : Int32) (x2 : Int32) (S : St) {res : (Int32 × St)} (h : f_X6_number x1 x2 S = some res) : Kti E yX6_number wsX6_number rm_X6_number (wEA E a S) (wEA E a res.2) [.ref (a 0), .int x1, .int x2] res.1 :=
  z_enti (cc := cX6_number) (maxL := 3) (rt := .int) (by decide +kernel) rfl (Nat.le_of_ble_eq_true rfl) (fun Γ C R => L_X6_number a C R x1 x2 S h)

abbrev rm_X6_at : Room := { frames := 4, cells := 0, slots := 0, locals := 94 }
theorem inw_X6_at_X6 : ∀ w ∈ wsX60, w ∈ wsX6_at := fun _ h => List.mem_cons_of_mem _ (List.mem_append_left _ (List.mem_append_left _ (List.mem_append_right _ h)))
theorem inw_X6_at_X5 : ∀ w ∈ wsX50, w ∈ wsX6_at := fun _ h => List.mem_cons_of_mem _ (List.mem_append_left _ (List.mem_append_right _ h))
theorem inw_X6_at_X2 : ∀ w ∈ wsX20, w ∈ wsX6_at := fun _ h => List.mem_cons_of_mem _ (List.mem_append_right _ h)
set_option maxHeartbeats 4000000 in
theorem wl_X6_at_0 (E : zEnv) (a : Nat → Nat) (S : St) : ([1, 2, 3, 4, 5, 6, 7, 8, 9, 10, 11, 12, 13, 14, 15, 16] : List Nat).map (fun i => (wEA E a S)[i]?) = (wTown E (fun k => a (1 + k)) (sb 0 S)).map some := rfl
set_option maxHeartbeats 4000000 in
theorem wl_X6_at_1 (E : zEnv) (a : Nat → Nat) (S U : St) : (wTown E (fun k => a (1 + k)) U).map (fun q => q.1) = (wTown E (fun k => a (1 + k)) S).map (fun q => q.1) := rfl
set_option maxHeartbeats 4000000 in
theorem wl_X6_at_2 (E : zEnv) (a : Nat → Nat) (S U : St) : (wEA E a (pt 0 32 U S)) = zrep [1, 2, 3, 4, 5, 6, 7, 8, 9, 10, 11, 12, 13, 14, 15, 16] (wTown E (fun k => a (1 + k)) U) (wEA E a S) := zrep_of (isR := [0, 17, 18, 19, 20, 21, 22, 23, 24, 25, 26, 27, 28, 29, 30, 31, 32, 33, 34, 35, 36, 37, 38, 39, 40, 41, 42, 43, 44, 45, 46, 47, 48, 49, 50, 51, 52, 53, 54, 55, 56, 57, 58, 59, 60, 61, 62, 63, 64, 65, 66, 67, 68, 69, 70, 71, 72, 73, 74, 75, 76, 77, 78, 79, 80, 81, 82, 83, 84, 85, 86, 87, 88, 89, 90, 91, 92, 93, 94, 95, 96, 97, 98, 99, 100]) 101 rfl [some (a 0, .inr (6, [.ref (a 1), .ref (a 17), .ref (a 65), .ref (a 66), .ref (a 67), .ref (a 69), .ref (a 73), .ref (a 77), .ref (a 93), .int (S 184 0), .int (S 185 0)])), some (a 17, .inr (5, [.int (S 32 0), .int (S 33 0), .int (S 34 0), .ref (a 18), .ref (a 19), .ref (a 20), .ref (a 21), .int (S 39 0), .ref (a 22), .ref (a 23), .ref (a 24), .int (S 43 0), .ref (a 25), .ref (a 26), .ref (a 27), .ref (a 28)])), some (a 18, .inl (zI E, 14, .inl (S 35))), some (a 19, .inl (zI E, 14, .inl (S 36))), some (a 20, .inl (zI E, 14, .inl (S 37))), some (a 21, .inl (zI E, 14, .inl (S 38))), some (a 22, .inl (zI E, 12, .inl (S 40))), some (a 23, .inl (zI E, 12, .inl (S 41))), some (a 24, .inl (zI E, 12, .inl (S 42))), some (a 25, .inl (zI E, 4, .inl (S 44))), some (a 26, .inl (zI E, 4, .inl (S 45))), some (a 27, .inl (zI E, 4, .inl (S 46))), some (a 28, .inr (2, [.ref (a 29), .ref (a 30), .ref (a 31), .ref (a 32)])), some (a 29, .inl (zI E, 8, .inl (S 48))), some (a 30, .inl (zI E, 8, .inl (S 49))), some (a 31, .inl (zI E, 8, .inl (S 50))), some (a 32, .inl (zI E, 8, .inl (S 51))), some (a 65, .inl (zT E, 2, .inr (.inr (.inr (.inr (va_up (va_up (fun _ => none) 0 (some (a 33))) 1 (some (a 49)))))))), some (a 66, .inl (zZ E, 2, .inl (S 186))), some (a 67, .inr (3, [.ref (a 68), .int (S 129 0), .int (S 130 0), .int (S 131 0), .int (S 132 0), .int (S 133 0), .int (S 134 0), .int (S 135 0), .int (S 136 0), .int (S 137 0), .int (S 138 0), .int (S 139 0)])), some (a 68, .inl (zI E, 400, .inl (S 128))), some (a 69, .inr (4, [.int (S 144 0), .ref (a 70), .ref (a 71), .ref (a 72), .int (S 148 0)])), some (a 70, .inl (zI E, 4, .inl (S 145))), some (a 71, .inl (zI E, 4, .inl (S 146))), some (a 72, .inl (zI E, 4, .inl (S 147))), some (a 73, .inr (4, [.int (S 152 0), .ref (a 74), .ref (a 75), .ref (a 76), .int (S 156 0)])), some (a 74, .inl (zI E, 8, .inl (S 153))), some (a 75, .inl (zI E, 8, .inl (S 154))), some (a 76, .inl (zI E, 8, .inl (S 155))), some (a 77, .inr (0, [.int (S 160 0), .ref (a 78), .ref (a 79), .ref (a 80), .ref (a 81), .ref (a 82), .ref (a 83), .ref (a 88)])), some (a 78, .inl (zI E, 4, .inl (S 161))), some (a 79, .inl (zI E, 4, .inl (S 162))), some (a 80, .inl (zI E, 4, .inl (S 163))), some (a 81, .inl (zI E, 4, .inl (S 164))), some (a 82, .inl (zI E, 4, .inl (S 165))), some (a 83, .inr (2, [.ref (a 84), .ref (a 85), .ref (a 86), .ref (a 87)])), some (a 84, .inl (zI E, 8, .inl (S 168))), some (a 85, .inl (zI E, 8, .inl (S 169))), some (a 86, .inl (zI E, 8, .inl (S 170))), some (a 87, .inl (zI E, 8, .inl (S 171))), some (a 88, .inr (2, [.ref (a 89), .ref (a 90), .ref (a 91), .ref (a 92)])), some (a 89, .inl (zI E, 8, .inl (S 172))), some (a 90, .inl (zI E, 8, .inl (S 173))), some (a 91, .inl (zI E, 8, .inl (S 174))), some (a 92, .inl (zI E, 8, .inl (S 175))), some (a 93, .inr (1, [.ref (a 94), .ref (a 99), .ref (a 100)])), some (a 94, .inl (zII E, 4, .inr (.inr (.inr (.inr (va_up (va_up (va_up (va_up (fun _ => none) 0 (some (a 95))) 1 (some (a 96))) 2 (some (a 97))) 3 (some (a 98)))))))), some (a 95, .inl (zI E, 40, .inl (S 176))), some (a 96, .inl (zI E, 40, .inl (S 177))), some (a 97, .inl (zI E, 40, .inl (S 178))), some (a 98, .inl (zI E, 40, .inl (S 179))), some (a 99, .inl (zI E, 4, .inl (S 180))), some (a 100, .inl (zI E, 4, .inl (S 181))), some (a 33, .inr (5, [.int (S 64 0), .int (S 65 0), .int (S 66 0), .ref (a 34), .ref (a 35), .ref (a 36), .ref (a 37), .int (S 71 0), .ref (a 38), .ref (a 39), .ref (a 40), .int (S 75 0), .ref (a 41), .ref (a 42), .ref (a 43), .ref (a 44)])), some (a 34, .inl (zI E, 14, .inl (S 67))), some (a 35, .inl (zI E, 14, .inl (S 68))), some (a 36, .inl (zI E, 14, .inl (S 69))), some (a 37, .inl (zI E, 14, .inl (S 70))), some (a 38, .inl (zI E, 12, .inl (S 72))), some (a 39, .inl (zI E, 12, .inl (S 73))), some (a 40, .inl (zI E, 12, .inl (S 74))), some (a 41, .inl (zI E, 4, .inl (S 76))), some (a 42, .inl (zI E, 4, .inl (S 77))), some (a 43, .inl (zI E, 4, .inl (S 78))), some (a 44, .inr (2, [.ref (a 45), .ref (a 46), .ref (a 47), .ref (a 48)])), some (a 45, .inl (zI E, 8, .inl (S 80))), some (a 46, .inl (zI E, 8, .inl (S 81))), some (a 47, .inl (zI E, 8, .inl (S 82))), some (a 48, .inl (zI E, 8, .inl (S 83))), some (a 49, .inr (5, [.int (S 96 0), .int (S 97 0), .int (S 98 0), .ref (a 50), .ref (a 51), .ref (a 52), .ref (a 53), .int (S 103 0), .ref (a 54), .ref (a 55), .ref (a 56), .int (S 107 0), .ref (a 57), .ref (a 58), .ref (a 59), .ref (a 60)])), some (a 50, .inl (zI E, 14, .inl (S 99))), some (a 51, .inl (zI E, 14, .inl (S 100))), some (a 52, .inl (zI E, 14, .inl (S 101))), some (a 53, .inl (zI E, 14, .inl (S 102))), some (a 54, .inl (zI E, 12, .inl (S 104))), some (a 55, .inl (zI E, 12, .inl (S 105))), some (a 56, .inl (zI E, 12, .inl (S 106))), some (a 57, .inl (zI E, 4, .inl (S 108))), some (a 58, .inl (zI E, 4, .inl (S 109))), some (a 59, .inl (zI E, 4, .inl (S 110))), some (a 60, .inr (2, [.ref (a 61), .ref (a 62), .ref (a 63), .ref (a 64)])), some (a 61, .inl (zI E, 8, .inl (S 112))), some (a 62, .inl (zI E, 8, .inl (S 113))), some (a 63, .inl (zI E, 8, .inl (S 114))), some (a 64, .inl (zI E, 8, .inl (S 115)))] rfl rfl rfl rfl (by decide +kernel) (by decide +kernel)
noncomputable def f_X6_at_23 (x2 : Int32) (y1 : Int32) (S : St) : Option (Int32 × St) := ((f_X5_having y1 x2 (sb 0 S)).bind (fun q1 => (some (q1.1, (pt 0 32 q1.2 S)))))
noncomputable def f_X6_at (x1 : Int32) (x2 : Int32) (S : St) : Option (Int32 × St) := ((f_X6_isDay x2).bind (fun q2 => (if q2 = 0 then (some ((-1 : Int32), S)) else (if 0 ≤ x1 then (f_X6_at_23 x2 x1 S) else (f_X6_at_23 x2 (-4 : Int32) S)))))
set_option maxHeartbeats 4000000 in
set_option maxRecDepth 100000 in
theorem L_X6_at_23 {E : zEnv} {Γ : zG} (a : Nat → Nat) (C : zC E Γ cX6_at RX6 3 rm_X6_at wsX6_at) {res : (Int32 × St)} (R : zRi E Γ cX6_at 3 .int (wEA E a res.2) res.1) (x2 : Int32) (y1 : Int32) (S : St) (h : f_X6_at_23 x2 y1 S = some res) : Zt E Γ 3 0 0 (wEA E a S) [(2, .int x2)] 23 [.int y1, .ref (a 1)] := by
  unfold f_X6_at_23 at h
  refine z_iload_n C 0 rfl rfl dX6_at_23 ?_
  obtain ⟨q1, e1, h⟩ := bd_e h
  refine z_callVi C (b := a 1) (As := [.int y1, .int x2]) (rest := []) (c_X5_having E (fun k => a (1 + k)) y1 x2 (sb 0 S) e1) rfl gX6_at_X5_having rfl rfl rfl 2 rfl (by decide +kernel) ⟨Nat.le_of_ble_eq_true rfl, Nat.le_of_ble_eq_true rfl⟩ [1, 2, 3, 4, 5, 6, 7, 8, 9, 10, 11, 12, 13, 14, 15, 16] (wl_X6_at_0 E a S) (by decide) (wl_X6_at_1 E a _ _) (wEA E a (pt 0 32 q1.2 S)) (wl_X6_at_2 E a S q1.2) 0 5 rfl rfl rfl (Nat.le_of_ble_eq_true rfl) dX6_at_24 ⟨Nat.zero_le _, Nat.zero_le _⟩ _ rfl ?_
  obtain rfl := Option.some.inj h
  exact R rfl 27 _ dX6_at_27

set_option maxHeartbeats 4000000 in
set_option maxRecDepth 100000 in
theorem L_X6_at {E : zEnv} {Γ : zG} (a : Nat → Nat) (C : zC E Γ cX6_at RX6 3 rm_X6_at wsX6_at) {res : (Int32 × St)} (R : zRi E Γ cX6_at 3 .int (wEA E a res.2) res.1) (x1 : Int32) (x2 : Int32) (S : St) (h : f_X6_at x1 x2 S = some res) : Zt E Γ 3 0 0 (wEA E a S) [(0, .ref (a 0)), (1, .int x1), (2, .int x2)] 0 [] := by
  unfold f_X6_at at h
  refine z_iload_n C 2 rfl rfl dX6_at_0 ?_
  obtain ⟨q2, e2, h⟩ := bd_e h
  refine z_callSi C (rest := []) (c_X6_isDay E x2 e2) gX6_at_X6_isDay rfl rfl rfl 1 rfl (by decide +kernel) ⟨Nat.le_of_ble_eq_true rfl, Nat.le_of_ble_eq_true rfl⟩ [] rfl (by decide) rfl (wEA E a S) rfl (Nat.le_of_ble_eq_true rfl) dX6_at_1 ⟨Nat.zero_le _, Nat.zero_le _⟩ _ rfl ?_
  refine z_if_ne C 9 (by decide) h dX6_at_4 (fun hc h => ?_) (fun hc h => ?_)
  · refine z_iconst C (v := (-1 : Int32)) (by decide) dX6_at_7 ?_
    obtain rfl := Option.some.inj h
    exact R rfl 8 _ dX6_at_8
  · refine z_aload_n C 0 rfl rfl dX6_at_9 ?_
    refine z_get C 0 rfl (C := RX6) (T := TX6) (N := 11) (ci := 6) rfl inw_X6_at_X6 0 (by decide) (ref := "EldestAge") (List.mem_of_getElem? (i := 1) rfl) rfl (v := .ref (a 1)) rfl dX6_at_10 ?_
    refine z_iload_n C 1 rfl rfl dX6_at_13 ?_
    refine z_if_ge C 22 (by decide) h dX6_at_14 (fun hc h => ?_) (fun hc h => ?_)
    · refine z_iload_n C 1 rfl rfl dX6_at_22 ?_
      refine Zt_l [(2, .int x2)] [2] rfl ?_
      exact L_X6_at_23 a C R x2 x1 S h
    · refine z_bipush C (v := (-4 : Int32)) (by decide) dX6_at_17 ?_
      refine z_goto C 23 (by decide) dX6_at_19 ?_
      refine Zt_l [(2, .int x2)] [2] rfl ?_
      exact L_X6_at_23 a C R x2 (-4 : Int32) S h

theorem c_X6_at (E : zEnv) (a : Nat → Nat) (x1 : Int32) (x2 : Int32) (S : St) {res : (Int32 × St)} (h : f_X6_at x1 x2 S = some res) : Kti E yX6_at wsX6_at rm_X6_at (wEA E a S) (wEA E a res.2) [.ref (a 0), .int x1, .int x2] res.1 :=
  z_enti (cc := cX6_at) (maxL := 3) (rt := .int) (by decide +kernel) rfl (Nat.le_of_ble_eq_true rfl) (fun Γ C R => L_X6_at a C R x1 x2 S h)

abbrev rm_X6_twins : Room := { frames := 3, cells := 0, slots := 0, locals := 69 }
theorem inw_X6_twins_X6 : ∀ w ∈ wsX60, w ∈ wsX6_twins := fun _ h => List.mem_cons_of_mem _ (List.mem_append_left _ (List.mem_append_left _ (List.mem_append_right _ h)))
theorem inw_X6_twins_X5 : ∀ w ∈ wsX50, w ∈ wsX6_twins := fun _ h => List.mem_cons_of_mem _ (List.mem_append_left _ (List.mem_append_right _ h))
theorem inw_X6_twins_X2 : ∀ w ∈ wsX20, w ∈ wsX6_twins := fun _ h => List.mem_cons_of_mem _ (List.mem_append_right _ h)
set_option maxHeartbeats 4000000 in
theorem wl_X6_twins_0 (E : zEnv) (a : Nat → Nat) (S : St) : ([1, 2, 3, 4, 5, 6, 7, 8, 9, 10, 11, 12, 13, 14, 15, 16] : List Nat).map (fun i => (wEA E a S)[i]?) = (wTown E (fun k => a (1 + k)) (sb 0 S)).map some := rfl
set_option maxHeartbeats 4000000 in
theorem wl_X6_twins_1 (E : zEnv) (a : Nat → Nat) (S U : St) : (wTown E (fun k => a (1 + k)) U).map (fun q => q.1) = (wTown E (fun k => a (1 + k)) S).map (fun q => q.1) := rfl
set_option maxHeartbeats 4000000 in
theorem wl_X6_twins_2 (E : zEnv) (a : Nat → Nat) (S U : St) : (wEA E a (pt 0 32 U S)) = zrep [1, 2, 3, 4, 5, 6, 7, 8, 9, 10, 11, 12, 13, 14, 15, 16] (wTown E (fun k => a (1 + k)) U) (wEA E a S) := zrep_of (isR := [0, 17, 18, 19, 20, 21, 22, 23, 24, 25, 26, 27, 28, 29, 30, 31, 32, 33, 34, 35, 36, 37, 38, 39, 40, 41, 42, 43, 44, 45, 46, 47, 48, 49, 50, 51, 52, 53, 54, 55, 56, 57, 58, 59, 60, 61, 62, 63, 64, 65, 66, 67, 68, 69, 70, 71, 72, 73, 74, 75, 76, 77, 78, 79, 80, 81, 82, 83, 84, 85, 86, 87, 88, 89, 90, 91, 92, 93, 94, 95, 96, 97, 98, 99, 100]) 101 rfl [some (a 0, .inr (6, [.ref (a 1), .ref (a 17), .ref (a 65), .ref (a 66), .ref (a 67), .ref (a 69), .ref (a 73), .ref (a 77), .ref (a 93), .int (S 184 0), .int (S 185 0)])), some (a 17, .inr (5, [.int (S 32 0), .int (S 33 0), .int (S 34 0), .ref (a 18), .ref (a 19), .ref (a 20), .ref (a 21), .int (S 39 0), .ref (a 22), .ref (a 23), .ref (a 24), .int (S 43 0), .ref (a 25), .ref (a 26), .ref (a 27), .ref (a 28)])), some (a 18, .inl (zI E, 14, .inl (S 35))), some (a 19, .inl (zI E, 14, .inl (S 36))), some (a 20, .inl (zI E, 14, .inl (S 37))), some (a 21, .inl (zI E, 14, .inl (S 38))), some (a 22, .inl (zI E, 12, .inl (S 40))), some (a 23, .inl (zI E, 12, .inl (S 41))), some (a 24, .inl (zI E, 12, .inl (S 42))), some (a 25, .inl (zI E, 4, .inl (S 44))), some (a 26, .inl (zI E, 4, .inl (S 45))), some (a 27, .inl (zI E, 4, .inl (S 46))), some (a 28, .inr (2, [.ref (a 29), .ref (a 30), .ref (a 31), .ref (a 32)])), some (a 29, .inl (zI E, 8, .inl (S 48))), some (a 30, .inl (zI E, 8, .inl (S 49))), some (a 31, .inl (zI E, 8, .inl (S 50))), some (a 32, .inl (zI E, 8, .inl (S 51))), some (a 65, .inl (zT E, 2, .inr (.inr (.inr (.inr (va_up (va_up (fun _ => none) 0 (some (a 33))) 1 (some (a 49)))))))), some (a 66, .inl (zZ E, 2, .inl (S 186))), some (a 67, .inr (3, [.ref (a 68), .int (S 129 0), .int (S 130 0), .int (S 131 0), .int (S 132 0), .int (S 133 0), .int (S 134 0), .int (S 135 0), .int (S 136 0), .int (S 137 0), .int (S 138 0), .int (S 139 0)])), some (a 68, .inl (zI E, 400, .inl (S 128))), some (a 69, .inr (4, [.int (S 144 0), .ref (a 70), .ref (a 71), .ref (a 72), .int (S 148 0)])), some (a 70, .inl (zI E, 4, .inl (S 145))), some (a 71, .inl (zI E, 4, .inl (S 146))), some (a 72, .inl (zI E, 4, .inl (S 147))), some (a 73, .inr (4, [.int (S 152 0), .ref (a 74), .ref (a 75), .ref (a 76), .int (S 156 0)])), some (a 74, .inl (zI E, 8, .inl (S 153))), some (a 75, .inl (zI E, 8, .inl (S 154))), some (a 76, .inl (zI E, 8, .inl (S 155))), some (a 77, .inr (0, [.int (S 160 0), .ref (a 78), .ref (a 79), .ref (a 80), .ref (a 81), .ref (a 82), .ref (a 83), .ref (a 88)])), some (a 78, .inl (zI E, 4, .inl (S 161))), some (a 79, .inl (zI E, 4, .inl (S 162))), some (a 80, .inl (zI E, 4, .inl (S 163))), some (a 81, .inl (zI E, 4, .inl (S 164))), some (a 82, .inl (zI E, 4, .inl (S 165))), some (a 83, .inr (2, [.ref (a 84), .ref (a 85), .ref (a 86), .ref (a 87)])), some (a 84, .inl (zI E, 8, .inl (S 168))), some (a 85, .inl (zI E, 8, .inl (S 169))), some (a 86, .inl (zI E, 8, .inl (S 170))), some (a 87, .inl (zI E, 8, .inl (S 171))), some (a 88, .inr (2, [.ref (a 89), .ref (a 90), .ref (a 91), .ref (a 92)])), some (a 89, .inl (zI E, 8, .inl (S 172))), some (a 90, .inl (zI E, 8, .inl (S 173))), some (a 91, .inl (zI E, 8, .inl (S 174))), some (a 92, .inl (zI E, 8, .inl (S 175))), some (a 93, .inr (1, [.ref (a 94), .ref (a 99), .ref (a 100)])), some (a 94, .inl (zII E, 4, .inr (.inr (.inr (.inr (va_up (va_up (va_up (va_up (fun _ => none) 0 (some (a 95))) 1 (some (a 96))) 2 (some (a 97))) 3 (some (a 98)))))))), some (a 95, .inl (zI E, 40, .inl (S 176))), some (a 96, .inl (zI E, 40, .inl (S 177))), some (a 97, .inl (zI E, 40, .inl (S 178))), some (a 98, .inl (zI E, 40, .inl (S 179))), some (a 99, .inl (zI E, 4, .inl (S 180))), some (a 100, .inl (zI E, 4, .inl (S 181))), some (a 33, .inr (5, [.int (S 64 0), .int (S 65 0), .int (S 66 0), .ref (a 34), .ref (a 35), .ref (a 36), .ref (a 37), .int (S 71 0), .ref (a 38), .ref (a 39), .ref (a 40), .int (S 75 0), .ref (a 41), .ref (a 42), .ref (a 43), .ref (a 44)])), some (a 34, .inl (zI E, 14, .inl (S 67))), some (a 35, .inl (zI E, 14, .inl (S 68))), some (a 36, .inl (zI E, 14, .inl (S 69))), some (a 37, .inl (zI E, 14, .inl (S 70))), some (a 38, .inl (zI E, 12, .inl (S 72))), some (a 39, .inl (zI E, 12, .inl (S 73))), some (a 40, .inl (zI E, 12, .inl (S 74))), some (a 41, .inl (zI E, 4, .inl (S 76))), some (a 42, .inl (zI E, 4, .inl (S 77))), some (a 43, .inl (zI E, 4, .inl (S 78))), some (a 44, .inr (2, [.ref (a 45), .ref (a 46), .ref (a 47), .ref (a 48)])), some (a 45, .inl (zI E, 8, .inl (S 80))), some (a 46, .inl (zI E, 8, .inl (S 81))), some (a 47, .inl (zI E, 8, .inl (S 82))), some (a 48, .inl (zI E, 8, .inl (S 83))), some (a 49, .inr (5, [.int (S 96 0), .int (S 97 0), .int (S 98 0), .ref (a 50), .ref (a 51), .ref (a 52), .ref (a 53), .int (S 103 0), .ref (a 54), .ref (a 55), .ref (a 56), .int (S 107 0), .ref (a 57), .ref (a 58), .ref (a 59), .ref (a 60)])), some (a 50, .inl (zI E, 14, .inl (S 99))), some (a 51, .inl (zI E, 14, .inl (S 100))), some (a 52, .inl (zI E, 14, .inl (S 101))), some (a 53, .inl (zI E, 14, .inl (S 102))), some (a 54, .inl (zI E, 12, .inl (S 104))), some (a 55, .inl (zI E, 12, .inl (S 105))), some (a 56, .inl (zI E, 12, .inl (S 106))), some (a 57, .inl (zI E, 4, .inl (S 108))), some (a 58, .inl (zI E, 4, .inl (S 109))), some (a 59, .inl (zI E, 4, .inl (S 110))), some (a 60, .inr (2, [.ref (a 61), .ref (a 62), .ref (a 63), .ref (a 64)])), some (a 61, .inl (zI E, 8, .inl (S 112))), some (a 62, .inl (zI E, 8, .inl (S 113))), some (a 63, .inl (zI E, 8, .inl (S 114))), some (a 64, .inl (zI E, 8, .inl (S 115)))] rfl rfl rfl rfl (by decide +kernel) (by decide +kernel)
set_option maxHeartbeats 4000000 in
theorem wl_X6_twins_3 (E : zEnv) (a : Nat → Nat) (S : St) : ([12, 13, 14, 15, 16] : List Nat).map (fun i => (wEA E a S)[i]?) = (wTally E (fun k => a (12 + k)) (sb 16 S)).map some := rfl
set_option maxHeartbeats 4000000 in
theorem wl_X6_twins_4 (E : zEnv) (a : Nat → Nat) (S U : St) : (wTally E (fun k => a (12 + k)) U).map (fun q => q.1) = (wTally E (fun k => a (12 + k)) S).map (fun q => q.1) := rfl
noncomputable def f_X6_twins (x1 : Int32) (S : St) : Option (Int32 × St) := ((f_X6_isDay x1).bind (fun q1 => (if q1 = 0 then (some ((-1 : Int32), S)) else ((f_X5_tallyOn x1 (sb 0 S)).bind (fun q2 => ((f_X2_twinBits (q2 0 0) (q2 1 0) (sb 16 (pt 0 32 q2 S))).bind (fun q3 => (some (q3, (pt 0 32 q2 S))))))))))
set_option maxHeartbeats 4000000 in
set_option maxRecDepth 100000 in
theorem L_X6_twins {E : zEnv} {Γ : zG} (a : Nat → Nat) (C : zC E Γ cX6_twins RX6 2 rm_X6_twins wsX6_twins) {res : (Int32 × St)} (R : zRi E Γ cX6_twins 2 .int (wEA E a res.2) res.1) (x1 : Int32) (S : St) (h : f_X6_twins x1 S = some res) : Zt E Γ 2 0 0 (wEA E a S) [(0, .ref (a 0)), (1, .int x1)] 0 [] := by
  unfold f_X6_twins at h
  refine z_iload_n C 1 rfl rfl dX6_twins_0 ?_
  obtain ⟨q1, e1, h⟩ := bd_e h
  refine z_callSi C (rest := []) (c_X6_isDay E x1 e1) gX6_twins_X6_isDay rfl rfl rfl 1 rfl (by decide +kernel) ⟨Nat.le_of_ble_eq_true rfl, Nat.le_of_ble_eq_true rfl⟩ [] rfl (by decide) rfl (wEA E a S) rfl (Nat.le_of_ble_eq_true rfl) dX6_twins_1 ⟨Nat.zero_le _, Nat.zero_le _⟩ _ rfl ?_
  refine z_if_ne C 9 (by decide) h dX6_twins_4 (fun hc h => ?_) (fun hc h => ?_)
  · refine z_iconst C (v := (-1 : Int32)) (by decide) dX6_twins_7 ?_
    obtain rfl := Option.some.inj h
    exact R rfl 8 _ dX6_twins_8
  · refine z_aload_n C 0 rfl rfl dX6_twins_9 ?_
    refine z_get C 0 rfl (C := RX6) (T := TX6) (N := 11) (ci := 6) rfl inw_X6_twins_X6 0 (by decide) (ref := "EldestAge") (List.mem_of_getElem? (i := 1) rfl) rfl (v := .ref (a 1)) rfl dX6_twins_10 ?_
    refine z_iload_n C 1 rfl rfl dX6_twins_13 ?_
    obtain ⟨q2, e2, h⟩ := bd_e h
    refine z_callVr C (b := a 1) (As := [.int x1]) (rest := []) (c_X5_tallyOn E (fun k => a (1 + k)) x1 (sb 0 S) e2) rfl gX6_twins_X5_tallyOn rfl rfl rfl 1 rfl (by decide +kernel) ⟨Nat.le_of_ble_eq_true rfl, Nat.le_of_ble_eq_true rfl⟩ [1, 2, 3, 4, 5, 6, 7, 8, 9, 10, 11, 12, 13, 14, 15, 16] (wl_X6_twins_0 E a S) (by decide) (wl_X6_twins_1 E a _ _) (wEA E a (pt 0 32 q2 S)) (wl_X6_twins_2 E a S q2) 0 5 rfl rfl rfl (Nat.le_of_ble_eq_true rfl) dX6_twins_14 ⟨Nat.zero_le _, Nat.zero_le _⟩ _ rfl ?_
    refine z_aload_n C 0 rfl rfl dX6_twins_17 ?_
    refine z_get C 0 rfl (C := RX6) (T := TX6) (N := 11) (ci := 6) rfl inw_X6_twins_X6 0 (by decide) (ref := "EldestAge") (List.mem_of_getElem? (i := 1) rfl) rfl (v := .ref (a 1)) rfl dX6_twins_18 ?_
    refine z_get C 1 rfl (C := RX5) (T := TX5) (N := 16) (ci := 5) rfl inw_X6_twins_X5 0 (by decide) (ref := "EldestAge$Town") (List.mem_of_getElem? (i := 2) rfl) rfl (v := .int (q2 0 0)) rfl dX6_twins_21 ?_
    refine z_aload_n C 0 rfl rfl dX6_twins_24 ?_
    refine z_get C 0 rfl (C := RX6) (T := TX6) (N := 11) (ci := 6) rfl inw_X6_twins_X6 0 (by decide) (ref := "EldestAge") (List.mem_of_getElem? (i := 1) rfl) rfl (v := .ref (a 1)) rfl dX6_twins_25 ?_
    refine z_get C 1 rfl (C := RX5) (T := TX5) (N := 16) (ci := 5) rfl inw_X6_twins_X5 1 (by decide) (ref := "EldestAge$Town") (List.mem_of_getElem? (i := 3) rfl) rfl (v := .int (q2 1 0)) rfl dX6_twins_28 ?_
    obtain ⟨q3, e3, h⟩ := bd_e h
    refine z_callVi C (b := a 12) (As := [.int (q2 0 0), .int (q2 1 0)]) (rest := []) (c_X2_twinBits E (fun k => a (12 + k)) (q2 0 0) (q2 1 0) (sb 16 (pt 0 32 q2 S)) e3) rfl gX6_twins_X2_twinBits rfl rfl rfl 2 rfl (by decide +kernel) ⟨Nat.le_of_ble_eq_true rfl, Nat.le_of_ble_eq_true rfl⟩ [12, 13, 14, 15, 16] (wl_X6_twins_3 E a (pt 0 32 q2 S)) (by decide) rfl (wEA E a (pt 0 32 q2 S)) (zrep_self (wl_X6_twins_3 E a (pt 0 32 q2 S))) 0 2 rfl rfl rfl (Nat.le_of_ble_eq_true rfl) dX6_twins_31 ⟨Nat.zero_le _, Nat.zero_le _⟩ _ rfl ?_
    obtain rfl := Option.some.inj h
    exact R rfl 34 _ dX6_twins_34

theorem c_X6_twins (E : zEnv) (a : Nat → Nat) (x1 : Int32) (S : St) {res : (Int32 × St)} (h : f_X6_twins x1 S = some res) : Kti E yX6_twins wsX6_twins rm_X6_twins (wEA E a S) (wEA E a res.2) [.ref (a 0), .int x1] res.1 :=
  z_enti (cc := cX6_twins) (maxL := 2) (rt := .int) (by decide +kernel) rfl (Nat.le_of_ble_eq_true rfl) (fun Γ C R => L_X6_twins a C R x1 S h)
