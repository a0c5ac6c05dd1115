abbrev rm_X5_nextEvent : Room := { frames := 1, cells := 0, slots := 0, locals := 22 }
theorem inw_X5_nextEvent_X5 : ∀ w ∈ wsX50, w ∈ wsX5_nextEvent := fun _ h => List.mem_cons_of_mem _ (List.mem_append_right _ h)
set_option maxHeartbeats 4000000 in
theorem wl_X5_nextEvent_0 (E : zEnv) (a : Nat → Nat) (S : St) : ([0, 1, 2, 3, 4, 5, 6, 7, 8, 9, 10, 11, 12, 13, 14, 15] : List Nat).map (fun i => (wTown E a S)[i]?) = (wTown E a S).map some := rfl
set_option maxHeartbeats 4000000 in
theorem wl_X5_nextEvent_1 (E : zEnv) (a : Nat → Nat) (S U : St) : (wTown E a U).map (fun q => q.1) = (wTown E a S).map (fun q => q.1) := rfl
noncomputable def f_X5_nextEvent_92 (k5 : Int32 → Int32 → Int32 → St → Option Int32) (x1 : Int32) (x2 : Int32) (x3 : Int32) (S : St) : Option Int32 := (k5 x1 x2 (x3 + (1 : Int32)) S)
noncomputable def f_X5_nextEvent_71 (k5 : Int32 → Int32 → Int32 → St → Option Int32) (x1 : Int32) (x2 : Int32) (x3 : Int32) (S : St) : Option Int32 := (ix x3 14 (if (S 6 (Int32.toNatClampNeg x3)) ≤ x1 then (f_X5_nextEvent_92 k5 x1 x2 x3 S) else (ix x3 14 (f_X5_nextEvent_92 k5 x1 (zmin x2 (S 6 (Int32.toNatClampNeg x3))) x3 S))))
noncomputable def f_X5_nextEvent_51 (k5 : Int32 → Int32 → Int32 → St → Option Int32) (x1 : Int32) (x2 : Int32) (x3 : Int32) (y0 : Int32) (S : St) : Option Int32 := (ix x3 14 (if (S 6 (Int32.toNatClampNeg x3)) ≤ y0 then (f_X5_nextEvent_71 k5 x1 x2 x3 S) else (f_X5_nextEvent_71 k5 x1 (zmin x2 y0) x3 S)))
noncomputable def f_X5_nextEvent_129 (k100 : Int32 → Int32 → Int32 → St → Option Int32) (x1 : Int32) (x2 : Int32) (x3 : Int32) (S : St) : Option Int32 := (k100 x1 x2 (x3 + (1 : Int32)) S)
noncomputable def f_X5_nextEvent_100 (n : Nat) : Int32 → Int32 → Int32 → St → Option Int32 := Nat.rec (motive := fun _ => Int32 → Int32 → Int32 → St → Option Int32) (fun _ _ _ _ => none) (fun _ ih => fun x1 x2 x3 S => (if (S 7 0) ≤ x3 then (some x2) else (ix x3 12 (if (S 8 (Int32.toNatClampNeg x3)) ≤ x1 then (f_X5_nextEvent_129 ih x1 x2 x3 S) else (ix x3 12 (f_X5_nextEvent_129 ih x1 (zmin x2 (S 8 (Int32.toNatClampNeg x3))) x3 S)))))) n
theorem f_X5_nextEvent_100_s (n : Nat) (x1 : Int32) (x2 : Int32) (x3 : Int32) (S : St) : f_X5_nextEvent_100 (n + 1) x1 x2 x3 S = (if (S 7 0) ≤ x3 then (some x2) else (ix x3 12 (if (S 8 (Int32.toNatClampNeg x3)) ≤ x1 then (f_X5_nextEvent_129 (f_X5_nextEvent_100 n) x1 x2 x3 S) else (ix x3 12 (f_X5_nextEvent_129 (f_X5_nextEvent_100 n) x1 (zmin x2 (S 8 (Int32.toNatClampNeg x3))) x3 S))))) := rfl
noncomputable def f_X5_nextEvent_98 (x1 : Int32) (x2 : Int32) (S : St) : Option Int32 := (f_X5_nextEvent_100 1000 x1 x2 (0 : Int32) S)
noncomputable def f_X5_nextEvent_5 (n : Nat) : Int32 → Int32 → Int32 → St → Option Int32 := Nat.rec (motive := fun _ => Int32 → Int32 → Int32 → St → Option Int32) (fun _ _ _ _ => none) (fun _ ih => fun x1 x2 x3 S => (if (S 2 0) ≤ x3 then (f_X5_nextEvent_98 x1 x2 S) else (ix x3 14 (if (S 4 (Int32.toNatClampNeg x3)) ≤ x1 then (ix x3 14 ((f_X5_yearsOf x3 x1 S).bind (fun q1 => (f_X5_nextEvent_51 ih x1 x2 x3 ((S 4 (Int32.toNatClampNeg x3)) + ((q1 + (1 : Int32)) * (360 : Int32))) S)))) else (ix x3 14 (f_X5_nextEvent_51 ih x1 x2 x3 (S 4 (Int32.toNatClampNeg x3)) S)))))) n
theorem f_X5_nextEvent_5_s (n : Nat) (x1 : Int32) (x2 : Int32) (x3 : Int32) (S : St) : f_X5_nextEvent_5 (n + 1) x1 x2 x3 S = (if (S 2 0) ≤ x3 then (f_X5_nextEvent_98 x1 x2 S) else (ix x3 14 (if (S 4 (Int32.toNatClampNeg x3)) ≤ x1 then (ix x3 14 ((f_X5_yearsOf x3 x1 S).bind (fun q1 => (f_X5_nextEvent_51 (f_X5_nextEvent_5 n) x1 x2 x3 ((S 4 (Int32.toNatClampNeg x3)) + ((q1 + (1 : Int32)) * (360 : Int32))) S)))) else (ix x3 14 (f_X5_nextEvent_51 (f_X5_nextEvent_5 n) x1 x2 x3 (S 4 (Int32.toNatClampNeg x3)) S))))) := rfl
noncomputable def f_X5_nextEvent (x1 : Int32) (S : St) : Option Int32 := (f_X5_nextEvent_5 1000 x1 (36000 : Int32) (0 : Int32) S)
set_option maxHeartbeats 4000000 in
set_option maxRecDepth 100000 in
theorem L_X5_nextEvent_92 {E : zEnv} {Γ : zG} (a : Nat → Nat) (C : zC E Γ cX5_nextEvent RX5 5 rm_X5_nextEvent wsX5_nextEvent) {res : Int32} {S : St} (R : zRi E Γ cX5_nextEvent 5 .int (wTown E a S) res) (k5 : Int32 → Int32 → Int32 → St → Option Int32) (hk5 : ∀ (x1 : Int32) (x2 : Int32) (x3 : Int32), k5 x1 x2 x3 S = some res → Zt E Γ 5 0 0 (wTown E a S) [(0, .ref (a 0)), (1, .int x1), (2, .int x2), (3, .int x3)] 5 []) (x1 : Int32) (x2 : Int32) (x3 : Int32) (h : f_X5_nextEvent_92 k5 x1 x2 x3 S = some res) : Zt E Γ 5 0 0 (wTown E a S) [(0, .ref (a 0)), (1, .int x1), (2, .int x2), (3, .int x3)] 92 [] := by
  unfold f_X5_nextEvent_92 at h
  refine z_iinc C [(3, .int (x3 + (1 : Int32))), (0, .ref (a 0)), (1, .int x1), (2, .int x2)] 3 rfl (by first | rfl | decide) (by decide) rfl dX5_nextEvent_92 ?_
  refine z_goto C 5 (by decide) dX5_nextEvent_95 ?_
  refine Zt_l [(0, .ref (a 0)), (1, .int x1), (2, .int x2), (3, .int (x3 + (1 : Int32)))] [1, 2, 3, 0] rfl ?_
  exact hk5 x1 x2 (x3 + (1 : Int32)) h

set_option maxHeartbeats 4000000 in
set_option maxRecDepth 100000 in
theorem L_X5_nextEvent_71 {E : zEnv} {Γ : zG} (a : Nat → Nat) (C : zC E Γ cX5_nextEvent RX5 5 rm_X5_nextEvent wsX5_nextEvent) {res : Int32} {S : St} (R : zRi E Γ cX5_nextEvent 5 .int (wTown E a S) res) (k5 : Int32 → Int32 → Int32 → St → Option Int32) (hk5 : ∀ (x1 : Int32) (x2 : Int32) (x3 : Int32), k5 x1 x2 x3 S = some res → Zt E Γ 5 0 0 (wTown E a S) [(0, .ref (a 0)), (1, .int x1), (2, .int x2), (3, .int x3)] 5 []) (x1 : Int32) (x2 : Int32) (x3 : Int32) (h : f_X5_nextEvent_71 k5 x1 x2 x3 S = some res) : Zt E Γ 5 0 0 (wTown E a S) [(0, .ref (a 0)), (1, .int x1), (2, .int x2), (3, .int x3)] 71 [] := by
  unfold f_X5_nextEvent_71 at h
  refine z_aload_n C 0 rfl rfl dX5_nextEvent_71 ?_
  refine z_get C 0 rfl (C := RX5) (T := TX5) (N := 16) (ci := 5) rfl inw_X5_nextEvent_X5 6 (by decide) (ref := "EldestAge$Town") (List.mem_of_getElem? (i := 4) rfl) rfl (v := .ref (a 4)) rfl dX5_nextEvent_72 ?_
  refine z_iload_n C 3 rfl rfl dX5_nextEvent_75 ?_
  refine z_iald C (N := 14) (f := (S 6)) 4 rfl h dX5_nextEvent_76 (fun h => ?_)
  refine z_iload_n C 1 rfl rfl dX5_nextEvent_77 ?_
  refine z_icmp_le C 92 (by decide) h dX5_nextEvent_78 (fun hc h => ?_) (fun hc h => ?_)
  · exact L_X5_nextEvent_92 a C R k5 hk5 x1 x2 x3 h
  · refine z_iload_n C 2 rfl rfl dX5_nextEvent_81 ?_
    refine z_aload_n C 0 rfl rfl dX5_nextEvent_82 ?_
    refine z_get C 0 rfl (C := RX5) (T := TX5) (N := 16) (ci := 5) rfl inw_X5_nextEvent_X5 6 (by decide) (ref := "EldestAge$Town") (List.mem_of_getElem? (i := 4) rfl) rfl (v := .ref (a 4)) rfl dX5_nextEvent_83 ?_
    refine z_iload_n C 3 rfl rfl dX5_nextEvent_86 ?_
    refine z_iald C (N := 14) (f := (S 6)) 4 rfl h dX5_nextEvent_87 (fun h => ?_)
    refine z_min C (List.mem_of_getElem? (i := 5) rfl) (List.mem_of_getElem? (i := 6) rfl) (List.mem_of_getElem? (i := 7) rfl) (List.mem_of_getElem? (i := 8) rfl) (Nat.le_of_ble_eq_true rfl) (Nat.le_of_ble_eq_true rfl) (Nat.zero_le _) (Nat.zero_le _) dX5_nextEvent_88 ?_
    refine z_istore_n C [(2, .int (zmin x2 (S 6 (Int32.toNatClampNeg x3)))), (0, .ref (a 0)), (1, .int x1), (3, .int x3)] rfl (by decide) rfl dX5_nextEvent_91 ?_
    refine Zt_l [(0, .ref (a 0)), (1, .int x1), (2, .int (zmin x2 (S 6 (Int32.toNatClampNeg x3)))), (3, .int x3)] [1, 2, 0, 3] rfl ?_
    exact L_X5_nextEvent_92 a C R k5 hk5 x1 (zmin x2 (S 6 (Int32.toNatClampNeg x3))) x3 h

set_option maxHeartbeats 4000000 in
set_option maxRecDepth 100000 in
theorem L_X5_nextEvent_51 {E : zEnv} {Γ : zG} (a : Nat → Nat) (C : zC E Γ cX5_nextEvent RX5 5 rm_X5_nextEvent wsX5_nextEvent) {res : Int32} {S : St} (R : zRi E Γ cX5_nextEvent 5 .int (wTown E a S) res) (k5 : Int32 → Int32 → Int32 → St → Option Int32) (hk5 : ∀ (x1 : Int32) (x2 : Int32) (x3 : Int32), k5 x1 x2 x3 S = some res → Zt E Γ 5 0 0 (wTown E a S) [(0, .ref (a 0)), (1, .int x1), (2, .int x2), (3, .int x3)] 5 []) (x1 : Int32) (x2 : Int32) (x3 : Int32) (y0 : Int32) (h : f_X5_nextEvent_51 k5 x1 x2 x3 y0 S = some res) : Zt E Γ 5 0 0 (wTown E a S) [(0, .ref (a 0)), (1, .int x1), (2, .int x2), (3, .int x3)] 51 [.int y0] := by
  unfold f_X5_nextEvent_51 at h
  refine z_istore C [(4, .int y0), (0, .ref (a 0)), (1, .int x1), (2, .int x2), (3, .int x3)] (by decide) rfl dX5_nextEvent_51 ?_
  refine z_iload C 0 rfl dX5_nextEvent_53 ?_
  refine z_aload_n C 1 rfl rfl dX5_nextEvent_55 ?_
  refine z_get C 0 rfl (C := RX5) (T := TX5) (N := 16) (ci := 5) rfl inw_X5_nextEvent_X5 6 (by decide) (ref := "EldestAge$Town") (List.mem_of_getElem? (i := 4) rfl) rfl (v := .ref (a 4)) rfl dX5_nextEvent_56 ?_
  refine z_iload_n C 4 rfl rfl dX5_nextEvent_59 ?_
  refine z_iald C (N := 14) (f := (S 6)) 4 rfl h dX5_nextEvent_60 (fun h => ?_)
  refine z_icmp_ge C 71 (by decide) h dX5_nextEvent_61 (fun hc h => ?_) (fun hc h => ?_)
  · refine Zt_l [(0, .ref (a 0)), (1, .int x1), (2, .int x2), (3, .int x3)] [1, 2, 3, 4] rfl ?_
    exact L_X5_nextEvent_71 a C R k5 hk5 x1 x2 x3 h
  · refine z_iload_n C 3 rfl rfl dX5_nextEvent_64 ?_
    refine z_iload C 0 rfl dX5_nextEvent_65 ?_
    refine z_min C (List.mem_of_getElem? (i := 5) rfl) (List.mem_of_getElem? (i := 6) rfl) (List.mem_of_getElem? (i := 7) rfl) (List.mem_of_getElem? (i := 8) rfl) (Nat.le_of_ble_eq_true rfl) (Nat.le_of_ble_eq_true rfl) (Nat.zero_le _) (Nat.zero_le _) dX5_nextEvent_67 ?_
    refine z_istore_n C [(2, .int (zmin x2 y0)), (4, .int y0), (0, .ref (a 0)), (1, .int x1), (3, .int x3)] rfl (by decide) rfl dX5_nextEvent_70 ?_
    refine Zt_l [(0, .ref (a 0)), (1, .int x1), (2, .int (zmin x2 y0)), (3, .int x3)] [2, 3, 0, 4] rfl ?_
    exact L_X5_nextEvent_71 a C R k5 hk5 x1 (zmin x2 y0) x3 h

set_option maxHeartbeats 4000000 in
set_option maxRecDepth 100000 in
theorem L_X5_nextEvent_129 {E : zEnv} {Γ : zG} (a : Nat → Nat) (C : zC E Γ cX5_nextEvent RX5 5 rm_X5_nextEvent wsX5_nextEvent) {res : Int32} {S : St} (R : zRi E Γ cX5_nextEvent 5 .int (wTown E a S) res) (k100 : Int32 → Int32 → Int32 → St → Option Int32) (hk100 : ∀ (x1 : Int32) (x2 : Int32) (x3 : Int32), k100 x1 x2 x3 S = some res → Zt E Γ 5 0 0 (wTown E a S) [(0, .ref (a 0)), (1, .int x1), (2, .int x2), (3, .int x3)] 100 []) (x1 : Int32) (x2 : Int32) (x3 : Int32) (h : f_X5_nextEvent_129 k100 x1 x2 x3 S = some res) : Zt E Γ 5 0 0 (wTown E a S) [(0, .ref (a 0)), (1, .int x1), (2, .int x2), (3, .int x3)] 129 [] := by
  unfold f_X5_nextEvent_129 at h
  refine z_iinc C [(3, .int (x3 + (1 : Int32))), (0, .ref (a 0)), (1, .int x1), (2, .int x2)] 3 rfl (by first | rfl | decide) (by decide) rfl dX5_nextEvent_129 ?_
  refine z_goto C 100 (by decide) dX5_nextEvent_132 ?_
  refine Zt_l [(0, .ref (a 0)), (1, .int x1), (2, .int x2), (3, .int (x3 + (1 : Int32)))] [1, 2, 3, 0] rfl ?_
  exact hk100 x1 x2 (x3 + (1 : Int32)) h

set_option maxHeartbeats 4000000 in
set_option maxRecDepth 100000 in
theorem L_X5_nextEvent_100 {E : zEnv} {Γ : zG} (a : Nat → Nat) (C : zC E Γ cX5_nextEvent RX5 5 rm_X5_nextEvent wsX5_nextEvent) {res : Int32} {S : St} (R : zRi E Γ cX5_nextEvent 5 .int (wTown E a S) res) : ∀ (n : Nat) (x1 : Int32) (x2 : Int32) (x3 : Int32), f_X5_nextEvent_100 n x1 x2 x3 S = some res → Zt E Γ 5 0 0 (wTown E a S) [(0, .ref (a 0)), (1, .int x1), (2, .int x2), (3, .int x3)] 100 [] := by
  intro n
  induction n with
  | zero =>
    intro x1 x2 x3 h
    cases h
  | succ n ih =>
    intro x1 x2 x3 h
    rw [f_X5_nextEvent_100_s] at h
    refine z_iload_n C 3 rfl rfl dX5_nextEvent_100 ?_
    refine z_aload_n C 0 rfl rfl dX5_nextEvent_101 ?_
    refine z_get C 0 rfl (C := RX5) (T := TX5) (N := 16) (ci := 5) rfl inw_X5_nextEvent_X5 7 (by decide) (ref := "EldestAge$Town") (List.mem_of_getElem? (i := 9) rfl) rfl (v := .int (S 7 0)) rfl dX5_nextEvent_102 ?_
    refine z_icmp_ge C 135 (by decide) h dX5_nextEvent_105 (fun hc h => ?_) (fun hc h => ?_)
    · refine z_iload_n C 2 rfl rfl dX5_nextEvent_135 ?_
      obtain rfl := Option.some.inj h
      exact R rfl 136 _ dX5_nextEvent_136
    · refine z_aload_n C 0 rfl rfl dX5_nextEvent_108 ?_
      refine z_get C 0 rfl (C := RX5) (T := TX5) (N := 16) (ci := 5) rfl inw_X5_nextEvent_X5 8 (by decide) (ref := "EldestAge$Town") (List.mem_of_getElem? (i := 10) rfl) rfl (v := .ref (a 5)) rfl dX5_nextEvent_109 ?_
      refine z_iload_n C 3 rfl rfl dX5_nextEvent_112 ?_
      refine z_iald C (N := 12) (f := (S 8)) 5 rfl h dX5_nextEvent_113 (fun h => ?_)
      refine z_iload_n C 1 rfl rfl dX5_nextEvent_114 ?_
      refine z_icmp_le C 129 (by decide) h dX5_nextEvent_115 (fun hc h => ?_) (fun hc h => ?_)
      · exact L_X5_nextEvent_129 a C R _ ih x1 x2 x3 h
      · refine z_iload_n C 2 rfl rfl dX5_nextEvent_118 ?_
        refine z_aload_n C 0 rfl rfl dX5_nextEvent_119 ?_
        refine z_get C 0 rfl (C := RX5) (T := TX5) (N := 16) (ci := 5) rfl inw_X5_nextEvent_X5 8 (by decide) (ref := "EldestAge$Town") (List.mem_of_getElem? (i := 10) rfl) rfl (v := .ref (a 5)) rfl dX5_nextEvent_120 ?_
        refine z_iload_n C 3 rfl rfl dX5_nextEvent_123 ?_
        refine z_iald C (N := 12) (f := (S 8)) 5 rfl h dX5_nextEvent_124 (fun h => ?_)
        refine z_min C (List.mem_of_getElem? (i := 5) rfl) (List.mem_of_getElem? (i := 6) rfl) (List.mem_of_getElem? (i := 7) rfl) (List.mem_of_getElem? (i := 8) rfl) (Nat.le_of_ble_eq_true rfl) (Nat.le_of_ble_eq_true rfl) (Nat.zero_le _) (Nat.zero_le _) dX5_nextEvent_125 ?_
        refine z_istore_n C [(2, .int (zmin x2 (S 8 (Int32.toNatClampNeg x3)))), (0, .ref (a 0)), (1, .int x1), (3, .int x3)] rfl (by decide) rfl dX5_nextEvent_128 ?_
        refine Zt_l [(0, .ref (a 0)), (1, .int x1), (2, .int (zmin x2 (S 8 (Int32.toNatClampNeg x3)))), (3, .int x3)] [1, 2, 0, 3] rfl ?_
        exact L_X5_nextEvent_129 a C R _ ih x1 (zmin x2 (S 8 (Int32.toNatClampNeg x3))) x3 h

set_option maxHeartbeats 4000000 in
set_option maxRecDepth 100000 in
theorem L_X5_nextEvent_98 {E : zEnv} {Γ : zG} (a : Nat → Nat) (C : zC E Γ cX5_nextEvent RX5 5 rm_X5_nextEvent wsX5_nextEvent) {res : Int32} {S : St} (R : zRi E Γ cX5_nextEvent 5 .int (wTown E a S) res) (x1 : Int32) (x2 : Int32) (h : f_X5_nextEvent_98 x1 x2 S = some res) : Zt E Γ 5 0 0 (wTown E a S) [(0, .ref (a 0)), (1, .int x1), (2, .int x2)] 98 [] := by
  unfold f_X5_nextEvent_98 at h
  refine z_iconst C (v := (0 : Int32)) (by decide) dX5_nextEvent_98 ?_
  refine z_istore_n C [(3, .int (0 : Int32)), (0, .ref (a 0)), (1, .int x1), (2, .int x2)] rfl (by decide) rfl dX5_nextEvent_99 ?_
  refine Zt_l [(0, .ref (a 0)), (1, .int x1), (2, .int x2), (3, .int (0 : Int32))] [1, 2, 3, 0] rfl ?_
  exact L_X5_nextEvent_100 a C R 1000 x1 x2 (0 : Int32) h

set_option maxHeartbeats 4000000 in
set_option maxRecDepth 100000 in
theorem L_X5_nextEvent_5 {E : zEnv} {Γ : zG} (a : Nat → Nat) (C : zC E Γ cX5_nextEvent RX5 5 rm_X5_nextEvent wsX5_nextEvent) {res : Int32} {S : St} (R : zRi E Γ cX5_nextEvent 5 .int (wTown E a S) res) : ∀ (n : Nat) (x1 : Int32) (x2 : Int32) (x3 : Int32), f_X5_nextEvent_5 n x1 x2 x3 S = some res → Zt E Γ 5 0 0 (wTown E a S) [(0, .ref (a 0)), (1, .int x1), (2, .int x2), (3, .int x3)] 5 [] := by
  intro n
  induction n with
  | zero =>
    intro x1 x2 x3 h
    cases h
  | succ n ih =>
    intro x1 x2 x3 h
    rw [f_X5_nextEvent_5_s] at h
    refine z_iload_n C 3 rfl rfl dX5_nextEvent_5 ?_
    refine z_aload_n C 0 rfl rfl dX5_nextEvent_6 ?_
    refine z_get C 0 rfl (C := RX5) (T := TX5) (N := 16) (ci := 5) rfl inw_X5_nextEvent_X5 2 (by decide) (ref := "EldestAge$Town") (List.mem_of_getElem? (i := 2) rfl) rfl (v := .int (S 2 0)) rfl dX5_nextEvent_7 ?_
    refine z_icmp_ge C 98 (by decide) h dX5_nextEvent_10 (fun hc h => ?_) (fun hc h => ?_)
    · refine Zt_l [(0, .ref (a 0)), (1, .int x1), (2, .int x2)] [0, 1, 2] rfl ?_
      exact L_X5_nextEvent_98 a C R x1 x2 h
    · refine z_iload_n C 1 rfl rfl dX5_nextEvent_13 ?_
      refine z_aload_n C 0 rfl rfl dX5_nextEvent_14 ?_
      refine z_get C 0 rfl (C := RX5) (T := TX5) (N := 16) (ci := 5) rfl inw_X5_nextEvent_X5 4 (by decide) (ref := "EldestAge$Town") (List.mem_of_getElem? (i := 3) rfl) rfl (v := .ref (a 2)) rfl dX5_nextEvent_15 ?_
      refine z_iload_n C 3 rfl rfl dX5_nextEvent_18 ?_
      refine z_iald C (N := 14) (f := (S 4)) 2 rfl h dX5_nextEvent_19 (fun h => ?_)
      refine z_icmp_ge C 32 (by decide) h dX5_nextEvent_20 (fun hc h => ?_) (fun hc h => ?_)
      · refine z_aload_n C 0 rfl rfl dX5_nextEvent_32 ?_
        refine z_get C 0 rfl (C := RX5) (T := TX5) (N := 16) (ci := 5) rfl inw_X5_nextEvent_X5 4 (by decide) (ref := "EldestAge$Town") (List.mem_of_getElem? (i := 3) rfl) rfl (v := .ref (a 2)) rfl dX5_nextEvent_33 ?_
        refine z_iload_n C 3 rfl rfl dX5_nextEvent_36 ?_
        refine z_iald C (N := 14) (f := (S 4)) 2 rfl h dX5_nextEvent_37 (fun h => ?_)
        refine z_aload_n C 0 rfl rfl dX5_nextEvent_38 ?_
        refine z_iload_n C 3 rfl rfl dX5_nextEvent_39 ?_
        refine z_iload_n C 1 rfl rfl dX5_nextEvent_40 ?_
        obtain ⟨q1, e1, h⟩ := bd_e h
        refine z_callVi C (b := a 0) (As := [.int x3, .int x1]) (rest := [.int (S 4 (Int32.toNatClampNeg x3))]) (c_X5_yearsOf E a x3 x1 S e1) rfl gX5_nextEvent_X5_yearsOf rfl rfl rfl 2 rfl (by decide +kernel) ⟨Nat.le_of_ble_eq_true rfl, Nat.le_of_ble_eq_true rfl⟩ [0, 1, 2, 3, 4, 5, 6, 7, 8, 9, 10, 11, 12, 13, 14, 15] (wl_X5_nextEvent_0 E a S) (by decide) rfl (wTown E a S) (zrep_self (wl_X5_nextEvent_0 E a S)) 0 5 rfl rfl rfl (Nat.le_of_ble_eq_true rfl) dX5_nextEvent_41 ⟨Nat.zero_le _, Nat.zero_le _⟩ _ rfl ?_
        refine z_iconst C (v := (1 : Int32)) (by decide) dX5_nextEvent_44 ?_
        refine z_iadd C dX5_nextEvent_45 ?_
        refine z_sipush C (v := (360 : Int32)) (by decide) dX5_nextEvent_46 ?_
        refine z_imul C dX5_nextEvent_49 ?_
        refine z_iadd C dX5_nextEvent_50 ?_
        exact L_X5_nextEvent_51 a C R _ ih x1 x2 x3 ((S 4 (Int32.toNatClampNeg x3)) + ((q1 + (1 : Int32)) * (360 : Int32))) h
      · refine z_aload_n C 0 rfl rfl dX5_nextEvent_23 ?_
        refine z_get C 0 rfl (C := RX5) (T := TX5) (N := 16) (ci := 5) rfl inw_X5_nextEvent_X5 4 (by decide) (ref := "EldestAge$Town") (List.mem_of_getElem? (i := 3) rfl) rfl (v := .ref (a 2)) rfl dX5_nextEvent_24 ?_
        refine z_iload_n C 3 rfl rfl dX5_nextEvent_27 ?_
        refine z_iald C (N := 14) (f := (S 4)) 2 rfl h dX5_nextEvent_28 (fun h => ?_)
        refine z_goto C 51 (by decide) dX5_nextEvent_29 ?_
        exact L_X5_nextEvent_51 a C R _ ih x1 x2 x3 (S 4 (Int32.toNatClampNeg x3)) h

set_option maxHeartbeats 4000000 in
set_option maxRecDepth 100000 in
theorem L_X5_nextEvent {E : zEnv} {Γ : zG} (a : Nat → Nat) (C : zC E Γ cX5_nextEvent RX5 5 rm_X5_nextEvent wsX5_nextEvent) {res : Int32} {S : St} (R : zRi E Γ cX5_nextEvent 5 .int (wTown E a S) res) (x1 : Int32) (h : f_X5_nextEvent x1 S = some res) : Zt E Γ 5 0 0 (wTown E a S) [(0, .ref (a 0)), (1, .int x1)] 0 [] := by
  unfold f_X5_nextEvent at h
  refine z_ldc C (v := (36000 : Int32)) (List.mem_of_getElem? (i := 1) rfl) dX5_nextEvent_0 ?_
  refine z_istore_n C [(2, .int (36000 : Int32)), (0, .ref (a 0)), (1, .int x1)] rfl (by decide) rfl dX5_nextEvent_2 ?_
  refine z_iconst C (v := (0 : Int32)) (by decide) dX5_nextEvent_3 ?_
  refine z_istore_n C [(3, .int (0 : Int32)), (2, .int (36000 : Int32)), (0, .ref (a 0)), (1, .int x1)] rfl (by decide) rfl dX5_nextEvent_4 ?_
  refine Zt_l [(0, .ref (a 0)), (1, .int x1), (2, .int (36000 : Int32)), (3, .int (0 : Int32))] [2, 3, 1, 0] rfl ?_
  exact L_X5_nextEvent_5 a C R 1000 x1 (36000 : Int32) (0 : Int32) h

theorem c_X5_nextEvent (E : zEnv) (a : Nat → Nat) (x1 : Int32) (S : St) {res : Int32} (h : f_X5_nextEvent x1 S = some res) : Kti E yX5_nextEvent wsX5_nextEvent rm_X5_nextEvent (wTown E a S) (wTown E a S) [.ref (a 0), .int x1] res :=
  z_enti (cc := cX5_nextEvent) (maxL := 5) (rt := .int) (by decide +kernel) rfl (Nat.le_of_ble_eq_true rfl) (fun Γ C R => L_X5_nextEvent a C R x1 h)

abbrev rm_X5_passYearEnd : Room := { frames := 1, cells := 0, slots := 0, locals := 22 }
theorem inw_X5_passYearEnd_X5 : ∀ w ∈ wsX50, w ∈ wsX5_passYearEnd := fun _ h => List.mem_cons_of_mem _ (List.mem_append_right _ h)
set_option maxHeartbeats 4000000 in
theorem wl_X5_passYearEnd_0 (E : zEnv) (a : Nat → Nat) (S : St) : ([0, 1, 2, 3, 4, 5, 6, 7, 8, 9, 10, 11, 12, 13, 14, 15] : List Nat).map (fun i => (wTown E a S)[i]?) = (wTown E a S).map some := rfl
set_option maxHeartbeats 4000000 in
theorem wl_X5_passYearEnd_1 (E : zEnv) (a : Nat → Nat) (S U : St) : (wTown E a U).map (fun q => q.1) = (wTown E a S).map (fun q => q.1) := rfl
set_option maxHeartbeats 4000000 in
theorem wl_X5_passYearEnd_2 (E : zEnv) (a : Nat → Nat) (S : St) (f : Nat → Int32) : (wTown E a (st 6 f S)) = (wTown E a S).set 4 (a 4, .inl (zI E, 14, .inl f)) := rfl
noncomputable def f_X5_passYearEnd_62 (k5 : Int32 → Int32 → Int32 → St → Option (Int32 × St)) (x1 : Int32) (x3 : Int32) (x4 : Int32) (S : St) : Option (Int32 × St) := (k5 x1 x3 (x4 + (1 : Int32)) S)
noncomputable def f_X5_passYearEnd_5 (n : Nat) : Int32 → Int32 → Int32 → St → Option (Int32 × St) := Nat.rec (motive := fun _ => Int32 → Int32 → Int32 → St → Option (Int32 × St)) (fun _ _ _ _ => none) (fun _ ih => fun x1 x3 x4 S => (if (S 2 0) ≤ x4 then (some (x3, S)) else ((f_X5_isAlive x4 x1 S).bind (fun q1 => (if q1 = 0 then (f_X5_passYearEnd_62 ih x1 x3 x4 S) else ((f_X5_yearsOf x4 x1 S).bind (fun q2 => (if q2 ≤ (zrem ((zushr ((x3 * (1103515245 : Int32)) + (12345 : Int32)) (16 : Int32)) &&& (32767 : Int32)) (100 : Int32)) then (f_X5_passYearEnd_62 ih x1 ((x3 * (1103515245 : Int32)) + (12345 : Int32)) x4 S) else (ix x4 14 (f_X5_passYearEnd_62 ih x1 ((x3 * (1103515245 : Int32)) + (12345 : Int32)) x4 (st 6 (upd (S 6) (Int32.toNatClampNeg x4) x1) S))))))))))) n
theorem f_X5_passYearEnd_5_s (n : Nat) (x1 : Int32) (x3 : Int32) (x4 : Int32) (S : St) : f_X5_passYearEnd_5 (n + 1) x1 x3 x4 S = (if (S 2 0) ≤ x4 then (some (x3, S)) else ((f_X5_isAlive x4 x1 S).bind (fun q1 => (if q1 = 0 then (f_X5_passYearEnd_62 (f_X5_passYearEnd_5 n) x1 x3 x4 S) else ((f_X5_yearsOf x4 x1 S).bind (fun q2 => (if q2 ≤ (zrem ((zushr ((x3 * (1103515245 : Int32)) + (12345 : Int32)) (16 : Int32)) &&& (32767 : Int32)) (100 : Int32)) then (f_X5_passYearEnd_62 (f_X5_passYearEnd_5 n) x1 ((x3 * (1103515245 : Int32)) + (12345 : Int32)) x4 S) else (ix x4 14 (f_X5_passYearEnd_62 (f_X5_passYearEnd_5 n) x1 ((x3 * (1103515245 : Int32)) + (12345 : Int32)) x4 (st 6 (upd (S 6) (Int32.toNatClampNeg x4) x1) S)))))))))) := rfl
noncomputable def f_X5_passYearEnd (x1 : Int32) (x2 : Int32) (S : St) : Option (Int32 × St) := (f_X5_passYearEnd_5 1000 x1 x2 (0 : Int32) S)
set_option maxHeartbeats 4000000 in
set_option maxRecDepth 100000 in
theorem L_X5_passYearEnd_62 {E : zEnv} {Γ : zG} (a : Nat → Nat) (C : zC E Γ cX5_passYearEnd RX5 5 rm_X5_passYearEnd wsX5_passYearEnd) {res : (Int32 × St)} (R : zRi E Γ cX5_passYearEnd 5 .int (wTown E a res.2) res.1) (k5 : Int32 → Int32 → Int32 → St → Option (Int32 × St)) (hk5 : ∀ (x1 : Int32) (x3 : Int32) (x4 : Int32) (S : St), k5 x1 x3 x4 S = some res → Zt E Γ 5 0 0 (wTown E a S) [(0, .ref (a 0)), (1, .int x1), (3, .int x3), (4, .int x4)] 5 []) (x1 : Int32) (x3 : Int32) (x4 : Int32) (S : St) (h : f_X5_passYearEnd_62 k5 x1 x3 x4 S = some res) : Zt E Γ 5 0 0 (wTown E a S) [(0, .ref (a 0)), (1, .int x1), (3, .int x3), (4, .int x4)] 62 [] := by
  unfold f_X5_passYearEnd_62 at h
  refine z_iinc C [(4, .int (x4 + (1 : Int32))), (0, .ref (a 0)), (1, .int x1), (3, .int x3)] 3 rfl (by first | rfl | decide) (by decide) rfl dX5_passYearEnd_62 ?_
  refine z_goto C 5 (by decide) dX5_passYearEnd_65 ?_
  refine Zt_l [(0, .ref (a 0)), (1, .int x1), (3, .int x3), (4, .int (x4 + (1 : Int32)))] [1, 2, 3, 0] rfl ?_
  exact hk5 x1 x3 (x4 + (1 : Int32)) S h

set_option maxHeartbeats 4000000 in
set_option maxRecDepth 100000 in
theorem L_X5_passYearEnd_5 {E : zEnv} {Γ : zG} (a : Nat → Nat) (C : zC E Γ cX5_passYearEnd RX5 5 rm_X5_passYearEnd wsX5_passYearEnd) {res : (Int32 × St)} (R : zRi E Γ cX5_passYearEnd 5 .int (wTown E a res.2) res.1) : ∀ (n : Nat) (x1 : Int32) (x3 : Int32) (x4 : Int32) (S : St), f_X5_passYearEnd_5 n x1 x3 x4 S = some res → Zt E Γ 5 0 0 (wTown E a S) [(0, .ref (a 0)), (1, .int x1), (3, .int x3), (4, .int x4)] 5 [] := by
  intro n
  induction n with
  | zero =>
    intro x1 x3 x4 S h
    cases h
  | succ n ih =>
    intro x1 x3 x4 S h
    rw [f_X5_passYearEnd_5_s] at h
    refine z_iload C 3 rfl dX5_passYearEnd_5 ?_
    refine z_aload_n C 0 rfl rfl dX5_passYearEnd_7 ?_
    refine z_get C 0 rfl (C := RX5) (T := TX5) (N := 16) (ci := 5) rfl inw_X5_passYearEnd_X5 2 (by decide) (ref := "EldestAge$Town") (List.mem_of_getElem? (i := 1) rfl) rfl (v := .int (S 2 0)) rfl dX5_passYearEnd_8 ?_
    refine z_icmp_ge C 68 (by decide) h dX5_passYearEnd_11 (fun hc h => ?_) (fun hc h => ?_)
    · refine z_iload_n C 2 rfl rfl dX5_passYearEnd_68 ?_
      obtain rfl := Option.some.inj h
      exact R rfl 69 _ dX5_passYearEnd_69
    · refine z_aload_n C 0 rfl rfl dX5_passYearEnd_14 ?_
      refine z_iload C 3 rfl dX5_passYearEnd_15 ?_
      refine z_iload_n C 1 rfl rfl dX5_passYearEnd_17 ?_
      obtain ⟨q1, e1, h⟩ := bd_e h
      refine z_callVi C (b := a 0) (As := [.int x4, .int x1]) (rest := []) (c_X5_isAlive E a x4 x1 S e1) rfl gX5_passYearEnd_X5_isAlive rfl rfl rfl 2 rfl (by decide +kernel) ⟨Nat.le_of_ble_eq_true rfl, Nat.le_of_ble_eq_true rfl⟩ [0, 1, 2, 3, 4, 5, 6, 7, 8, 9, 10, 11, 12, 13, 14, 15] (wl_X5_passYearEnd_0 E a S) (by decide) rfl (wTown E a S) (zrep_self (wl_X5_passYearEnd_0 E a S)) 0 5 rfl rfl rfl (Nat.le_of_ble_eq_true rfl) dX5_passYearEnd_18 ⟨Nat.zero_le _, Nat.zero_le _⟩ _ rfl ?_
      refine z_if_eq C 62 (by decide) h dX5_passYearEnd_21 (fun hc h => ?_) (fun hc h => ?_)
      · exact L_X5_passYearEnd_62 a C R _ ih x1 x3 x4 S h
      · refine z_iload_n C 2 rfl rfl dX5_passYearEnd_24 ?_
        refine z_ldc C (v := (1103515245 : Int32)) (List.mem_of_getElem? (i := 2) rfl) dX5_passYearEnd_25 ?_
        refine z_imul C dX5_passYearEnd_27 ?_
        refine z_sipush C (v := (12345 : Int32)) (by decide) dX5_passYearEnd_28 ?_
        refine z_iadd C dX5_passYearEnd_31 ?_
        refine z_istore_n C [(3, .int ((x3 * (1103515245 : Int32)) + (12345 : Int32))), (0, .ref (a 0)), (1, .int x1), (4, .int x4)] rfl (by decide) rfl dX5_passYearEnd_32 ?_
        refine z_iload_n C 0 rfl rfl dX5_passYearEnd_33 ?_
        refine z_bipush C (v := (16 : Int32)) (by decide) dX5_passYearEnd_34 ?_
        refine z_iushr C dX5_passYearEnd_36 ?_
        refine z_sipush C (v := (32767 : Int32)) (by decide) dX5_passYearEnd_37 ?_
        refine z_iand C dX5_passYearEnd_40 ?_
        refine z_bipush C (v := (100 : Int32)) (by decide) dX5_passYearEnd_41 ?_
        refine z_irem C (by decide) dX5_passYearEnd_43 ?_
        refine z_aload_n C 1 rfl rfl dX5_passYearEnd_44 ?_
        refine z_iload C 3 rfl dX5_passYearEnd_45 ?_
        refine z_iload_n C 2 rfl rfl dX5_passYearEnd_47 ?_
        obtain ⟨q2, e2, h⟩ := bd_e h
        refine z_callVi C (b := a 0) (As := [.int x4, .int x1]) (rest := [.int (zrem ((zushr ((x3 * (1103515245 : Int32)) + (12345 : Int32)) (16 : Int32)) &&& (32767 : Int32)) (100 : Int32))]) (c_X5_yearsOf E a x4 x1 S e2) rfl gX5_passYearEnd_X5_yearsOf rfl rfl rfl 2 rfl (by decide +kernel) ⟨Nat.le_of_ble_eq_true rfl, Nat.le_of_ble_eq_true rfl⟩ [0, 1, 2, 3, 4, 5, 6, 7, 8, 9, 10, 11, 12, 13, 14, 15] (wl_X5_passYearEnd_0 E a S) (by decide) rfl (wTown E a S) (zrep_self (wl_X5_passYearEnd_0 E a S)) 0 5 rfl rfl rfl (Nat.le_of_ble_eq_true rfl) dX5_passYearEnd_48 ⟨Nat.zero_le _, Nat.zero_le _⟩ _ rfl ?_
        refine z_icmp_ge C 62 (by decide) h dX5_passYearEnd_51 (fun hc h => ?_) (fun hc h => ?_)
        · refine Zt_l [(0, .ref (a 0)), (1, .int x1), (3, .int ((x3 * (1103515245 : Int32)) + (12345 : Int32))), (4, .int x4)] [1, 2, 0, 3] rfl ?_
          exact L_X5_passYearEnd_62 a C R _ ih x1 ((x3 * (1103515245 : Int32)) + (12345 : Int32)) x4 S h
        · refine z_aload_n C 1 rfl rfl dX5_passYearEnd_54 ?_
          refine z_get C 0 rfl (C := RX5) (T := TX5) (N := 16) (ci := 5) rfl inw_X5_passYearEnd_X5 6 (by decide) (ref := "EldestAge$Town") (List.mem_of_getElem? (i := 3) rfl) rfl (v := .ref (a 4)) rfl dX5_passYearEnd_55 ?_
          refine z_iload C 3 rfl dX5_passYearEnd_58 ?_
          refine z_iload_n C 2 rfl rfl dX5_passYearEnd_60 ?_
          refine z_iast C (N := 14) (f := (S 6)) 4 rfl h (wTown E a (st 6 (upd (S 6) (Int32.toNatClampNeg x4) x1) S)) (wl_X5_passYearEnd_2 E a S (upd (S 6) (Int32.toNatClampNeg x4) x1)) dX5_passYearEnd_61 (fun h => ?_)
          refine Zt_l [(0, .ref (a 0)), (1, .int x1), (3, .int ((x3 * (1103515245 : Int32)) + (12345 : Int32))), (4, .int x4)] [1, 2, 0, 3] rfl ?_
          exact L_X5_passYearEnd_62 a C R _ ih x1 ((x3 * (1103515245 : Int32)) + (12345 : Int32)) x4 (st 6 (upd (S 6) (Int32.toNatClampNeg x4) x1) S) h

set_option maxHeartbeats 4000000 in
set_option maxRecDepth 100000 in
theorem L_X5_passYearEnd {E : zEnv} {Γ : zG} (a : Nat → Nat) (C : zC E Γ cX5_passYearEnd RX5 5 rm_X5_passYearEnd wsX5_passYearEnd) {res : (Int32 × St)} (R : zRi E Γ cX5_passYearEnd 5 .int (wTown E a res.2) res.1) (x1 : Int32) (x2 : Int32) (S : St) (h : f_X5_passYearEnd x1 x2 S = some res) : Zt E Γ 5 0 0 (wTown E a S) [(0, .ref (a 0)), (1, .int x1), (2, .int x2)] 0 [] := by
  unfold f_X5_passYearEnd at h
  refine z_iload_n C 2 rfl rfl dX5_passYearEnd_0 ?_
  refine z_istore_n C [(3, .int x2), (0, .ref (a 0)), (1, .int x1), (2, .int x2)] rfl (by decide) rfl dX5_passYearEnd_1 ?_
  refine z_iconst C (v := (0 : Int32)) (by decide) dX5_passYearEnd_2 ?_
  refine z_istore C [(4, .int (0 : Int32)), (3, .int x2), (0, .ref (a 0)), (1, .int x1), (2, .int x2)] (by decide) rfl dX5_passYearEnd_3 ?_
  refine Zt_l [(0, .ref (a 0)), (1, .int x1), (3, .int x2), (4, .int (0 : Int32))] [2, 3, 1, 0] rfl ?_
  exact L_X5_passYearEnd_5 a C R 1000 x1 x2 (0 : Int32) S h

theorem c_X5_passYearEnd (E : zEnv) (a : Nat → Nat) (x1 : Int32) (x2 : Int32) (S : St) {res : (Int32 × St)} (h : f_X5_passYearEnd x1 x2 S = some res) : Kti E yX5_passYearEnd wsX5_passYearEnd rm_X5_passYearEnd (wTown E a S) (wTown E a res.2) [.ref (a 0), .int x1, .int x2] res.1 :=
  z_enti (cc := cX5_passYearEnd) (maxL := 5) (rt := .int) (by decide +kernel) rfl (Nat.le_of_ble_eq_true rfl) (fun Γ C R => L_X5_passYearEnd a C R x1 x2 S h)

abbrev rm_X5_bearExpected : Room := { frames := 1, cells := 0, slots := 0, locals := 24 }
theorem inw_X5_bearExpected_X5 : ∀ w ∈ wsX50, w ∈ wsX5_bearExpected := fun _ h => List.mem_cons_of_mem _ (List.mem_append_right _ h)
set_option maxHeartbeats 4000000 in
theorem wl_X5_bearExpected_0 (E : zEnv) (a : Nat → Nat) (S : St) : ([0, 1, 2, 3, 4, 5, 6, 7, 8, 9, 10, 11, 12, 13, 14, 15] : List Nat).map (fun i => (wTown E a S)[i]?) = (wTown E a S).map some := rfl
set_option maxHeartbeats 4000000 in
theorem wl_X5_bearExpected_1 (E : zEnv) (a : Nat → Nat) (S U : St) : (wTown E a U).map (fun q => q.1) = (wTown E a S).map (fun q => q.1) := rfl
set_option maxHeartbeats 4000000 in
theorem wl_X5_bearExpected_2 (E : zEnv) (a : Nat → Nat) (S U : St) : (wTown E a U) = zrep [0, 1, 2, 3, 4, 5, 6, 7, 8, 9, 10, 11, 12, 13, 14, 15] (wTown E a U) (wTown E a S) := zrep_of (isR := []) 16 rfl [] rfl rfl rfl rfl (by decide +kernel) (by decide +kernel)
noncomputable def f_X5_bearExpected_40 (k4 : Int32 → Int32 → Int32 → St → Option (Int32 × St)) (x1 : Int32) (x2 : Int32) (x3 : Int32) (S : St) : Option (Int32 × St) := (k4 x1 x2 (x3 + (1 : Int32)) S)
noncomputable def f_X5_bearExpected_4 (n : Nat) : Int32 → Int32 → Int32 → St → Option (Int32 × St) := Nat.rec (motive := fun _ => Int32 → Int32 → Int32 → St → Option (Int32 × St)) (fun _ _ _ _ => none) (fun _ ih => fun x1 x2 x3 S => (if (S 11 0) ≤ x3 then (some (x2, S)) else (ix x3 4 (if (S 12 (Int32.toNatClampNeg x3)) = x1 then (ix x3 4 ((f_X5_addOne (0 : Int32) (S 13 (Int32.toNatClampNeg x3)) x1 (36000 : Int32) S).bind (fun q1 => (f_X5_bearExpected_40 ih x1 (x2 * (3 : Int32)) x3 q1)))) else (f_X5_bearExpected_40 ih x1 x2 x3 S))))) n
theorem f_X5_bearExpected_4_s (n : Nat) (x1 : Int32) (x2 : Int32) (x3 : Int32) (S : St) : f_X5_bearExpected_4 (n + 1) x1 x2 x3 S = (if (S 11 0) ≤ x3 then (some (x2, S)) else (ix x3 4 (if (S 12 (Int32.toNatClampNeg x3)) = x1 then (ix x3 4 ((f_X5_addOne (0 : Int32) (S 13 (Int32.toNatClampNeg x3)) x1 (36000 : Int32) S).bind (fun q1 => (f_X5_bearExpected_40 (f_X5_bearExpected_4 n) x1 (x2 * (3 : Int32)) x3 q1)))) else (f_X5_bearExpected_40 (f_X5_bearExpected_4 n) x1 x2 x3 S)))) := rfl
noncomputable def f_X5_bearExpected (x1 : Int32) (S : St) : Option (Int32 × St) := (f_X5_bearExpected_4 1000 x1 (1 : Int32) (0 : Int32) S)
set_option maxHeartbeats 4000000 in
set_option maxRecDepth 100000 in
theorem L_X5_bearExpected_40 {E : zEnv} {Γ : zG} (a : Nat → Nat) (C : zC E Γ cX5_bearExpected RX5 4 rm_X5_bearExpected wsX5_bearExpected) {res : (Int32 × St)} (R : zRi E Γ cX5_bearExpected 4 .int (wTown E a res.2) res.1) (k4 : Int32 → Int32 → Int32 → St → Option (Int32 × St)) (hk4 : ∀ (x1 : Int32) (x2 : Int32) (x3 : Int32) (S : St), k4 x1 x2 x3 S = some res → Zt E Γ 4 0 0 (wTown E a S) [(0, .ref (a 0)), (1, .int x1), (2, .int x2), (3, .int x3)] 4 []) (x1 : Int32) (x2 : Int32) (x3 : Int32) (S : St) (h : f_X5_bearExpected_40 k4 x1 x2 x3 S = some res) : Zt E Γ 4 0 0 (wTown E a S) [(0, .ref (a 0)), (1, .int x1), (2, .int x2), (3, .int x3)] 40 [] := by
  unfold f_X5_bearExpected_40 at h
  refine z_iinc C [(3, .int (x3 + (1 : Int32))), (0, .ref (a 0)), (1, .int x1), (2, .int x2)] 3 rfl (by first | rfl | decide) (by decide) rfl dX5_bearExpected_40 ?_
  refine z_goto C 4 (by decide) dX5_bearExpected_43 ?_
  refine Zt_l [(0, .ref (a 0)), (1, .int x1), (2, .int x2), (3, .int (x3 + (1 : Int32)))] [1, 2, 3, 0] rfl ?_
  exact hk4 x1 x2 (x3 + (1 : Int32)) S h

set_option maxHeartbeats 4000000 in
set_option maxRecDepth 100000 in
theorem L_X5_bearExpected_4 {E : zEnv} {Γ : zG} (a : Nat → Nat) (C : zC E Γ cX5_bearExpected RX5 4 rm_X5_bearExpected wsX5_bearExpected) {res : (Int32 × St)} (R : zRi E Γ cX5_bearExpected 4 .int (wTown E a res.2) res.1) : ∀ (n : Nat) (x1 : Int32) (x2 : Int32) (x3 : Int32) (S : St), f_X5_bearExpected_4 n x1 x2 x3 S = some res → Zt E Γ 4 0 0 (wTown E a S) [(0, .ref (a 0)), (1, .int x1), (2, .int x2), (3, .int x3)] 4 [] := by
  intro n
  induction n with
  | zero =>
    intro x1 x2 x3 S h
    cases h
  | succ n ih =>
    intro x1 x2 x3 S h
    rw [f_X5_bearExpected_4_s] at h
    refine z_iload_n C 3 rfl rfl dX5_bearExpected_4 ?_
    refine z_aload_n C 0 rfl rfl dX5_bearExpected_5 ?_
    refine z_get C 0 rfl (C := RX5) (T := TX5) (N := 16) (ci := 5) rfl inw_X5_bearExpected_X5 11 (by decide) (ref := "EldestAge$Town") (List.mem_of_getElem? (i := 1) rfl) rfl (v := .int (S 11 0)) rfl dX5_bearExpected_6 ?_
    refine z_icmp_ge C 46 (by decide) h dX5_bearExpected_9 (fun hc h => ?_) (fun hc h => ?_)
    · refine z_iload_n C 2 rfl rfl dX5_bearExpected_46 ?_
      obtain rfl := Option.some.inj h
      exact R rfl 47 _ dX5_bearExpected_47
    · refine z_aload_n C 0 rfl rfl dX5_bearExpected_12 ?_
      refine z_get C 0 rfl (C := RX5) (T := TX5) (N := 16) (ci := 5) rfl inw_X5_bearExpected_X5 12 (by decide) (ref := "EldestAge$Town") (List.mem_of_getElem? (i := 2) rfl) rfl (v := .ref (a 8)) rfl dX5_bearExpected_13 ?_
      refine z_iload_n C 3 rfl rfl dX5_bearExpected_16 ?_
      refine z_iald C (N := 4) (f := (S 12)) 8 rfl h dX5_bearExpected_17 (fun h => ?_)
      refine z_iload_n C 1 rfl rfl dX5_bearExpected_18 ?_
      refine z_icmp_ne C 40 (by decide) h dX5_bearExpected_19 (fun hc h => ?_) (fun hc h => ?_)
      · refine z_aload_n C 0 rfl rfl dX5_bearExpected_22 ?_
        refine z_iconst C (v := (0 : Int32)) (by decide) dX5_bearExpected_23 ?_
        refine z_aload_n C 0 rfl rfl dX5_bearExpected_24 ?_
        refine z_get C 0 rfl (C := RX5) (T := TX5) (N := 16) (ci := 5) rfl inw_X5_bearExpected_X5 13 (by decide) (ref := "EldestAge$Town") (List.mem_of_getElem? (i := 3) rfl) rfl (v := .ref (a 9)) rfl dX5_bearExpected_25 ?_
        refine z_iload_n C 3 rfl rfl dX5_bearExpected_28 ?_
        refine z_iald C (N := 4) (f := (S 13)) 9 rfl h dX5_bearExpected_29 (fun h => ?_)
        refine z_iload_n C 1 rfl rfl dX5_bearExpected_30 ?_
        refine z_ldc C (v := (36000 : Int32)) (List.mem_of_getElem? (i := 4) rfl) dX5_bearExpected_31 ?_
        obtain ⟨q1, e1, h⟩ := bd_e h
        refine z_callVv C (b := a 0) (As := [.int (0 : Int32), .int (S 13 (Int32.toNatClampNeg x3)), .int x1, .int (36000 : Int32)]) (rest := []) (c_X5_addOne E a (0 : Int32) (S 13 (Int32.toNatClampNeg x3)) x1 (36000 : Int32) S e1) rfl gX5_bearExpected_X5_addOne rfl rfl rfl 4 rfl (by decide +kernel) ⟨Nat.le_of_ble_eq_true rfl, Nat.le_of_ble_eq_true rfl⟩ [0, 1, 2, 3, 4, 5, 6, 7, 8, 9, 10, 11, 12, 13, 14, 15] (wl_X5_bearExpected_0 E a S) (by decide) (wl_X5_bearExpected_1 E a _ _) (wTown E a q1) (wl_X5_bearExpected_2 E a S q1) 0 5 rfl rfl rfl (Nat.le_of_ble_eq_true rfl) dX5_bearExpected_33 ⟨Nat.zero_le _, Nat.zero_le _⟩ _ rfl ?_
        refine z_iload_n C 2 rfl rfl dX5_bearExpected_36 ?_
        refine z_iconst C (v := (3 : Int32)) (by decide) dX5_bearExpected_37 ?_
        refine z_imul C dX5_bearExpected_38 ?_
        refine z_istore_n C [(2, .int (x2 * (3 : Int32))), (0, .ref (a 0)), (1, .int x1), (3, .int x3)] rfl (by decide) rfl dX5_bearExpected_39 ?_
        refine Zt_l [(0, .ref (a 0)), (1, .int x1), (2, .int (x2 * (3 : Int32))), (3, .int x3)] [1, 2, 0, 3] rfl ?_
        exact L_X5_bearExpected_40 a C R _ ih x1 (x2 * (3 : Int32)) x3 q1 h
      · exact L_X5_bearExpected_40 a C R _ ih x1 x2 x3 S h

set_option maxHeartbeats 4000000 in
set_option maxRecDepth 100000 in
theorem L_X5_bearExpected {E : zEnv} {Γ : zG} (a : Nat → Nat) (C : zC E Γ cX5_bearExpected RX5 4 rm_X5_bearExpected wsX5_bearExpected) {res : (Int32 × St)} (R : zRi E Γ cX5_bearExpected 4 .int (wTown E a res.2) res.1) (x1 : Int32) (S : St) (h : f_X5_bearExpected x1 S = some res) : Zt E Γ 4 0 0 (wTown E a S) [(0, .ref (a 0)), (1, .int x1)] 0 [] := by
  unfold f_X5_bearExpected at h
  refine z_iconst C (v := (1 : Int32)) (by decide) dX5_bearExpected_0 ?_
  refine z_istore_n C [(2, .int (1 : Int32)), (0, .ref (a 0)), (1, .int x1)] rfl (by decide) rfl dX5_bearExpected_1 ?_
  refine z_iconst C (v := (0 : Int32)) (by decide) dX5_bearExpected_2 ?_
  refine z_istore_n C [(3, .int (0 : Int32)), (2, .int (1 : Int32)), (0, .ref (a 0)), (1, .int x1)] rfl (by decide) rfl dX5_bearExpected_3 ?_
  refine Zt_l [(0, .ref (a 0)), (1, .int x1), (2, .int (1 : Int32)), (3, .int (0 : Int32))] [2, 3, 1, 0] rfl ?_
  exact L_X5_bearExpected_4 a C R 1000 x1 (1 : Int32) (0 : Int32) S h

theorem c_X5_bearExpected (E : zEnv) (a : Nat → Nat) (x1 : Int32) (S : St) {res : (Int32 × St)} (h : f_X5_bearExpected x1 S = some res) : Kti E yX5_bearExpected wsX5_bearExpected rm_X5_bearExpected (wTown E a S) (wTown E a res.2) [.ref (a 0), .int x1] res.1 :=
  z_enti (cc := cX5_bearExpected) (maxL := 4) (rt := .int) (by decide +kernel) rfl (Nat.le_of_ble_eq_true rfl) (fun Γ C R => L_X5_bearExpected a C R x1 S h)

abbrev rm_X5_copyOf : Room := { frames := 1, cells := 0, slots := 0, locals := 26 }
theorem inw_X5_copyOf_X5 : ∀ w ∈ wsX50, w ∈ wsX5_copyOf := fun _ h => List.mem_cons_of_mem _ (List.mem_append_right _ h)
set_option maxHeartbeats 4000000 in
theorem wl_X5_copyOf_0 (E : zEnv) (a : Nat → Nat) (S : St) (v : Int32) : (wTown2 E a (st 0 (fun _ => v) S)) = (wTown2 E a S).set 0 (a 0, .inr (5, List.set [.int (S 0 0), .int (S 1 0), .int (S 2 0), .ref (a 1), .ref (a 2), .ref (a 3), .ref (a 4), .int (S 7 0), .ref (a 5), .ref (a 6), .ref (a 7), .int (S 11 0), .ref (a 8), .ref (a 9), .ref (a 10), .ref (a 11)] 0 (.int v))) := rfl
set_option maxHeartbeats 4000000 in
theorem wl_X5_copyOf_1 (E : zEnv) (a : Nat → Nat) (S : St) (v : Int32) : (wTown2 E a (st 1 (fun _ => v) S)) = (wTown2 E a S).set 0 (a 0, .inr (5, List.set [.int (S 0 0), .int (S 1 0), .int (S 2 0), .ref (a 1), .ref (a 2), .ref (a 3), .ref (a 4), .int (S 7 0), .ref (a 5), .ref (a 6), .ref (a 7), .int (S 11 0), .ref (a 8), .ref (a 9), .ref (a 10), .ref (a 11)] 1 (.int v))) := rfl
set_option maxHeartbeats 4000000 in
theorem wl_X5_copyOf_2 (E : zEnv) (a : Nat → Nat) (S : St) (v : Int32) : (wTown2 E a (st 2 (fun _ => v) S)) = (wTown2 E a S).set 0 (a 0, .inr (5, List.set [.int (S 0 0), .int (S 1 0), .int (S 2 0), .ref (a 1), .ref (a 2), .ref (a 3), .ref (a 4), .int (S 7 0), .ref (a 5), .ref (a 6), .ref (a 7), .int (S 11 0), .ref (a 8), .ref (a 9), .ref (a 10), .ref (a 11)] 2 (.int v))) := rfl
set_option maxHeartbeats 4000000 in
theorem wl_X5_copyOf_3 (E : zEnv) (a : Nat → Nat) (S : St) (v : Int32) : (wTown2 E a (st 7 (fun _ => v) S)) = (wTown2 E a S).set 0 (a 0, .inr (5, List.set [.int (S 0 0), .int (S 1 0), .int (S 2 0), .ref (a 1), .ref (a 2), .ref (a 3), .ref (a 4), .int (S 7 0), .ref (a 5), .ref (a 6), .ref (a 7), .int (S 11 0), .ref (a 8), .ref (a 9), .ref (a 10), .ref (a 11)] 7 (.int v))) := rfl
set_option maxHeartbeats 4000000 in
theorem wl_X5_copyOf_4 (E : zEnv) (a : Nat → Nat) (S : St) (v : Int32) : (wTown2 E a (st 11 (fun _ => v) S)) = (wTown2 E a S).set 0 (a 0, .inr (5, List.set [.int (S 0 0), .int (S 1 0), .int (S 2 0), .ref (a 1), .ref (a 2), .ref (a 3), .ref (a 4), .int (S 7 0), .ref (a 5), .ref (a 6), .ref (a 7), .int (S 11 0), .ref (a 8), .ref (a 9), .ref (a 10), .ref (a 11)] 11 (.int v))) := rfl
set_option maxHeartbeats 4000000 in
theorem wl_X5_copyOf_5 (E : zEnv) (a : Nat → Nat) (S : St) (f : Nat → Int32) : (wTown2 E a (st 3 f S)) = (wTown2 E a S).set 1 (a 1, .inl (zI E, 14, .inl f)) := rfl
set_option maxHeartbeats 4000000 in
theorem wl_X5_copyOf_6 (E : zEnv) (a : Nat → Nat) (S : St) (f : Nat → Int32) : (wTown2 E a (st 4 f S)) = (wTown2 E a S).set 2 (a 2, .inl (zI E, 14, .inl f)) := rfl
set_option maxHeartbeats 4000000 in
theorem wl_X5_copyOf_7 (E : zEnv) (a : Nat → Nat) (S : St) (f : Nat → Int32) : (wTown2 E a (st 5 f S)) = (wTown2 E a S).set 3 (a 3, .inl (zI E, 14, .inl f)) := rfl
set_option maxHeartbeats 4000000 in
theorem wl_X5_copyOf_8 (E : zEnv) (a : Nat → Nat) (S : St) (f : Nat → Int32) : (wTown2 E a (st 6 f S)) = (wTown2 E a S).set 4 (a 4, .inl (zI E, 14, .inl f)) := rfl
set_option maxHeartbeats 4000000 in
theorem wl_X5_copyOf_9 (E : zEnv) (a : Nat → Nat) (S : St) (f : Nat → Int32) : (wTown2 E a (st 8 f S)) = (wTown2 E a S).set 5 (a 5, .inl (zI E, 12, .inl f)) := rfl
set_option maxHeartbeats 4000000 in
theorem wl_X5_copyOf_10 (E : zEnv) (a : Nat → Nat) (S : St) (f : Nat → Int32) : (wTown2 E a (st 9 f S)) = (wTown2 E a S).set 6 (a 6, .inl (zI E, 12, .inl f)) := rfl
set_option maxHeartbeats 4000000 in
theorem wl_X5_copyOf_11 (E : zEnv) (a : Nat → Nat) (S : St) (f : Nat → Int32) : (wTown2 E a (st 10 f S)) = (wTown2 E a S).set 7 (a 7, .inl (zI E, 12, .inl f)) := rfl
set_option maxHeartbeats 4000000 in
theorem wl_X5_copyOf_12 (E : zEnv) (a : Nat → Nat) (S : St) (f : Nat → Int32) : (wTown2 E a (st 12 f S)) = (wTown2 E a S).set 8 (a 8, .inl (zI E, 4, .inl f)) := rfl
set_option maxHeartbeats 4000000 in
theorem wl_X5_copyOf_13 (E : zEnv) (a : Nat → Nat) (S : St) (f : Nat → Int32) : (wTown2 E a (st 13 f S)) = (wTown2 E a S).set 9 (a 9, .inl (zI E, 4, .inl f)) := rfl
set_option maxHeartbeats 4000000 in
theorem wl_X5_copyOf_14 (E : zEnv) (a : Nat → Nat) (S : St) (f : Nat → Int32) : (wTown2 E a (st 14 f S)) = (wTown2 E a S).set 10 (a 10, .inl (zI E, 4, .inl f)) := rfl
noncomputable def f_X5_copyOf (S : St) : Option St := (some (st 14 (va_cpy (S 46) (S 14) (Int32.toNatClampNeg (0 : Int32)) (Int32.toNatClampNeg (0 : Int32)) (Int32.toNatClampNeg (4 : Int32))) (st 13 (va_cpy (S 45) (S 13) (Int32.toNatClampNeg (0 : Int32)) (Int32.toNatClampNeg (0 : Int32)) (Int32.toNatClampNeg (4 : Int32))) (st 12 (va_cpy (S 44) (S 12) (Int32.toNatClampNeg (0 : Int32)) (Int32.toNatClampNeg (0 : Int32)) (Int32.toNatClampNeg (4 : Int32))) (st 10 (va_cpy (S 42) (S 10) (Int32.toNatClampNeg (0 : Int32)) (Int32.toNatClampNeg (0 : Int32)) (Int32.toNatClampNeg (12 : Int32))) (st 9 (va_cpy (S 41) (S 9) (Int32.toNatClampNeg (0 : Int32)) (Int32.toNatClampNeg (0 : Int32)) (Int32.toNatClampNeg (12 : Int32))) (st 8 (va_cpy (S 40) (S 8) (Int32.toNatClampNeg (0 : Int32)) (Int32.toNatClampNeg (0 : Int32)) (Int32.toNatClampNeg (12 : Int32))) (st 6 (va_cpy (S 38) (S 6) (Int32.toNatClampNeg (0 : Int32)) (Int32.toNatClampNeg (0 : Int32)) (Int32.toNatClampNeg (14 : Int32))) (st 5 (va_cpy (S 37) (S 5) (Int32.toNatClampNeg (0 : Int32)) (Int32.toNatClampNeg (0 : Int32)) (Int32.toNatClampNeg (14 : Int32))) (st 4 (va_cpy (S 36) (S 4) (Int32.toNatClampNeg (0 : Int32)) (Int32.toNatClampNeg (0 : Int32)) (Int32.toNatClampNeg (14 : Int32))) (st 3 (va_cpy (S 35) (S 3) (Int32.toNatClampNeg (0 : Int32)) (Int32.toNatClampNeg (0 : Int32)) (Int32.toNatClampNeg (14 : Int32))) (st 11 (fun _ => (S 43 0)) (st 7 (fun _ => (S 39 0)) (st 2 (fun _ => (S 34 0)) (st 1 (fun _ => (S 33 0)) (st 0 (fun _ => (S 32 0)) S))))))))))))))))
set_option maxHeartbeats 4000000 in
set_option maxRecDepth 100000 in
theorem L_X5_copyOf {E : zEnv} {Γ : zG} (a : Nat → Nat) (C : zC E Γ cX5_copyOf RX5 2 rm_X5_copyOf wsX5_copyOf) {res : St} (R : zRv E Γ cX5_copyOf 2 (wTown2 E a res)) (S : St) (h : f_X5_copyOf S = some res) : Zt E Γ 2 0 0 (wTown2 E a S) [(0, .ref (a 0)), (1, .ref (a 16))] 0 [] := by
  unfold f_X5_copyOf at h
  refine z_aload_n C 0 rfl rfl dX5_copyOf_0 ?_
  refine z_aload_n C 1 rfl rfl dX5_copyOf_1 ?_
  refine z_get C 16 rfl (C := RX5) (T := TX5) (N := 16) (ci := 5) rfl inw_X5_copyOf_X5 0 (by decide) (ref := "EldestAge$Town") (List.mem_of_getElem? (i := 1) rfl) rfl (v := .int (S 32 0)) rfl dX5_copyOf_2 ?_
  refine z_put C 0 rfl (C := RX5) (T := TX5) (N := 16) (ci := 5) rfl inw_X5_copyOf_X5 tyX5 tyX5_ok nmX5 0 (by decide) (ref := "EldestAge$Town") (List.mem_of_getElem? (i := 1) rfl) rfl rfl (ty := .int) (v := .int (S 32 0)) (by decide +kernel) rfl rfl (Nat.le_of_ble_eq_true rfl) (wTown2 E a (st 0 (fun _ => (S 32 0)) S)) (wl_X5_copyOf_0 E a S (S 32 0)) dX5_copyOf_5 ?_
  refine z_aload_n C 0 rfl rfl dX5_copyOf_8 ?_
  refine z_aload_n C 1 rfl rfl dX5_copyOf_9 ?_
  refine z_get C 16 rfl (C := RX5) (T := TX5) (N := 16) (ci := 5) rfl inw_X5_copyOf_X5 1 (by decide) (ref := "EldestAge$Town") (List.mem_of_getElem? (i := 2) rfl) rfl (v := .int (S 33 0)) rfl dX5_copyOf_10 ?_
  refine z_put C 0 rfl (C := RX5) (T := TX5) (N := 16) (ci := 5) rfl inw_X5_copyOf_X5 tyX5 tyX5_ok nmX5 1 (by decide) (ref := "EldestAge$Town") (List.mem_of_getElem? (i := 2) rfl) rfl rfl (ty := .int) (v := .int (S 33 0)) (by decide +kernel) rfl rfl (Nat.le_of_ble_eq_true rfl) (wTown2 E a (st 1 (fun _ => (S 33 0)) (st 0 (fun _ => (S 32 0)) S))) (wl_X5_copyOf_1 E a (st 0 (fun _ => (S 32 0)) S) (S 33 0)) dX5_copyOf_13 ?_
  refine z_aload_n C 0 rfl rfl dX5_copyOf_16 ?_
  refine z_aload_n C 1 rfl rfl dX5_copyOf_17 ?_
  refine z_get C 16 rfl (C := RX5) (T := TX5) (N := 16) (ci := 5) rfl inw_X5_copyOf_X5 2 (by decide) (ref := "EldestAge$Town") (List.mem_of_getElem? (i := 3) rfl) rfl (v := .int (S 34 0)) rfl dX5_copyOf_18 ?_
  refine z_put C 0 rfl (C := RX5) (T := TX5) (N := 16) (ci := 5) rfl inw_X5_copyOf_X5 tyX5 tyX5_ok nmX5 2 (by decide) (ref := "EldestAge$Town") (List.mem_of_getElem? (i := 3) rfl) rfl rfl (ty := .int) (v := .int (S 34 0)) (by decide +kernel) rfl rfl (Nat.le_of_ble_eq_true rfl) (wTown2 E a (st 2 (fun _ => (S 34 0)) (st 1 (fun _ => (S 33 0)) (st 0 (fun _ => (S 32 0)) S)))) (wl_X5_copyOf_2 E a (st 1 (fun _ => (S 33 0)) (st 0 (fun _ => (S 32 0)) S)) (S 34 0)) dX5_copyOf_21 ?_
  refine z_aload_n C 0 rfl rfl dX5_copyOf_24 ?_
  refine z_aload_n C 1 rfl rfl dX5_copyOf_25 ?_
  refine z_get C 16 rfl (C := RX5) (T := TX5) (N := 16) (ci := 5) rfl inw_X5_copyOf_X5 7 (by decide) (ref := "EldestAge$Town") (List.mem_of_getElem? (i := 4) rfl) rfl (v := .int (S 39 0)) rfl dX5_copyOf_26 ?_
  refine z_put C 0 rfl (C := RX5) (T := TX5) (N := 16) (ci := 5) rfl inw_X5_copyOf_X5 tyX5 tyX5_ok nmX5 7 (by decide) (ref := "EldestAge$Town") (List.mem_of_getElem? (i := 4) rfl) rfl rfl (ty := .int) (v := .int (S 39 0)) (by decide +kernel) rfl rfl (Nat.le_of_ble_eq_true rfl) (wTown2 E a (st 7 (fun _ => (S 39 0)) (st 2 (fun _ => (S 34 0)) (st 1 (fun _ => (S 33 0)) (st 0 (fun _ => (S 32 0)) S))))) (wl_X5_copyOf_3 E a (st 2 (fun _ => (S 34 0)) (st 1 (fun _ => (S 33 0)) (st 0 (fun _ => (S 32 0)) S))) (S 39 0)) dX5_copyOf_29 ?_
  refine z_aload_n C 0 rfl rfl dX5_copyOf_32 ?_
  refine z_aload_n C 1 rfl rfl dX5_copyOf_33 ?_
  refine z_get C 16 rfl (C := RX5) (T := TX5) (N := 16) (ci := 5) rfl inw_X5_copyOf_X5 11 (by decide) (ref := "EldestAge$Town") (List.mem_of_getElem? (i := 5) rfl) rfl (v := .int (S 43 0)) rfl dX5_copyOf_34 ?_
  refine z_put C 0 rfl (C := RX5) (T := TX5) (N := 16) (ci := 5) rfl inw_X5_copyOf_X5 tyX5 tyX5_ok nmX5 11 (by decide) (ref := "EldestAge$Town") (List.mem_of_getElem? (i := 5) rfl) rfl rfl (ty := .int) (v := .int (S 43 0)) (by decide +kernel) rfl rfl (Nat.le_of_ble_eq_true rfl) (wTown2 E a (st 11 (fun _ => (S 43 0)) (st 7 (fun _ => (S 39 0)) (st 2 (fun _ => (S 34 0)) (st 1 (fun _ => (S 33 0)) (st 0 (fun _ => (S 32 0)) S)))))) (wl_X5_copyOf_4 E a (st 7 (fun _ => (S 39 0)) (st 2 (fun _ => (S 34 0)) (st 1 (fun _ => (S 33 0)) (st 0 (fun _ => (S 32 0)) S)))) (S 43 0)) dX5_copyOf_37 ?_
  refine z_aload_n C 1 rfl rfl dX5_copyOf_40 ?_
  refine z_get C 16 rfl (C := RX5) (T := TX5) (N := 16) (ci := 5) rfl inw_X5_copyOf_X5 3 (by decide) (ref := "EldestAge$Town") (List.mem_of_getElem? (i := 6) rfl) rfl (v := .ref (a 17)) rfl dX5_copyOf_41 ?_
  refine z_iconst C (v := (0 : Int32)) (by decide) dX5_copyOf_44 ?_
  refine z_aload_n C 0 rfl rfl dX5_copyOf_45 ?_
  refine z_get C 0 rfl (C := RX5) (T := TX5) (N := 16) (ci := 5) rfl inw_X5_copyOf_X5 3 (by decide) (ref := "EldestAge$Town") (List.mem_of_getElem? (i := 6) rfl) rfl (v := .ref (a 1)) rfl dX5_copyOf_46 ?_
  refine z_iconst C (v := (0 : Int32)) (by decide) dX5_copyOf_49 ?_
  refine z_bipush C (v := (14 : Int32)) (by decide) dX5_copyOf_50 ?_
  refine z_copy C (List.mem_of_getElem? (i := 7) rfl) (List.mem_of_getElem? (i := 8) rfl) (List.mem_of_getElem? (i := 9) rfl) (List.mem_of_getElem? (i := 10) rfl) (f := (S 35)) (g := (S 3)) (n0 := 14) (n1 := 14) 17 1 rfl rfl (by decide) (by decide) (by decide) (by decide) (by decide) (Nat.le_of_ble_eq_true rfl) (by decide +kernel) (wTown2 E a (st 3 (va_cpy (S 35) (S 3) (Int32.toNatClampNeg (0 : Int32)) (Int32.toNatClampNeg (0 : Int32)) (Int32.toNatClampNeg (14 : Int32))) (st 11 (fun _ => (S 43 0)) (st 7 (fun _ => (S 39 0)) (st 2 (fun _ => (S 34 0)) (st 1 (fun _ => (S 33 0)) (st 0 (fun _ => (S 32 0)) S))))))) (wl_X5_copyOf_5 E a (st 11 (fun _ => (S 43 0)) (st 7 (fun _ => (S 39 0)) (st 2 (fun _ => (S 34 0)) (st 1 (fun _ => (S 33 0)) (st 0 (fun _ => (S 32 0)) S))))) (va_cpy (S 35) (S 3) (Int32.toNatClampNeg (0 : Int32)) (Int32.toNatClampNeg (0 : Int32)) (Int32.toNatClampNeg (14 : Int32)))) dX5_copyOf_52 ?_
  refine z_aload_n C 1 rfl rfl dX5_copyOf_55 ?_
  refine z_get C 16 rfl (C := RX5) (T := TX5) (N := 16) (ci := 5) rfl inw_X5_copyOf_X5 4 (by decide) (ref := "EldestAge$Town") (List.mem_of_getElem? (i := 11) rfl) rfl (v := .ref (a 18)) rfl dX5_copyOf_56 ?_
  refine z_iconst C (v := (0 : Int32)) (by decide) dX5_copyOf_59 ?_
  refine z_aload_n C 0 rfl rfl dX5_copyOf_60 ?_
  refine z_get C 0 rfl (C := RX5) (T := TX5) (N := 16) (ci := 5) rfl inw_X5_copyOf_X5 4 (by decide) (ref := "EldestAge$Town") (List.mem_of_getElem? (i := 11) rfl) rfl (v := .ref (a 2)) rfl dX5_copyOf_61 ?_
  refine z_iconst C (v := (0 : Int32)) (by decide) dX5_copyOf_64 ?_
  refine z_bipush C (v := (14 : Int32)) (by decide) dX5_copyOf_65 ?_
  refine z_copy C (List.mem_of_getElem? (i := 7) rfl) (List.mem_of_getElem? (i := 8) rfl) (List.mem_of_getElem? (i := 9) rfl) (List.mem_of_getElem? (i := 10) rfl) (f := (S 36)) (g := (S 4)) (n0 := 14) (n1 := 14) 18 2 rfl rfl (by decide) (by decide) (by decide) (by decide) (by decide) (Nat.le_of_ble_eq_true rfl) (by decide +kernel) (wTown2 E a (st 4 (va_cpy (S 36) (S 4) (Int32.toNatClampNeg (0 : Int32)) (Int32.toNatClampNeg (0 : Int32)) (Int32.toNatClampNeg (14 : Int32))) (st 3 (va_cpy (S 35) (S 3) (Int32.toNatClampNeg (0 : Int32)) (Int32.toNatClampNeg (0 : Int32)) (Int32.toNatClampNeg (14 : Int32))) (st 11 (fun _ => (S 43 0)) (st 7 (fun _ => (S 39 0)) (st 2 (fun _ => (S 34 0)) (st 1 (fun _ => (S 33 0)) (st 0 (fun _ => (S 32 0)) S)))))))) (wl_X5_copyOf_6 E a (st 3 (va_cpy (S 35) (S 3) (Int32.toNatClampNeg (0 : Int32)) (Int32.toNatClampNeg (0 : Int32)) (Int32.toNatClampNeg (14 : Int32))) (st 11 (fun _ => (S 43 0)) (st 7 (fun _ => (S 39 0)) (st 2 (fun _ => (S 34 0)) (st 1 (fun _ => (S 33 0)) (st 0 (fun _ => (S 32 0)) S)))))) (va_cpy (S 36) (S 4) (Int32.toNatClampNeg (0 : Int32)) (Int32.toNatClampNeg (0 : Int32)) (Int32.toNatClampNeg (14 : Int32)))) dX5_copyOf_67 ?_
  refine z_aload_n C 1 rfl rfl dX5_copyOf_70 ?_
  refine z_get C 16 rfl (C := RX5) (T := TX5) (N := 16) (ci := 5) rfl inw_X5_copyOf_X5 5 (by decide) (ref := "EldestAge$Town") (List.mem_of_getElem? (i := 12) rfl) rfl (v := .ref (a 19)) rfl dX5_copyOf_71 ?_
  refine z_iconst C (v := (0 : Int32)) (by decide) dX5_copyOf_74 ?_
  refine z_aload_n C 0 rfl rfl dX5_copyOf_75 ?_
  refine z_get C 0 rfl (C := RX5) (T := TX5) (N := 16) (ci := 5) rfl inw_X5_copyOf_X5 5 (by decide) (ref := "EldestAge$Town") (List.mem_of_getElem? (i := 12) rfl) rfl (v := .ref (a 3)) rfl dX5_copyOf_76 ?_
  refine z_iconst C (v := (0 : Int32)) (by decide) dX5_copyOf_79 ?_
  refine z_bipush C (v := (14 : Int32)) (by decide) dX5_copyOf_80 ?_
  refine z_copy C (List.mem_of_getElem? (i := 7) rfl) (List.mem_of_getElem? (i := 8) rfl) (List.mem_of_getElem? (i := 9) rfl) (List.mem_of_getElem? (i := 10) rfl) (f := (S 37)) (g := (S 5)) (n0 := 14) (n1 := 14) 19 3 rfl rfl (by decide) (by decide) (by decide) (by decide) (by decide) (Nat.le_of_ble_eq_true rfl) (by decide +kernel) (wTown2 E a (st 5 (va_cpy (S 37) (S 5) (Int32.toNatClampNeg (0 : Int32)) (Int32.toNatClampNeg (0 : Int32)) (Int32.toNatClampNeg (14 : Int32))) (st 4 (va_cpy (S 36) (S 4) (Int32.toNatClampNeg (0 : Int32)) (Int32.toNatClampNeg (0 : Int32)) (Int32.toNatClampNeg (14 : Int32))) (st 3 (va_cpy (S 35) (S 3) (Int32.toNatClampNeg (0 : Int32)) (Int32.toNatClampNeg (0 : Int32)) (Int32.toNatClampNeg (14 : Int32))) (st 11 (fun _ => (S 43 0)) (st 7 (fun _ => (S 39 0)) (st 2 (fun _ => (S 34 0)) (st 1 (fun _ => (S 33 0)) (st 0 (fun _ => (S 32 0)) S))))))))) (wl_X5_copyOf_7 E a (st 4 (va_cpy (S 36) (S 4) (Int32.toNatClampNeg (0 : Int32)) (Int32.toNatClampNeg (0 : Int32)) (Int32.toNatClampNeg (14 : Int32))) (st 3 (va_cpy (S 35) (S 3) (Int32.toNatClampNeg (0 : Int32)) (Int32.toNatClampNeg (0 : Int32)) (Int32.toNatClampNeg (14 : Int32))) (st 11 (fun _ => (S 43 0)) (st 7 (fun _ => (S 39 0)) (st 2 (fun _ => (S 34 0)) (st 1 (fun _ => (S 33 0)) (st 0 (fun _ => (S 32 0)) S))))))) (va_cpy (S 37) (S 5) (Int32.toNatClampNeg (0 : Int32)) (Int32.toNatClampNeg (0 : Int32)) (Int32.toNatClampNeg (14 : Int32)))) dX5_copyOf_82 ?_
  refine z_aload_n C 1 rfl rfl dX5_copyOf_85 ?_
  refine z_get C 16 rfl (C := RX5) (T := TX5) (N := 16) (ci := 5) rfl inw_X5_copyOf_X5 6 (by decide) (ref := "EldestAge$Town") (List.mem_of_getElem? (i := 13) rfl) rfl (v := .ref (a 20)) rfl dX5_copyOf_86 ?_
  refine z_iconst C (v := (0 : Int32)) (by decide) dX5_copyOf_89 ?_
  refine z_aload_n C 0 rfl rfl dX5_copyOf_90 ?_
  refine z_get C 0 rfl (C := RX5) (T := TX5) (N := 16) (ci := 5) rfl inw_X5_copyOf_X5 6 (by decide) (ref := "EldestAge$Town") (List.mem_of_getElem? (i := 13) rfl) rfl (v := .ref (a 4)) rfl dX5_copyOf_91 ?_
  refine z_iconst C (v := (0 : Int32)) (by decide) dX5_copyOf_94 ?_
  refine z_bipush C (v := (14 : Int32)) (by decide) dX5_copyOf_95 ?_
  refine z_copy C (List.mem_of_getElem? (i := 7) rfl) (List.mem_of_getElem? (i := 8) rfl) (List.mem_of_getElem? (i := 9) rfl) (List.mem_of_getElem? (i := 10) rfl) (f := (S 38)) (g := (S 6)) (n0 := 14) (n1 := 14) 20 4 rfl rfl (by decide) (by decide) (by decide) (by decide) (by decide) (Nat.le_of_ble_eq_true rfl) (by decide +kernel) (wTown2 E a (st 6 (va_cpy (S 38) (S 6) (Int32.toNatClampNeg (0 : Int32)) (Int32.toNatClampNeg (0 : Int32)) (Int32.toNatClampNeg (14 : Int32))) (st 5 (va_cpy (S 37) (S 5) (Int32.toNatClampNeg (0 : Int32)) (Int32.toNatClampNeg (0 : Int32)) (Int32.toNatClampNeg (14 : Int32))) (st 4 (va_cpy (S 36) (S 4) (Int32.toNatClampNeg (0 : Int32)) (Int32.toNatClampNeg (0 : Int32)) (Int32.toNatClampNeg (14 : Int32))) (st 3 (va_cpy (S 35) (S 3) (Int32.toNatClampNeg (0 : Int32)) (Int32.toNatClampNeg (0 : Int32)) (Int32.toNatClampNeg (14 : Int32))) (st 11 (fun _ => (S 43 0)) (st 7 (fun _ => (S 39 0)) (st 2 (fun _ => (S 34 0)) (st 1 (fun _ => (S 33 0)) (st 0 (fun _ => (S 32 0)) S)))))))))) (wl_X5_copyOf_8 E a (st 5 (va_cpy (S 37) (S 5) (Int32.toNatClampNeg (0 : Int32)) (Int32.toNatClampNeg (0 : Int32)) (Int32.toNatClampNeg (14 : Int32))) (st 4 (va_cpy (S 36) (S 4) (Int32.toNatClampNeg (0 : Int32)) (Int32.toNatClampNeg (0 : Int32)) (Int32.toNatClampNeg (14 : Int32))) (st 3 (va_cpy (S 35) (S 3) (Int32.toNatClampNeg (0 : Int32)) (Int32.toNatClampNeg (0 : Int32)) (Int32.toNatClampNeg (14 : Int32))) (st 11 (fun _ => (S 43 0)) (st 7 (fun _ => (S 39 0)) (st 2 (fun _ => (S 34 0)) (st 1 (fun _ => (S 33 0)) (st 0 (fun _ => (S 32 0)) S)))))))) (va_cpy (S 38) (S 6) (Int32.toNatClampNeg (0 : Int32)) (Int32.toNatClampNeg (0 : Int32)) (Int32.toNatClampNeg (14 : Int32)))) dX5_copyOf_97 ?_
  refine z_aload_n C 1 rfl rfl dX5_copyOf_100 ?_
  refine z_get C 16 rfl (C := RX5) (T := TX5) (N := 16) (ci := 5) rfl inw_X5_copyOf_X5 8 (by decide) (ref := "EldestAge$Town") (List.mem_of_getElem? (i := 14) rfl) rfl (v := .ref (a 21)) rfl dX5_copyOf_101 ?_
  refine z_iconst C (v := (0 : Int32)) (by decide) dX5_copyOf_104 ?_
  refine z_aload_n C 0 rfl rfl dX5_copyOf_105 ?_
  refine z_get C 0 rfl (C := RX5) (T := TX5) (N := 16) (ci := 5) rfl inw_X5_copyOf_X5 8 (by decide) (ref := "EldestAge$Town") (List.mem_of_getElem? (i := 14) rfl) rfl (v := .ref (a 5)) rfl dX5_copyOf_106 ?_
  refine z_iconst C (v := (0 : Int32)) (by decide) dX5_copyOf_109 ?_
  refine z_bipush C (v := (12 : Int32)) (by decide) dX5_copyOf_110 ?_
  refine z_copy C (List.mem_of_getElem? (i := 7) rfl) (List.mem_of_getElem? (i := 8) rfl) (List.mem_of_getElem? (i := 9) rfl) (List.mem_of_getElem? (i := 10) rfl) (f := (S 40)) (g := (S 8)) (n0 := 12) (n1 := 12) 21 5 rfl rfl (by decide) (by decide) (by decide) (by decide) (by decide) (Nat.le_of_ble_eq_true rfl) (by decide +kernel) (wTown2 E a (st 8 (va_cpy (S 40) (S 8) (Int32.toNatClampNeg (0 : Int32)) (Int32.toNatClampNeg (0 : Int32)) (Int32.toNatClampNeg (12 : Int32))) (st 6 (va_cpy (S 38) (S 6) (Int32.toNatClampNeg (0 : Int32)) (Int32.toNatClampNeg (0 : Int32)) (Int32.toNatClampNeg (14 : Int32))) (st 5 (va_cpy (S 37) (S 5) (Int32.toNatClampNeg (0 : Int32)) (Int32.toNatClampNeg (0 : Int32)) (Int32.toNatClampNeg (14 : Int32))) (st 4 (va_cpy (S 36) (S 4) (Int32.toNatClampNeg (0 : Int32)) (Int32.toNatClampNeg (0 : Int32)) (Int32.toNatClampNeg (14 : Int32))) (st 3 (va_cpy (S 35) (S 3) (Int32.toNatClampNeg (0 : Int32)) (Int32.toNatClampNeg (0 : Int32)) (Int32.toNatClampNeg (14 : Int32))) (st 11 (fun _ => (S 43 0)) (st 7 (fun _ => (S 39 0)) (st 2 (fun _ => (S 34 0)) (st 1 (fun _ => (S 33 0)) (st 0 (fun _ => (S 32 0)) S))))))))))) (wl_X5_copyOf_9 E a (st 6 (va_cpy (S 38) (S 6) (Int32.toNatClampNeg (0 : Int32)) (Int32.toNatClampNeg (0 : Int32)) (Int32.toNatClampNeg (14 : Int32))) (st 5 (va_cpy (S 37) (S 5) (Int32.toNatClampNeg (0 : Int32)) (Int32.toNatClampNeg (0 : Int32)) (Int32.toNatClampNeg (14 : Int32))) (st 4 (va_cpy (S 36) (S 4) (Int32.toNatClampNeg (0 : Int32)) (Int32.toNatClampNeg (0 : Int32)) (Int32.toNatClampNeg (14 : Int32))) (st 3 (va_cpy (S 35) (S 3) (Int32.toNatClampNeg (0 : Int32)) (Int32.toNatClampNeg (0 : Int32)) (Int32.toNatClampNeg (14 : Int32))) (st 11 (fun _ => (S 43 0)) (st 7 (fun _ => (S 39 0)) (st 2 (fun _ => (S 34 0)) (st 1 (fun _ => (S 33 0)) (st 0 (fun _ => (S 32 0)) S))))))))) (va_cpy (S 40) (S 8) (Int32.toNatClampNeg (0 : Int32)) (Int32.toNatClampNeg (0 : Int32)) (Int32.toNatClampNeg (12 : Int32)))) dX5_copyOf_112 ?_
  refine z_aload_n C 1 rfl rfl dX5_copyOf_115 ?_
  refine z_get C 16 rfl (C := RX5) (T := TX5) (N := 16) (ci := 5) rfl inw_X5_copyOf_X5 9 (by decide) (ref := "EldestAge$Town") (List.mem_of_getElem? (i := 15) rfl) rfl (v := .ref (a 22)) rfl dX5_copyOf_116 ?_
  refine z_iconst C (v := (0 : Int32)) (by decide) dX5_copyOf_119 ?_
  refine z_aload_n C 0 rfl rfl dX5_copyOf_120 ?_
  refine z_get C 0 rfl (C := RX5) (T := TX5) (N := 16) (ci := 5) rfl inw_X5_copyOf_X5 9 (by decide) (ref := "EldestAge$Town") (List.mem_of_getElem? (i := 15) rfl) rfl (v := .ref (a 6)) rfl dX5_copyOf_121 ?_
  refine z_iconst C (v := (0 : Int32)) (by decide) dX5_copyOf_124 ?_
  refine z_bipush C (v := (12 : Int32)) (by decide) dX5_copyOf_125 ?_
  refine z_copy C (List.mem_of_getElem? (i := 7) rfl) (List.mem_of_getElem? (i := 8) rfl) (List.mem_of_getElem? (i := 9) rfl) (List.mem_of_getElem? (i := 10) rfl) (f := (S 41)) (g := (S 9)) (n0 := 12) (n1 := 12) 22 6 rfl rfl (by decide) (by decide) (by decide) (by decide) (by decide) (Nat.le_of_ble_eq_true rfl) (by decide +kernel) (wTown2 E a (st 9 (va_cpy (S 41) (S 9) (Int32.toNatClampNeg (0 : Int32)) (Int32.toNatClampNeg (0 : Int32)) (Int32.toNatClampNeg (12 : Int32))) (st 8 (va_cpy (S 40) (S 8) (Int32.toNatClampNeg (0 : Int32)) (Int32.toNatClampNeg (0 : Int32)) (Int32.toNatClampNeg (12 : Int32))) (st 6 (va_cpy (S 38) (S 6) (Int32.toNatClampNeg (0 : Int32)) (Int32.toNatClampNeg (0 : Int32)) (Int32.toNatClampNeg (14 : Int32))) (st 5 (va_cpy (S 37) (S 5) (Int32.toNatClampNeg (0 : Int32)) (Int32.toNatClampNeg (0 : Int32)) (Int32.toNatClampNeg (14 : Int32))) (st 4 (va_cpy (S 36) (S 4) (Int32.toNatClampNeg (0 : Int32)) (Int32.toNatClampNeg (0 : Int32)) (Int32.toNatClampNeg (14 : Int32))) (st 3 (va_cpy (S 35) (S 3) (Int32.toNatClampNeg (0 : Int32)) (Int32.toNatClampNeg (0 : Int32)) (Int32.toNatClampNeg (14 : Int32))) (st 11 (fun _ => (S 43 0)) (st 7 (fun _ => (S 39 0)) (st 2 (fun _ => (S 34 0)) (st 1 (fun _ => (S 33 0)) (st 0 (fun _ => (S 32 0)) S)))))))))))) (wl_X5_copyOf_10 E a (st 8 (va_cpy (S 40) (S 8) (Int32.toNatClampNeg (0 : Int32)) (Int32.toNatClampNeg (0 : Int32)) (Int32.toNatClampNeg (12 : Int32))) (st 6 (va_cpy (S 38) (S 6) (Int32.toNatClampNeg (0 : Int32)) (Int32.toNatClampNeg (0 : Int32)) (Int32.toNatClampNeg (14 : Int32))) (st 5 (va_cpy (S 37) (S 5) (Int32.toNatClampNeg (0 : Int32)) (Int32.toNatClampNeg (0 : Int32)) (Int32.toNatClampNeg (14 : Int32))) (st 4 (va_cpy (S 36) (S 4) (Int32.toNatClampNeg (0 : Int32)) (Int32.toNatClampNeg (0 : Int32)) (Int32.toNatClampNeg (14 : Int32))) (st 3 (va_cpy (S 35) (S 3) (Int32.toNatClampNeg (0 : Int32)) (Int32.toNatClampNeg (0 : Int32)) (Int32.toNatClampNeg (14 : Int32))) (st 11 (fun _ => (S 43 0)) (st 7 (fun _ => (S 39 0)) (st 2 (fun _ => (S 34 0)) (st 1 (fun _ => (S 33 0)) (st 0 (fun _ => (S 32 0)) S)))))))))) (va_cpy (S 41) (S 9) (Int32.toNatClampNeg (0 : Int32)) (Int32.toNatClampNeg (0 : Int32)) (Int32.toNatClampNeg (12 : Int32)))) dX5_copyOf_127 ?_
  refine z_aload_n C 1 rfl rfl dX5_copyOf_130 ?_
  refine z_get C 16 rfl (C := RX5) (T := TX5) (N := 16) (ci := 5) rfl inw_X5_copyOf_X5 10 (by decide) (ref := "EldestAge$Town") (List.mem_of_getElem? (i := 16) rfl) rfl (v := .ref (a 23)) rfl dX5_copyOf_131 ?_
  refine z_iconst C (v := (0 : Int32)) (by decide) dX5_copyOf_134 ?_
  refine z_aload_n C 0 rfl rfl dX5_copyOf_135 ?_
  refine z_get C 0 rfl (C := RX5) (T := TX5) (N := 16) (ci := 5) rfl inw_X5_copyOf_X5 10 (by decide) (ref := "EldestAge$Town") (List.mem_of_getElem? (i := 16) rfl) rfl (v := .ref (a 7)) rfl dX5_copyOf_136 ?_
  refine z_iconst C (v := (0 : Int32)) (by decide) dX5_copyOf_139 ?_
  refine z_bipush C (v := (12 : Int32)) (by decide) dX5_copyOf_140 ?_
  refine z_copy C (List.mem_of_getElem? (i := 7) rfl) (List.mem_of_getElem? (i := 8) rfl) (List.mem_of_getElem? (i := 9) rfl) (List.mem_of_getElem? (i := 10) rfl) (f := (S 42)) (g := (S 10)) (n0 := 12) (n1 := 12) 23 7 rfl rfl (by decide) (by decide) (by decide) (by decide) (by decide) (Nat.le_of_ble_eq_true rfl) (by decide +kernel) (wTown2 E a (st 10 (va_cpy (S 42) (S 10) (Int32.toNatClampNeg (0 : Int32)) (Int32.toNatClampNeg (0 : Int32)) (Int32.toNatClampNeg (12 : Int32))) (st 9 (va_cpy (S 41) (S 9) (Int32.toNatClampNeg (0 : Int32)) (Int32.toNatClampNeg (0 : Int32)) (Int32.toNatClampNeg (12 : Int32))) (st 8 (va_cpy (S 40) (S 8) (Int32.toNatClampNeg (0 : Int32)) (Int32.toNatClampNeg (0 : Int32)) (Int32.toNatClampNeg (12 : Int32))) (st 6 (va_cpy (S 38) (S 6) (Int32.toNatClampNeg (0 : Int32)) (Int32.toNatClampNeg (0 : Int32)) (Int32.toNatClampNeg (14 : Int32))) (st 5 (va_cpy (S 37) (S 5) (Int32.toNatClampNeg (0 : Int32)) (Int32.toNatClampNeg (0 : Int32)) (Int32.toNatClampNeg (14 : Int32))) (st 4 (va_cpy (S 36) (S 4) (Int32.toNatClampNeg (0 : Int32)) (Int32.toNatClampNeg (0 : Int32)) (Int32.toNatClampNeg (14 : Int32))) (st 3 (va_cpy (S 35) (S 3) (Int32.toNatClampNeg (0 : Int32)) (Int32.toNatClampNeg (0 : Int32)) (Int32.toNatClampNeg (14 : Int32))) (st 11 (fun _ => (S 43 0)) (st 7 (fun _ => (S 39 0)) (st 2 (fun _ => (S 34 0)) (st 1 (fun _ => (S 33 0)) (st 0 (fun _ => (S 32 0)) S))))))))))))) (wl_X5_copyOf_11 E a (st 9 (va_cpy (S 41) (S 9) (Int32.toNatClampNeg (0 : Int32)) (Int32.toNatClampNeg (0 : Int32)) (Int32.toNatClampNeg (12 : Int32))) (st 8 (va_cpy (S 40) (S 8) (Int32.toNatClampNeg (0 : Int32)) (Int32.toNatClampNeg (0 : Int32)) (Int32.toNatClampNeg (12 : Int32))) (st 6 (va_cpy (S 38) (S 6) (Int32.toNatClampNeg (0 : Int32)) (Int32.toNatClampNeg (0 : Int32)) (Int32.toNatClampNeg (14 : Int32))) (st 5 (va_cpy (S 37) (S 5) (Int32.toNatClampNeg (0 : Int32)) (Int32.toNatClampNeg (0 : Int32)) (Int32.toNatClampNeg (14 : Int32))) (st 4 (va_cpy (S 36) (S 4) (Int32.toNatClampNeg (0 : Int32)) (Int32.toNatClampNeg (0 : Int32)) (Int32.toNatClampNeg (14 : Int32))) (st 3 (va_cpy (S 35) (S 3) (Int32.toNatClampNeg (0 : Int32)) (Int32.toNatClampNeg (0 : Int32)) (Int32.toNatClampNeg (14 : Int32))) (st 11 (fun _ => (S 43 0)) (st 7 (fun _ => (S 39 0)) (st 2 (fun _ => (S 34 0)) (st 1 (fun _ => (S 33 0)) (st 0 (fun _ => (S 32 0)) S))))))))))) (va_cpy (S 42) (S 10) (Int32.toNatClampNeg (0 : Int32)) (Int32.toNatClampNeg (0 : Int32)) (Int32.toNatClampNeg (12 : Int32)))) dX5_copyOf_142 ?_
  refine z_aload_n C 1 rfl rfl dX5_copyOf_145 ?_
  refine z_get C 16 rfl (C := RX5) (T := TX5) (N := 16) (ci := 5) rfl inw_X5_copyOf_X5 12 (by decide) (ref := "EldestAge$Town") (List.mem_of_getElem? (i := 17) rfl) rfl (v := .ref (a 24)) rfl dX5_copyOf_146 ?_
  refine z_iconst C (v := (0 : Int32)) (by decide) dX5_copyOf_149 ?_
  refine z_aload_n C 0 rfl rfl dX5_copyOf_150 ?_
  refine z_get C 0 rfl (C := RX5) (T := TX5) (N := 16) (ci := 5) rfl inw_X5_copyOf_X5 12 (by decide) (ref := "EldestAge$Town") (List.mem_of_getElem? (i := 17) rfl) rfl (v := .ref (a 8)) rfl dX5_copyOf_151 ?_
  refine z_iconst C (v := (0 : Int32)) (by decide) dX5_copyOf_154 ?_
  refine z_iconst C (v := (4 : Int32)) (by decide) dX5_copyOf_155 ?_
  refine z_copy C (List.mem_of_getElem? (i := 7) rfl) (List.mem_of_getElem? (i := 8) rfl) (List.mem_of_getElem? (i := 9) rfl) (List.mem_of_getElem? (i := 10) rfl) (f := (S 44)) (g := (S 12)) (n0 := 4) (n1 := 4) 24 8 rfl rfl (by decide) (by decide) (by decide) (by decide) (by decide) (Nat.le_of_ble_eq_true rfl) (by decide +kernel) (wTown2 E a (st 12 (va_cpy (S 44) (S 12) (Int32.toNatClampNeg (0 : Int32)) (Int32.toNatClampNeg (0 : Int32)) (Int32.toNatClampNeg (4 : Int32))) (st 10 (va_cpy (S 42) (S 10) (Int32.toNatClampNeg (0 : Int32)) (Int32.toNatClampNeg (0 : Int32)) (Int32.toNatClampNeg (12 : Int32))) (st 9 (va_cpy (S 41) (S 9) (Int32.toNatClampNeg (0 : Int32)) (Int32.toNatClampNeg (0 : Int32)) (Int32.toNatClampNeg (12 : Int32))) (st 8 (va_cpy (S 40) (S 8) (Int32.toNatClampNeg (0 : Int32)) (Int32.toNatClampNeg (0 : Int32)) (Int32.toNatClampNeg (12 : Int32))) (st 6 (va_cpy (S 38) (S 6) (Int32.toNatClampNeg (0 : Int32)) (Int32.toNatClampNeg (0 : Int32)) (Int32.toNatClampNeg (14 : Int32))) (st 5 (va_cpy (S 37) (S 5) (Int32.toNatClampNeg (0 : Int32)) (Int32.toNatClampNeg (0 : Int32)) (Int32.toNatClampNeg (14 : Int32))) (st 4 (va_cpy (S 36) (S 4) (Int32.toNatClampNeg (0 : Int32)) (Int32.toNatClampNeg (0 : Int32)) (Int32.toNatClampNeg (14 : Int32))) (st 3 (va_cpy (S 35) (S 3) (Int32.toNatClampNeg (0 : Int32)) (Int32.toNatClampNeg (0 : Int32)) (Int32.toNatClampNeg (14 : Int32))) (st 11 (fun _ => (S 43 0)) (st 7 (fun _ => (S 39 0)) (st 2 (fun _ => (S 34 0)) (st 1 (fun _ => (S 33 0)) (st 0 (fun _ => (S 32 0)) S)))))))))))))) (wl_X5_copyOf_12 E a (st 10 (va_cpy (S 42) (S 10) (Int32.toNatClampNeg (0 : Int32)) (Int32.toNatClampNeg (0 : Int32)) (Int32.toNatClampNeg (12 : Int32))) (st 9 (va_cpy (S 41) (S 9) (Int32.toNatClampNeg (0 : Int32)) (Int32.toNatClampNeg (0 : Int32)) (Int32.toNatClampNeg (12 : Int32))) (st 8 (va_cpy (S 40) (S 8) (Int32.toNatClampNeg (0 : Int32)) (Int32.toNatClampNeg (0 : Int32)) (Int32.toNatClampNeg (12 : Int32))) (st 6 (va_cpy (S 38) (S 6) (Int32.toNatClampNeg (0 : Int32)) (Int32.toNatClampNeg (0 : Int32)) (Int32.toNatClampNeg (14 : Int32))) (st 5 (va_cpy (S 37) (S 5) (Int32.toNatClampNeg (0 : Int32)) (Int32.toNatClampNeg (0 : Int32)) (Int32.toNatClampNeg (14 : Int32))) (st 4 (va_cpy (S 36) (S 4) (Int32.toNatClampNeg (0 : Int32)) (Int32.toNatClampNeg (0 : Int32)) (Int32.toNatClampNeg (14 : Int32))) (st 3 (va_cpy (S 35) (S 3) (Int32.toNatClampNeg (0 : Int32)) (Int32.toNatClampNeg (0 : Int32)) (Int32.toNatClampNeg (14 : Int32))) (st 11 (fun _ => (S 43 0)) (st 7 (fun _ => (S 39 0)) (st 2 (fun _ => (S 34 0)) (st 1 (fun _ => (S 33 0)) (st 0 (fun _ => (S 32 0)) S)))))))))))) (va_cpy (S 44) (S 12) (Int32.toNatClampNeg (0 : Int32)) (Int32.toNatClampNeg (0 : Int32)) (Int32.toNatClampNeg (4 : Int32)))) dX5_copyOf_156 ?_
  refine z_aload_n C 1 rfl rfl dX5_copyOf_159 ?_
  refine z_get C 16 rfl (C := RX5) (T := TX5) (N := 16) (ci := 5) rfl inw_X5_copyOf_X5 13 (by decide) (ref := "EldestAge$Town") (List.mem_of_getElem? (i := 18) rfl) rfl (v := .ref (a 25)) rfl dX5_copyOf_160 ?_
  refine z_iconst C (v := (0 : Int32)) (by decide) dX5_copyOf_163 ?_
  refine z_aload_n C 0 rfl rfl dX5_copyOf_164 ?_
  refine z_get C 0 rfl (C := RX5) (T := TX5) (N := 16) (ci := 5) rfl inw_X5_copyOf_X5 13 (by decide) (ref := "EldestAge$Town") (List.mem_of_getElem? (i := 18) rfl) rfl (v := .ref (a 9)) rfl dX5_copyOf_165 ?_
  refine z_iconst C (v := (0 : Int32)) (by decide) dX5_copyOf_168 ?_
  refine z_iconst C (v := (4 : Int32)) (by decide) dX5_copyOf_169 ?_
  refine z_copy C (List.mem_of_getElem? (i := 7) rfl) (List.mem_of_getElem? (i := 8) rfl) (List.mem_of_getElem? (i := 9) rfl) (List.mem_of_getElem? (i := 10) rfl) (f := (S 45)) (g := (S 13)) (n0 := 4) (n1 := 4) 25 9 rfl rfl (by decide) (by decide) (by decide) (by decide) (by decide) (Nat.le_of_ble_eq_true rfl) (by decide +kernel) (wTown2 E a (st 13 (va_cpy (S 45) (S 13) (Int32.toNatClampNeg (0 : Int32)) (Int32.toNatClampNeg (0 : Int32)) (Int32.toNatClampNeg (4 : Int32))) (st 12 (va_cpy (S 44) (S 12) (Int32.toNatClampNeg (0 : Int32)) (Int32.toNatClampNeg (0 : Int32)) (Int32.toNatClampNeg (4 : Int32))) (st 10 (va_cpy (S 42) (S 10) (Int32.toNatClampNeg (0 : Int32)) (Int32.toNatClampNeg (0 : Int32)) (Int32.toNatClampNeg (12 : Int32))) (st 9 (va_cpy (S 41) (S 9) (Int32.toNatClampNeg (0 : Int32)) (Int32.toNatClampNeg (0 : Int32)) (Int32.toNatClampNeg (12 : Int32))) (st 8 (va_cpy (S 40) (S 8) (Int32.toNatClampNeg (0 : Int32)) (Int32.toNatClampNeg (0 : Int32)) (Int32.toNatClampNeg (12 : Int32))) (st 6 (va_cpy (S 38) (S 6) (Int32.toNatClampNeg (0 : Int32)) (Int32.toNatClampNeg (0 : Int32)) (Int32.toNatClampNeg (14 : Int32))) (st 5 (va_cpy (S 37) (S 5) (Int32.toNatClampNeg (0 : Int32)) (Int32.toNatClampNeg (0 : Int32)) (Int32.toNatClampNeg (14 : Int32))) (st 4 (va_cpy (S 36) (S 4) (Int32.toNatClampNeg (0 : Int32)) (Int32.toNatClampNeg (0 : Int32)) (Int32.toNatClampNeg (14 : Int32))) (st 3 (va_cpy (S 35) (S 3) (Int32.toNatClampNeg (0 : Int32)) (Int32.toNatClampNeg (0 : Int32)) (Int32.toNatClampNeg (14 : Int32))) (st 11 (fun _ => (S 43 0)) (st 7 (fun _ => (S 39 0)) (st 2 (fun _ => (S 34 0)) (st 1 (fun _ => (S 33 0)) (st 0 (fun _ => (S 32 0)) S))))))))))))))) (wl_X5_copyOf_13 E a (st 12 (va_cpy (S 44) (S 12) (Int32.toNatClampNeg (0 : Int32)) (Int32.toNatClampNeg (0 : Int32)) (Int32.toNatClampNeg (4 : Int32))) (st 10 (va_cpy (S 42) (S 10) (Int32.toNatClampNeg (0 : Int32)) (Int32.toNatClampNeg (0 : Int32)) (Int32.toNatClampNeg (12 : Int32))) (st 9 (va_cpy (S 41) (S 9) (Int32.toNatClampNeg (0 : Int32)) (Int32.toNatClampNeg (0 : Int32)) (Int32.toNatClampNeg (12 : Int32))) (st 8 (va_cpy (S 40) (S 8) (Int32.toNatClampNeg (0 : Int32)) (Int32.toNatClampNeg (0 : Int32)) (Int32.toNatClampNeg (12 : Int32))) (st 6 (va_cpy (S 38) (S 6) (Int32.toNatClampNeg (0 : Int32)) (Int32.toNatClampNeg (0 : Int32)) (Int32.toNatClampNeg (14 : Int32))) (st 5 (va_cpy (S 37) (S 5) (Int32.toNatClampNeg (0 : Int32)) (Int32.toNatClampNeg (0 : Int32)) (Int32.toNatClampNeg (14 : Int32))) (st 4 (va_cpy (S 36) (S 4) (Int32.toNatClampNeg (0 : Int32)) (Int32.toNatClampNeg (0 : Int32)) (Int32.toNatClampNeg (14 : Int32))) (st 3 (va_cpy (S 35) (S 3) (Int32.toNatClampNeg (0 : Int32)) (Int32.toNatClampNeg (0 : Int32)) (Int32.toNatClampNeg (14 : Int32))) (st 11 (fun _ => (S 43 0)) (st 7 (fun _ => (S 39 0)) (st 2 (fun _ => (S 34 0)) (st 1 (fun _ => (S 33 0)) (st 0 (fun _ => (S 32 0)) S))))))))))))) (va_cpy (S 45) (S 13) (Int32.toNatClampNeg (0 : Int32)) (Int32.toNatClampNeg (0 : Int32)) (Int32.toNatClampNeg (4 : Int32)))) dX5_copyOf_170 ?_
  refine z_aload_n C 1 rfl rfl dX5_copyOf_173 ?_
  refine z_get C 16 rfl (C := RX5) (T := TX5) (N := 16) (ci := 5) rfl inw_X5_copyOf_X5 14 (by decide) (ref := "EldestAge$Town") (List.mem_of_getElem? (i := 19) rfl) rfl (v := .ref (a 26)) rfl dX5_copyOf_174 ?_
  refine z_iconst C (v := (0 : Int32)) (by decide) dX5_copyOf_177 ?_
  refine z_aload_n C 0 rfl rfl dX5_copyOf_178 ?_
  refine z_get C 0 rfl (C := RX5) (T := TX5) (N := 16) (ci := 5) rfl inw_X5_copyOf_X5 14 (by decide) (ref := "EldestAge$Town") (List.mem_of_getElem? (i := 19) rfl) rfl (v := .ref (a 10)) rfl dX5_copyOf_179 ?_
  refine z_iconst C (v := (0 : Int32)) (by decide) dX5_copyOf_182 ?_
  refine z_iconst C (v := (4 : Int32)) (by decide) dX5_copyOf_183 ?_
  refine z_copy C (List.mem_of_getElem? (i := 7) rfl) (List.mem_of_getElem? (i := 8) rfl) (List.mem_of_getElem? (i := 9) rfl) (List.mem_of_getElem? (i := 10) rfl) (f := (S 46)) (g := (S 14)) (n0 := 4) (n1 := 4) 26 10 rfl rfl (by decide) (by decide) (by decide) (by decide) (by decide) (Nat.le_of_ble_eq_true rfl) (by decide +kernel) (wTown2 E a (st 14 (va_cpy (S 46) (S 14) (Int32.toNatClampNeg (0 : Int32)) (Int32.toNatClampNeg (0 : Int32)) (Int32.toNatClampNeg (4 : Int32))) (st 13 (va_cpy (S 45) (S 13) (Int32.toNatClampNeg (0 : Int32)) (Int32.toNatClampNeg (0 : Int32)) (Int32.toNatClampNeg (4 : Int32))) (st 12 (va_cpy (S 44) (S 12) (Int32.toNatClampNeg (0 : Int32)) (Int32.toNatClampNeg (0 : Int32)) (Int32.toNatClampNeg (4 : Int32))) (st 10 (va_cpy (S 42) (S 10) (Int32.toNatClampNeg (0 : Int32)) (Int32.toNatClampNeg (0 : Int32)) (Int32.toNatClampNeg (12 : Int32))) (st 9 (va_cpy (S 41) (S 9) (Int32.toNatClampNeg (0 : Int32)) (Int32.toNatClampNeg (0 : Int32)) (Int32.toNatClampNeg (12 : Int32))) (st 8 (va_cpy (S 40) (S 8) (Int32.toNatClampNeg (0 : Int32)) (Int32.toNatClampNeg (0 : Int32)) (Int32.toNatClampNeg (12 : Int32))) (st 6 (va_cpy (S 38) (S 6) (Int32.toNatClampNeg (0 : Int32)) (Int32.toNatClampNeg (0 : Int32)) (Int32.toNatClampNeg (14 : Int32))) (st 5 (va_cpy (S 37) (S 5) (Int32.toNatClampNeg (0 : Int32)) (Int32.toNatClampNeg (0 : Int32)) (Int32.toNatClampNeg (14 : Int32))) (st 4 (va_cpy (S 36) (S 4) (Int32.toNatClampNeg (0 : Int32)) (Int32.toNatClampNeg (0 : Int32)) (Int32.toNatClampNeg (14 : Int32))) (st 3 (va_cpy (S 35) (S 3) (Int32.toNatClampNeg (0 : Int32)) (Int32.toNatClampNeg (0 : Int32)) (Int32.toNatClampNeg (14 : Int32))) (st 11 (fun _ => (S 43 0)) (st 7 (fun _ => (S 39 0)) (st 2 (fun _ => (S 34 0)) (st 1 (fun _ => (S 33 0)) (st 0 (fun _ => (S 32 0)) S)))))))))))))))) (wl_X5_copyOf_14 E a (st 13 (va_cpy (S 45) (S 13) (Int32.toNatClampNeg (0 : Int32)) (Int32.toNatClampNeg (0 : Int32)) (Int32.toNatClampNeg (4 : Int32))) (st 12 (va_cpy (S 44) (S 12) (Int32.toNatClampNeg (0 : Int32)) (Int32.toNatClampNeg (0 : Int32)) (Int32.toNatClampNeg (4 : Int32))) (st 10 (va_cpy (S 42) (S 10) (Int32.toNatClampNeg (0 : Int32)) (Int32.toNatClampNeg (0 : Int32)) (Int32.toNatClampNeg (12 : Int32))) (st 9 (va_cpy (S 41) (S 9) (Int32.toNatClampNeg (0 : Int32)) (Int32.toNatClampNeg (0 : Int32)) (Int32.toNatClampNeg (12 : Int32))) (st 8 (va_cpy (S 40) (S 8) (Int32.toNatClampNeg (0 : Int32)) (Int32.toNatClampNeg (0 : Int32)) (Int32.toNatClampNeg (12 : Int32))) (st 6 (va_cpy (S 38) (S 6) (Int32.toNatClampNeg (0 : Int32)) (Int32.toNatClampNeg (0 : Int32)) (Int32.toNatClampNeg (14 : Int32))) (st 5 (va_cpy (S 37) (S 5) (Int32.toNatClampNeg (0 : Int32)) (Int32.toNatClampNeg (0 : Int32)) (Int32.toNatClampNeg (14 : Int32))) (st 4 (va_cpy (S 36) (S 4) (Int32.toNatClampNeg (0 : Int32)) (Int32.toNatClampNeg (0 : Int32)) (Int32.toNatClampNeg (14 : Int32))) (st 3 (va_cpy (S 35) (S 3) (Int32.toNatClampNeg (0 : Int32)) (Int32.toNatClampNeg (0 : Int32)) (Int32.toNatClampNeg (14 : Int32))) (st 11 (fun _ => (S 43 0)) (st 7 (fun _ => (S 39 0)) (st 2 (fun _ => (S 34 0)) (st 1 (fun _ => (S 33 0)) (st 0 (fun _ => (S 32 0)) S)))))))))))))) (va_cpy (S 46) (S 14) (Int32.toNatClampNeg (0 : Int32)) (Int32.toNatClampNeg (0 : Int32)) (Int32.toNatClampNeg (4 : Int32)))) dX5_copyOf_184 ?_
  obtain rfl := Option.some.inj h
  exact R 187 _ dX5_copyOf_187

theorem c_X5_copyOf (E : zEnv) (a : Nat → Nat) (S : St) {res : St} (h : f_X5_copyOf S = some res) : Ktv E yX5_copyOf wsX5_copyOf rm_X5_copyOf (wTown2 E a S) (wTown2 E a res) [.ref (a 0), .ref (a 16)] :=
  z_entv (cc := cX5_copyOf) (maxL := 2) (by decide +kernel) rfl (Nat.le_of_ble_eq_true rfl) (fun Γ C R => L_X5_copyOf a C R S h)

abbrev rm_X5_chooseBirths : Room := { frames := 1, cells := 0, slots := 0, locals := 21 }
theorem inw_X5_chooseBirths_X5 : ∀ w ∈ wsX50, w ∈ wsX5_chooseBirths := fun _ h => List.mem_cons_of_mem _ (List.mem_append_right _ h)
set_option maxHeartbeats 4000000 in
theorem wl_X5_chooseBirths_0 (E : zEnv) (a : Nat → Nat) (S : St) (f : Nat → Int32) : (wTown2 E a (st 4 f S)) = (wTown2 E a S).set 2 (a 2, .inl (zI E, 14, .inl f)) := rfl
noncomputable def f_X5_chooseBirths_118 (k13 : Int32 → Int32 → Int32 → Int32 → Int32 → St → Option St) (x2 : Int32) (x3 : Int32) (x5 : Int32) (x6 : Int32) (x7 : Int32) (S : St) : Option St := (k13 x2 x3 x5 x6 (x7 + (1 : Int32)) S)
noncomputable def f_X5_chooseBirths_108 (k13 : Int32 → Int32 → Int32 → Int32 → Int32 → St → Option St) (x2 : Int32) (x3 : Int32) (x5 : Int32) (x6 : Int32) (x7 : Int32) (y1 : Int32) (y2 : Int32) (S : St) : Option St := (ix y1 14 (f_X5_chooseBirths_118 k13 x2 x3 (x5 / (3 : Int32)) (x6 + (1 : Int32)) x7 (st 4 (upd (S 4) (Int32.toNatClampNeg y1) y2) S)))
noncomputable def f_X5_chooseBirths_13 (n : Nat) : Int32 → Int32 → Int32 → Int32 → Int32 → St → Option St := Nat.rec (motive := fun _ => Int32 → Int32 → Int32 → Int32 → Int32 → St → Option St) (fun _ _ _ _ _ _ => none) (fun _ ih => fun x2 x3 x5 x6 x7 S => (if (S 11 0) ≤ x7 then (some S) else (ix x7 4 (if (S 12 (Int32.toNatClampNeg x7)) = x2 then (if (S 2 0) ≤ x6 then (f_X5_chooseBirths_118 ih x2 x3 x5 x6 x7 S) else (ix x7 4 (ix x7 4 (if (zrem x5 (3 : Int32)) = 0 then (f_X5_chooseBirths_108 ih x2 x3 x5 x6 x7 x6 (S 13 (Int32.toNatClampNeg x7)) S) else (if (zrem x5 (3 : Int32)) = (1 : Int32) then (f_X5_chooseBirths_108 ih x2 x3 x5 x6 x7 x6 (zmax (S 13 (Int32.toNatClampNeg x7)) (zmin (S 14 (Int32.toNatClampNeg x7)) x3)) S) else (f_X5_chooseBirths_108 ih x2 x3 x5 x6 x7 x6 (S 14 (Int32.toNatClampNeg x7)) S)))))) else (f_X5_chooseBirths_118 ih x2 x3 x5 x6 x7 S))))) n
theorem f_X5_chooseBirths_13_s (n : Nat) (x2 : Int32) (x3 : Int32) (x5 : Int32) (x6 : Int32) (x7 : Int32) (S : St) : f_X5_chooseBirths_13 (n + 1) x2 x3 x5 x6 x7 S = (if (S 11 0) ≤ x7 then (some S) else (ix x7 4 (if (S 12 (Int32.toNatClampNeg x7)) = x2 then (if (S 2 0) ≤ x6 then (f_X5_chooseBirths_118 (f_X5_chooseBirths_13 n) x2 x3 x5 x6 x7 S) else (ix x7 4 (ix x7 4 (if (zrem x5 (3 : Int32)) = 0 then (f_X5_chooseBirths_108 (f_X5_chooseBirths_13 n) x2 x3 x5 x6 x7 x6 (S 13 (Int32.toNatClampNeg x7)) S) else (if (zrem x5 (3 : Int32)) = (1 : Int32) then (f_X5_chooseBirths_108 (f_X5_chooseBirths_13 n) x2 x3 x5 x6 x7 x6 (zmax (S 13 (Int32.toNatClampNeg x7)) (zmin (S 14 (Int32.toNatClampNeg x7)) x3)) S) else (f_X5_chooseBirths_108 (f_X5_chooseBirths_13 n) x2 x3 x5 x6 x7 x6 (S 14 (Int32.toNatClampNeg x7)) S)))))) else (f_X5_chooseBirths_118 (f_X5_chooseBirths_13 n) x2 x3 x5 x6 x7 S)))) := rfl
noncomputable def f_X5_chooseBirths (x2 : Int32) (x3 : Int32) (x4 : Int32) (S : St) : Option St := (f_X5_chooseBirths_13 1000 x2 x3 x4 (S 34 0) (0 : Int32) S)
set_option maxHeartbeats 4000000 in
set_option maxRecDepth 100000 in
theorem L_X5_chooseBirths_118 {E : zEnv} {Γ : zG} (a : Nat → Nat) (C : zC E Γ cX5_chooseBirths RX5 12 rm_X5_chooseBirths wsX5_chooseBirths) {res : St} (R : zRv E Γ cX5_chooseBirths 12 (wTown2 E a res)) (k13 : Int32 → Int32 → Int32 → Int32 → Int32 → St → Option St) (hk13 : ∀ (x2 : Int32) (x3 : Int32) (x5 : Int32) (x6 : Int32) (x7 : Int32) (S : St), k13 x2 x3 x5 x6 x7 S = some res → Zt E Γ 12 0 0 (wTown2 E a S) [(0, .ref (a 0)), (2, .int x2), (3, .int x3), (5, .int x5), (6, .int x6), (7, .int x7)] 13 []) (x2 : Int32) (x3 : Int32) (x5 : Int32) (x6 : Int32) (x7 : Int32) (S : St) (h : f_X5_chooseBirths_118 k13 x2 x3 x5 x6 x7 S = some res) : Zt E Γ 12 0 0 (wTown2 E a S) [(0, .ref (a 0)), (2, .int x2), (3, .int x3), (5, .int x5), (6, .int x6), (7, .int x7)] 118 [] := by
  unfold f_X5_chooseBirths_118 at h
  refine z_iinc C [(7, .int (x7 + (1 : Int32))), (0, .ref (a 0)), (2, .int x2), (3, .int x3), (5, .int x5), (6, .int x6)] 5 rfl (by first | rfl | decide) (by decide) rfl dX5_chooseBirths_118 ?_
  refine z_goto C 13 (by decide) dX5_chooseBirths_121 ?_
  refine Zt_l [(0, .ref (a 0)), (2, .int x2), (3, .int x3), (5, .int x5), (6, .int x6), (7, .int (x7 + (1 : Int32)))] [1, 2, 3, 4, 5, 0] rfl ?_
  exact hk13 x2 x3 x5 x6 (x7 + (1 : Int32)) S h

set_option maxHeartbeats 4000000 in
set_option maxRecDepth 100000 in
theorem L_X5_chooseBirths_108 {E : zEnv} {Γ : zG} (a : Nat → Nat) (C : zC E Γ cX5_chooseBirths RX5 12 rm_X5_chooseBirths wsX5_chooseBirths) {res : St} (R : zRv E Γ cX5_chooseBirths 12 (wTown2 E a res)) (k13 : Int32 → Int32 → Int32 → Int32 → Int32 → St → Option St) (hk13 : ∀ (x2 : Int32) (x3 : Int32) (x5 : Int32) (x6 : Int32) (x7 : Int32) (S : St), k13 x2 x3 x5 x6 x7 S = some res → Zt E Γ 12 0 0 (wTown2 E a S) [(0, .ref (a 0)), (2, .int x2), (3, .int x3), (5, .int x5), (6, .int x6), (7, .int x7)] 13 []) (x2 : Int32) (x3 : Int32) (x5 : Int32) (x6 : Int32) (x7 : Int32) (y1 : Int32) (y2 : Int32) (S : St) (h : f_X5_chooseBirths_108 k13 x2 x3 x5 x6 x7 y1 y2 S = some res) : Zt E Γ 12 0 0 (wTown2 E a S) [(0, .ref (a 0)), (2, .int x2), (3, .int x3), (5, .int x5), (6, .int x6), (7, .int x7)] 108 [.int y2, .int y1, .ref (a 2)] := by
  unfold f_X5_chooseBirths_108 at h
  refine z_iast C (N := 14) (f := (S 4)) 2 rfl h (wTown2 E a (st 4 (upd (S 4) (Int32.toNatClampNeg y1) y2) S)) (wl_X5_chooseBirths_0 E a S (upd (S 4) (Int32.toNatClampNeg y1) y2)) dX5_chooseBirths_108 (fun h => ?_)
  refine z_iload C 3 rfl dX5_chooseBirths_109 ?_
  refine z_iconst C (v := (3 : Int32)) (by decide) dX5_chooseBirths_111 ?_
  refine z_idiv C (by decide) dX5_chooseBirths_112 ?_
  refine z_istore C [(5, .int (x5 / (3 : Int32))), (0, .ref (a 0)), (2, .int x2), (3, .int x3), (6, .int x6), (7, .int x7)] (by decide) rfl dX5_chooseBirths_113 ?_
  refine z_iinc C [(6, .int (x6 + (1 : Int32))), (5, .int (x5 / (3 : Int32))), (0, .ref (a 0)), (2, .int x2), (3, .int x3), (7, .int x7)] 4 rfl (by first | rfl | decide) (by decide) rfl dX5_chooseBirths_115 ?_
  refine Zt_l [(0, .ref (a 0)), (2, .int x2), (3, .int x3), (5, .int (x5 / (3 : Int32))), (6, .int (x6 + (1 : Int32))), (7, .int x7)] [2, 3, 4, 1, 0, 5] rfl ?_
  exact L_X5_chooseBirths_118 a C R k13 hk13 x2 x3 (x5 / (3 : Int32)) (x6 + (1 : Int32)) x7 (st 4 (upd (S 4) (Int32.toNatClampNeg y1) y2) S) h

set_option maxHeartbeats 4000000 in
set_option maxRecDepth 100000 in
theorem L_X5_chooseBirths_13 {E : zEnv} {Γ : zG} (a : Nat → Nat) (C : zC E Γ cX5_chooseBirths RX5 12 rm_X5_chooseBirths wsX5_chooseBirths) {res : St} (R : zRv E Γ cX5_chooseBirths 12 (wTown2 E a res)) : ∀ (n : Nat) (x2 : Int32) (x3 : Int32) (x5 : Int32) (x6 : Int32) (x7 : Int32) (S : St), f_X5_chooseBirths_13 n x2 x3 x5 x6 x7 S = some res → Zt E Γ 12 0 0 (wTown2 E a S) [(0, .ref (a 0)), (2, .int x2), (3, .int x3), (5, .int x5), (6, .int x6), (7, .int x7)] 13 [] := by
  intro n
  induction n with
  | zero =>
    intro x2 x3 x5 x6 x7 S h
    cases h
  | succ n ih =>
    intro x2 x3 x5 x6 x7 S h
    rw [f_X5_chooseBirths_13_s] at h
    refine z_iload C 5 rfl dX5_chooseBirths_13 ?_
    refine z_aload_n C 0 rfl rfl dX5_chooseBirths_15 ?_
    refine z_get C 0 rfl (C := RX5) (T := TX5) (N := 16) (ci := 5) rfl inw_X5_chooseBirths_X5 11 (by decide) (ref := "EldestAge$Town") (List.mem_of_getElem? (i := 2) rfl) rfl (v := .int (S 11 0)) rfl dX5_chooseBirths_16 ?_
    refine z_icmp_ge C 124 (by decide) h dX5_chooseBirths_19 (fun hc h => ?_) (fun hc h => ?_)
    · obtain rfl := Option.some.inj h
      exact R 124 _ dX5_chooseBirths_124
    · refine z_aload_n C 0 rfl rfl dX5_chooseBirths_22 ?_
      refine z_get C 0 rfl (C := RX5) (T := TX5) (N := 16) (ci := 5) rfl inw_X5_chooseBirths_X5 12 (by decide) (ref := "EldestAge$Town") (List.mem_of_getElem? (i := 3) rfl) rfl (v := .ref (a 8)) rfl dX5_chooseBirths_23 ?_
      refine z_iload C 5 rfl dX5_chooseBirths_26 ?_
      refine z_iald C (N := 4) (f := (S 12)) 8 rfl h dX5_chooseBirths_28 (fun h => ?_)
      refine z_iload_n C 1 rfl rfl dX5_chooseBirths_29 ?_
      refine z_icmp_ne C 118 (by decide) h dX5_chooseBirths_30 (fun hc h => ?_) (fun hc h => ?_)
      · refine z_iload C 4 rfl dX5_chooseBirths_33 ?_
        refine z_aload_n C 0 rfl rfl dX5_chooseBirths_35 ?_
        refine z_get C 0 rfl (C := RX5) (T := TX5) (N := 16) (ci := 5) rfl inw_X5_chooseBirths_X5 2 (by decide) (ref := "EldestAge$Town") (List.mem_of_getElem? (i := 1) rfl) rfl (v := .int (S 2 0)) rfl dX5_chooseBirths_36 ?_
        refine z_icmp_ge C 118 (by decide) h dX5_chooseBirths_39 (fun hc h => ?_) (fun hc h => ?_)
        · exact L_X5_chooseBirths_118 a C R _ ih x2 x3 x5 x6 x7 S h
        · refine z_aload_n C 0 rfl rfl dX5_chooseBirths_42 ?_
          refine z_get C 0 rfl (C := RX5) (T := TX5) (N := 16) (ci := 5) rfl inw_X5_chooseBirths_X5 13 (by decide) (ref := "EldestAge$Town") (List.mem_of_getElem? (i := 4) rfl) rfl (v := .ref (a 9)) rfl dX5_chooseBirths_43 ?_
          refine z_iload C 5 rfl dX5_chooseBirths_46 ?_
          refine z_iald C (N := 4) (f := (S 13)) 9 rfl h dX5_chooseBirths_48 (fun h => ?_)
          refine z_istore C [(8, .int (S 13 (Int32.toNatClampNeg x7))), (0, .ref (a 0)), (2, .int x2), (3, .int x3), (5, .int x5), (6, .int x6), (7, .int x7)] (by decide) rfl dX5_chooseBirths_49 ?_
          refine z_aload_n C 1 rfl rfl dX5_chooseBirths_51 ?_
          refine z_get C 0 rfl (C := RX5) (T := TX5) (N := 16) (ci := 5) rfl inw_X5_chooseBirths_X5 14 (by decide) (ref := "EldestAge$Town") (List.mem_of_getElem? (i := 5) rfl) rfl (v := .ref (a 10)) rfl dX5_chooseBirths_52 ?_
          refine z_iload C 6 rfl dX5_chooseBirths_55 ?_
          refine z_iald C (N := 4) (f := (S 14)) 10 rfl h dX5_chooseBirths_57 (fun h => ?_)
          refine z_istore C [(9, .int (S 14 (Int32.toNatClampNeg x7))), (8, .int (S 13 (Int32.toNatClampNeg x7))), (0, .ref (a 0)), (2, .int x2), (3, .int x3), (5, .int x5), (6, .int x6), (7, .int x7)] (by decide) rfl dX5_chooseBirths_58 ?_
          refine z_iload C 1 rfl dX5_chooseBirths_60 ?_
          refine z_iload C 0 rfl dX5_chooseBirths_62 ?_
          refine z_iload_n C 4 rfl rfl dX5_chooseBirths_64 ?_
          refine z_min C (List.mem_of_getElem? (i := 6) rfl) (List.mem_of_getElem? (i := 7) rfl) (List.mem_of_getElem? (i := 8) rfl) (List.mem_of_getElem? (i := 9) rfl) (Nat.le_of_ble_eq_true rfl) (Nat.le_of_ble_eq_true rfl) (Nat.zero_le _) (Nat.zero_le _) dX5_chooseBirths_65 ?_
          refine z_max C (List.mem_of_getElem? (i := 10) rfl) (List.mem_of_getElem? (i := 11) rfl) (List.mem_of_getElem? (i := 8) rfl) (List.mem_of_getElem? (i := 12) rfl) (Nat.le_of_ble_eq_true rfl) (Nat.le_of_ble_eq_true rfl) (Nat.zero_le _) (Nat.zero_le _) dX5_chooseBirths_68 ?_
          refine z_istore C [(10, .int (zmax (S 13 (Int32.toNatClampNeg x7)) (zmin (S 14 (Int32.toNatClampNeg x7)) x3))), (9, .int (S 14 (Int32.toNatClampNeg x7))), (8, .int (S 13 (Int32.toNatClampNeg x7))), (0, .ref (a 0)), (2, .int x2), (3, .int x3), (5, .int x5), (6, .int x6), (7, .int x7)] (by decide) rfl dX5_chooseBirths_71 ?_
          refine z_iload C 6 rfl dX5_chooseBirths_73 ?_
          refine z_iconst C (v := (3 : Int32)) (by decide) dX5_chooseBirths_75 ?_
          refine z_irem C (by decide) dX5_chooseBirths_76 ?_
          refine z_istore C [(11, .int (zrem x5 (3 : Int32))), (10, .int (zmax (S 13 (Int32.toNatClampNeg x7)) (zmin (S 14 (Int32.toNatClampNeg x7)) x3))), (9, .int (S 14 (Int32.toNatClampNeg x7))), (8, .int (S 13 (Int32.toNatClampNeg x7))), (0, .ref (a 0)), (2, .int x2), (3, .int x3), (5, .int x5), (6, .int x6), (7, .int x7)] (by decide) rfl dX5_chooseBirths_77 ?_
          refine z_aload_n C 4 rfl rfl dX5_chooseBirths_79 ?_
          refine z_get C 0 rfl (C := RX5) (T := TX5) (N := 16) (ci := 5) rfl inw_X5_chooseBirths_X5 4 (by decide) (ref := "EldestAge$Town") (List.mem_of_getElem? (i := 13) rfl) rfl (v := .ref (a 2)) rfl dX5_chooseBirths_80 ?_
          refine z_iload C 8 rfl dX5_chooseBirths_83 ?_
          refine z_iload C 0 rfl dX5_chooseBirths_85 ?_
          refine z_if_ne C 95 (by decide) h dX5_chooseBirths_87 (fun hc h => ?_) (fun hc h => ?_)
          · refine z_iload C 3 rfl dX5_chooseBirths_90 ?_
            refine z_goto C 108 (by decide) dX5_chooseBirths_92 ?_
            refine Zt_l [(0, .ref (a 0)), (2, .int x2), (3, .int x3), (5, .int x5), (6, .int x6), (7, .int x7)] [4, 5, 6, 7, 8, 9] rfl ?_
            exact L_X5_chooseBirths_108 a C R _ ih x2 x3 x5 x6 x7 x6 (S 13 (Int32.toNatClampNeg x7)) S h
          · refine z_iload C 0 rfl dX5_chooseBirths_95 ?_
            refine z_iconst C (v := (1 : Int32)) (by decide) dX5_chooseBirths_97 ?_
            refine z_icmp_ne C 106 (by decide) h dX5_chooseBirths_98 (fun hc h => ?_) (fun hc h => ?_)
            · refine z_iload C 1 rfl dX5_chooseBirths_101 ?_
              refine z_goto C 108 (by decide) dX5_chooseBirths_103 ?_
              refine Zt_l [(0, .ref (a 0)), (2, .int x2), (3, .int x3), (5, .int x5), (6, .int x6), (7, .int x7)] [4, 5, 6, 7, 8, 9] rfl ?_
              exact L_X5_chooseBirths_108 a C R _ ih x2 x3 x5 x6 x7 x6 (zmax (S 13 (Int32.toNatClampNeg x7)) (zmin (S 14 (Int32.toNatClampNeg x7)) x3)) S h
            · refine z_iload C 2 rfl dX5_chooseBirths_106 ?_
              refine Zt_l [(0, .ref (a 0)), (2, .int x2), (3, .int x3), (5, .int x5), (6, .int x6), (7, .int x7)] [4, 5, 6, 7, 8, 9] rfl ?_
              exact L_X5_chooseBirths_108 a C R _ ih x2 x3 x5 x6 x7 x6 (S 14 (Int32.toNatClampNeg x7)) S h
      · exact L_X5_chooseBirths_118 a C R _ ih x2 x3 x5 x6 x7 S h

set_option maxHeartbeats 4000000 in
set_option maxRecDepth 100000 in
theorem L_X5_chooseBirths {E : zEnv} {Γ : zG} (a : Nat → Nat) (C : zC E Γ cX5_chooseBirths RX5 12 rm_X5_chooseBirths wsX5_chooseBirths) {res : St} (R : zRv E Γ cX5_chooseBirths 12 (wTown2 E a res)) (x2 : Int32) (x3 : Int32) (x4 : Int32) (S : St) (h : f_X5_chooseBirths x2 x3 x4 S = some res) : Zt E Γ 12 0 0 (wTown2 E a S) [(0, .ref (a 0)), (1, .ref (a 16)), (2, .int x2), (3, .int x3), (4, .int x4)] 0 [] := by
  unfold f_X5_chooseBirths at h
  refine z_iload C 4 rfl dX5_chooseBirths_0 ?_
  refine z_istore C [(5, .int x4), (0, .ref (a 0)), (1, .ref (a 16)), (2, .int x2), (3, .int x3), (4, .int x4)] (by decide) rfl dX5_chooseBirths_2 ?_
  refine z_aload_n C 2 rfl rfl dX5_chooseBirths_4 ?_
  refine z_get C 16 rfl (C := RX5) (T := TX5) (N := 16) (ci := 5) rfl inw_X5_chooseBirths_X5 2 (by decide) (ref := "EldestAge$Town") (List.mem_of_getElem? (i := 1) rfl) rfl (v := .int (S 34 0)) rfl dX5_chooseBirths_5 ?_
  refine z_istore C [(6, .int (S 34 0)), (5, .int x4), (0, .ref (a 0)), (1, .ref (a 16)), (2, .int x2), (3, .int x3), (4, .int x4)] (by decide) rfl dX5_chooseBirths_8 ?_
  refine z_iconst C (v := (0 : Int32)) (by decide) dX5_chooseBirths_10 ?_
  refine z_istore C [(7, .int (0 : Int32)), (6, .int (S 34 0)), (5, .int x4), (0, .ref (a 0)), (1, .ref (a 16)), (2, .int x2), (3, .int x3), (4, .int x4)] (by decide) rfl dX5_chooseBirths_11 ?_
  refine Zt_l [(0, .ref (a 0)), (2, .int x2), (3, .int x3), (5, .int x4), (6, .int (S 34 0)), (7, .int (0 : Int32))] [3, 5, 6, 2, 1, 0] rfl ?_
  exact L_X5_chooseBirths_13 a C R 1000 x2 x3 x4 (S 34 0) (0 : Int32) S h

theorem c_X5_chooseBirths (E : zEnv) (a : Nat → Nat) (x2 : Int32) (x3 : Int32) (x4 : Int32) (S : St) {res : St} (h : f_X5_chooseBirths x2 x3 x4 S = some res) : Ktv E yX5_chooseBirths wsX5_chooseBirths rm_X5_chooseBirths (wTown2 E a S) (wTown2 E a res) [.ref (a 0), .ref (a 16), .int x2, .int x3, .int x4] :=
  z_entv (cc := cX5_chooseBirths) (maxL := 12) (by decide +kernel) rfl (Nat.le_of_ble_eq_true rfl) (fun Γ C R => L_X5_chooseBirths a C R x2 x3 x4 S h)

abbrev rm_X6_isDay : Room := { frames := 0, cells := 0, slots := 0, locals := 0 }
noncomputable def f_X6_isDay (x0 : Int32) : Option Int32 := (if x0 < 0 then (some (0 : Int32)) else (if (36000 : Int32) ≤ x0 then (some (0 : Int32)) else (some (1 : Int32))))
set_option maxHeartbeats 4000000 in
set_option maxRecDepth 100000 in
theorem L_X6_isDay {E : zEnv} {Γ : zG} (C : zC E Γ cX6_isDay RX6 1 rm_X6_isDay wsX6_isDay) {res : Int32} (R : zRi E Γ cX6_isDay 1 .boolean [] res) (x0 : Int32) (h : f_X6_isDay x0 = some res) : Zt E Γ 1 0 0 [] [(0, .int x0)] 0 [] := by
  unfold f_X6_isDay at h
  refine z_iload_n C 0 rfl rfl dX6_isDay_0 ?_
  refine z_if_lt C 14 (by decide) h dX6_isDay_1 (fun hc h => ?_) (fun hc h => ?_)
  · refine z_iconst C (v := (0 : Int32)) (by decide) dX6_isDay_14 ?_
    obtain rfl := Option.some.inj h
    exact R z_n0 15 _ dX6_isDay_15
  · refine z_iload_n C 0 rfl rfl dX6_isDay_4 ?_
    refine z_ldc C (v := (36000 : Int32)) (List.mem_of_getElem? (i := 1) rfl) dX6_isDay_5 ?_
    refine z_icmp_ge C 14 (by decide) h dX6_isDay_7 (fun hc h => ?_) (fun hc h => ?_)
    · refine z_iconst C (v := (0 : Int32)) (by decide) dX6_isDay_14 ?_
      obtain rfl := Option.some.inj h
      exact R z_n0 15 _ dX6_isDay_15
    · refine z_iconst C (v := (1 : Int32)) (by decide) dX6_isDay_10 ?_
      refine z_goto C 15 (by decide) dX6_isDay_11 ?_
      obtain rfl := Option.some.inj h
      exact R z_n1 15 _ dX6_isDay_15

theorem c_X6_isDay (E : zEnv) (x0 : Int32) {res : Int32} (h : f_X6_isDay x0 = some res) : Kti E yX6_isDay wsX6_isDay rm_X6_isDay [] [] [.int x0] res :=
  z_enti (cc := cX6_isDay) (maxL := 1) (rt := .boolean) (by decide +kernel) rfl (Nat.le_of_ble_eq_true rfl) (fun Γ C R => L_X6_isDay C R x0 h)

abbrev rm_X6_isLaw : Room := { frames := 0, cells := 0, slots := 0, locals := 0 }
noncomputable def f_X6_isLaw (x0 : Int32) : Option Int32 := (if x0 < 0 then (some (0 : Int32)) else (if (4 : Int32) ≤ x0 then (some (0 : Int32)) else (some (1 : Int32))))
set_option maxHeartbeats 4000000 in
set_option maxRecDepth 100000 in
theorem L_X6_isLaw {E : zEnv} {Γ : zG} (C : zC E Γ cX6_isLaw RX6 1 rm_X6_isLaw wsX6_isLaw) {res : Int32} (R : zRi E Γ cX6_isLaw 1 .boolean [] res) (x0 : Int32) (h : f_X6_isLaw x0 = some res) : Zt E Γ 1 0 0 [] [(0, .int x0)] 0 [] := by
  unfold f_X6_isLaw at h
  refine z_iload_n C 0 rfl rfl dX6_isLaw_0 ?_
  refine z_if_lt C 13 (by decide) h dX6_isLaw_1 (fun hc h => ?_) (fun hc h => ?_)
  · refine z_iconst C (v := (0 : Int32)) (by decide) dX6_isLaw_13 ?_
    obtain rfl := Option.some.inj h
    exact R z_n0 14 _ dX6_isLaw_14
  · refine z_iload_n C 0 rfl rfl dX6_isLaw_4 ?_
    refine z_iconst C (v := (4 : Int32)) (by decide) dX6_isLaw_5 ?_
    refine z_icmp_ge C 13 (by decide) h dX6_isLaw_6 (fun hc h => ?_) (fun hc h => ?_)
    · refine z_iconst C (v := (0 : Int32)) (by decide) dX6_isLaw_13 ?_
      obtain rfl := Option.some.inj h
      exact R z_n0 14 _ dX6_isLaw_14
    · refine z_iconst C (v := (1 : Int32)) (by decide) dX6_isLaw_9 ?_
      refine z_goto C 14 (by decide) dX6_isLaw_10 ?_
      obtain rfl := Option.some.inj h
      exact R z_n1 14 _ dX6_isLaw_14

theorem c_X6_isLaw (E : zEnv) (x0 : Int32) {res : Int32} (h : f_X6_isLaw x0 = some res) : Kti E yX6_isLaw wsX6_isLaw rm_X6_isLaw [] [] [.int x0] res :=
  z_enti (cc := cX6_isLaw) (maxL := 1) (rt := .boolean) (by decide +kernel) rfl (Nat.le_of_ble_eq_true rfl) (fun Γ C R => L_X6_isLaw C R x0 h)

abbrev rm_X6_isNumber : Room := { frames := 0, cells := 0, slots := 0, locals := 0 }
noncomputable def f_X6_isNumber (x0 : Int32) : Option Int32 := (if x0 < 0 then (some (0 : Int32)) else (if (999 : Int32) < x0 then (some (0 : Int32)) else (some (1 : Int32))))
set_option maxHeartbeats 4000000 in
set_option maxRecDepth 100000 in
theorem L_X6_isNumber {E : zEnv} {Γ : zG} (C : zC E Γ cX6_isNumber RX6 1 rm_X6_isNumber wsX6_isNumber) {res : Int32} (R : zRi E Γ cX6_isNumber 1 .boolean [] res) (x0 : Int32) (h : f_X6_isNumber x0 = some res) : Zt E Γ 1 0 0 [] [(0, .int x0)] 0 [] := by
  unfold f_X6_isNumber at h
  refine z_iload_n C 0 rfl rfl dX6_isNumber_0 ?_
  refine z_if_lt C 15 (by decide) h dX6_isNumber_1 (fun hc h => ?_) (fun hc h => ?_)
  · refine z_iconst C (v := (0 : Int32)) (by decide) dX6_isNumber_15 ?_
    obtain rfl := Option.some.inj h
    exact R z_n0 16 _ dX6_isNumber_16
  · refine z_iload_n C 0 rfl rfl dX6_isNumber_4 ?_
    refine z_sipush C (v := (999 : Int32)) (by decide) dX6_isNumber_5 ?_
    refine z_icmp_gt C 15 (by decide) h dX6_isNumber_8 (fun hc h => ?_) (fun hc h => ?_)
    · refine z_iconst C (v := (0 : Int32)) (by decide) dX6_isNumber_15 ?_
      obtain rfl := Option.some.inj h
      exact R z_n0 16 _ dX6_isNumber_16
    · refine z_iconst C (v := (1 : Int32)) (by decide) dX6_isNumber_11 ?_
      refine z_goto C 16 (by decide) dX6_isNumber_12 ?_
      obtain rfl := Option.some.inj h
      exact R z_n1 16 _ dX6_isNumber_16

theorem c_X6_isNumber (E : zEnv) (x0 : Int32) {res : Int32} (h : f_X6_isNumber x0 = some res) : Kti E yX6_isNumber wsX6_isNumber rm_X6_isNumber [] [] [.int x0] res :=
  z_enti (cc := cX6_isNumber) (maxL := 1) (rt := .boolean) (by decide +kernel) rfl (Nat.le_of_ble_eq_true rfl) (fun Γ C R => L_X6_isNumber C R x0 h)

abbrev rm_X6_isImage : Room := { frames := 0, cells := 0, slots := 0, locals := 0 }
noncomputable def f_X6_isImage (x0 : Int32) : Option Int32 := (if x0 < 0 then (some (0 : Int32)) else (if (2 : Int32) ≤ x0 then (some (0 : Int32)) else (some (1 : Int32))))
set_option maxHeartbeats 4000000 in
set_option maxRecDepth 100000 in
theorem L_X6_isImage {E : zEnv} {Γ : zG} (C : zC E Γ cX6_isImage RX6 1 rm_X6_isImage wsX6_isImage) {res : Int32} (R : zRi E Γ cX6_isImage 1 .boolean [] res) (x0 : Int32) (h : f_X6_isImage x0 = some res) : Zt E Γ 1 0 0 [] [(0, .int x0)] 0 [] := by
  unfold f_X6_isImage at h
  refine z_iload_n C 0 rfl rfl dX6_isImage_0 ?_
  refine z_if_lt C 13 (by decide) h dX6_isImage_1 (fun hc h => ?_) (fun hc h => ?_)
  · refine z_iconst C (v := (0 : Int32)) (by decide) dX6_isImage_13 ?_
    obtain rfl := Option.some.inj h
    exact R z_n0 14 _ dX6_isImage_14
  · refine z_iload_n C 0 rfl rfl dX6_isImage_4 ?_
    refine z_iconst C (v := (2 : Int32)) (by decide) dX6_isImage_5 ?_
    refine z_icmp_ge C 13 (by decide) h dX6_isImage_6 (fun hc h => ?_) (fun hc h => ?_)
    · refine z_iconst C (v := (0 : Int32)) (by decide) dX6_isImage_13 ?_
      obtain rfl := Option.some.inj h
      exact R z_n0 14 _ dX6_isImage_14
    · refine z_iconst C (v := (1 : Int32)) (by decide) dX6_isImage_9 ?_
      refine z_goto C 14 (by decide) dX6_isImage_10 ?_
      obtain rfl := Option.some.inj h
      exact R z_n1 14 _ dX6_isImage_14

theorem c_X6_isImage (E : zEnv) (x0 : Int32) {res : Int32} (h : f_X6_isImage x0 = some res) : Kti E yX6_isImage wsX6_isImage rm_X6_isImage [] [] [.int x0] res :=
  z_enti (cc := cX6_isImage) (maxL := 1) (rt := .boolean) (by decide +kernel) rfl (Nat.le_of_ble_eq_true rfl) (fun Γ C R => L_X6_isImage C R x0 h)

abbrev rm_X6_lastDayOf : Room := { frames := 0, cells := 0, slots := 0, locals := 0 }
noncomputable def f_X6_lastDayOf (x0 : Int32) : Option Int32 := (some (((x0 * (360 : Int32)) + (360 : Int32)) - (1 : Int32)))
set_option maxHeartbeats 4000000 in
set_option maxRecDepth 100000 in
theorem L_X6_lastDayOf {E : zEnv} {Γ : zG} (C : zC E Γ cX6_lastDayOf RX6 1 rm_X6_lastDayOf wsX6_lastDayOf) {res : Int32} (R : zRi E Γ cX6_lastDayOf 1 .int [] res) (x0 : Int32) (h : f_X6_lastDayOf x0 = some res) : Zt E Γ 1 0 0 [] [(0, .int x0)] 0 [] := by
  unfold f_X6_lastDayOf at h
  refine z_iload_n C 0 rfl rfl dX6_lastDayOf_0 ?_
  refine z_sipush C (v := (360 : Int32)) (by decide) dX6_lastDayOf_1 ?_
  refine z_imul C dX6_lastDayOf_4 ?_
  refine z_sipush C (v := (360 : Int32)) (by decide) dX6_lastDayOf_5 ?_
  refine z_iadd C dX6_lastDayOf_8 ?_
  refine z_iconst C (v := (1 : Int32)) (by decide) dX6_lastDayOf_9 ?_
  refine z_isub C dX6_lastDayOf_10 ?_
  obtain rfl := Option.some.inj h
  exact R rfl 11 _ dX6_lastDayOf_11

theorem c_X6_lastDayOf (E : zEnv) (x0 : Int32) {res : Int32} (h : f_X6_lastDayOf x0 = some res) : Kti E yX6_lastDayOf wsX6_lastDayOf rm_X6_lastDayOf [] [] [.int x0] res :=
  z_enti (cc := cX6_lastDayOf) (maxL := 1) (rt := .int) (by decide +kernel) rfl (Nat.le_of_ble_eq_true rfl) (fun Γ C R => L_X6_lastDayOf C R x0 h)

abbrev rm_X5_addMove : Room := { frames := 1, cells := 0, slots := 0, locals := 23 }
theorem inw_X5_addMove_X5 : ∀ w ∈ wsX50, w ∈ wsX5_addMove := fun _ h => List.mem_cons_of_mem _ (List.mem_append_right _ h)
set_option maxHeartbeats 4000000 in
theorem wl_X5_addMove_0 (E : zEnv) (a : Nat → Nat) (S : St) : ([0, 1, 2, 3, 4, 5, 6, 7, 8, 9, 10, 11, 12, 13, 14, 15] : List Nat).map (fun i => (wTown E a S)[i]?) = (wTown E a S).map some := rfl
set_option maxHeartbeats 4000000 in
theorem wl_X5_addMove_1 (E : zEnv) (a : Nat → Nat) (S U : St) : (wTown E a U).map (fun q => q.1) = (wTown E a S).map (fun q => q.1) := rfl
set_option maxHeartbeats 4000000 in
theorem wl_X5_addMove_2 (E : zEnv) (a : Nat → Nat) (S U : St) : (wTown E a U) = zrep [0, 1, 2, 3, 4, 5, 6, 7, 8, 9, 10, 11, 12, 13, 14, 15] (wTown E a U) (wTown E a S) := zrep_of (isR := []) 16 rfl [] rfl rfl rfl rfl (by decide +kernel) (by decide +kernel)
noncomputable def f_X5_addMove (x1 : Int32) (x2 : Int32) (x3 : Int32) (S : St) : Option (Int32 × St) := ((f_X6_isDay x1).bind (fun q1 => (if q1 = 0 then (some ((-1 : Int32), S)) else ((f_X5_isOne x2 S).bind (fun q2 => (if q2 = 0 then (some ((-1 : Int32), S)) else ((f_X5_isHouse x3 S).bind (fun q3 => (if q3 = 0 then (some ((-1 : Int32), S)) else ((f_X5_isTooEarly x1 S).bind (fun q4 => (if q4 = 0 then (if (S 7 0) < (12 : Int32) then ((f_X5_putMove x1 x2 x3 S).bind (fun q5 => (some ((q5 7 0), q5)))) else (some ((-3 : Int32), S))) else (some ((-1 : Int32), S))))))))))))))
set_option maxHeartbeats 4000000 in
set_option maxRecDepth 100000 in
theorem L_X5_addMove {E : zEnv} {Γ : zG} (a : Nat → Nat) (C : zC E Γ cX5_addMove RX5 4 rm_X5_addMove wsX5_addMove) {res : (Int32 × St)} (R : zRi E Γ cX5_addMove 4 .int (wTown E a res.2) res.1) (x1 : Int32) (x2 : Int32) (x3 : Int32) (S : St) (h : f_X5_addMove x1 x2 x3 S = some res) : Zt E Γ 4 0 0 (wTown E a S) [(0, .ref (a 0)), (1, .int x1), (2, .int x2), (3, .int x3)] 0 [] := by
  unfold f_X5_addMove at h
  refine z_iload_n C 1 rfl rfl dX5_addMove_0 ?_
  obtain ⟨q1, e1, h⟩ := bd_e h
  refine z_callSN C (rest := []) (c_X6_isDay E x1 e1) "EldestAge" (by decide +kernel) (List.mem_of_getElem? (i := 3) rfl) (List.mem_of_getElem? (i := 2) rfl) gX5_addMove_X6_isDay_n71 rfl rfl rfl 1 rfl (by decide +kernel) ⟨Nat.le_of_ble_eq_true rfl, Nat.le_of_ble_eq_true rfl⟩ [] rfl (by decide) rfl (wTown E a S) rfl (Nat.le_of_ble_eq_true rfl) dX5_addMove_1 ⟨Nat.zero_le _, Nat.zero_le _⟩ _ rfl ?_
  refine z_if_eq C 31 (by decide) h dX5_addMove_4 (fun hc h => ?_) (fun hc h => ?_)
  · refine z_iconst C (v := (-1 : Int32)) (by decide) dX5_addMove_31 ?_
    obtain rfl := Option.some.inj h
    exact R rfl 32 _ dX5_addMove_32
  · refine z_aload_n C 0 rfl rfl dX5_addMove_7 ?_
    refine z_iload_n C 2 rfl rfl dX5_addMove_8 ?_
    obtain ⟨q2, e2, h⟩ := bd_e h
    refine z_callVi C (b := a 0) (As := [.int x2]) (rest := []) (c_X5_isOne E a x2 S e2) rfl gX5_addMove_X5_isOne rfl rfl rfl 1 rfl (by decide +kernel) ⟨Nat.le_of_ble_eq_true rfl, Nat.le_of_ble_eq_true rfl⟩ [0, 1, 2, 3, 4, 5, 6, 7, 8, 9, 10, 11, 12, 13, 14, 15] (wl_X5_addMove_0 E a S) (by decide) rfl (wTown E a S) (zrep_self (wl_X5_addMove_0 E a S)) 0 5 rfl rfl rfl (Nat.le_of_ble_eq_true rfl) dX5_addMove_9 ⟨Nat.zero_le _, Nat.zero_le _⟩ _ rfl ?_
    refine z_if_eq C 31 (by decide) h dX5_addMove_12 (fun hc h => ?_) (fun hc h => ?_)
    · refine z_iconst C (v := (-1 : Int32)) (by decide) dX5_addMove_31 ?_
      obtain rfl := Option.some.inj h
      exact R rfl 32 _ dX5_addMove_32
    · refine z_aload_n C 0 rfl rfl dX5_addMove_15 ?_
      refine z_iload_n C 3 rfl rfl dX5_addMove_16 ?_
      obtain ⟨q3, e3, h⟩ := bd_e h
      refine z_callVi C (b := a 0) (As := [.int x3]) (rest := []) (c_X5_isHouse E a x3 S e3) rfl gX5_addMove_X5_isHouse rfl rfl rfl 1 rfl (by decide +kernel) ⟨Nat.le_of_ble_eq_true rfl, Nat.le_of_ble_eq_true rfl⟩ [0, 1, 2, 3, 4, 5, 6, 7, 8, 9, 10, 11, 12, 13, 14, 15] (wl_X5_addMove_0 E a S) (by decide) rfl (wTown E a S) (zrep_self (wl_X5_addMove_0 E a S)) 0 5 rfl rfl rfl (Nat.le_of_ble_eq_true rfl) dX5_addMove_17 ⟨Nat.zero_le _, Nat.zero_le _⟩ _ rfl ?_
      refine z_if_eq C 31 (by decide) h dX5_addMove_20 (fun hc h => ?_) (fun hc h => ?_)
      · refine z_iconst C (v := (-1 : Int32)) (by decide) dX5_addMove_31 ?_
        obtain rfl := Option.some.inj h
        exact R rfl 32 _ dX5_addMove_32
      · refine z_aload_n C 0 rfl rfl dX5_addMove_23 ?_
        refine z_iload_n C 1 rfl rfl dX5_addMove_24 ?_
        obtain ⟨q4, e4, h⟩ := bd_e h
        refine z_callVi C (b := a 0) (As := [.int x1]) (rest := []) (c_X5_isTooEarly E a x1 S e4) rfl gX5_addMove_X5_isTooEarly rfl rfl rfl 1 rfl (by decide +kernel) ⟨Nat.le_of_ble_eq_true rfl, Nat.le_of_ble_eq_true rfl⟩ [0, 1, 2, 3, 4, 5, 6, 7, 8, 9, 10, 11, 12, 13, 14, 15] (wl_X5_addMove_0 E a S) (by decide) rfl (wTown E a S) (zrep_self (wl_X5_addMove_0 E a S)) 0 5 rfl rfl rfl (Nat.le_of_ble_eq_true rfl) dX5_addMove_25 ⟨Nat.zero_le _, Nat.zero_le _⟩ _ rfl ?_
        refine z_if_eq C 33 (by decide) h dX5_addMove_28 (fun hc h => ?_) (fun hc h => ?_)
        · refine z_aload_n C 0 rfl rfl dX5_addMove_33 ?_
          refine z_get C 0 rfl (C := RX5) (T := TX5) (N := 16) (ci := 5) rfl inw_X5_addMove_X5 7 (by decide) (ref := "EldestAge$Town") (List.mem_of_getElem? (i := 1) rfl) rfl (v := .int (S 7 0)) rfl dX5_addMove_34 ?_
          refine z_bipush C (v := (12 : Int32)) (by decide) dX5_addMove_37 ?_
          refine z_icmp_lt C 45 (by decide) h dX5_addMove_39 (fun hc h => ?_) (fun hc h => ?_)
          · refine z_aload_n C 0 rfl rfl dX5_addMove_45 ?_
            refine z_iload_n C 1 rfl rfl dX5_addMove_46 ?_
            refine z_iload_n C 2 rfl rfl dX5_addMove_47 ?_
            refine z_iload_n C 3 rfl rfl dX5_addMove_48 ?_
            obtain ⟨q5, e5, h⟩ := bd_e h
            refine z_callVv C (b := a 0) (As := [.int x1, .int x2, .int x3]) (rest := []) (c_X5_putMove E a x1 x2 x3 S e5) rfl gX5_addMove_X5_putMove rfl rfl rfl 3 rfl (by decide +kernel) ⟨Nat.le_of_ble_eq_true rfl, Nat.le_of_ble_eq_true rfl⟩ [0, 1, 2, 3, 4, 5, 6, 7, 8, 9, 10, 11, 12, 13, 14, 15] (wl_X5_addMove_0 E a S) (by decide) (wl_X5_addMove_1 E a _ _) (wTown E a q5) (wl_X5_addMove_2 E a S q5) 0 5 rfl rfl rfl (Nat.le_of_ble_eq_true rfl) dX5_addMove_49 ⟨Nat.zero_le _, Nat.zero_le _⟩ _ rfl ?_
            refine z_aload_n C 0 rfl rfl dX5_addMove_52 ?_
            refine z_get C 0 rfl (C := RX5) (T := TX5) (N := 16) (ci := 5) rfl inw_X5_addMove_X5 7 (by decide) (ref := "EldestAge$Town") (List.mem_of_getElem? (i := 1) rfl) rfl (v := .int (q5 7 0)) rfl dX5_addMove_53 ?_
            obtain rfl := Option.some.inj h
            exact R rfl 56 _ dX5_addMove_56
          · refine z_bipush C (v := (-3 : Int32)) (by decide) dX5_addMove_42 ?_
            obtain rfl := Option.some.inj h
            exact R rfl 44 _ dX5_addMove_44
        · refine z_iconst C (v := (-1 : Int32)) (by decide) dX5_addMove_31 ?_
          obtain rfl := Option.some.inj h
          exact R rfl 32 _ dX5_addMove_32

theorem c_X5_addMove (E : zEnv) (a : Nat → Nat) (x1 : Int32) (x2 : Int32) (x3 : Int32) (S : St) {res : (Int32 × St)} (h : f_X5_addMove x1 x2 x3 S = some res) : Kti E yX5_addMove wsX5_addMove rm_X5_addMove (wTown E a S) (wTown E a res.2) [.ref (a 0), .int x1, .int x2, .int x3] res.1 :=
  z_enti (cc := cX5_addMove) (maxL := 4) (rt := .int) (by decide +kernel) rfl (Nat.le_of_ble_eq_true rfl) (fun Γ C R => L_X5_addMove a C R x1 x2 x3 S h)
