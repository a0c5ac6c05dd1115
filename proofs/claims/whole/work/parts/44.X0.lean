abbrev rm_X0_gather : Room := { frames := 2, cells := 0, slots := 0, locals := 47 }
theorem inw_X0_gather_X0 : ∀ w ∈ wsX00, w ∈ wsX0_gather := fun _ h => List.mem_cons_of_mem _ (List.mem_append_left _ (List.mem_append_left _ (List.mem_append_right _ h)))
theorem inw_X0_gather_X5 : ∀ w ∈ wsX50, w ∈ wsX0_gather := fun _ h => List.mem_cons_of_mem _ (List.mem_append_left _ (List.mem_append_right _ h))
theorem inw_X0_gather_X2 : ∀ w ∈ wsX20, w ∈ wsX0_gather := fun _ h => List.mem_cons_of_mem _ (List.mem_append_right _ h)
set_option maxHeartbeats 4000000 in
theorem wl_X0_gather_0 (E : zEnv) (a : Nat → Nat) (S : St) : ([16, 17, 18, 19, 20, 21, 22, 23, 24, 25, 26, 27, 28, 29, 30, 31] : List Nat).map (fun i => (wSearchTown E a S)[i]?) = (wTown E (fun k => a (16 + k)) (sb 16 S)).map some := rfl
set_option maxHeartbeats 4000000 in
theorem wl_X0_gather_1 (E : zEnv) (a : Nat → Nat) (S U : St) : (wTown E (fun k => a (16 + k)) U).map (fun q => q.1) = (wTown E (fun k => a (16 + k)) S).map (fun q => q.1) := rfl
set_option maxHeartbeats 4000000 in
theorem wl_X0_gather_2 (E : zEnv) (a : Nat → Nat) (S : St) : ([6, 7, 8, 9, 10] : List Nat).map (fun i => (wSearchTown E a S)[i]?) = (wTally E (fun k => a (6 + k)) (sb 8 S)).map some := rfl
set_option maxHeartbeats 4000000 in
theorem wl_X0_gather_3 (E : zEnv) (a : Nat → Nat) (S U : St) : (wTally E (fun k => a (6 + k)) U).map (fun q => q.1) = (wTally E (fun k => a (6 + k)) S).map (fun q => q.1) := rfl
set_option maxHeartbeats 4000000 in
theorem wl_X0_gather_4 (E : zEnv) (a : Nat → Nat) (S U : St) : (wSearchTown E a (pt 8 4 U S)) = zrep [6, 7, 8, 9, 10] (wTally E (fun k => a (6 + k)) U) (wSearchTown E a S) := zrep_of (isR := [0, 1, 2, 3, 4, 5, 11, 12, 13, 14, 15, 16, 17, 18, 19, 20, 21, 22, 23, 24, 25, 26, 27, 28, 29, 30, 31]) 32 rfl [some (a 0, .inr (0, [.int (S 0 0), .ref (a 1), .ref (a 2), .ref (a 3), .ref (a 4), .ref (a 5), .ref (a 6), .ref (a 11)])), some (a 1, .inl (zI E, 4, .inl (S 1))), some (a 2, .inl (zI E, 4, .inl (S 2))), some (a 3, .inl (zI E, 4, .inl (S 3))), some (a 4, .inl (zI E, 4, .inl (S 4))), some (a 5, .inl (zI E, 4, .inl (S 5))), some (a 11, .inr (2, [.ref (a 12), .ref (a 13), .ref (a 14), .ref (a 15)])), some (a 12, .inl (zI E, 8, .inl (S 12))), some (a 13, .inl (zI E, 8, .inl (S 13))), some (a 14, .inl (zI E, 8, .inl (S 14))), some (a 15, .inl (zI E, 8, .inl (S 15))), some (a 16, .inr (5, [.int (S 16 0), .int (S 17 0), .int (S 18 0), .ref (a 17), .ref (a 18), .ref (a 19), .ref (a 20), .int (S 23 0), .ref (a 21), .ref (a 22), .ref (a 23), .int (S 27 0), .ref (a 24), .ref (a 25), .ref (a 26), .ref (a 27)])), some (a 17, .inl (zI E, 14, .inl (S 19))), some (a 18, .inl (zI E, 14, .inl (S 20))), some (a 19, .inl (zI E, 14, .inl (S 21))), some (a 20, .inl (zI E, 14, .inl (S 22))), some (a 21, .inl (zI E, 12, .inl (S 24))), some (a 22, .inl (zI E, 12, .inl (S 25))), some (a 23, .inl (zI E, 12, .inl (S 26))), some (a 24, .inl (zI E, 4, .inl (S 28))), some (a 25, .inl (zI E, 4, .inl (S 29))), some (a 26, .inl (zI E, 4, .inl (S 30))), some (a 27, .inr (2, [.ref (a 28), .ref (a 29), .ref (a 30), .ref (a 31)])), some (a 28, .inl (zI E, 8, .inl (S 32))), some (a 29, .inl (zI E, 8, .inl (S 33))), some (a 30, .inl (zI E, 8, .inl (S 34))), some (a 31, .inl (zI E, 8, .inl (S 35)))] rfl rfl rfl rfl (by decide +kernel) (by decide +kernel)
set_option maxHeartbeats 4000000 in
theorem wl_X0_gather_5 (E : zEnv) (a : Nat → Nat) (S : St) (f : Nat → Int32) : (wSearchTown E a (st 1 f S)) = (wSearchTown E a S).set 1 (a 1, .inl (zI E, 4, .inl f)) := rfl
set_option maxHeartbeats 4000000 in
theorem wl_X0_gather_6 (E : zEnv) (a : Nat → Nat) (S : St) (f : Nat → Int32) : (wSearchTown E a (st 2 f S)) = (wSearchTown E a S).set 2 (a 2, .inl (zI E, 4, .inl f)) := rfl
set_option maxHeartbeats 4000000 in
theorem wl_X0_gather_7 (E : zEnv) (a : Nat → Nat) (S : St) (f : Nat → Int32) : (wSearchTown E a (st 3 f S)) = (wSearchTown E a S).set 3 (a 3, .inl (zI E, 4, .inl f)) := rfl
set_option maxHeartbeats 4000000 in
theorem wl_X0_gather_8 (E : zEnv) (a : Nat → Nat) (S : St) (v : Int32) : (wSearchTown E a (st 0 (fun _ => v) S)) = (wSearchTown E a S).set 0 (a 0, .inr (0, List.set [.int (S 0 0), .ref (a 1), .ref (a 2), .ref (a 3), .ref (a 4), .ref (a 5), .ref (a 6), .ref (a 11)] 0 (.int v))) := rfl
noncomputable def f_X0_gather_126 (k14 : Int32 → Int32 → St → Option St) (x2 : Int32) (x3 : Int32) (S : St) : Option St := (k14 x2 (x3 + (1 : Int32)) S)
noncomputable def f_X0_gather_92 (k14 : Int32 → Int32 → St → Option St) (x2 : Int32) (x3 : Int32) (S : St) : Option St := ((f_X5_isAlive x3 x2 (sb 16 S)).bind (fun q1 => (if q1 = 0 then (f_X0_gather_126 k14 x2 x3 S) else ((f_X5_homeOf x3 x2 (sb 16 S)).bind (fun q2 => (ix x3 14 ((f_X5_yearsOf x3 x2 (sb 16 S)).bind (fun q3 => ((f_X2_add q2 (S 19 (Int32.toNatClampNeg x3)) q3 (sb 8 S)).bind (fun q4 => (f_X0_gather_126 k14 x2 x3 (pt 8 4 q4 S))))))))))))
noncomputable def f_X0_gather_14 (n : Nat) : Int32 → Int32 → St → Option St := Nat.rec (motive := fun _ => Int32 → Int32 → St → Option St) (fun _ _ _ => none) (fun _ ih => fun x2 x3 S => (if (S 18 0) ≤ x3 then (some S) else ((f_X5_isAuntOn x3 x2 (sb 16 S)).bind (fun q5 => (if q5 = 0 then (f_X0_gather_92 ih x2 x3 S) else (if (4 : Int32) ≤ (S 0 0) then (f_X0_gather_92 ih x2 x3 S) else (ix (S 0 0) 4 ((f_X5_homeOf x3 x2 (sb 16 (st 1 (upd (S 1) (Int32.toNatClampNeg (S 0 0)) x3) S))).bind (fun q6 => (ix (S 0 0) 4 ((f_X5_yearsOf x3 x2 (sb 16 (st 2 (upd (S 2) (Int32.toNatClampNeg (S 0 0)) q6) (st 1 (upd (S 1) (Int32.toNatClampNeg (S 0 0)) x3) S)))).bind (fun q7 => (ix (S 0 0) 4 (f_X0_gather_126 ih x2 x3 (st 0 (fun _ => ((S 0 0) + (1 : Int32))) (st 3 (upd (S 3) (Int32.toNatClampNeg (S 0 0)) q7) (st 2 (upd (S 2) (Int32.toNatClampNeg (S 0 0)) q6) (st 1 (upd (S 1) (Int32.toNatClampNeg (S 0 0)) x3) S)))))))))))))))))) n
theorem f_X0_gather_14_s (n : Nat) (x2 : Int32) (x3 : Int32) (S : St) : f_X0_gather_14 (n + 1) x2 x3 S = (if (S 18 0) ≤ x3 then (some S) else ((f_X5_isAuntOn x3 x2 (sb 16 S)).bind (fun q5 => (if q5 = 0 then (f_X0_gather_92 (f_X0_gather_14 n) x2 x3 S) else (if (4 : Int32) ≤ (S 0 0) then (f_X0_gather_92 (f_X0_gather_14 n) x2 x3 S) else (ix (S 0 0) 4 ((f_X5_homeOf x3 x2 (sb 16 (st 1 (upd (S 1) (Int32.toNatClampNeg (S 0 0)) x3) S))).bind (fun q6 => (ix (S 0 0) 4 ((f_X5_yearsOf x3 x2 (sb 16 (st 2 (upd (S 2) (Int32.toNatClampNeg (S 0 0)) q6) (st 1 (upd (S 1) (Int32.toNatClampNeg (S 0 0)) x3) S)))).bind (fun q7 => (ix (S 0 0) 4 (f_X0_gather_126 (f_X0_gather_14 n) x2 x3 (st 0 (fun _ => ((S 0 0) + (1 : Int32))) (st 3 (upd (S 3) (Int32.toNatClampNeg (S 0 0)) q7) (st 2 (upd (S 2) (Int32.toNatClampNeg (S 0 0)) q6) (st 1 (upd (S 1) (Int32.toNatClampNeg (S 0 0)) x3) S))))))))))))))))) := rfl
noncomputable def f_X0_gather (x2 : Int32) (S : St) : Option St := ((f_X2_clear (sb 8 (st 0 (fun _ => (0 : Int32)) S))).bind (fun q8 => (f_X0_gather_14 1000 x2 (0 : Int32) (pt 8 4 q8 (st 0 (fun _ => (0 : Int32)) S)))))
set_option maxHeartbeats 4000000 in
set_option maxRecDepth 100000 in
theorem L_X0_gather_126 {E : zEnv} {Γ : zG} (a : Nat → Nat) (C : zC E Γ cX0_gather RX0 4 rm_X0_gather wsX0_gather) {res : St} (R : zRv E Γ cX0_gather 4 (wSearchTown E a res)) (k14 : Int32 → Int32 → St → Option St) (hk14 : ∀ (x2 : Int32) (x3 : Int32) (S : St), k14 x2 x3 S = some res → Zt E Γ 4 0 0 (wSearchTown E a S) [(0, .ref (a 0)), (1, .ref (a 16)), (2, .int x2), (3, .int x3)] 14 []) (x2 : Int32) (x3 : Int32) (S : St) (h : f_X0_gather_126 k14 x2 x3 S = some res) : Zt E Γ 4 0 0 (wSearchTown E a S) [(0, .ref (a 0)), (1, .ref (a 16)), (2, .int x2), (3, .int x3)] 126 [] := by
  unfold f_X0_gather_126 at h
  refine z_iinc C [(3, .int (x3 + (1 : Int32))), (0, .ref (a 0)), (1, .ref (a 16)), (2, .int x2)] 3 rfl (by first | rfl | decide) (by decide) rfl dX0_gather_126 ?_
  refine z_goto C 14 (by decide) dX0_gather_129 ?_
  refine Zt_l [(0, .ref (a 0)), (1, .ref (a 16)), (2, .int x2), (3, .int (x3 + (1 : Int32)))] [1, 2, 3, 0] rfl ?_
  exact hk14 x2 (x3 + (1 : Int32)) S h

set_option maxHeartbeats 4000000 in
set_option maxRecDepth 100000 in
theorem L_X0_gather_92 {E : zEnv} {Γ : zG} (a : Nat → Nat) (C : zC E Γ cX0_gather RX0 4 rm_X0_gather wsX0_gather) {res : St} (R : zRv E Γ cX0_gather 4 (wSearchTown E a res)) (k14 : Int32 → Int32 → St → Option St) (hk14 : ∀ (x2 : Int32) (x3 : Int32) (S : St), k14 x2 x3 S = some res → Zt E Γ 4 0 0 (wSearchTown E a S) [(0, .ref (a 0)), (1, .ref (a 16)), (2, .int x2), (3, .int x3)] 14 []) (x2 : Int32) (x3 : Int32) (S : St) (h : f_X0_gather_92 k14 x2 x3 S = some res) : Zt E Γ 4 0 0 (wSearchTown E a S) [(0, .ref (a 0)), (1, .ref (a 16)), (2, .int x2), (3, .int x3)] 92 [] := by
  unfold f_X0_gather_92 at h
  refine z_aload_n C 1 rfl rfl dX0_gather_92 ?_
  refine z_iload_n C 3 rfl rfl dX0_gather_93 ?_
  refine z_iload_n C 2 rfl rfl dX0_gather_94 ?_
  obtain ⟨q1, e1, h⟩ := bd_e h
  refine z_callVi C (b := a 16) (As := [.int x3, .int x2]) (rest := []) (c_X5_isAlive E (fun k => a (16 + k)) x3 x2 (sb 16 S) e1) rfl gX0_gather_X5_isAlive rfl rfl rfl 2 rfl (by decide +kernel) ⟨Nat.le_of_ble_eq_true rfl, Nat.le_of_ble_eq_true rfl⟩ [16, 17, 18, 19, 20, 21, 22, 23, 24, 25, 26, 27, 28, 29, 30, 31] (wl_X0_gather_0 E a S) (by decide) rfl (wSearchTown E a S) (zrep_self (wl_X0_gather_0 E a S)) 0 5 rfl rfl rfl (Nat.le_of_ble_eq_true rfl) dX0_gather_95 ⟨Nat.zero_le _, Nat.zero_le _⟩ _ rfl ?_
  refine z_if_eq C 126 (by decide) h dX0_gather_98 (fun hc h => ?_) (fun hc h => ?_)
  · exact L_X0_gather_126 a C R k14 hk14 x2 x3 S h
  · refine z_aload_n C 0 rfl rfl dX0_gather_101 ?_
    refine z_get C 0 rfl (C := RX0) (T := TX0) (N := 8) (ci := 0) rfl inw_X0_gather_X0 6 (by decide) (ref := "EldestAge$Search") (List.mem_of_getElem? (i := 2) rfl) rfl (v := .ref (a 6)) rfl dX0_gather_102 ?_
    refine z_aload_n C 1 rfl rfl dX0_gather_105 ?_
    refine z_iload_n C 3 rfl rfl dX0_gather_106 ?_
    refine z_iload_n C 2 rfl rfl dX0_gather_107 ?_
    obtain ⟨q2, e2, h⟩ := bd_e h
    refine z_callVi C (b := a 16) (As := [.int x3, .int x2]) (rest := [.ref (a 6)]) (c_X5_homeOf E (fun k => a (16 + k)) x3 x2 (sb 16 S) e2) rfl gX0_gather_X5_homeOf rfl rfl rfl 2 rfl (by decide +kernel) ⟨Nat.le_of_ble_eq_true rfl, Nat.le_of_ble_eq_true rfl⟩ [16, 17, 18, 19, 20, 21, 22, 23, 24, 25, 26, 27, 28, 29, 30, 31] (wl_X0_gather_0 E a S) (by decide) rfl (wSearchTown E a S) (zrep_self (wl_X0_gather_0 E a S)) 0 5 rfl rfl rfl (Nat.le_of_ble_eq_true rfl) dX0_gather_108 ⟨Nat.zero_le _, Nat.zero_le _⟩ _ rfl ?_
    refine z_aload_n C 1 rfl rfl dX0_gather_111 ?_
    refine z_get C 16 rfl (C := RX5) (T := TX5) (N := 16) (ci := 5) rfl inw_X0_gather_X5 3 (by decide) (ref := "EldestAge$Town") (List.mem_of_getElem? (i := 7) rfl) rfl (v := .ref (a 17)) rfl dX0_gather_112 ?_
    refine z_iload_n C 3 rfl rfl dX0_gather_115 ?_
    refine z_iald C (N := 14) (f := (S 19)) 17 rfl h dX0_gather_116 (fun h => ?_)
    refine z_aload_n C 1 rfl rfl dX0_gather_117 ?_
    refine z_iload_n C 3 rfl rfl dX0_gather_118 ?_
    refine z_iload_n C 2 rfl rfl dX0_gather_119 ?_
    obtain ⟨q3, e3, h⟩ := bd_e h
    refine z_callVi C (b := a 16) (As := [.int x3, .int x2]) (rest := [.int (S 19 (Int32.toNatClampNeg x3)), .int q2, .ref (a 6)]) (c_X5_yearsOf E (fun k => a (16 + k)) x3 x2 (sb 16 S) e3) rfl gX0_gather_X5_yearsOf rfl rfl rfl 2 rfl (by decide +kernel) ⟨Nat.le_of_ble_eq_true rfl, Nat.le_of_ble_eq_true rfl⟩ [16, 17, 18, 19, 20, 21, 22, 23, 24, 25, 26, 27, 28, 29, 30, 31] (wl_X0_gather_0 E a S) (by decide) rfl (wSearchTown E a S) (zrep_self (wl_X0_gather_0 E a S)) 0 5 rfl rfl rfl (Nat.le_of_ble_eq_true rfl) dX0_gather_120 ⟨Nat.zero_le _, Nat.zero_le _⟩ _ rfl ?_
    obtain ⟨q4, e4, h⟩ := bd_e h
    refine z_callVv C (b := a 6) (As := [.int q2, .int (S 19 (Int32.toNatClampNeg x3)), .int q3]) (rest := []) (c_X2_add E (fun k => a (6 + k)) q2 (S 19 (Int32.toNatClampNeg x3)) q3 (sb 8 S) e4) rfl gX0_gather_X2_add rfl rfl rfl 3 rfl (by decide +kernel) ⟨Nat.le_of_ble_eq_true rfl, Nat.le_of_ble_eq_true rfl⟩ [6, 7, 8, 9, 10] (wl_X0_gather_2 E a S) (by decide) (wl_X0_gather_3 E a _ _) (wSearchTown E a (pt 8 4 q4 S)) (wl_X0_gather_4 E a S q4) 0 2 rfl rfl rfl (Nat.le_of_ble_eq_true rfl) dX0_gather_123 ⟨Nat.zero_le _, Nat.zero_le _⟩ _ rfl ?_
    exact L_X0_gather_126 a C R k14 hk14 x2 x3 (pt 8 4 q4 S) h

set_option maxHeartbeats 4000000 in
set_option maxRecDepth 100000 in
theorem L_X0_gather_14 {E : zEnv} {Γ : zG} (a : Nat → Nat) (C : zC E Γ cX0_gather RX0 4 rm_X0_gather wsX0_gather) {res : St} (R : zRv E Γ cX0_gather 4 (wSearchTown E a res)) : ∀ (n : Nat) (x2 : Int32) (x3 : Int32) (S : St), f_X0_gather_14 n x2 x3 S = some res → Zt E Γ 4 0 0 (wSearchTown E a S) [(0, .ref (a 0)), (1, .ref (a 16)), (2, .int x2), (3, .int x3)] 14 [] := by
  intro n
  induction n with
  | zero =>
    intro x2 x3 S h
    cases h
  | succ n ih =>
    intro x2 x3 S h
    rw [f_X0_gather_14_s] at h
    refine z_iload_n C 3 rfl rfl dX0_gather_14 ?_
    refine z_aload_n C 1 rfl rfl dX0_gather_15 ?_
    refine z_get C 16 rfl (C := RX5) (T := TX5) (N := 16) (ci := 5) rfl inw_X0_gather_X5 2 (by decide) (ref := "EldestAge$Town") (List.mem_of_getElem? (i := 3) rfl) rfl (v := .int (S 18 0)) rfl dX0_gather_16 ?_
    refine z_icmp_ge C 132 (by decide) h dX0_gather_19 (fun hc h => ?_) (fun hc h => ?_)
    · obtain rfl := Option.some.inj h
      exact R 132 _ dX0_gather_132
    · refine z_aload_n C 1 rfl rfl dX0_gather_22 ?_
      refine z_iload_n C 3 rfl rfl dX0_gather_23 ?_
      refine z_iload_n C 2 rfl rfl dX0_gather_24 ?_
      obtain ⟨q5, e5, h⟩ := bd_e h
      refine z_callVi C (b := a 16) (As := [.int x3, .int x2]) (rest := []) (c_X5_isAuntOn E (fun k => a (16 + k)) x3 x2 (sb 16 S) e5) rfl gX0_gather_X5_isAuntOn rfl rfl rfl 2 rfl (by decide +kernel) ⟨Nat.le_of_ble_eq_true rfl, Nat.le_of_ble_eq_true rfl⟩ [16, 17, 18, 19, 20, 21, 22, 23, 24, 25, 26, 27, 28, 29, 30, 31] (wl_X0_gather_0 E a S) (by decide) rfl (wSearchTown E a S) (zrep_self (wl_X0_gather_0 E a S)) 0 5 rfl rfl rfl (Nat.le_of_ble_eq_true rfl) dX0_gather_25 ⟨Nat.zero_le _, Nat.zero_le _⟩ _ rfl ?_
      refine z_if_eq C 92 (by decide) h dX0_gather_28 (fun hc h => ?_) (fun hc h => ?_)
      · exact L_X0_gather_92 a C R _ ih x2 x3 S h
      · refine z_aload_n C 0 rfl rfl dX0_gather_31 ?_
        refine z_get C 0 rfl (C := RX0) (T := TX0) (N := 8) (ci := 0) rfl inw_X0_gather_X0 0 (by decide) (ref := "EldestAge$Search") (List.mem_of_getElem? (i := 1) rfl) rfl (v := .int (S 0 0)) rfl dX0_gather_32 ?_
        refine z_iconst C (v := (4 : Int32)) (by decide) dX0_gather_35 ?_
        refine z_icmp_ge C 92 (by decide) h dX0_gather_36 (fun hc h => ?_) (fun hc h => ?_)
        · exact L_X0_gather_92 a C R _ ih x2 x3 S h
        · refine z_aload_n C 0 rfl rfl dX0_gather_39 ?_
          refine z_get C 0 rfl (C := RX0) (T := TX0) (N := 8) (ci := 0) rfl inw_X0_gather_X0 1 (by decide) (ref := "EldestAge$Search") (List.mem_of_getElem? (i := 4) rfl) rfl (v := .ref (a 1)) rfl dX0_gather_40 ?_
          refine z_aload_n C 0 rfl rfl dX0_gather_43 ?_
          refine z_get C 0 rfl (C := RX0) (T := TX0) (N := 8) (ci := 0) rfl inw_X0_gather_X0 0 (by decide) (ref := "EldestAge$Search") (List.mem_of_getElem? (i := 1) rfl) rfl (v := .int (S 0 0)) rfl dX0_gather_44 ?_
          refine z_iload_n C 3 rfl rfl dX0_gather_47 ?_
          refine z_iast C (N := 4) (f := (S 1)) 1 rfl h (wSearchTown E a (st 1 (upd (S 1) (Int32.toNatClampNeg (S 0 0)) x3) S)) (wl_X0_gather_5 E a S (upd (S 1) (Int32.toNatClampNeg (S 0 0)) x3)) dX0_gather_48 (fun h => ?_)
          refine z_aload_n C 0 rfl rfl dX0_gather_49 ?_
          refine z_get C 0 rfl (C := RX0) (T := TX0) (N := 8) (ci := 0) rfl inw_X0_gather_X0 2 (by decide) (ref := "EldestAge$Search") (List.mem_of_getElem? (i := 5) rfl) rfl (v := .ref (a 2)) rfl dX0_gather_50 ?_
          refine z_aload_n C 0 rfl rfl dX0_gather_53 ?_
          refine z_get C 0 rfl (C := RX0) (T := TX0) (N := 8) (ci := 0) rfl inw_X0_gather_X0 0 (by decide) (ref := "EldestAge$Search") (List.mem_of_getElem? (i := 1) rfl) rfl (v := .int (S 0 0)) rfl dX0_gather_54 ?_
          refine z_aload_n C 1 rfl rfl dX0_gather_57 ?_
          refine z_iload_n C 3 rfl rfl dX0_gather_58 ?_
          refine z_iload_n C 2 rfl rfl dX0_gather_59 ?_
          obtain ⟨q6, e6, h⟩ := bd_e h
          refine z_callVi C (b := a 16) (As := [.int x3, .int x2]) (rest := [.int (S 0 0), .ref (a 2)]) (c_X5_homeOf E (fun k => a (16 + k)) x3 x2 (sb 16 (st 1 (upd (S 1) (Int32.toNatClampNeg (S 0 0)) x3) S)) e6) rfl gX0_gather_X5_homeOf rfl rfl rfl 2 rfl (by decide +kernel) ⟨Nat.le_of_ble_eq_true rfl, Nat.le_of_ble_eq_true rfl⟩ [16, 17, 18, 19, 20, 21, 22, 23, 24, 25, 26, 27, 28, 29, 30, 31] (wl_X0_gather_0 E a (st 1 (upd (S 1) (Int32.toNatClampNeg (S 0 0)) x3) S)) (by decide) rfl (wSearchTown E a (st 1 (upd (S 1) (Int32.toNatClampNeg (S 0 0)) x3) S)) (zrep_self (wl_X0_gather_0 E a (st 1 (upd (S 1) (Int32.toNatClampNeg (S 0 0)) x3) S))) 0 5 rfl rfl rfl (Nat.le_of_ble_eq_true rfl) dX0_gather_60 ⟨Nat.zero_le _, Nat.zero_le _⟩ _ rfl ?_
          refine z_iast C (N := 4) (f := (S 2)) 2 rfl h (wSearchTown E a (st 2 (upd (S 2) (Int32.toNatClampNeg (S 0 0)) q6) (st 1 (upd (S 1) (Int32.toNatClampNeg (S 0 0)) x3) S))) (wl_X0_gather_6 E a (st 1 (upd (S 1) (Int32.toNatClampNeg (S 0 0)) x3) S) (upd (S 2) (Int32.toNatClampNeg (S 0 0)) q6)) dX0_gather_63 (fun h => ?_)
          refine z_aload_n C 0 rfl rfl dX0_gather_64 ?_
          refine z_get C 0 rfl (C := RX0) (T := TX0) (N := 8) (ci := 0) rfl inw_X0_gather_X0 3 (by decide) (ref := "EldestAge$Search") (List.mem_of_getElem? (i := 6) rfl) rfl (v := .ref (a 3)) rfl dX0_gather_65 ?_
          refine z_aload_n C 0 rfl rfl dX0_gather_68 ?_
          refine z_get C 0 rfl (C := RX0) (T := TX0) (N := 8) (ci := 0) rfl inw_X0_gather_X0 0 (by decide) (ref := "EldestAge$Search") (List.mem_of_getElem? (i := 1) rfl) rfl (v := .int (S 0 0)) rfl dX0_gather_69 ?_
          refine z_aload_n C 1 rfl rfl dX0_gather_72 ?_
          refine z_iload_n C 3 rfl rfl dX0_gather_73 ?_
          refine z_iload_n C 2 rfl rfl dX0_gather_74 ?_
          obtain ⟨q7, e7, h⟩ := bd_e h
          refine z_callVi C (b := a 16) (As := [.int x3, .int x2]) (rest := [.int (S 0 0), .ref (a 3)]) (c_X5_yearsOf E (fun k => a (16 + k)) x3 x2 (sb 16 (st 2 (upd (S 2) (Int32.toNatClampNeg (S 0 0)) q6) (st 1 (upd (S 1) (Int32.toNatClampNeg (S 0 0)) x3) S))) e7) rfl gX0_gather_X5_yearsOf rfl rfl rfl 2 rfl (by decide +kernel) ⟨Nat.le_of_ble_eq_true rfl, Nat.le_of_ble_eq_true rfl⟩ [16, 17, 18, 19, 20, 21, 22, 23, 24, 25, 26, 27, 28, 29, 30, 31] (wl_X0_gather_0 E a (st 2 (upd (S 2) (Int32.toNatClampNeg (S 0 0)) q6) (st 1 (upd (S 1) (Int32.toNatClampNeg (S 0 0)) x3) S))) (by decide) rfl (wSearchTown E a (st 2 (upd (S 2) (Int32.toNatClampNeg (S 0 0)) q6) (st 1 (upd (S 1) (Int32.toNatClampNeg (S 0 0)) x3) S))) (zrep_self (wl_X0_gather_0 E a (st 2 (upd (S 2) (Int32.toNatClampNeg (S 0 0)) q6) (st 1 (upd (S 1) (Int32.toNatClampNeg (S 0 0)) x3) S)))) 0 5 rfl rfl rfl (Nat.le_of_ble_eq_true rfl) dX0_gather_75 ⟨Nat.zero_le _, Nat.zero_le _⟩ _ rfl ?_
          refine z_iast C (N := 4) (f := (S 3)) 3 rfl h (wSearchTown E a (st 3 (upd (S 3) (Int32.toNatClampNeg (S 0 0)) q7) (st 2 (upd (S 2) (Int32.toNatClampNeg (S 0 0)) q6) (st 1 (upd (S 1) (Int32.toNatClampNeg (S 0 0)) x3) S)))) (wl_X0_gather_7 E a (st 2 (upd (S 2) (Int32.toNatClampNeg (S 0 0)) q6) (st 1 (upd (S 1) (Int32.toNatClampNeg (S 0 0)) x3) S)) (upd (S 3) (Int32.toNatClampNeg (S 0 0)) q7)) dX0_gather_78 (fun h => ?_)
          refine z_aload_n C 0 rfl rfl dX0_gather_79 ?_
          refine z_dup C rfl dX0_gather_80 ?_
          refine z_get C 0 rfl (C := RX0) (T := TX0) (N := 8) (ci := 0) rfl inw_X0_gather_X0 0 (by decide) (ref := "EldestAge$Search") (List.mem_of_getElem? (i := 1) rfl) rfl (v := .int (S 0 0)) rfl dX0_gather_81 ?_
          refine z_iconst C (v := (1 : Int32)) (by decide) dX0_gather_84 ?_
          refine z_iadd C dX0_gather_85 ?_
          refine z_put C 0 rfl (C := RX0) (T := TX0) (N := 8) (ci := 0) rfl inw_X0_gather_X0 tyX0 tyX0_ok nmX0 0 (by decide) (ref := "EldestAge$Search") (List.mem_of_getElem? (i := 1) rfl) rfl rfl (ty := .int) (v := .int ((S 0 0) + (1 : Int32))) (by decide +kernel) rfl rfl (Nat.le_of_ble_eq_true rfl) (wSearchTown E a (st 0 (fun _ => ((S 0 0) + (1 : Int32))) (st 3 (upd (S 3) (Int32.toNatClampNeg (S 0 0)) q7) (st 2 (upd (S 2) (Int32.toNatClampNeg (S 0 0)) q6) (st 1 (upd (S 1) (Int32.toNatClampNeg (S 0 0)) x3) S))))) (wl_X0_gather_8 E a (st 3 (upd (S 3) (Int32.toNatClampNeg (S 0 0)) q7) (st 2 (upd (S 2) (Int32.toNatClampNeg (S 0 0)) q6) (st 1 (upd (S 1) (Int32.toNatClampNeg (S 0 0)) x3) S))) ((S 0 0) + (1 : Int32))) dX0_gather_86 ?_
          refine z_goto C 126 (by decide) dX0_gather_89 ?_
          exact L_X0_gather_126 a C R _ ih x2 x3 (st 0 (fun _ => ((S 0 0) + (1 : Int32))) (st 3 (upd (S 3) (Int32.toNatClampNeg (S 0 0)) q7) (st 2 (upd (S 2) (Int32.toNatClampNeg (S 0 0)) q6) (st 1 (upd (S 1) (Int32.toNatClampNeg (S 0 0)) x3) S)))) h

set_option maxHeartbeats 4000000 in
set_option maxRecDepth 100000 in
theorem L_X0_gather {E : zEnv} {Γ : zG} (a : Nat → Nat) (C : zC E Γ cX0_gather RX0 4 rm_X0_gather wsX0_gather) {res : St} (R : zRv E Γ cX0_gather 4 (wSearchTown E a res)) (x2 : Int32) (S : St) (h : f_X0_gather x2 S = some res) : Zt E Γ 4 0 0 (wSearchTown E a S) [(0, .ref (a 0)), (1, .ref (a 16)), (2, .int x2)] 0 [] := by
  unfold f_X0_gather at h
  refine z_aload_n C 0 rfl rfl dX0_gather_0 ?_
  refine z_iconst C (v := (0 : Int32)) (by decide) dX0_gather_1 ?_
  refine z_put C 0 rfl (C := RX0) (T := TX0) (N := 8) (ci := 0) rfl inw_X0_gather_X0 tyX0 tyX0_ok nmX0 0 (by decide) (ref := "EldestAge$Search") (List.mem_of_getElem? (i := 1) rfl) rfl rfl (ty := .int) (v := .int (0 : Int32)) (by decide +kernel) rfl rfl (Nat.le_of_ble_eq_true rfl) (wSearchTown E a (st 0 (fun _ => (0 : Int32)) S)) (wl_X0_gather_8 E a S (0 : Int32)) dX0_gather_2 ?_
  refine z_aload_n C 0 rfl rfl dX0_gather_5 ?_
  refine z_get C 0 rfl (C := RX0) (T := TX0) (N := 8) (ci := 0) rfl inw_X0_gather_X0 6 (by decide) (ref := "EldestAge$Search") (List.mem_of_getElem? (i := 2) rfl) rfl (v := .ref (a 6)) rfl dX0_gather_6 ?_
  obtain ⟨q8, e8, h⟩ := bd_e h
  refine z_callVv C (b := a 6) (As := []) (rest := []) (c_X2_clear E (fun k => a (6 + k)) (sb 8 (st 0 (fun _ => (0 : Int32)) S)) e8) rfl gX0_gather_X2_clear rfl rfl rfl 0 rfl (by decide +kernel) ⟨Nat.le_of_ble_eq_true rfl, Nat.le_of_ble_eq_true rfl⟩ [6, 7, 8, 9, 10] (wl_X0_gather_2 E a (st 0 (fun _ => (0 : Int32)) S)) (by decide) (wl_X0_gather_3 E a _ _) (wSearchTown E a (pt 8 4 q8 (st 0 (fun _ => (0 : Int32)) S))) (wl_X0_gather_4 E a (st 0 (fun _ => (0 : Int32)) S) q8) 0 2 rfl rfl rfl (Nat.le_of_ble_eq_true rfl) dX0_gather_9 ⟨Nat.zero_le _, Nat.zero_le _⟩ _ rfl ?_
  refine z_iconst C (v := (0 : Int32)) (by decide) dX0_gather_12 ?_
  refine z_istore_n C [(3, .int (0 : Int32)), (0, .ref (a 0)), (1, .ref (a 16)), (2, .int x2)] rfl (by decide) rfl dX0_gather_13 ?_
  refine Zt_l [(0, .ref (a 0)), (1, .ref (a 16)), (2, .int x2), (3, .int (0 : Int32))] [1, 2, 3, 0] rfl ?_
  exact L_X0_gather_14 a C R 1000 x2 (0 : Int32) (pt 8 4 q8 (st 0 (fun _ => (0 : Int32)) S)) h

theorem c_X0_gather (E : zEnv) (a : Nat → Nat) (x2 : Int32) (S : St) {res : St} (h : f_X0_gather x2 S = some res) : Ktv E yX0_gather wsX0_gather rm_X0_gather (wSearchTown E a S) (wSearchTown E a res) [.ref (a 0), .ref (a 16), .int x2] :=
  z_entv (cc := cX0_gather) (maxL := 4) (by decide +kernel) rfl (Nat.le_of_ble_eq_true rfl) (fun Γ C R => L_X0_gather a C R x2 S h)

abbrev rm_X0_send : Room := { frames := 0, cells := 0, slots := 0, locals := 0 }
theorem inw_X0_send_X0 : ∀ w ∈ wsX00, w ∈ wsX0_send := fun _ h => List.mem_cons_of_mem _ (List.mem_append_right _ h)
set_option maxHeartbeats 4000000 in
theorem wl_X0_send_0 (E : zEnv) (a : Nat → Nat) (S : St) (f : Nat → Int32) : (wSearch E a (st 4 f S)) = (wSearch E a S).set 4 (a 4, .inl (zI E, 4, .inl f)) := rfl
noncomputable def f_X0_send_56 (k13 : Int32 → Int32 → Int32 → Int32 → St → Option (Int32 × St)) (x2 : Int32) (x3 : Int32) (x4 : Int32) (x5 : Int32) (S : St) : Option (Int32 × St) := (k13 x2 x3 x4 (x5 + (-1 : Int32)) S)
noncomputable def f_X0_send_13 (n : Nat) : Int32 → Int32 → Int32 → Int32 → St → Option (Int32 × St) := Nat.rec (motive := fun _ => Int32 → Int32 → Int32 → Int32 → St → Option (Int32 × St)) (fun _ _ _ _ _ => none) (fun _ ih => fun x2 x3 x4 x5 S => (if x5 < 0 then (some (x4, S)) else (if x2 ≤ 0 then (some (x4, S)) else (nz x2 (ix x5 4 (nz x2 (ix x5 4 (ix x5 4 (if ((upd (S 4) (Int32.toNatClampNeg x5) (zrem x3 x2)) (Int32.toNatClampNeg x5)) = (S 2 (Int32.toNatClampNeg x5)) then (f_X0_send_56 ih x2 (x3 / x2) x4 x5 (st 4 (upd (S 4) (Int32.toNatClampNeg x5) (zrem x3 x2)) S)) else (f_X0_send_56 ih x2 (x3 / x2) (x4 + (1 : Int32)) x5 (st 4 (upd (S 4) (Int32.toNatClampNeg x5) (zrem x3 x2)) S))))))))))) n
theorem f_X0_send_13_s (n : Nat) (x2 : Int32) (x3 : Int32) (x4 : Int32) (x5 : Int32) (S : St) : f_X0_send_13 (n + 1) x2 x3 x4 x5 S = (if x5 < 0 then (some (x4, S)) else (if x2 ≤ 0 then (some (x4, S)) else (nz x2 (ix x5 4 (nz x2 (ix x5 4 (ix x5 4 (if ((upd (S 4) (Int32.toNatClampNeg x5) (zrem x3 x2)) (Int32.toNatClampNeg x5)) = (S 2 (Int32.toNatClampNeg x5)) then (f_X0_send_56 (f_X0_send_13 n) x2 (x3 / x2) x4 x5 (st 4 (upd (S 4) (Int32.toNatClampNeg x5) (zrem x3 x2)) S)) else (f_X0_send_56 (f_X0_send_13 n) x2 (x3 / x2) (x4 + (1 : Int32)) x5 (st 4 (upd (S 4) (Int32.toNatClampNeg x5) (zrem x3 x2)) S)))))))))) := rfl
noncomputable def f_X0_send (x1 : Int32) (x2 : Int32) (S : St) : Option (Int32 × St) := (f_X0_send_13 1000 x2 x1 (0 : Int32) ((S 0 0) - (1 : Int32)) S)
set_option maxHeartbeats 4000000 in
set_option maxRecDepth 100000 in
theorem L_X0_send_56 {E : zEnv} {Γ : zG} (a : Nat → Nat) (C : zC E Γ cX0_send RX0 6 rm_X0_send wsX0_send) {res : (Int32 × St)} (R : zRi E Γ cX0_send 6 .int (wSearch E a res.2) res.1) (k13 : Int32 → Int32 → Int32 → Int32 → St → Option (Int32 × St)) (hk13 : ∀ (x2 : Int32) (x3 : Int32) (x4 : Int32) (x5 : Int32) (S : St), k13 x2 x3 x4 x5 S = some res → Zt E Γ 6 0 0 (wSearch E a S) [(0, .ref (a 0)), (2, .int x2), (3, .int x3), (4, .int x4), (5, .int x5)] 13 []) (x2 : Int32) (x3 : Int32) (x4 : Int32) (x5 : Int32) (S : St) (h : f_X0_send_56 k13 x2 x3 x4 x5 S = some res) : Zt E Γ 6 0 0 (wSearch E a S) [(0, .ref (a 0)), (2, .int x2), (3, .int x3), (4, .int x4), (5, .int x5)] 56 [] := by
  unfold f_X0_send_56 at h
  refine z_iinc C [(5, .int (x5 + (-1 : Int32))), (0, .ref (a 0)), (2, .int x2), (3, .int x3), (4, .int x4)] 4 rfl (by first | rfl | decide) (by decide) rfl dX0_send_56 ?_
  refine z_goto C 13 (by decide) dX0_send_59 ?_
  refine Zt_l [(0, .ref (a 0)), (2, .int x2), (3, .int x3), (4, .int x4), (5, .int (x5 + (-1 : Int32)))] [1, 2, 3, 4, 0] rfl ?_
  exact hk13 x2 x3 x4 (x5 + (-1 : Int32)) S h

set_option maxHeartbeats 4000000 in
set_option maxRecDepth 100000 in
theorem L_X0_send_13 {E : zEnv} {Γ : zG} (a : Nat → Nat) (C : zC E Γ cX0_send RX0 6 rm_X0_send wsX0_send) {res : (Int32 × St)} (R : zRi E Γ cX0_send 6 .int (wSearch E a res.2) res.1) : ∀ (n : Nat) (x2 : Int32) (x3 : Int32) (x4 : Int32) (x5 : Int32) (S : St), f_X0_send_13 n x2 x3 x4 x5 S = some res → Zt E Γ 6 0 0 (wSearch E a S) [(0, .ref (a 0)), (2, .int x2), (3, .int x3), (4, .int x4), (5, .int x5)] 13 [] := by
  intro n
  induction n with
  | zero =>
    intro x2 x3 x4 x5 S h
    cases h
  | succ n ih =>
    intro x2 x3 x4 x5 S h
    rw [f_X0_send_13_s] at h
    refine z_iload C 4 rfl dX0_send_13 ?_
    refine z_if_lt C 62 (by decide) h dX0_send_15 (fun hc h => ?_) (fun hc h => ?_)
    · refine z_iload C 3 rfl dX0_send_62 ?_
      obtain rfl := Option.some.inj h
      exact R rfl 64 _ dX0_send_64
    · refine z_iload_n C 1 rfl rfl dX0_send_18 ?_
      refine z_if_le C 62 (by decide) h dX0_send_19 (fun hc h => ?_) (fun hc h => ?_)
      · refine z_iload C 3 rfl dX0_send_62 ?_
        obtain rfl := Option.some.inj h
        exact R rfl 64 _ dX0_send_64
      · refine z_aload_n C 0 rfl rfl dX0_send_22 ?_
        refine z_get C 0 rfl (C := RX0) (T := TX0) (N := 8) (ci := 0) rfl inw_X0_send_X0 4 (by decide) (ref := "EldestAge$Search") (List.mem_of_getElem? (i := 2) rfl) rfl (v := .ref (a 4)) rfl dX0_send_23 ?_
        refine z_iload C 4 rfl dX0_send_26 ?_
        refine z_iload_n C 2 rfl rfl dX0_send_28 ?_
        refine z_iload_n C 1 rfl rfl dX0_send_29 ?_
        refine z_irem C (nz_e h).1 dX0_send_30 ?_
        replace h := (nz_e h).2
        refine z_iast C (N := 4) (f := (S 4)) 4 rfl h (wSearch E a (st 4 (upd (S 4) (Int32.toNatClampNeg x5) (zrem x3 x2)) S)) (wl_X0_send_0 E a S (upd (S 4) (Int32.toNatClampNeg x5) (zrem x3 x2))) dX0_send_31 (fun h => ?_)
        refine z_iload_n C 2 rfl rfl dX0_send_32 ?_
        refine z_iload_n C 1 rfl rfl dX0_send_33 ?_
        refine z_idiv C (nz_e h).1 dX0_send_34 ?_
        replace h := (nz_e h).2
        refine z_istore_n C [(3, .int (x3 / x2)), (0, .ref (a 0)), (2, .int x2), (4, .int x4), (5, .int x5)] rfl (by decide) rfl dX0_send_35 ?_
        refine z_aload_n C 1 rfl rfl dX0_send_36 ?_
        refine z_get C 0 rfl (C := RX0) (T := TX0) (N := 8) (ci := 0) rfl inw_X0_send_X0 4 (by decide) (ref := "EldestAge$Search") (List.mem_of_getElem? (i := 2) rfl) rfl (v := .ref (a 4)) rfl dX0_send_37 ?_
        refine z_iload C 4 rfl dX0_send_40 ?_
        refine z_iald C (N := 4) (f := (upd (S 4) (Int32.toNatClampNeg x5) (zrem x3 x2))) 4 rfl h dX0_send_42 (fun h => ?_)
        refine z_aload_n C 1 rfl rfl dX0_send_43 ?_
        refine z_get C 0 rfl (C := RX0) (T := TX0) (N := 8) (ci := 0) rfl inw_X0_send_X0 2 (by decide) (ref := "EldestAge$Search") (List.mem_of_getElem? (i := 3) rfl) rfl (v := .ref (a 2)) rfl dX0_send_44 ?_
        refine z_iload C 4 rfl dX0_send_47 ?_
        refine z_iald C (N := 4) (f := (S 2)) 2 rfl h dX0_send_49 (fun h => ?_)
        refine z_icmp_eq C 56 (by decide) h dX0_send_50 (fun hc h => ?_) (fun hc h => ?_)
        · refine Zt_l [(0, .ref (a 0)), (2, .int x2), (3, .int (x3 / x2)), (4, .int x4), (5, .int x5)] [1, 2, 0, 3, 4] rfl ?_
          exact L_X0_send_56 a C R _ ih x2 (x3 / x2) x4 x5 (st 4 (upd (S 4) (Int32.toNatClampNeg x5) (zrem x3 x2)) S) h
        · refine z_iinc C [(4, .int (x4 + (1 : Int32))), (3, .int (x3 / x2)), (0, .ref (a 0)), (2, .int x2), (5, .int x5)] 3 rfl (by first | rfl | decide) (by decide) rfl dX0_send_53 ?_
          refine Zt_l [(0, .ref (a 0)), (2, .int x2), (3, .int (x3 / x2)), (4, .int (x4 + (1 : Int32))), (5, .int x5)] [2, 3, 1, 0, 4] rfl ?_
          exact L_X0_send_56 a C R _ ih x2 (x3 / x2) (x4 + (1 : Int32)) x5 (st 4 (upd (S 4) (Int32.toNatClampNeg x5) (zrem x3 x2)) S) h

set_option maxHeartbeats 4000000 in
set_option maxRecDepth 100000 in
theorem L_X0_send {E : zEnv} {Γ : zG} (a : Nat → Nat) (C : zC E Γ cX0_send RX0 6 rm_X0_send wsX0_send) {res : (Int32 × St)} (R : zRi E Γ cX0_send 6 .int (wSearch E a res.2) res.1) (x1 : Int32) (x2 : Int32) (S : St) (h : f_X0_send x1 x2 S = some res) : Zt E Γ 6 0 0 (wSearch E a S) [(0, .ref (a 0)), (1, .int x1), (2, .int x2)] 0 [] := by
  unfold f_X0_send at h
  refine z_iload_n C 1 rfl rfl dX0_send_0 ?_
  refine z_istore_n C [(3, .int x1), (0, .ref (a 0)), (1, .int x1), (2, .int x2)] rfl (by decide) rfl dX0_send_1 ?_
  refine z_iconst C (v := (0 : Int32)) (by decide) dX0_send_2 ?_
  refine z_istore C [(4, .int (0 : Int32)), (3, .int x1), (0, .ref (a 0)), (1, .int x1), (2, .int x2)] (by decide) rfl dX0_send_3 ?_
  refine z_aload_n C 2 rfl rfl dX0_send_5 ?_
  refine z_get C 0 rfl (C := RX0) (T := TX0) (N := 8) (ci := 0) rfl inw_X0_send_X0 0 (by decide) (ref := "EldestAge$Search") (List.mem_of_getElem? (i := 1) rfl) rfl (v := .int (S 0 0)) rfl dX0_send_6 ?_
  refine z_iconst C (v := (1 : Int32)) (by decide) dX0_send_9 ?_
  refine z_isub C dX0_send_10 ?_
  refine z_istore C [(5, .int ((S 0 0) - (1 : Int32))), (4, .int (0 : Int32)), (3, .int x1), (0, .ref (a 0)), (1, .int x1), (2, .int x2)] (by decide) rfl dX0_send_11 ?_
  refine Zt_l [(0, .ref (a 0)), (2, .int x2), (3, .int x1), (4, .int (0 : Int32)), (5, .int ((S 0 0) - (1 : Int32)))] [3, 5, 2, 1, 0] rfl ?_
  exact L_X0_send_13 a C R 1000 x2 x1 (0 : Int32) ((S 0 0) - (1 : Int32)) S h

theorem c_X0_send (E : zEnv) (a : Nat → Nat) (x1 : Int32) (x2 : Int32) (S : St) {res : (Int32 × St)} (h : f_X0_send x1 x2 S = some res) : Kti E yX0_send wsX0_send rm_X0_send (wSearch E a S) (wSearch E a res.2) [.ref (a 0), .int x1, .int x2] res.1 :=
  z_enti (cc := cX0_send) (maxL := 6) (rt := .int) (by decide +kernel) rfl (Nat.le_of_ble_eq_true rfl) (fun Γ C R => L_X0_send a C R x1 x2 S h)

abbrev rm_X0_isSo : Room := { frames := 2, cells := 0, slots := 0, locals := 48 }
theorem inw_X0_isSo_X0 : ∀ w ∈ wsX00, w ∈ wsX0_isSo := fun _ h => List.mem_cons_of_mem _ (List.mem_append_left _ (List.mem_append_left _ (List.mem_append_left _ (List.mem_append_right _ h))))
theorem inw_X0_isSo_X4 : ∀ w ∈ wsX40, w ∈ wsX0_isSo := fun _ h => List.mem_cons_of_mem _ (List.mem_append_left _ (List.mem_append_left _ (List.mem_append_right _ h)))
theorem inw_X0_isSo_X5 : ∀ w ∈ wsX50, w ∈ wsX0_isSo := fun _ h => List.mem_cons_of_mem _ (List.mem_append_left _ (List.mem_append_right _ h))
theorem inw_X0_isSo_X2 : ∀ w ∈ wsX20, w ∈ wsX0_isSo := fun _ h => List.mem_cons_of_mem _ (List.mem_append_right _ h)
set_option maxHeartbeats 4000000 in
theorem wl_X0_isSo_0 (E : zEnv) (N : Nat) (a : Nat → Nat) (S : St) : ([11, 12, 13, 14, 15] : List Nat).map (fun i => (wSearchTownTold E N a S)[i]?) = (wTally E (fun k => a (11 + k)) (sb 12 S)).map some := rfl
set_option maxHeartbeats 4000000 in
theorem wl_X0_isSo_1 (E : zEnv) (N : Nat) (a : Nat → Nat) (S U : St) : (wTally E (fun k => a (11 + k)) U).map (fun q => q.1) = (wTally E (fun k => a (11 + k)) S).map (fun q => q.1) := rfl
set_option maxHeartbeats 4000000 in
theorem wl_X0_isSo_2 (E : zEnv) (N : Nat) (a : Nat → Nat) (S U : St) : (wSearchTownTold E N a (pt 12 4 U S)) = zrep [11, 12, 13, 14, 15] (wTally E (fun k => a (11 + k)) U) (wSearchTownTold E N a S) := zrep_of (isR := [0, 1, 2, 3, 4, 5, 6, 7, 8, 9, 10, 16, 17, 18, 19, 20, 21, 22, 23, 24, 25, 26, 27, 28, 29, 30, 31, 32, 33, 34, 35]) 36 rfl [some (a 0, .inr (0, [.int (S 0 0), .ref (a 1), .ref (a 2), .ref (a 3), .ref (a 4), .ref (a 5), .ref (a 6), .ref (a 11)])), some (a 1, .inl (zI E, 4, .inl (S 1))), some (a 2, .inl (zI E, 4, .inl (S 2))), some (a 3, .inl (zI E, 4, .inl (S 3))), some (a 4, .inl (zI E, 4, .inl (S 4))), some (a 5, .inl (zI E, 4, .inl (S 5))), some (a 6, .inr (2, [.ref (a 7), .ref (a 8), .ref (a 9), .ref (a 10)])), some (a 7, .inl (zI E, 8, .inl (S 8))), some (a 8, .inl (zI E, 8, .inl (S 9))), some (a 9, .inl (zI E, 8, .inl (S 10))), some (a 10, .inl (zI E, 8, .inl (S 11))), some (a 16, .inr (5, [.int (S 16 0), .int (S 17 0), .int (S 18 0), .ref (a 17), .ref (a 18), .ref (a 19), .ref (a 20), .int (S 23 0), .ref (a 21), .ref (a 22), .ref (a 23), .int (S 27 0), .ref (a 24), .ref (a 25), .ref (a 26), .ref (a 27)])), some (a 17, .inl (zI E, 14, .inl (S 19))), some (a 18, .inl (zI E, 14, .inl (S 20))), some (a 19, .inl (zI E, 14, .inl (S 21))), some (a 20, .inl (zI E, 14, .inl (S 22))), some (a 21, .inl (zI E, 12, .inl (S 24))), some (a 22, .inl (zI E, 12, .inl (S 25))), some (a 23, .inl (zI E, 12, .inl (S 26))), some (a 24, .inl (zI E, 4, .inl (S 28))), some (a 25, .inl (zI E, 4, .inl (S 29))), some (a 26, .inl (zI E, 4, .inl (S 30))), some (a 27, .inr (2, [.ref (a 28), .ref (a 29), .ref (a 30), .ref (a 31)])), some (a 28, .inl (zI E, 8, .inl (S 32))), some (a 29, .inl (zI E, 8, .inl (S 33))), some (a 30, .inl (zI E, 8, .inl (S 34))), some (a 31, .inl (zI E, 8, .inl (S 35))), some (a 32, .inr (4, [.int (S 48 0), .ref (a 33), .ref (a 34), .ref (a 35), .int (S 52 0)])), some (a 33, .inl (zI E, N, .inl (S 49))), some (a 34, .inl (zI E, N, .inl (S 50))), some (a 35, .inl (zI E, N, .inl (S 51)))] rfl rfl rfl rfl (by decide +kernel) (by decide +kernel)
set_option maxHeartbeats 4000000 in
theorem wl_X0_isSo_3 (E : zEnv) (N : Nat) (a : Nat → Nat) (S : St) : ([11, 12, 13, 14, 15, 6, 7, 8, 9, 10] : List Nat).map (fun i => (wSearchTownTold E N a S)[i]?) = (wTally2 E (ja 5 (fun k => a (11 + k)) (fun k => a (6 + k))) (jn 4 (sb 12 S) (sb 8 S))).map some := rfl
set_option maxHeartbeats 4000000 in
theorem wl_X0_isSo_4 (E : zEnv) (N : Nat) (a : Nat → Nat) (S U : St) : (wTally2 E (ja 5 (fun k => a (11 + k)) (fun k => a (6 + k))) U).map (fun q => q.1) = (wTally2 E (ja 5 (fun k => a (11 + k)) (fun k => a (6 + k))) S).map (fun q => q.1) := rfl
set_option maxHeartbeats 4000000 in
theorem wl_X0_isSo_5 (E : zEnv) (N : Nat) (a : Nat → Nat) (S U : St) : (wSearchTownTold E N a (pt 8 4 (sb 4 U) (pt 12 4 U S))) = zrep [11, 12, 13, 14, 15, 6, 7, 8, 9, 10] (wTally2 E (ja 5 (fun k => a (11 + k)) (fun k => a (6 + k))) U) (wSearchTownTold E N a S) := zrep_of (isR := [0, 1, 2, 3, 4, 5, 16, 17, 18, 19, 20, 21, 22, 23, 24, 25, 26, 27, 28, 29, 30, 31, 32, 33, 34, 35]) 36 rfl [some (a 0, .inr (0, [.int (S 0 0), .ref (a 1), .ref (a 2), .ref (a 3), .ref (a 4), .ref (a 5), .ref (a 6), .ref (a 11)])), some (a 1, .inl (zI E, 4, .inl (S 1))), some (a 2, .inl (zI E, 4, .inl (S 2))), some (a 3, .inl (zI E, 4, .inl (S 3))), some (a 4, .inl (zI E, 4, .inl (S 4))), some (a 5, .inl (zI E, 4, .inl (S 5))), some (a 16, .inr (5, [.int (S 16 0), .int (S 17 0), .int (S 18 0), .ref (a 17), .ref (a 18), .ref (a 19), .ref (a 20), .int (S 23 0), .ref (a 21), .ref (a 22), .ref (a 23), .int (S 27 0), .ref (a 24), .ref (a 25), .ref (a 26), .ref (a 27)])), some (a 17, .inl (zI E, 14, .inl (S 19))), some (a 18, .inl (zI E, 14, .inl (S 20))), some (a 19, .inl (zI E, 14, .inl (S 21))), some (a 20, .inl (zI E, 14, .inl (S 22))), some (a 21, .inl (zI E, 12, .inl (S 24))), some (a 22, .inl (zI E, 12, .inl (S 25))), some (a 23, .inl (zI E, 12, .inl (S 26))), some (a 24, .inl (zI E, 4, .inl (S 28))), some (a 25, .inl (zI E, 4, .inl (S 29))), some (a 26, .inl (zI E, 4, .inl (S 30))), some (a 27, .inr (2, [.ref (a 28), .ref (a 29), .ref (a 30), .ref (a 31)])), some (a 28, .inl (zI E, 8, .inl (S 32))), some (a 29, .inl (zI E, 8, .inl (S 33))), some (a 30, .inl (zI E, 8, .inl (S 34))), some (a 31, .inl (zI E, 8, .inl (S 35))), some (a 32, .inr (4, [.int (S 48 0), .ref (a 33), .ref (a 34), .ref (a 35), .int (S 52 0)])), some (a 33, .inl (zI E, N, .inl (S 49))), some (a 34, .inl (zI E, N, .inl (S 50))), some (a 35, .inl (zI E, N, .inl (S 51)))] rfl rfl rfl rfl (by decide +kernel) (by decide +kernel)
noncomputable def f_X0_isSo_121 (N : Nat) (S : St) : Option (Int32 × St) := (some ((1 : Int32), S))
noncomputable def f_X0_isSo_99 (N : Nat) (x3 : Int32) (S : St) : Option (Int32 × St) := (if x3 = 0 then (f_X0_isSo_121 N S) else ((f_X2_twinBits (S 16 0) (S 17 0) (sb 12 S)).bind (fun q1 => (if q1 = 0 then (f_X0_isSo_121 N S) else (some ((0 : Int32), S))))))
noncomputable def f_X0_isSo_54 (N : Nat) (n : Nat) : Int32 → Int32 → St → Option (Int32 × St) := Nat.rec (motive := fun _ => Int32 → Int32 → St → Option (Int32 × St)) (fun _ _ _ => none) (fun _ ih => fun x3 x4 S => (if (S 52 0) ≤ x4 then (f_X0_isSo_99 N x3 S) else (ix x4 N ((f_X2_valueOf (S 49 (Int32.toNatClampNeg x4)) (S 17 0) (sb 12 S)).bind (fun q2 => (ix x4 N (if q2 = (S 51 (Int32.toNatClampNeg x4)) then (ih x3 (x4 + (1 : Int32)) S) else (some ((0 : Int32), S))))))))) n
theorem f_X0_isSo_54_s (N : Nat) (n : Nat) (x3 : Int32) (x4 : Int32) (S : St) : f_X0_isSo_54 N (n + 1) x3 x4 S = (if (S 52 0) ≤ x4 then (f_X0_isSo_99 N x3 S) else (ix x4 N ((f_X2_valueOf (S 49 (Int32.toNatClampNeg x4)) (S 17 0) (sb 12 S)).bind (fun q2 => (ix x4 N (if q2 = (S 51 (Int32.toNatClampNeg x4)) then ((f_X0_isSo_54 N n) x3 (x4 + (1 : Int32)) S) else (some ((0 : Int32), S)))))))) := rfl
noncomputable def f_X0_isSo_51 (N : Nat) (x3 : Int32) (S : St) : Option (Int32 × St) := (f_X0_isSo_54 N 1000 x3 (0 : Int32) S)
noncomputable def f_X0_isSo_14 (N : Nat) (n : Nat) : Int32 → Int32 → St → Option (Int32 × St) := Nat.rec (motive := fun _ => Int32 → Int32 → St → Option (Int32 × St)) (fun _ _ _ => none) (fun _ ih => fun x3 x4 S => (if (S 0 0) ≤ x4 then (f_X0_isSo_51 N x3 S) else (ix x4 4 (ix x4 4 ((f_X2_add (S 4 (Int32.toNatClampNeg x4)) (1 : Int32) (S 3 (Int32.toNatClampNeg x4)) (sb 12 S)).bind (fun q3 => (ih x3 (x4 + (1 : Int32)) (pt 12 4 q3 S)))))))) n
theorem f_X0_isSo_14_s (N : Nat) (n : Nat) (x3 : Int32) (x4 : Int32) (S : St) : f_X0_isSo_14 N (n + 1) x3 x4 S = (if (S 0 0) ≤ x4 then (f_X0_isSo_51 N x3 S) else (ix x4 4 (ix x4 4 ((f_X2_add (S 4 (Int32.toNatClampNeg x4)) (1 : Int32) (S 3 (Int32.toNatClampNeg x4)) (sb 12 S)).bind (fun q3 => ((f_X0_isSo_14 N n) x3 (x4 + (1 : Int32)) (pt 12 4 q3 S))))))) := rfl
noncomputable def f_X0_isSo (N : Nat) (x3 : Int32) (S : St) : Option (Int32 × St) := ((f_X2_copyOf (jn 4 (sb 12 S) (sb 8 S))).bind (fun q4 => (f_X0_isSo_14 N 1000 x3 (0 : Int32) (pt 8 4 (sb 4 q4) (pt 12 4 q4 S)))))
set_option maxHeartbeats 4000000 in
set_option maxRecDepth 100000 in
theorem L_X0_isSo_121 {E : zEnv} {Γ : zG} {N : Nat} (a : Nat → Nat) (C : zC E Γ cX0_isSo RX0 5 rm_X0_isSo wsX0_isSo) {res : (Int32 × St)} (R : zRi E Γ cX0_isSo 5 .boolean (wSearchTownTold E N a res.2) res.1) (S : St) (h : f_X0_isSo_121 N S = some res) : Zt E Γ 5 0 0 (wSearchTownTold E N a S) [] 121 [] := by
  unfold f_X0_isSo_121 at h
  refine z_iconst C (v := (1 : Int32)) (by decide) dX0_isSo_121 ?_
  refine z_goto C 126 (by decide) dX0_isSo_122 ?_
  obtain rfl := Option.some.inj h
  exact R z_n1 126 _ dX0_isSo_126

set_option maxHeartbeats 4000000 in
set_option maxRecDepth 100000 in
theorem L_X0_isSo_99 {E : zEnv} {Γ : zG} {N : Nat} (a : Nat → Nat) (C : zC E Γ cX0_isSo RX0 5 rm_X0_isSo wsX0_isSo) {res : (Int32 × St)} (R : zRi E Γ cX0_isSo 5 .boolean (wSearchTownTold E N a res.2) res.1) (x3 : Int32) (S : St) (h : f_X0_isSo_99 N x3 S = some res) : Zt E Γ 5 0 0 (wSearchTownTold E N a S) [(0, .ref (a 0)), (1, .ref (a 16)), (3, .int x3)] 99 [] := by
  unfold f_X0_isSo_99 at h
  refine z_iload_n C 2 rfl rfl dX0_isSo_99 ?_
  refine z_if_eq C 121 (by decide) h dX0_isSo_100 (fun hc h => ?_) (fun hc h => ?_)
  · refine Zt_l [] [] rfl ?_
    exact L_X0_isSo_121 a C R S h
  · refine z_aload_n C 0 rfl rfl dX0_isSo_103 ?_
    refine z_get C 0 rfl (C := RX0) (T := TX0) (N := 8) (ci := 0) rfl inw_X0_isSo_X0 7 (by decide) (ref := "EldestAge$Search") (List.mem_of_getElem? (i := 1) rfl) rfl (v := .ref (a 11)) rfl dX0_isSo_104 ?_
    refine z_aload_n C 1 rfl rfl dX0_isSo_107 ?_
    refine z_get C 16 rfl (C := RX5) (T := TX5) (N := 16) (ci := 5) rfl inw_X0_isSo_X5 0 (by decide) (ref := "EldestAge$Town") (List.mem_of_getElem? (i := 10) rfl) rfl (v := .int (S 16 0)) rfl dX0_isSo_108 ?_
    refine z_aload_n C 1 rfl rfl dX0_isSo_111 ?_
    refine z_get C 16 rfl (C := RX5) (T := TX5) (N := 16) (ci := 5) rfl inw_X0_isSo_X5 1 (by decide) (ref := "EldestAge$Town") (List.mem_of_getElem? (i := 8) rfl) rfl (v := .int (S 17 0)) rfl dX0_isSo_112 ?_
    obtain ⟨q1, e1, h⟩ := bd_e h
    refine z_callVi C (b := a 11) (As := [.int (S 16 0), .int (S 17 0)]) (rest := []) (c_X2_twinBits E (fun k => a (11 + k)) (S 16 0) (S 17 0) (sb 12 S) e1) rfl gX0_isSo_X2_twinBits rfl rfl rfl 2 rfl (by decide +kernel) ⟨Nat.le_of_ble_eq_true rfl, Nat.le_of_ble_eq_true rfl⟩ [11, 12, 13, 14, 15] (wl_X0_isSo_0 E N a S) (by decide) rfl (wSearchTownTold E N a S) (zrep_self (wl_X0_isSo_0 E N a S)) 0 2 rfl rfl rfl (Nat.le_of_ble_eq_true rfl) dX0_isSo_115 ⟨Nat.zero_le _, Nat.zero_le _⟩ _ rfl ?_
    refine z_if_ne C 125 (by decide) h dX0_isSo_118 (fun hc h => ?_) (fun hc h => ?_)
    · refine Zt_l [] [] rfl ?_
      exact L_X0_isSo_121 a C R S h
    · refine z_iconst C (v := (0 : Int32)) (by decide) dX0_isSo_125 ?_
      obtain rfl := Option.some.inj h
      exact R z_n0 126 _ dX0_isSo_126

set_option maxHeartbeats 4000000 in
set_option maxRecDepth 100000 in
theorem L_X0_isSo_54 {E : zEnv} {Γ : zG} {N : Nat} (a : Nat → Nat) (C : zC E Γ cX0_isSo RX0 5 rm_X0_isSo wsX0_isSo) {res : (Int32 × St)} (R : zRi E Γ cX0_isSo 5 .boolean (wSearchTownTold E N a res.2) res.1) : ∀ (n : Nat) (x3 : Int32) (x4 : Int32) (S : St), f_X0_isSo_54 N n x3 x4 S = some res → Zt E Γ 5 0 0 (wSearchTownTold E N a S) [(0, .ref (a 0)), (1, .ref (a 16)), (2, .ref (a 32)), (3, .int x3), (4, .int x4)] 54 [] := by
  intro n
  induction n with
  | zero =>
    intro x3 x4 S h
    cases h
  | succ n ih =>
    intro x3 x4 S h
    rw [f_X0_isSo_54_s] at h
    refine z_iload C 4 rfl dX0_isSo_54 ?_
    refine z_aload_n C 2 rfl rfl dX0_isSo_56 ?_
    refine z_get C 32 rfl (C := RX4) (T := TX4) (N := 5) (ci := 4) rfl inw_X0_isSo_X4 4 (by decide) (ref := "EldestAge$Told") (List.mem_of_getElem? (i := 6) rfl) rfl (v := .int (S 52 0)) rfl dX0_isSo_57 ?_
    refine z_icmp_ge C 99 (by decide) h dX0_isSo_60 (fun hc h => ?_) (fun hc h => ?_)
    · refine Zt_l [(0, .ref (a 0)), (1, .ref (a 16)), (3, .int x3)] [0, 1, 3] rfl ?_
      exact L_X0_isSo_99 a C R x3 S h
    · refine z_aload_n C 0 rfl rfl dX0_isSo_63 ?_
      refine z_get C 0 rfl (C := RX0) (T := TX0) (N := 8) (ci := 0) rfl inw_X0_isSo_X0 7 (by decide) (ref := "EldestAge$Search") (List.mem_of_getElem? (i := 1) rfl) rfl (v := .ref (a 11)) rfl dX0_isSo_64 ?_
      refine z_aload_n C 2 rfl rfl dX0_isSo_67 ?_
      refine z_get C 32 rfl (C := RX4) (T := TX4) (N := 5) (ci := 4) rfl inw_X0_isSo_X4 1 (by decide) (ref := "EldestAge$Told") (List.mem_of_getElem? (i := 7) rfl) rfl (v := .ref (a 33)) rfl dX0_isSo_68 ?_
      refine z_iload C 4 rfl dX0_isSo_71 ?_
      refine z_iald C (N := N) (f := (S 49)) 33 rfl h dX0_isSo_73 (fun h => ?_)
      refine z_aload_n C 1 rfl rfl dX0_isSo_74 ?_
      refine z_get C 16 rfl (C := RX5) (T := TX5) (N := 16) (ci := 5) rfl inw_X0_isSo_X5 1 (by decide) (ref := "EldestAge$Town") (List.mem_of_getElem? (i := 8) rfl) rfl (v := .int (S 17 0)) rfl dX0_isSo_75 ?_
      obtain ⟨q2, e2, h⟩ := bd_e h
      refine z_callVi C (b := a 11) (As := [.int (S 49 (Int32.toNatClampNeg x4)), .int (S 17 0)]) (rest := []) (c_X2_valueOf E (fun k => a (11 + k)) (S 49 (Int32.toNatClampNeg x4)) (S 17 0) (sb 12 S) e2) rfl gX0_isSo_X2_valueOf rfl rfl rfl 2 rfl (by decide +kernel) ⟨Nat.le_of_ble_eq_true rfl, Nat.le_of_ble_eq_true rfl⟩ [11, 12, 13, 14, 15] (wl_X0_isSo_0 E N a S) (by decide) rfl (wSearchTownTold E N a S) (zrep_self (wl_X0_isSo_0 E N a S)) 0 2 rfl rfl rfl (Nat.le_of_ble_eq_true rfl) dX0_isSo_78 ⟨Nat.zero_le _, Nat.zero_le _⟩ _ rfl ?_
      refine z_aload_n C 2 rfl rfl dX0_isSo_81 ?_
      refine z_get C 32 rfl (C := RX4) (T := TX4) (N := 5) (ci := 4) rfl inw_X0_isSo_X4 3 (by decide) (ref := "EldestAge$Told") (List.mem_of_getElem? (i := 9) rfl) rfl (v := .ref (a 35)) rfl dX0_isSo_82 ?_
      refine z_iload C 4 rfl dX0_isSo_85 ?_
      refine z_iald C (N := N) (f := (S 51)) 35 rfl h dX0_isSo_87 (fun h => ?_)
      refine z_icmp_eq C 93 (by decide) h dX0_isSo_88 (fun hc h => ?_) (fun hc h => ?_)
      · refine z_iinc C [(4, .int (x4 + (1 : Int32))), (0, .ref (a 0)), (1, .ref (a 16)), (2, .ref (a 32)), (3, .int x3)] 4 rfl (by first | rfl | decide) (by decide) rfl dX0_isSo_93 ?_
        refine z_goto C 54 (by decide) dX0_isSo_96 ?_
        refine Zt_l [(0, .ref (a 0)), (1, .ref (a 16)), (2, .ref (a 32)), (3, .int x3), (4, .int (x4 + (1 : Int32)))] [1, 2, 3, 4, 0] rfl ?_
        exact ih x3 (x4 + (1 : Int32)) S h
      · refine z_iconst C (v := (0 : Int32)) (by decide) dX0_isSo_91 ?_
        obtain rfl := Option.some.inj h
        exact R z_n0 92 _ dX0_isSo_92

set_option maxHeartbeats 4000000 in
set_option maxRecDepth 100000 in
theorem L_X0_isSo_51 {E : zEnv} {Γ : zG} {N : Nat} (a : Nat → Nat) (C : zC E Γ cX0_isSo RX0 5 rm_X0_isSo wsX0_isSo) {res : (Int32 × St)} (R : zRi E Γ cX0_isSo 5 .boolean (wSearchTownTold E N a res.2) res.1) (x3 : Int32) (S : St) (h : f_X0_isSo_51 N x3 S = some res) : Zt E Γ 5 0 0 (wSearchTownTold E N a S) [(0, .ref (a 0)), (1, .ref (a 16)), (2, .ref (a 32)), (3, .int x3)] 51 [] := by
  unfold f_X0_isSo_51 at h
  refine z_iconst C (v := (0 : Int32)) (by decide) dX0_isSo_51 ?_
  refine z_istore C [(4, .int (0 : Int32)), (0, .ref (a 0)), (1, .ref (a 16)), (2, .ref (a 32)), (3, .int x3)] (by decide) rfl dX0_isSo_52 ?_
  refine Zt_l [(0, .ref (a 0)), (1, .ref (a 16)), (2, .ref (a 32)), (3, .int x3), (4, .int (0 : Int32))] [1, 2, 3, 4, 0] rfl ?_
  exact L_X0_isSo_54 a C R 1000 x3 (0 : Int32) S h

set_option maxHeartbeats 4000000 in
set_option maxRecDepth 100000 in
theorem L_X0_isSo_14 {E : zEnv} {Γ : zG} {N : Nat} (a : Nat → Nat) (C : zC E Γ cX0_isSo RX0 5 rm_X0_isSo wsX0_isSo) {res : (Int32 × St)} (R : zRi E Γ cX0_isSo 5 .boolean (wSearchTownTold E N a res.2) res.1) : ∀ (n : Nat) (x3 : Int32) (x4 : Int32) (S : St), f_X0_isSo_14 N n x3 x4 S = some res → Zt E Γ 5 0 0 (wSearchTownTold E N a S) [(0, .ref (a 0)), (1, .ref (a 16)), (2, .ref (a 32)), (3, .int x3), (4, .int x4)] 14 [] := by
  intro n
  induction n with
  | zero =>
    intro x3 x4 S h
    cases h
  | succ n ih =>
    intro x3 x4 S h
    rw [f_X0_isSo_14_s] at h
    refine z_iload C 4 rfl dX0_isSo_14 ?_
    refine z_aload_n C 0 rfl rfl dX0_isSo_16 ?_
    refine z_get C 0 rfl (C := RX0) (T := TX0) (N := 8) (ci := 0) rfl inw_X0_isSo_X0 0 (by decide) (ref := "EldestAge$Search") (List.mem_of_getElem? (i := 3) rfl) rfl (v := .int (S 0 0)) rfl dX0_isSo_17 ?_
    refine z_icmp_ge C 51 (by decide) h dX0_isSo_20 (fun hc h => ?_) (fun hc h => ?_)
    · refine Zt_l [(0, .ref (a 0)), (1, .ref (a 16)), (2, .ref (a 32)), (3, .int x3)] [0, 1, 2, 3] rfl ?_
      exact L_X0_isSo_51 a C R x3 S h
    · refine z_aload_n C 0 rfl rfl dX0_isSo_23 ?_
      refine z_get C 0 rfl (C := RX0) (T := TX0) (N := 8) (ci := 0) rfl inw_X0_isSo_X0 7 (by decide) (ref := "EldestAge$Search") (List.mem_of_getElem? (i := 1) rfl) rfl (v := .ref (a 11)) rfl dX0_isSo_24 ?_
      refine z_aload_n C 0 rfl rfl dX0_isSo_27 ?_
      refine z_get C 0 rfl (C := RX0) (T := TX0) (N := 8) (ci := 0) rfl inw_X0_isSo_X0 4 (by decide) (ref := "EldestAge$Search") (List.mem_of_getElem? (i := 4) rfl) rfl (v := .ref (a 4)) rfl dX0_isSo_28 ?_
      refine z_iload C 4 rfl dX0_isSo_31 ?_
      refine z_iald C (N := 4) (f := (S 4)) 4 rfl h dX0_isSo_33 (fun h => ?_)
      refine z_iconst C (v := (1 : Int32)) (by decide) dX0_isSo_34 ?_
      refine z_aload_n C 0 rfl rfl dX0_isSo_35 ?_
      refine z_get C 0 rfl (C := RX0) (T := TX0) (N := 8) (ci := 0) rfl inw_X0_isSo_X0 3 (by decide) (ref := "EldestAge$Search") (List.mem_of_getElem? (i := 5) rfl) rfl (v := .ref (a 3)) rfl dX0_isSo_36 ?_
      refine z_iload C 4 rfl dX0_isSo_39 ?_
      refine z_iald C (N := 4) (f := (S 3)) 3 rfl h dX0_isSo_41 (fun h => ?_)
      obtain ⟨q3, e3, h⟩ := bd_e h
      refine z_callVv C (b := a 11) (As := [.int (S 4 (Int32.toNatClampNeg x4)), .int (1 : Int32), .int (S 3 (Int32.toNatClampNeg x4))]) (rest := []) (c_X2_add E (fun k => a (11 + k)) (S 4 (Int32.toNatClampNeg x4)) (1 : Int32) (S 3 (Int32.toNatClampNeg x4)) (sb 12 S) e3) rfl gX0_isSo_X2_add rfl rfl rfl 3 rfl (by decide +kernel) ⟨Nat.le_of_ble_eq_true rfl, Nat.le_of_ble_eq_true rfl⟩ [11, 12, 13, 14, 15] (wl_X0_isSo_0 E N a S) (by decide) (wl_X0_isSo_1 E N a _ _) (wSearchTownTold E N a (pt 12 4 q3 S)) (wl_X0_isSo_2 E N a S q3) 0 2 rfl rfl rfl (Nat.le_of_ble_eq_true rfl) dX0_isSo_42 ⟨Nat.zero_le _, Nat.zero_le _⟩ _ rfl ?_
      refine z_iinc C [(4, .int (x4 + (1 : Int32))), (0, .ref (a 0)), (1, .ref (a 16)), (2, .ref (a 32)), (3, .int x3)] 4 rfl (by first | rfl | decide) (by decide) rfl dX0_isSo_45 ?_
      refine z_goto C 14 (by decide) dX0_isSo_48 ?_
      refine Zt_l [(0, .ref (a 0)), (1, .ref (a 16)), (2, .ref (a 32)), (3, .int x3), (4, .int (x4 + (1 : Int32)))] [1, 2, 3, 4, 0] rfl ?_
      exact ih x3 (x4 + (1 : Int32)) (pt 12 4 q3 S) h

set_option maxHeartbeats 4000000 in
set_option maxRecDepth 100000 in
theorem L_X0_isSo {E : zEnv} {Γ : zG} {N : Nat} (a : Nat → Nat) (C : zC E Γ cX0_isSo RX0 5 rm_X0_isSo wsX0_isSo) {res : (Int32 × St)} (R : zRi E Γ cX0_isSo 5 .boolean (wSearchTownTold E N a res.2) res.1) (x3 : Int32) (S : St) (h : f_X0_isSo N x3 S = some res) : Zt E Γ 5 0 0 (wSearchTownTold E N a S) [(0, .ref (a 0)), (1, .ref (a 16)), (2, .ref (a 32)), (3, .int x3)] 0 [] := by
  unfold f_X0_isSo at h
  refine z_aload_n C 0 rfl rfl dX0_isSo_0 ?_
  refine z_get C 0 rfl (C := RX0) (T := TX0) (N := 8) (ci := 0) rfl inw_X0_isSo_X0 7 (by decide) (ref := "EldestAge$Search") (List.mem_of_getElem? (i := 1) rfl) rfl (v := .ref (a 11)) rfl dX0_isSo_1 ?_
  refine z_aload_n C 0 rfl rfl dX0_isSo_4 ?_
  refine z_get C 0 rfl (C := RX0) (T := TX0) (N := 8) (ci := 0) rfl inw_X0_isSo_X0 6 (by decide) (ref := "EldestAge$Search") (List.mem_of_getElem? (i := 2) rfl) rfl (v := .ref (a 6)) rfl dX0_isSo_5 ?_
  obtain ⟨q4, e4, h⟩ := bd_e h
  refine z_callVv C (b := a 11) (As := [.ref (a 6)]) (rest := []) (c_X2_copyOf E (ja 5 (fun k => a (11 + k)) (fun k => a (6 + k))) (jn 4 (sb 12 S) (sb 8 S)) e4) rfl gX0_isSo_X2_copyOf rfl rfl rfl 1 rfl (by decide +kernel) ⟨Nat.le_of_ble_eq_true rfl, Nat.le_of_ble_eq_true rfl⟩ [11, 12, 13, 14, 15, 6, 7, 8, 9, 10] (wl_X0_isSo_3 E N a S) (by decide) (wl_X0_isSo_4 E N a _ _) (wSearchTownTold E N a (pt 8 4 (sb 4 q4) (pt 12 4 q4 S))) (wl_X0_isSo_5 E N a S q4) 0 2 rfl rfl rfl (Nat.le_of_ble_eq_true rfl) dX0_isSo_8 ⟨Nat.zero_le _, Nat.zero_le _⟩ _ rfl ?_
  refine z_iconst C (v := (0 : Int32)) (by decide) dX0_isSo_11 ?_
  refine z_istore C [(4, .int (0 : Int32)), (0, .ref (a 0)), (1, .ref (a 16)), (2, .ref (a 32)), (3, .int x3)] (by decide) rfl dX0_isSo_12 ?_
  refine Zt_l [(0, .ref (a 0)), (1, .ref (a 16)), (2, .ref (a 32)), (3, .int x3), (4, .int (0 : Int32))] [1, 2, 3, 4, 0] rfl ?_
  exact L_X0_isSo_14 a C R 1000 x3 (0 : Int32) (pt 8 4 (sb 4 q4) (pt 12 4 q4 S)) h

theorem c_X0_isSo (E : zEnv) (N : Nat) (a : Nat → Nat) (x3 : Int32) (S : St) {res : (Int32 × St)} (h : f_X0_isSo N x3 S = some res) : Kti E yX0_isSo wsX0_isSo rm_X0_isSo (wSearchTownTold E N a S) (wSearchTownTold E N a res.2) [.ref (a 0), .ref (a 16), .ref (a 32), .int x3] res.1 :=
  z_enti (cc := cX0_isSo) (maxL := 5) (rt := .boolean) (by decide +kernel) rfl (Nat.le_of_ble_eq_true rfl) (fun Γ C R => L_X0_isSo a C R x3 S h)

abbrev rm_X0_fewest : Room := { frames := 3, cells := 0, slots := 0, locals := 72 }
theorem inw_X0_fewest_X0 : ∀ w ∈ wsX00, w ∈ wsX0_fewest := fun _ h => List.mem_cons_of_mem _ (List.mem_append_left _ (List.mem_append_left _ (List.mem_append_left _ (List.mem_append_right _ h))))
theorem inw_X0_fewest_X5 : ∀ w ∈ wsX50, w ∈ wsX0_fewest := fun _ h => List.mem_cons_of_mem _ (List.mem_append_left _ (List.mem_append_left _ (List.mem_append_right _ h)))
theorem inw_X0_fewest_X2 : ∀ w ∈ wsX20, w ∈ wsX0_fewest := fun _ h => List.mem_cons_of_mem _ (List.mem_append_left _ (List.mem_append_right _ h))
theorem inw_X0_fewest_X4 : ∀ w ∈ wsX40, w ∈ wsX0_fewest := fun _ h => List.mem_cons_of_mem _ (List.mem_append_right _ h)
set_option maxHeartbeats 4000000 in
theorem wl_X0_fewest_0 (E : zEnv) (N : Nat) (a : Nat → Nat) (S : St) : ([0, 1, 2, 3, 4, 5, 6, 7, 8, 9, 10, 11, 12, 13, 14, 15, 16, 17, 18, 19, 20, 21, 22, 23, 24, 25, 26, 27, 28, 29, 30, 31, 32, 33, 34, 35] : List Nat).map (fun i => (wSearchTownTold E N a S)[i]?) = (wSearchTownTold E N a S).map some := rfl
set_option maxHeartbeats 4000000 in
theorem wl_X0_fewest_1 (E : zEnv) (N : Nat) (a : Nat → Nat) (S U : St) : (wSearchTownTold E N a U).map (fun q => q.1) = (wSearchTownTold E N a S).map (fun q => q.1) := rfl
set_option maxHeartbeats 4000000 in
theorem wl_X0_fewest_2 (E : zEnv) (N : Nat) (a : Nat → Nat) (S U : St) : (wSearchTownTold E N a U) = zrep [0, 1, 2, 3, 4, 5, 6, 7, 8, 9, 10, 11, 12, 13, 14, 15, 16, 17, 18, 19, 20, 21, 22, 23, 24, 25, 26, 27, 28, 29, 30, 31, 32, 33, 34, 35] (wSearchTownTold E N a U) (wSearchTownTold E N a S) := zrep_of (isR := []) 36 rfl [] rfl rfl rfl rfl (by decide +kernel) (by decide +kernel)
set_option maxHeartbeats 4000000 in
theorem wl_X0_fewest_3 (E : zEnv) (N : Nat) (a : Nat → Nat) (S : St) (f : Nat → Int32) : (wSearchTownTold E N a (st 5 f S)) = (wSearchTownTold E N a S).set 5 (a 5, .inl (zI E, 4, .inl f)) := rfl
set_option maxHeartbeats 4000000 in
theorem wl_X0_fewest_4 (E : zEnv) (N : Nat) (a : Nat → Nat) (S : St) : ([0, 1, 2, 3, 4, 5, 6, 7, 8, 9, 10, 11, 12, 13, 14, 15] : List Nat).map (fun i => (wSearchTownTold E N a S)[i]?) = (wSearch E a (sb 0 S)).map some := rfl
set_option maxHeartbeats 4000000 in
theorem wl_X0_fewest_5 (E : zEnv) (N : Nat) (a : Nat → Nat) (S U : St) : (wSearch E a U).map (fun q => q.1) = (wSearch E a S).map (fun q => q.1) := rfl
set_option maxHeartbeats 4000000 in
theorem wl_X0_fewest_6 (E : zEnv) (N : Nat) (a : Nat → Nat) (S U : St) : (wSearchTownTold E N a (pt 0 16 U S)) = zrep [0, 1, 2, 3, 4, 5, 6, 7, 8, 9, 10, 11, 12, 13, 14, 15] (wSearch E a U) (wSearchTownTold E N a S) := zrep_of (isR := [16, 17, 18, 19, 20, 21, 22, 23, 24, 25, 26, 27, 28, 29, 30, 31, 32, 33, 34, 35]) 36 rfl [some (a 16, .inr (5, [.int (S 16 0), .int (S 17 0), .int (S 18 0), .ref (a 17), .ref (a 18), .ref (a 19), .ref (a 20), .int (S 23 0), .ref (a 21), .ref (a 22), .ref (a 23), .int (S 27 0), .ref (a 24), .ref (a 25), .ref (a 26), .ref (a 27)])), some (a 17, .inl (zI E, 14, .inl (S 19))), some (a 18, .inl (zI E, 14, .inl (S 20))), some (a 19, .inl (zI E, 14, .inl (S 21))), some (a 20, .inl (zI E, 14, .inl (S 22))), some (a 21, .inl (zI E, 12, .inl (S 24))), some (a 22, .inl (zI E, 12, .inl (S 25))), some (a 23, .inl (zI E, 12, .inl (S 26))), some (a 24, .inl (zI E, 4, .inl (S 28))), some (a 25, .inl (zI E, 4, .inl (S 29))), some (a 26, .inl (zI E, 4, .inl (S 30))), some (a 27, .inr (2, [.ref (a 28), .ref (a 29), .ref (a 30), .ref (a 31)])), some (a 28, .inl (zI E, 8, .inl (S 32))), some (a 29, .inl (zI E, 8, .inl (S 33))), some (a 30, .inl (zI E, 8, .inl (S 34))), some (a 31, .inl (zI E, 8, .inl (S 35))), some (a 32, .inr (4, [.int (S 48 0), .ref (a 33), .ref (a 34), .ref (a 35), .int (S 52 0)])), some (a 33, .inl (zI E, N, .inl (S 49))), some (a 34, .inl (zI E, N, .inl (S 50))), some (a 35, .inl (zI E, N, .inl (S 51)))] rfl rfl rfl rfl (by decide +kernel) (by decide +kernel)
set_option maxHeartbeats 4000000 in
theorem wl_X0_fewest_7 (E : zEnv) (N : Nat) (a : Nat → Nat) (S : St) : ([0, 1, 2, 3, 4, 5, 6, 7, 8, 9, 10, 11, 12, 13, 14, 15, 16, 17, 18, 19, 20, 21, 22, 23, 24, 25, 26, 27, 28, 29, 30, 31] : List Nat).map (fun i => (wSearchTownTold E N a S)[i]?) = (wSearchTown E (ja 16 a (fun k => a (16 + k))) (jn 16 (sb 0 S) (sb 16 S))).map some := rfl
set_option maxHeartbeats 4000000 in
theorem wl_X0_fewest_8 (E : zEnv) (N : Nat) (a : Nat → Nat) (S U : St) : (wSearchTown E (ja 16 a (fun k => a (16 + k))) U).map (fun q => q.1) = (wSearchTown E (ja 16 a (fun k => a (16 + k))) S).map (fun q => q.1) := rfl
set_option maxHeartbeats 4000000 in
theorem wl_X0_fewest_9 (E : zEnv) (N : Nat) (a : Nat → Nat) (S U : St) : (wSearchTownTold E N a (pt 16 32 (sb 16 U) (pt 0 16 U S))) = zrep [0, 1, 2, 3, 4, 5, 6, 7, 8, 9, 10, 11, 12, 13, 14, 15, 16, 17, 18, 19, 20, 21, 22, 23, 24, 25, 26, 27, 28, 29, 30, 31] (wSearchTown E (ja 16 a (fun k => a (16 + k))) U) (wSearchTownTold E N a S) := zrep_of (isR := [32, 33, 34, 35]) 36 rfl [some (a 32, .inr (4, [.int (S 48 0), .ref (a 33), .ref (a 34), .ref (a 35), .int (S 52 0)])), some (a 33, .inl (zI E, N, .inl (S 49))), some (a 34, .inl (zI E, N, .inl (S 50))), some (a 35, .inl (zI E, N, .inl (S 51)))] rfl rfl rfl rfl (by decide +kernel) (by decide +kernel)
noncomputable def f_X0_fewest_110 (N : Nat) (k43 : Int32 → Int32 → Int32 → Int32 → St → Option (Int32 × St)) (x4 : Int32) (x5 : Int32) (x6 : Int32) (x7 : Int32) (S : St) : Option (Int32 × St) := (k43 x4 x5 x6 (x7 + (1 : Int32)) S)
noncomputable def f_X0_fewest_81 (N : Nat) (k43 : Int32 → Int32 → Int32 → Int32 → St → Option (Int32 × St)) (x4 : Int32) (x5 : Int32) (x6 : Int32) (x7 : Int32) (x8 : Int32) (S : St) : Option (Int32 × St) := ((f_X0_isSo N x4 S).bind (fun q1 => (if q1.1 = 0 then (f_X0_fewest_110 N k43 x4 x5 x6 x7 q1.2) else (f_X0_fewest_110 N k43 x4 x5 x8 x7 (st 5 (va_cpy (q1.2 4) (q1.2 5) (Int32.toNatClampNeg (0 : Int32)) (Int32.toNatClampNeg (0 : Int32)) (Int32.toNatClampNeg (4 : Int32))) q1.2)))))
noncomputable def f_X0_fewest_43 (N : Nat) (n : Nat) : Int32 → Int32 → Int32 → Int32 → St → Option (Int32 × St) := Nat.rec (motive := fun _ => Int32 → Int32 → Int32 → Int32 → St → Option (Int32 × St)) (fun _ _ _ _ _ => none) (fun _ ih => fun x4 x5 x6 x7 S => (if x5 ≤ x7 then (some (x6, S)) else (if x6 = 0 then (some (x6, S)) else ((f_X0_send x7 (S 16 0) (sb 0 S)).bind (fun q2 => (if x6 = (-4 : Int32) then (f_X0_fewest_81 N ih x4 x5 x6 x7 q2.1 (pt 0 16 q2.2 S)) else (if x6 ≤ q2.1 then (f_X0_fewest_110 N ih x4 x5 x6 x7 (pt 0 16 q2.2 S)) else (f_X0_fewest_81 N ih x4 x5 x6 x7 q2.1 (pt 0 16 q2.2 S))))))))) n
theorem f_X0_fewest_43_s (N : Nat) (n : Nat) (x4 : Int32) (x5 : Int32) (x6 : Int32) (x7 : Int32) (S : St) : f_X0_fewest_43 N (n + 1) x4 x5 x6 x7 S = (if x5 ≤ x7 then (some (x6, S)) else (if x6 = 0 then (some (x6, S)) else ((f_X0_send x7 (S 16 0) (sb 0 S)).bind (fun q2 => (if x6 = (-4 : Int32) then (f_X0_fewest_81 N (f_X0_fewest_43 N n) x4 x5 x6 x7 q2.1 (pt 0 16 q2.2 S)) else (if x6 ≤ q2.1 then (f_X0_fewest_110 N (f_X0_fewest_43 N n) x4 x5 x6 x7 (pt 0 16 q2.2 S)) else (f_X0_fewest_81 N (f_X0_fewest_43 N n) x4 x5 x6 x7 q2.1 (pt 0 16 q2.2 S)))))))) := rfl
noncomputable def f_X0_fewest_36 (N : Nat) (x4 : Int32) (x5 : Int32) (S : St) : Option (Int32 × St) := (f_X0_fewest_43 N 40000 x4 x5 (-4 : Int32) (0 : Int32) S)
noncomputable def f_X0_fewest_12 (N : Nat) (n : Nat) : Int32 → Int32 → Int32 → St → Option (Int32 × St) := Nat.rec (motive := fun _ => Int32 → Int32 → Int32 → St → Option (Int32 × St)) (fun _ _ _ _ => none) (fun _ ih => fun x4 x5 x6 S => (if (S 0 0) ≤ x6 then (f_X0_fewest_36 N x4 x5 S) else (ih x4 (x5 * (S 16 0)) (x6 + (1 : Int32)) S))) n
theorem f_X0_fewest_12_s (N : Nat) (n : Nat) (x4 : Int32) (x5 : Int32) (x6 : Int32) (S : St) : f_X0_fewest_12 N (n + 1) x4 x5 x6 S = (if (S 0 0) ≤ x6 then (f_X0_fewest_36 N x4 x5 S) else ((f_X0_fewest_12 N n) x4 (x5 * (S 16 0)) (x6 + (1 : Int32)) S)) := rfl
noncomputable def f_X0_fewest (N : Nat) (x2 : Int32) (x4 : Int32) (S : St) : Option (Int32 × St) := ((f_X0_gather x2 (jn 16 (sb 0 S) (sb 16 S))).bind (fun q3 => (f_X0_fewest_12 N 1000 x4 (1 : Int32) (0 : Int32) (pt 16 32 (sb 16 q3) (pt 0 16 q3 S)))))
set_option maxHeartbeats 4000000 in
set_option maxRecDepth 100000 in
theorem L_X0_fewest_110 {E : zEnv} {Γ : zG} {N : Nat} (a : Nat → Nat) (C : zC E Γ cX0_fewest RX0 9 rm_X0_fewest wsX0_fewest) {res : (Int32 × St)} (R : zRi E Γ cX0_fewest 9 .int (wSearchTownTold E N a res.2) res.1) (k43 : Int32 → Int32 → Int32 → Int32 → St → Option (Int32 × St)) (hk43 : ∀ (x4 : Int32) (x5 : Int32) (x6 : Int32) (x7 : Int32) (S : St), k43 x4 x5 x6 x7 S = some res → Zt E Γ 9 0 0 (wSearchTownTold E N a S) [(0, .ref (a 0)), (1, .ref (a 16)), (3, .ref (a 32)), (4, .int x4), (5, .int x5), (6, .int x6), (7, .int x7)] 43 []) (x4 : Int32) (x5 : Int32) (x6 : Int32) (x7 : Int32) (S : St) (h : f_X0_fewest_110 N k43 x4 x5 x6 x7 S = some res) : Zt E Γ 9 0 0 (wSearchTownTold E N a S) [(0, .ref (a 0)), (1, .ref (a 16)), (3, .ref (a 32)), (4, .int x4), (5, .int x5), (6, .int x6), (7, .int x7)] 110 [] := by
  unfold f_X0_fewest_110 at h
  refine z_iinc C [(7, .int (x7 + (1 : Int32))), (0, .ref (a 0)), (1, .ref (a 16)), (3, .ref (a 32)), (4, .int x4), (5, .int x5), (6, .int x6)] 6 rfl (by first | rfl | decide) (by decide) rfl dX0_fewest_110 ?_
  refine z_goto C 43 (by decide) dX0_fewest_113 ?_
  refine Zt_l [(0, .ref (a 0)), (1, .ref (a 16)), (3, .ref (a 32)), (4, .int x4), (5, .int x5), (6, .int x6), (7, .int (x7 + (1 : Int32)))] [1, 2, 3, 4, 5, 6, 0] rfl ?_
  exact hk43 x4 x5 x6 (x7 + (1 : Int32)) S h

set_option maxHeartbeats 4000000 in
set_option maxRecDepth 100000 in
theorem L_X0_fewest_81 {E : zEnv} {Γ : zG} {N : Nat} (a : Nat → Nat) (C : zC E Γ cX0_fewest RX0 9 rm_X0_fewest wsX0_fewest) {res : (Int32 × St)} (R : zRi E Γ cX0_fewest 9 .int (wSearchTownTold E N a res.2) res.1) (k43 : Int32 → Int32 → Int32 → Int32 → St → Option (Int32 × St)) (hk43 : ∀ (x4 : Int32) (x5 : Int32) (x6 : Int32) (x7 : Int32) (S : St), k43 x4 x5 x6 x7 S = some res → Zt E Γ 9 0 0 (wSearchTownTold E N a S) [(0, .ref (a 0)), (1, .ref (a 16)), (3, .ref (a 32)), (4, .int x4), (5, .int x5), (6, .int x6), (7, .int x7)] 43 []) (x4 : Int32) (x5 : Int32) (x6 : Int32) (x7 : Int32) (x8 : Int32) (S : St) (h : f_X0_fewest_81 N k43 x4 x5 x6 x7 x8 S = some res) : Zt E Γ 9 0 0 (wSearchTownTold E N a S) [(0, .ref (a 0)), (1, .ref (a 16)), (3, .ref (a 32)), (4, .int x4), (5, .int x5), (6, .int x6), (7, .int x7), (8, .int x8)] 81 [] := by
  unfold f_X0_fewest_81 at h
  refine z_aload_n C 0 rfl rfl dX0_fewest_81 ?_
  refine z_aload_n C 1 rfl rfl dX0_fewest_82 ?_
  refine z_aload_n C 2 rfl rfl dX0_fewest_83 ?_
  refine z_iload C 3 rfl dX0_fewest_84 ?_
  obtain ⟨q1, e1, h⟩ := bd_e h
  refine z_callVi C (b := a 0) (As := [.ref (a 16), .ref (a 32), .int x4]) (rest := []) (c_X0_isSo E N a x4 S e1) rfl gX0_fewest_X0_isSo rfl rfl rfl 3 rfl (by decide +kernel) ⟨Nat.le_of_ble_eq_true rfl, Nat.le_of_ble_eq_true rfl⟩ [0, 1, 2, 3, 4, 5, 6, 7, 8, 9, 10, 11, 12, 13, 14, 15, 16, 17, 18, 19, 20, 21, 22, 23, 24, 25, 26, 27, 28, 29, 30, 31, 32, 33, 34, 35] (wl_X0_fewest_0 E N a S) (by decide) (wl_X0_fewest_1 E N a _ _) (wSearchTownTold E N a q1.2) (wl_X0_fewest_2 E N a S q1.2) 0 0 rfl rfl rfl (Nat.le_of_ble_eq_true rfl) dX0_fewest_86 ⟨Nat.zero_le _, Nat.zero_le _⟩ _ rfl ?_
  refine z_if_eq C 110 (by decide) h dX0_fewest_89 (fun hc h => ?_) (fun hc h => ?_)
  · refine Zt_l [(0, .ref (a 0)), (1, .ref (a 16)), (3, .ref (a 32)), (4, .int x4), (5, .int x5), (6, .int x6), (7, .int x7)] [0, 1, 2, 3, 4, 5, 6] rfl ?_
    exact L_X0_fewest_110 a C R k43 hk43 x4 x5 x6 x7 q1.2 h
  · refine z_iload C 7 rfl dX0_fewest_92 ?_
    refine z_istore C [(6, .int x8), (0, .ref (a 0)), (1, .ref (a 16)), (3, .ref (a 32)), (4, .int x4), (5, .int x5), (7, .int x7), (8, .int x8)] (by decide) rfl dX0_fewest_94 ?_
    refine z_aload_n C 1 rfl rfl dX0_fewest_96 ?_
    refine z_get C 0 rfl (C := RX0) (T := TX0) (N := 8) (ci := 0) rfl inw_X0_fewest_X0 4 (by decide) (ref := "EldestAge$Search") (List.mem_of_getElem? (i := 3) rfl) rfl (v := .ref (a 4)) rfl dX0_fewest_97 ?_
    refine z_iconst C (v := (0 : Int32)) (by decide) dX0_fewest_100 ?_
    refine z_aload_n C 1 rfl rfl dX0_fewest_101 ?_
    refine z_get C 0 rfl (C := RX0) (T := TX0) (N := 8) (ci := 0) rfl inw_X0_fewest_X0 5 (by decide) (ref := "EldestAge$Search") (List.mem_of_getElem? (i := 4) rfl) rfl (v := .ref (a 5)) rfl dX0_fewest_102 ?_
    refine z_iconst C (v := (0 : Int32)) (by decide) dX0_fewest_105 ?_
    refine z_iconst C (v := (4 : Int32)) (by decide) dX0_fewest_106 ?_
    refine z_copy C (List.mem_of_getElem? (i := 5) rfl) (List.mem_of_getElem? (i := 6) rfl) (List.mem_of_getElem? (i := 7) rfl) (List.mem_of_getElem? (i := 8) rfl) (f := (q1.2 4)) (g := (q1.2 5)) (n0 := 4) (n1 := 4) 4 5 rfl rfl (by decide) (by decide) (by decide) (by decide) (by decide) (Nat.le_of_ble_eq_true rfl) (by decide +kernel) (wSearchTownTold E N a (st 5 (va_cpy (q1.2 4) (q1.2 5) (Int32.toNatClampNeg (0 : Int32)) (Int32.toNatClampNeg (0 : Int32)) (Int32.toNatClampNeg (4 : Int32))) q1.2)) (wl_X0_fewest_3 E N a q1.2 (va_cpy (q1.2 4) (q1.2 5) (Int32.toNatClampNeg (0 : Int32)) (Int32.toNatClampNeg (0 : Int32)) (Int32.toNatClampNeg (4 : Int32)))) dX0_fewest_107 ?_
    refine Zt_l [(0, .ref (a 0)), (1, .ref (a 16)), (3, .ref (a 32)), (4, .int x4), (5, .int x5), (6, .int x8), (7, .int x7)] [1, 2, 3, 4, 5, 0, 6] rfl ?_
    exact L_X0_fewest_110 a C R k43 hk43 x4 x5 x8 x7 (st 5 (va_cpy (q1.2 4) (q1.2 5) (Int32.toNatClampNeg (0 : Int32)) (Int32.toNatClampNeg (0 : Int32)) (Int32.toNatClampNeg (4 : Int32))) q1.2) h

set_option maxHeartbeats 4000000 in
set_option maxRecDepth 100000 in
theorem L_X0_fewest_43 {E : zEnv} {Γ : zG} {N : Nat} (a : Nat → Nat) (C : zC E Γ cX0_fewest RX0 9 rm_X0_fewest wsX0_fewest) {res : (Int32 × St)} (R : zRi E Γ cX0_fewest 9 .int (wSearchTownTold E N a res.2) res.1) : ∀ (n : Nat) (x4 : Int32) (x5 : Int32) (x6 : Int32) (x7 : Int32) (S : St), f_X0_fewest_43 N n x4 x5 x6 x7 S = some res → Zt E Γ 9 0 0 (wSearchTownTold E N a S) [(0, .ref (a 0)), (1, .ref (a 16)), (3, .ref (a 32)), (4, .int x4), (5, .int x5), (6, .int x6), (7, .int x7)] 43 [] := by
  intro n
  induction n with
  | zero =>
    intro x4 x5 x6 x7 S h
    cases h
  | succ n ih =>
    intro x4 x5 x6 x7 S h
    rw [f_X0_fewest_43_s] at h
    refine z_iload C 6 rfl dX0_fewest_43 ?_
    refine z_iload C 4 rfl dX0_fewest_45 ?_
    refine z_icmp_ge C 116 (by decide) h dX0_fewest_47 (fun hc h => ?_) (fun hc h => ?_)
    · refine z_iload C 5 rfl dX0_fewest_116 ?_
      obtain rfl := Option.some.inj h
      exact R rfl 118 _ dX0_fewest_118
    · refine z_iload C 5 rfl dX0_fewest_50 ?_
      refine z_if_eq C 116 (by decide) h dX0_fewest_52 (fun hc h => ?_) (fun hc h => ?_)
      · refine z_iload C 5 rfl dX0_fewest_116 ?_
        obtain rfl := Option.some.inj h
        exact R rfl 118 _ dX0_fewest_118
      · refine z_aload_n C 0 rfl rfl dX0_fewest_55 ?_
        refine z_iload C 6 rfl dX0_fewest_56 ?_
        refine z_aload_n C 1 rfl rfl dX0_fewest_58 ?_
        refine z_get C 16 rfl (C := RX5) (T := TX5) (N := 16) (ci := 5) rfl inw_X0_fewest_X5 0 (by decide) (ref := "EldestAge$Town") (List.mem_of_getElem? (i := 2) rfl) rfl (v := .int (S 16 0)) rfl dX0_fewest_59 ?_
        obtain ⟨q2, e2, h⟩ := bd_e h
        refine z_callVi C (b := a 0) (As := [.int x7, .int (S 16 0)]) (rest := []) (c_X0_send E a x7 (S 16 0) (sb 0 S) e2) rfl gX0_fewest_X0_send rfl rfl rfl 2 rfl (by decide +kernel) ⟨Nat.le_of_ble_eq_true rfl, Nat.le_of_ble_eq_true rfl⟩ [0, 1, 2, 3, 4, 5, 6, 7, 8, 9, 10, 11, 12, 13, 14, 15] (wl_X0_fewest_4 E N a S) (by decide) (wl_X0_fewest_5 E N a _ _) (wSearchTownTold E N a (pt 0 16 q2.2 S)) (wl_X0_fewest_6 E N a S q2.2) 0 0 rfl rfl rfl (Nat.le_of_ble_eq_true rfl) dX0_fewest_62 ⟨Nat.zero_le _, Nat.zero_le _⟩ _ rfl ?_
        refine z_istore C [(8, .int q2.1), (0, .ref (a 0)), (1, .ref (a 16)), (3, .ref (a 32)), (4, .int x4), (5, .int x5), (6, .int x6), (7, .int x7)] (by decide) rfl dX0_fewest_65 ?_
        refine z_iload C 6 rfl dX0_fewest_67 ?_
        refine z_bipush C (v := (-4 : Int32)) (by decide) dX0_fewest_69 ?_
        refine z_icmp_eq C 81 (by decide) h dX0_fewest_71 (fun hc h => ?_) (fun hc h => ?_)
        · refine Zt_l [(0, .ref (a 0)), (1, .ref (a 16)), (3, .ref (a 32)), (4, .int x4), (5, .int x5), (6, .int x6), (7, .int x7), (8, .int q2.1)] [1, 2, 3, 4, 5, 6, 7, 0] rfl ?_
          exact L_X0_fewest_81 a C R _ ih x4 x5 x6 x7 q2.1 (pt 0 16 q2.2 S) h
        · refine z_iload C 0 rfl dX0_fewest_74 ?_
          refine z_iload C 6 rfl dX0_fewest_76 ?_
          refine z_icmp_ge C 110 (by decide) h dX0_fewest_78 (fun hc h => ?_) (fun hc h => ?_)
          · refine Zt_l [(0, .ref (a 0)), (1, .ref (a 16)), (3, .ref (a 32)), (4, .int x4), (5, .int x5), (6, .int x6), (7, .int x7)] [1, 2, 3, 4, 5, 6, 7] rfl ?_
            exact L_X0_fewest_110 a C R _ ih x4 x5 x6 x7 (pt 0 16 q2.2 S) h
          · refine Zt_l [(0, .ref (a 0)), (1, .ref (a 16)), (3, .ref (a 32)), (4, .int x4), (5, .int x5), (6, .int x6), (7, .int x7), (8, .int q2.1)] [1, 2, 3, 4, 5, 6, 7, 0] rfl ?_
            exact L_X0_fewest_81 a C R _ ih x4 x5 x6 x7 q2.1 (pt 0 16 q2.2 S) h

set_option maxHeartbeats 4000000 in
set_option maxRecDepth 100000 in
theorem L_X0_fewest_36 {E : zEnv} {Γ : zG} {N : Nat} (a : Nat → Nat) (C : zC E Γ cX0_fewest RX0 9 rm_X0_fewest wsX0_fewest) {res : (Int32 × St)} (R : zRi E Γ cX0_fewest 9 .int (wSearchTownTold E N a res.2) res.1) (x4 : Int32) (x5 : Int32) (S : St) (h : f_X0_fewest_36 N x4 x5 S = some res) : Zt E Γ 9 0 0 (wSearchTownTold E N a S) [(0, .ref (a 0)), (1, .ref (a 16)), (3, .ref (a 32)), (4, .int x4), (5, .int x5)] 36 [] := by
  unfold f_X0_fewest_36 at h
  refine z_bipush C (v := (-4 : Int32)) (by decide) dX0_fewest_36 ?_
  refine z_istore C [(6, .int (-4 : Int32)), (0, .ref (a 0)), (1, .ref (a 16)), (3, .ref (a 32)), (4, .int x4), (5, .int x5)] (by decide) rfl dX0_fewest_38 ?_
  refine z_iconst C (v := (0 : Int32)) (by decide) dX0_fewest_40 ?_
  refine z_istore C [(7, .int (0 : Int32)), (6, .int (-4 : Int32)), (0, .ref (a 0)), (1, .ref (a 16)), (3, .ref (a 32)), (4, .int x4), (5, .int x5)] (by decide) rfl dX0_fewest_41 ?_
  refine Zt_l [(0, .ref (a 0)), (1, .ref (a 16)), (3, .ref (a 32)), (4, .int x4), (5, .int x5), (6, .int (-4 : Int32)), (7, .int (0 : Int32))] [2, 3, 4, 5, 6, 1, 0] rfl ?_
  exact L_X0_fewest_43 a C R 40000 x4 x5 (-4 : Int32) (0 : Int32) S h

set_option maxHeartbeats 4000000 in
set_option maxRecDepth 100000 in
theorem L_X0_fewest_12 {E : zEnv} {Γ : zG} {N : Nat} (a : Nat → Nat) (C : zC E Γ cX0_fewest RX0 9 rm_X0_fewest wsX0_fewest) {res : (Int32 × St)} (R : zRi E Γ cX0_fewest 9 .int (wSearchTownTold E N a res.2) res.1) : ∀ (n : Nat) (x4 : Int32) (x5 : Int32) (x6 : Int32) (S : St), f_X0_fewest_12 N n x4 x5 x6 S = some res → Zt E Γ 9 0 0 (wSearchTownTold E N a S) [(0, .ref (a 0)), (1, .ref (a 16)), (3, .ref (a 32)), (4, .int x4), (5, .int x5), (6, .int x6)] 12 [] := by
  intro n
  induction n with
  | zero =>
    intro x4 x5 x6 S h
    cases h
  | succ n ih =>
    intro x4 x5 x6 S h
    rw [f_X0_fewest_12_s] at h
    refine z_iload C 5 rfl dX0_fewest_12 ?_
    refine z_aload_n C 0 rfl rfl dX0_fewest_14 ?_
    refine z_get C 0 rfl (C := RX0) (T := TX0) (N := 8) (ci := 0) rfl inw_X0_fewest_X0 0 (by decide) (ref := "EldestAge$Search") (List.mem_of_getElem? (i := 1) rfl) rfl (v := .int (S 0 0)) rfl dX0_fewest_15 ?_
    refine z_icmp_ge C 36 (by decide) h dX0_fewest_18 (fun hc h => ?_) (fun hc h => ?_)
    · refine Zt_l [(0, .ref (a 0)), (1, .ref (a 16)), (3, .ref (a 32)), (4, .int x4), (5, .int x5)] [0, 1, 2, 3, 4] rfl ?_
      exact L_X0_fewest_36 a C R x4 x5 S h
    · refine z_iload C 4 rfl dX0_fewest_21 ?_
      refine z_aload_n C 1 rfl rfl dX0_fewest_23 ?_
      refine z_get C 16 rfl (C := RX5) (T := TX5) (N := 16) (ci := 5) rfl inw_X0_fewest_X5 0 (by decide) (ref := "EldestAge$Town") (List.mem_of_getElem? (i := 2) rfl) rfl (v := .int (S 16 0)) rfl dX0_fewest_24 ?_
      refine z_imul C dX0_fewest_27 ?_
      refine z_istore C [(5, .int (x5 * (S 16 0))), (0, .ref (a 0)), (1, .ref (a 16)), (3, .ref (a 32)), (4, .int x4), (6, .int x6)] (by decide) rfl dX0_fewest_28 ?_
      refine z_iinc C [(6, .int (x6 + (1 : Int32))), (5, .int (x5 * (S 16 0))), (0, .ref (a 0)), (1, .ref (a 16)), (3, .ref (a 32)), (4, .int x4)] 5 rfl (by first | rfl | decide) (by decide) rfl dX0_fewest_30 ?_
      refine z_goto C 12 (by decide) dX0_fewest_33 ?_
      refine Zt_l [(0, .ref (a 0)), (1, .ref (a 16)), (3, .ref (a 32)), (4, .int x4), (5, .int (x5 * (S 16 0))), (6, .int (x6 + (1 : Int32)))] [2, 3, 4, 5, 1, 0] rfl ?_
      exact ih x4 (x5 * (S 16 0)) (x6 + (1 : Int32)) S h

set_option maxHeartbeats 4000000 in
set_option maxRecDepth 100000 in
theorem L_X0_fewest {E : zEnv} {Γ : zG} {N : Nat} (a : Nat → Nat) (C : zC E Γ cX0_fewest RX0 9 rm_X0_fewest wsX0_fewest) {res : (Int32 × St)} (R : zRi E Γ cX0_fewest 9 .int (wSearchTownTold E N a res.2) res.1) (x2 : Int32) (x4 : Int32) (S : St) (h : f_X0_fewest N x2 x4 S = some res) : Zt E Γ 9 0 0 (wSearchTownTold E N a S) [(0, .ref (a 0)), (1, .ref (a 16)), (2, .int x2), (3, .ref (a 32)), (4, .int x4)] 0 [] := by
  unfold f_X0_fewest at h
  refine z_aload_n C 0 rfl rfl dX0_fewest_0 ?_
  refine z_aload_n C 1 rfl rfl dX0_fewest_1 ?_
  refine z_iload_n C 2 rfl rfl dX0_fewest_2 ?_
  obtain ⟨q3, e3, h⟩ := bd_e h
  refine z_callVv C (b := a 0) (As := [.ref (a 16), .int x2]) (rest := []) (c_X0_gather E (ja 16 a (fun k => a (16 + k))) x2 (jn 16 (sb 0 S) (sb 16 S)) e3) rfl gX0_fewest_X0_gather rfl rfl rfl 2 rfl (by decide +kernel) ⟨Nat.le_of_ble_eq_true rfl, Nat.le_of_ble_eq_true rfl⟩ [0, 1, 2, 3, 4, 5, 6, 7, 8, 9, 10, 11, 12, 13, 14, 15, 16, 17, 18, 19, 20, 21, 22, 23, 24, 25, 26, 27, 28, 29, 30, 31] (wl_X0_fewest_7 E N a S) (by decide) (wl_X0_fewest_8 E N a _ _) (wSearchTownTold E N a (pt 16 32 (sb 16 q3) (pt 0 16 q3 S))) (wl_X0_fewest_9 E N a S q3) 0 0 rfl rfl rfl (Nat.le_of_ble_eq_true rfl) dX0_fewest_3 ⟨Nat.zero_le _, Nat.zero_le _⟩ _ rfl ?_
  refine z_iconst C (v := (1 : Int32)) (by decide) dX0_fewest_6 ?_
  refine z_istore C [(5, .int (1 : Int32)), (0, .ref (a 0)), (1, .ref (a 16)), (2, .int x2), (3, .ref (a 32)), (4, .int x4)] (by decide) rfl dX0_fewest_7 ?_
  refine z_iconst C (v := (0 : Int32)) (by decide) dX0_fewest_9 ?_
  refine z_istore C [(6, .int (0 : Int32)), (5, .int (1 : Int32)), (0, .ref (a 0)), (1, .ref (a 16)), (2, .int x2), (3, .ref (a 32)), (4, .int x4)] (by decide) rfl dX0_fewest_10 ?_
  refine Zt_l [(0, .ref (a 0)), (1, .ref (a 16)), (3, .ref (a 32)), (4, .int x4), (5, .int (1 : Int32)), (6, .int (0 : Int32))] [2, 3, 5, 6, 1, 0] rfl ?_
  exact L_X0_fewest_12 a C R 1000 x4 (1 : Int32) (0 : Int32) (pt 16 32 (sb 16 q3) (pt 0 16 q3 S)) h

theorem c_X0_fewest (E : zEnv) (N : Nat) (a : Nat → Nat) (x2 : Int32) (x4 : Int32) (S : St) {res : (Int32 × St)} (h : f_X0_fewest N x2 x4 S = some res) : Kti E yX0_fewest wsX0_fewest rm_X0_fewest (wSearchTownTold E N a S) (wSearchTownTold E N a res.2) [.ref (a 0), .ref (a 16), .int x2, .ref (a 32), .int x4] res.1 :=
  z_enti (cc := cX0_fewest) (maxL := 9) (rt := .int) (by decide +kernel) rfl (Nat.le_of_ble_eq_true rfl) (fun Γ C R => L_X0_fewest a C R x2 x4 S h)

abbrev rm_X0_houseFor : Room := { frames := 0, cells := 0, slots := 0, locals := 0 }
theorem inw_X0_houseFor_X0 : ∀ w ∈ wsX00, w ∈ wsX0_houseFor := fun _ h => List.mem_cons_of_mem _ (List.mem_append_right _ h)
noncomputable def f_X0_houseFor_20 (x2 : Int32) (S : St) : Option Int32 := (ix x2 4 (some (S 5 (Int32.toNatClampNeg x2))))
noncomputable def f_X0_houseFor_2 (n : Nat) : Int32 → Int32 → St → Option Int32 := Nat.rec (motive := fun _ => Int32 → Int32 → St → Option Int32) (fun _ _ _ => none) (fun _ ih => fun x1 x2 S => (if (S 0 0) ≤ x2 then (some (-1 : Int32)) else (ix x2 4 (if (S 1 (Int32.toNatClampNeg x2)) = x1 then (f_X0_houseFor_20 x2 S) else (ih x1 (x2 + (1 : Int32)) S))))) n
theorem f_X0_houseFor_2_s (n : Nat) (x1 : Int32) (x2 : Int32) (S : St) : f_X0_houseFor_2 (n + 1) x1 x2 S = (if (S 0 0) ≤ x2 then (some (-1 : Int32)) else (ix x2 4 (if (S 1 (Int32.toNatClampNeg x2)) = x1 then (f_X0_houseFor_20 x2 S) else ((f_X0_houseFor_2 n) x1 (x2 + (1 : Int32)) S)))) := rfl
noncomputable def f_X0_houseFor (x1 : Int32) (S : St) : Option Int32 := (f_X0_houseFor_2 1000 x1 (0 : Int32) S)
set_option maxHeartbeats 4000000 in
set_option maxRecDepth 100000 in
theorem L_X0_houseFor_20 {E : zEnv} {Γ : zG} (a : Nat → Nat) (C : zC E Γ cX0_houseFor RX0 3 rm_X0_houseFor wsX0_houseFor) {res : Int32} {S : St} (R : zRi E Γ cX0_houseFor 3 .int (wSearch E a S) res) (x2 : Int32) (h : f_X0_houseFor_20 x2 S = some res) : Zt E Γ 3 0 0 (wSearch E a S) [(0, .ref (a 0)), (2, .int x2)] 20 [] := by
  unfold f_X0_houseFor_20 at h
  refine z_aload_n C 0 rfl rfl dX0_houseFor_20 ?_
  refine z_get C 0 rfl (C := RX0) (T := TX0) (N := 8) (ci := 0) rfl inw_X0_houseFor_X0 5 (by decide) (ref := "EldestAge$Search") (List.mem_of_getElem? (i := 3) rfl) rfl (v := .ref (a 5)) rfl dX0_houseFor_21 ?_
  refine z_iload_n C 1 rfl rfl dX0_houseFor_24 ?_
  refine z_iald C (N := 4) (f := (S 5)) 5 rfl h dX0_houseFor_25 (fun h => ?_)
  obtain rfl := Option.some.inj h
  exact R rfl 26 _ dX0_houseFor_26

set_option maxHeartbeats 4000000 in
set_option maxRecDepth 100000 in
theorem L_X0_houseFor_2 {E : zEnv} {Γ : zG} (a : Nat → Nat) (C : zC E Γ cX0_houseFor RX0 3 rm_X0_houseFor wsX0_houseFor) {res : Int32} {S : St} (R : zRi E Γ cX0_houseFor 3 .int (wSearch E a S) res) : ∀ (n : Nat) (x1 : Int32) (x2 : Int32), f_X0_houseFor_2 n x1 x2 S = some res → Zt E Γ 3 0 0 (wSearch E a S) [(0, .ref (a 0)), (1, .int x1), (2, .int x2)] 2 [] := by
  intro n
  induction n with
  | zero =>
    intro x1 x2 h
    cases h
  | succ n ih =>
    intro x1 x2 h
    rw [f_X0_houseFor_2_s] at h
    refine z_iload_n C 2 rfl rfl dX0_houseFor_2 ?_
    refine z_aload_n C 0 rfl rfl dX0_houseFor_3 ?_
    refine z_get C 0 rfl (C := RX0) (T := TX0) (N := 8) (ci := 0) rfl inw_X0_houseFor_X0 0 (by decide) (ref := "EldestAge$Search") (List.mem_of_getElem? (i := 1) rfl) rfl (v := .int (S 0 0)) rfl dX0_houseFor_4 ?_
    refine z_icmp_ge C 33 (by decide) h dX0_houseFor_7 (fun hc h => ?_) (fun hc h => ?_)
    · refine z_iconst C (v := (-1 : Int32)) (by decide) dX0_houseFor_33 ?_
      obtain rfl := Option.some.inj h
      exact R rfl 34 _ dX0_houseFor_34
    · refine z_aload_n C 0 rfl rfl dX0_houseFor_10 ?_
      refine z_get C 0 rfl (C := RX0) (T := TX0) (N := 8) (ci := 0) rfl inw_X0_houseFor_X0 1 (by decide) (ref := "EldestAge$Search") (List.mem_of_getElem? (i := 2) rfl) rfl (v := .ref (a 1)) rfl dX0_houseFor_11 ?_
      refine z_iload_n C 2 rfl rfl dX0_houseFor_14 ?_
      refine z_iald C (N := 4) (f := (S 1)) 1 rfl h dX0_houseFor_15 (fun h => ?_)
      refine z_iload_n C 1 rfl rfl dX0_houseFor_16 ?_
      refine z_icmp_ne C 27 (by decide) h dX0_houseFor_17 (fun hc h => ?_) (fun hc h => ?_)
      · refine Zt_l [(0, .ref (a 0)), (2, .int x2)] [0, 2] rfl ?_
        exact L_X0_houseFor_20 a C R x2 h
      · refine z_iinc C [(2, .int (x2 + (1 : Int32))), (0, .ref (a 0)), (1, .int x1)] 2 rfl (by first | rfl | decide) (by decide) rfl dX0_houseFor_27 ?_
        refine z_goto C 2 (by decide) dX0_houseFor_30 ?_
        refine Zt_l [(0, .ref (a 0)), (1, .int x1), (2, .int (x2 + (1 : Int32)))] [1, 2, 0] rfl ?_
        exact ih x1 (x2 + (1 : Int32)) h

set_option maxHeartbeats 4000000 in
set_option maxRecDepth 100000 in
theorem L_X0_houseFor {E : zEnv} {Γ : zG} (a : Nat → Nat) (C : zC E Γ cX0_houseFor RX0 3 rm_X0_houseFor wsX0_houseFor) {res : Int32} {S : St} (R : zRi E Γ cX0_houseFor 3 .int (wSearch E a S) res) (x1 : Int32) (h : f_X0_houseFor x1 S = some res) : Zt E Γ 3 0 0 (wSearch E a S) [(0, .ref (a 0)), (1, .int x1)] 0 [] := by
  unfold f_X0_houseFor at h
  refine z_iconst C (v := (0 : Int32)) (by decide) dX0_houseFor_0 ?_
  refine z_istore_n C [(2, .int (0 : Int32)), (0, .ref (a 0)), (1, .int x1)] rfl (by decide) rfl dX0_houseFor_1 ?_
  refine Zt_l [(0, .ref (a 0)), (1, .int x1), (2, .int (0 : Int32))] [1, 2, 0] rfl ?_
  exact L_X0_houseFor_2 a C R 1000 x1 (0 : Int32) h

theorem c_X0_houseFor (E : zEnv) (a : Nat → Nat) (x1 : Int32) (S : St) {res : Int32} (h : f_X0_houseFor x1 S = some res) : Kti E yX0_houseFor wsX0_houseFor rm_X0_houseFor (wSearch E a S) (wSearch E a S) [.ref (a 0), .int x1] res :=
  z_enti (cc := cX0_houseFor) (maxL := 3) (rt := .int) (by decide +kernel) rfl (Nat.le_of_ble_eq_true rfl) (fun Γ C R => L_X0_houseFor a C R x1 h)
