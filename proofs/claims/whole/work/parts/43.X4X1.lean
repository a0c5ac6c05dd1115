abbrev rm_X4_add : Room := { frames := 0, cells := 0, slots := 0, locals := 0 }
theorem inw_X4_add_X4 : ∀ w ∈ wsX40, w ∈ wsX4_add := fun _ h => List.mem_cons_of_mem _ (List.mem_append_right _ h)
set_option maxHeartbeats 4000000 in
theorem wl_X4_add_0 (E : zEnv) (N : Nat) (a : Nat → Nat) (S : St) (f : Nat → Int32) : (wTold E N a (st 1 f S)) = (wTold E N a S).set 1 (a 1, .inl (zI E, N, .inl f)) := rfl
set_option maxHeartbeats 4000000 in
theorem wl_X4_add_1 (E : zEnv) (N : Nat) (a : Nat → Nat) (S : St) (f : Nat → Int32) : (wTold E N a (st 2 f S)) = (wTold E N a S).set 2 (a 2, .inl (zI E, N, .inl f)) := rfl
set_option maxHeartbeats 4000000 in
theorem wl_X4_add_2 (E : zEnv) (N : Nat) (a : Nat → Nat) (S : St) (f : Nat → Int32) : (wTold E N a (st 3 f S)) = (wTold E N a S).set 3 (a 3, .inl (zI E, N, .inl f)) := rfl
set_option maxHeartbeats 4000000 in
theorem wl_X4_add_3 (E : zEnv) (N : Nat) (a : Nat → Nat) (S : St) (v : Int32) : (wTold E N a (st 4 (fun _ => v) S)) = (wTold E N a S).set 0 (a 0, .inr (4, List.set [.int (S 0 0), .ref (a 1), .ref (a 2), .ref (a 3), .int (S 4 0)] 4 (.int v))) := rfl
noncomputable def f_X4_add (N : Nat) (x1 : Int32) (x2 : Int32) (x3 : Int32) (S : St) : Option (Int32 × St) := (if (S 4 0) < (S 0 0) then (ix (S 4 0) N (ix (S 4 0) N (ix (S 4 0) N (some ((1 : Int32), (st 4 (fun _ => ((S 4 0) + (1 : Int32))) (st 3 (upd (S 3) (Int32.toNatClampNeg (S 4 0)) x3) (st 2 (upd (S 2) (Int32.toNatClampNeg (S 4 0)) x2) (st 1 (upd (S 1) (Int32.toNatClampNeg (S 4 0)) x1) S))))))))) else (some ((0 : Int32), S)))
set_option maxHeartbeats 4000000 in
set_option maxRecDepth 100000 in
theorem L_X4_add {E : zEnv} {Γ : zG} {N : Nat} (a : Nat → Nat) (C : zC E Γ cX4_add RX4 4 rm_X4_add wsX4_add) {res : (Int32 × St)} (R : zRi E Γ cX4_add 4 .boolean (wTold E N a res.2) res.1) (x1 : Int32) (x2 : Int32) (x3 : Int32) (S : St) (h : f_X4_add N x1 x2 x3 S = some res) : Zt E Γ 4 0 0 (wTold E N a S) [(0, .ref (a 0)), (1, .int x1), (2, .int x2), (3, .int x3)] 0 [] := by
  unfold f_X4_add at h
  refine z_aload_n C 0 rfl rfl dX4_add_0 ?_
  refine z_get C 0 rfl (C := RX4) (T := TX4) (N := 5) (ci := 4) rfl inw_X4_add_X4 4 (by decide) (ref := "EldestAge$Told") (List.mem_of_getElem? (i := 1) rfl) rfl (v := .int (S 4 0)) rfl dX4_add_1 ?_
  refine z_aload_n C 0 rfl rfl dX4_add_4 ?_
  refine z_get C 0 rfl (C := RX4) (T := TX4) (N := 5) (ci := 4) rfl inw_X4_add_X4 0 (by decide) (ref := "EldestAge$Told") (List.mem_of_getElem? (i := 2) rfl) rfl (v := .int (S 0 0)) rfl dX4_add_5 ?_
  refine z_icmp_lt C 13 (by decide) h dX4_add_8 (fun hc h => ?_) (fun hc h => ?_)
  · refine z_aload_n C 0 rfl rfl dX4_add_13 ?_
    refine z_get C 0 rfl (C := RX4) (T := TX4) (N := 5) (ci := 4) rfl inw_X4_add_X4 1 (by decide) (ref := "EldestAge$Told") (List.mem_of_getElem? (i := 3) rfl) rfl (v := .ref (a 1)) rfl dX4_add_14 ?_
    refine z_aload_n C 0 rfl rfl dX4_add_17 ?_
    refine z_get C 0 rfl (C := RX4) (T := TX4) (N := 5) (ci := 4) rfl inw_X4_add_X4 4 (by decide) (ref := "EldestAge$Told") (List.mem_of_getElem? (i := 1) rfl) rfl (v := .int (S 4 0)) rfl dX4_add_18 ?_
    refine z_iload_n C 1 rfl rfl dX4_add_21 ?_
    refine z_iast C (N := N) (f := (S 1)) 1 rfl h (wTold E N a (st 1 (upd (S 1) (Int32.toNatClampNeg (S 4 0)) x1) S)) (wl_X4_add_0 E N a S (upd (S 1) (Int32.toNatClampNeg (S 4 0)) x1)) dX4_add_22 (fun h => ?_)
    refine z_aload_n C 0 rfl rfl dX4_add_23 ?_
    refine z_get C 0 rfl (C := RX4) (T := TX4) (N := 5) (ci := 4) rfl inw_X4_add_X4 2 (by decide) (ref := "EldestAge$Told") (List.mem_of_getElem? (i := 4) rfl) rfl (v := .ref (a 2)) rfl dX4_add_24 ?_
    refine z_aload_n C 0 rfl rfl dX4_add_27 ?_
    refine z_get C 0 rfl (C := RX4) (T := TX4) (N := 5) (ci := 4) rfl inw_X4_add_X4 4 (by decide) (ref := "EldestAge$Told") (List.mem_of_getElem? (i := 1) rfl) rfl (v := .int (S 4 0)) rfl dX4_add_28 ?_
    refine z_iload_n C 2 rfl rfl dX4_add_31 ?_
    refine z_iast C (N := N) (f := (S 2)) 2 rfl h (wTold E N a (st 2 (upd (S 2) (Int32.toNatClampNeg (S 4 0)) x2) (st 1 (upd (S 1) (Int32.toNatClampNeg (S 4 0)) x1) S))) (wl_X4_add_1 E N a (st 1 (upd (S 1) (Int32.toNatClampNeg (S 4 0)) x1) S) (upd (S 2) (Int32.toNatClampNeg (S 4 0)) x2)) dX4_add_32 (fun h => ?_)
    refine z_aload_n C 0 rfl rfl dX4_add_33 ?_
    refine z_get C 0 rfl (C := RX4) (T := TX4) (N := 5) (ci := 4) rfl inw_X4_add_X4 3 (by decide) (ref := "EldestAge$Told") (List.mem_of_getElem? (i := 5) rfl) rfl (v := .ref (a 3)) rfl dX4_add_34 ?_
    refine z_aload_n C 0 rfl rfl dX4_add_37 ?_
    refine z_get C 0 rfl (C := RX4) (T := TX4) (N := 5) (ci := 4) rfl inw_X4_add_X4 4 (by decide) (ref := "EldestAge$Told") (List.mem_of_getElem? (i := 1) rfl) rfl (v := .int (S 4 0)) rfl dX4_add_38 ?_
    refine z_iload_n C 3 rfl rfl dX4_add_41 ?_
    refine z_iast C (N := N) (f := (S 3)) 3 rfl h (wTold E N a (st 3 (upd (S 3) (Int32.toNatClampNeg (S 4 0)) x3) (st 2 (upd (S 2) (Int32.toNatClampNeg (S 4 0)) x2) (st 1 (upd (S 1) (Int32.toNatClampNeg (S 4 0)) x1) S)))) (wl_X4_add_2 E N a (st 2 (upd (S 2) (Int32.toNatClampNeg (S 4 0)) x2) (st 1 (upd (S 1) (Int32.toNatClampNeg (S 4 0)) x1) S)) (upd (S 3) (Int32.toNatClampNeg (S 4 0)) x3)) dX4_add_42 (fun h => ?_)
    refine z_aload_n C 0 rfl rfl dX4_add_43 ?_
    refine z_dup C rfl dX4_add_44 ?_
    refine z_get C 0 rfl (C := RX4) (T := TX4) (N := 5) (ci := 4) rfl inw_X4_add_X4 4 (by decide) (ref := "EldestAge$Told") (List.mem_of_getElem? (i := 1) rfl) rfl (v := .int (S 4 0)) rfl dX4_add_45 ?_
    refine z_iconst C (v := (1 : Int32)) (by decide) dX4_add_48 ?_
    refine z_iadd C dX4_add_49 ?_
    refine z_put C 0 rfl (C := RX4) (T := TX4) (N := 5) (ci := 4) rfl inw_X4_add_X4 tyX4 tyX4_ok nmX4 4 (by decide) (ref := "EldestAge$Told") (List.mem_of_getElem? (i := 1) rfl) rfl rfl (ty := .int) (v := .int ((S 4 0) + (1 : Int32))) (by decide +kernel) rfl rfl (Nat.le_of_ble_eq_true rfl) (wTold E N a (st 4 (fun _ => ((S 4 0) + (1 : Int32))) (st 3 (upd (S 3) (Int32.toNatClampNeg (S 4 0)) x3) (st 2 (upd (S 2) (Int32.toNatClampNeg (S 4 0)) x2) (st 1 (upd (S 1) (Int32.toNatClampNeg (S 4 0)) x1) S))))) (wl_X4_add_3 E N a (st 3 (upd (S 3) (Int32.toNatClampNeg (S 4 0)) x3) (st 2 (upd (S 2) (Int32.toNatClampNeg (S 4 0)) x2) (st 1 (upd (S 1) (Int32.toNatClampNeg (S 4 0)) x1) S))) ((S 4 0) + (1 : Int32))) dX4_add_50 ?_
    refine z_iconst C (v := (1 : Int32)) (by decide) dX4_add_53 ?_
    obtain rfl := Option.some.inj h
    exact R z_n1 54 _ dX4_add_54
  · refine z_iconst C (v := (0 : Int32)) (by decide) dX4_add_11 ?_
    obtain rfl := Option.some.inj h
    exact R z_n0 12 _ dX4_add_12

theorem c_X4_add (E : zEnv) (N : Nat) (a : Nat → Nat) (x1 : Int32) (x2 : Int32) (x3 : Int32) (S : St) {res : (Int32 × St)} (h : f_X4_add N x1 x2 x3 S = some res) : Kti E yX4_add wsX4_add rm_X4_add (wTold E N a S) (wTold E N a res.2) [.ref (a 0), .int x1, .int x2, .int x3] res.1 :=
  z_enti (cc := cX4_add) (maxL := 4) (rt := .boolean) (by decide +kernel) rfl (Nat.le_of_ble_eq_true rfl) (fun Γ C R => L_X4_add a C R x1 x2 x3 S h)

abbrev rm_X4_firstLie : Room := { frames := 4, cells := 0, slots := 0, locals := 91 }
theorem inw_X4_firstLie_X4 : ∀ w ∈ wsX40, w ∈ wsX4_firstLie := fun _ h => List.mem_cons_of_mem _ (List.mem_append_left _ (List.mem_append_left _ (List.mem_append_right _ h)))
theorem inw_X4_firstLie_X5 : ∀ w ∈ wsX50, w ∈ wsX4_firstLie := fun _ h => List.mem_cons_of_mem _ (List.mem_append_left _ (List.mem_append_right _ h))
theorem inw_X4_firstLie_X2 : ∀ w ∈ wsX20, w ∈ wsX4_firstLie := fun _ h => List.mem_cons_of_mem _ (List.mem_append_right _ h)
set_option maxHeartbeats 4000000 in
theorem wl_X4_firstLie_0 (E : zEnv) (N : Nat) (a : Nat → Nat) (S : St) : ([4, 5, 6, 7, 8, 9, 10, 11, 12, 13, 14, 15, 16, 17, 18, 19] : List Nat).map (fun i => (wToldTown E N a S)[i]?) = (wTown E (fun k => a (4 + k)) (sb 8 S)).map some := rfl
set_option maxHeartbeats 4000000 in
theorem wl_X4_firstLie_1 (E : zEnv) (N : Nat) (a : Nat → Nat) (S U : St) : (wTown E (fun k => a (4 + k)) U).map (fun q => q.1) = (wTown E (fun k => a (4 + k)) S).map (fun q => q.1) := rfl
set_option maxHeartbeats 4000000 in
theorem wl_X4_firstLie_2 (E : zEnv) (N : Nat) (a : Nat → Nat) (S U : St) : (wToldTown E N a (pt 8 32 U S)) = zrep [4, 5, 6, 7, 8, 9, 10, 11, 12, 13, 14, 15, 16, 17, 18, 19] (wTown E (fun k => a (4 + k)) U) (wToldTown E N a S) := zrep_of (isR := [0, 1, 2, 3]) 20 rfl [some (a 0, .inr (4, [.int (S 0 0), .ref (a 1), .ref (a 2), .ref (a 3), .int (S 4 0)])), some (a 1, .inl (zI E, N, .inl (S 1))), some (a 2, .inl (zI E, N, .inl (S 2))), some (a 3, .inl (zI E, N, .inl (S 3)))] rfl rfl rfl rfl (by decide +kernel) (by decide +kernel)
noncomputable def f_X4_firstLie_2 (N : Nat) (n : Nat) : Int32 → St → Option (Int32 × St) := Nat.rec (motive := fun _ => Int32 → St → Option (Int32 × St)) (fun _ _ => none) (fun _ ih => fun x2 S => (if (S 4 0) ≤ x2 then (some ((-4 : Int32), S)) else (ix x2 N (ix x2 N ((f_X5_numberOf (S 1 (Int32.toNatClampNeg x2)) (S 2 (Int32.toNatClampNeg x2)) (sb 8 S)).bind (fun q1 => (ix x2 N (if q1.1 = (S 3 (Int32.toNatClampNeg x2)) then (ih (x2 + (1 : Int32)) (pt 8 32 q1.2 S)) else (some (x2, (pt 8 32 q1.2 S))))))))))) n
theorem f_X4_firstLie_2_s (N : Nat) (n : Nat) (x2 : Int32) (S : St) : f_X4_firstLie_2 N (n + 1) x2 S = (if (S 4 0) ≤ x2 then (some ((-4 : Int32), S)) else (ix x2 N (ix x2 N ((f_X5_numberOf (S 1 (Int32.toNatClampNeg x2)) (S 2 (Int32.toNatClampNeg x2)) (sb 8 S)).bind (fun q1 => (ix x2 N (if q1.1 = (S 3 (Int32.toNatClampNeg x2)) then ((f_X4_firstLie_2 N n) (x2 + (1 : Int32)) (pt 8 32 q1.2 S)) else (some (x2, (pt 8 32 q1.2 S)))))))))) := rfl
noncomputable def f_X4_firstLie (N : Nat) (S : St) : Option (Int32 × St) := (f_X4_firstLie_2 N 1000 (0 : Int32) S)
set_option maxHeartbeats 4000000 in
set_option maxRecDepth 100000 in
theorem L_X4_firstLie_2 {E : zEnv} {Γ : zG} {N : Nat} (a : Nat → Nat) (C : zC E Γ cX4_firstLie RX4 3 rm_X4_firstLie wsX4_firstLie) {res : (Int32 × St)} (R : zRi E Γ cX4_firstLie 3 .int (wToldTown E N a res.2) res.1) : ∀ (n : Nat) (x2 : Int32) (S : St), f_X4_firstLie_2 N n x2 S = some res → Zt E Γ 3 0 0 (wToldTown E N a S) [(0, .ref (a 0)), (1, .ref (a 4)), (2, .int x2)] 2 [] := by
  intro n
  induction n with
  | zero =>
    intro x2 S h
    cases h
  | succ n ih =>
    intro x2 S h
    rw [f_X4_firstLie_2_s] at h
    refine z_iload_n C 2 rfl rfl dX4_firstLie_2 ?_
    refine z_aload_n C 0 rfl rfl dX4_firstLie_3 ?_
    refine z_get C 0 rfl (C := RX4) (T := TX4) (N := 5) (ci := 4) rfl inw_X4_firstLie_X4 4 (by decide) (ref := "EldestAge$Told") (List.mem_of_getElem? (i := 1) rfl) rfl (v := .int (S 4 0)) rfl dX4_firstLie_4 ?_
    refine z_icmp_ge C 43 (by decide) h dX4_firstLie_7 (fun hc h => ?_) (fun hc h => ?_)
    · refine z_bipush C (v := (-4 : Int32)) (by decide) dX4_firstLie_43 ?_
      obtain rfl := Option.some.inj h
      exact R rfl 45 _ dX4_firstLie_45
    · refine z_aload_n C 1 rfl rfl dX4_firstLie_10 ?_
      refine z_aload_n C 0 rfl rfl dX4_firstLie_11 ?_
      refine z_get C 0 rfl (C := RX4) (T := TX4) (N := 5) (ci := 4) rfl inw_X4_firstLie_X4 1 (by decide) (ref := "EldestAge$Told") (List.mem_of_getElem? (i := 2) rfl) rfl (v := .ref (a 1)) rfl dX4_firstLie_12 ?_
      refine z_iload_n C 2 rfl rfl dX4_firstLie_15 ?_
      refine z_iald C (N := N) (f := (S 1)) 1 rfl h dX4_firstLie_16 (fun h => ?_)
      refine z_aload_n C 0 rfl rfl dX4_firstLie_17 ?_
      refine z_get C 0 rfl (C := RX4) (T := TX4) (N := 5) (ci := 4) rfl inw_X4_firstLie_X4 2 (by decide) (ref := "EldestAge$Told") (List.mem_of_getElem? (i := 3) rfl) rfl (v := .ref (a 2)) rfl dX4_firstLie_18 ?_
      refine z_iload_n C 2 rfl rfl dX4_firstLie_21 ?_
      refine z_iald C (N := N) (f := (S 2)) 2 rfl h dX4_firstLie_22 (fun h => ?_)
      obtain ⟨q1, e1, h⟩ := bd_e h
      refine z_callVi C (b := a 4) (As := [.int (S 1 (Int32.toNatClampNeg x2)), .int (S 2 (Int32.toNatClampNeg x2))]) (rest := []) (c_X5_numberOf E (fun k => a (4 + k)) (S 1 (Int32.toNatClampNeg x2)) (S 2 (Int32.toNatClampNeg x2)) (sb 8 S) e1) rfl gX4_firstLie_X5_numberOf rfl rfl rfl 2 rfl (by decide +kernel) ⟨Nat.le_of_ble_eq_true rfl, Nat.le_of_ble_eq_true rfl⟩ [4, 5, 6, 7, 8, 9, 10, 11, 12, 13, 14, 15, 16, 17, 18, 19] (wl_X4_firstLie_0 E N a S) (by decide) (wl_X4_firstLie_1 E N a _ _) (wToldTown E N a (pt 8 32 q1.2 S)) (wl_X4_firstLie_2 E N a S q1.2) 0 5 rfl rfl rfl (Nat.le_of_ble_eq_true rfl) dX4_firstLie_23 ⟨Nat.zero_le _, Nat.zero_le _⟩ _ rfl ?_
      refine z_aload_n C 0 rfl rfl dX4_firstLie_26 ?_
      refine z_get C 0 rfl (C := RX4) (T := TX4) (N := 5) (ci := 4) rfl inw_X4_firstLie_X4 3 (by decide) (ref := "EldestAge$Told") (List.mem_of_getElem? (i := 4) rfl) rfl (v := .ref (a 3)) rfl dX4_firstLie_27 ?_
      refine z_iload_n C 2 rfl rfl dX4_firstLie_30 ?_
      refine z_iald C (N := N) (f := (S 3)) 3 rfl h dX4_firstLie_31 (fun h => ?_)
      refine z_icmp_eq C 37 (by decide) h dX4_firstLie_32 (fun hc h => ?_) (fun hc h => ?_)
      · refine z_iinc C [(2, .int (x2 + (1 : Int32))), (0, .ref (a 0)), (1, .ref (a 4))] 2 rfl (by first | rfl | decide) (by decide) rfl dX4_firstLie_37 ?_
        refine z_goto C 2 (by decide) dX4_firstLie_40 ?_
        refine Zt_l [(0, .ref (a 0)), (1, .ref (a 4)), (2, .int (x2 + (1 : Int32)))] [1, 2, 0] rfl ?_
        exact ih (x2 + (1 : Int32)) (pt 8 32 q1.2 S) h
      · refine z_iload_n C 2 rfl rfl dX4_firstLie_35 ?_
        obtain rfl := Option.some.inj h
        exact R rfl 36 _ dX4_firstLie_36

set_option maxHeartbeats 4000000 in
set_option maxRecDepth 100000 in
theorem L_X4_firstLie {E : zEnv} {Γ : zG} {N : Nat} (a : Nat → Nat) (C : zC E Γ cX4_firstLie RX4 3 rm_X4_firstLie wsX4_firstLie) {res : (Int32 × St)} (R : zRi E Γ cX4_firstLie 3 .int (wToldTown E N a res.2) res.1) (S : St) (h : f_X4_firstLie N S = some res) : Zt E Γ 3 0 0 (wToldTown E N a S) [(0, .ref (a 0)), (1, .ref (a 4))] 0 [] := by
  unfold f_X4_firstLie at h
  refine z_iconst C (v := (0 : Int32)) (by decide) dX4_firstLie_0 ?_
  refine z_istore_n C [(2, .int (0 : Int32)), (0, .ref (a 0)), (1, .ref (a 4))] rfl (by decide) rfl dX4_firstLie_1 ?_
  refine Zt_l [(0, .ref (a 0)), (1, .ref (a 4)), (2, .int (0 : Int32))] [1, 2, 0] rfl ?_
  exact L_X4_firstLie_2 a C R 1000 (0 : Int32) S h

theorem c_X4_firstLie (E : zEnv) (N : Nat) (a : Nat → Nat) (S : St) {res : (Int32 × St)} (h : f_X4_firstLie N S = some res) : Kti E yX4_firstLie wsX4_firstLie rm_X4_firstLie (wToldTown E N a S) (wToldTown E N a res.2) [.ref (a 0), .ref (a 4)] res.1 :=
  z_enti (cc := cX4_firstLie) (maxL := 3) (rt := .int) (by decide +kernel) rfl (Nat.le_of_ble_eq_true rfl) (fun Γ C R => L_X4_firstLie a C R S h)

abbrev rm_X1_isSheet : Room := { frames := 0, cells := 0, slots := 0, locals := 0 }
noncomputable def f_X1_isSheet (x1 : Int32) (S : St) : Option Int32 := (if x1 < 0 then (some (0 : Int32)) else (if (4 : Int32) ≤ x1 then (some (0 : Int32)) else (some (1 : Int32))))
set_option maxHeartbeats 4000000 in
set_option maxRecDepth 100000 in
theorem L_X1_isSheet {E : zEnv} {Γ : zG} (a : Nat → Nat) (C : zC E Γ cX1_isSheet RX1 2 rm_X1_isSheet wsX1_isSheet) {res : Int32} {S : St} (R : zRi E Γ cX1_isSheet 2 .boolean (wSheets E a S) res) (x1 : Int32) (h : f_X1_isSheet x1 S = some res) : Zt E Γ 2 0 0 (wSheets E a S) [(0, .ref (a 0)), (1, .int x1)] 0 [] := by
  unfold f_X1_isSheet at h
  refine z_iload_n C 1 rfl rfl dX1_isSheet_0 ?_
  refine z_if_lt C 13 (by decide) h dX1_isSheet_1 (fun hc h => ?_) (fun hc h => ?_)
  · refine z_iconst C (v := (0 : Int32)) (by decide) dX1_isSheet_13 ?_
    obtain rfl := Option.some.inj h
    exact R z_n0 14 _ dX1_isSheet_14
  · refine z_iload_n C 1 rfl rfl dX1_isSheet_4 ?_
    refine z_iconst C (v := (4 : Int32)) (by decide) dX1_isSheet_5 ?_
    refine z_icmp_ge C 13 (by decide) h dX1_isSheet_6 (fun hc h => ?_) (fun hc h => ?_)
    · refine z_iconst C (v := (0 : Int32)) (by decide) dX1_isSheet_13 ?_
      obtain rfl := Option.some.inj h
      exact R z_n0 14 _ dX1_isSheet_14
    · refine z_iconst C (v := (1 : Int32)) (by decide) dX1_isSheet_9 ?_
      refine z_goto C 14 (by decide) dX1_isSheet_10 ?_
      obtain rfl := Option.some.inj h
      exact R z_n1 14 _ dX1_isSheet_14

theorem c_X1_isSheet (E : zEnv) (a : Nat → Nat) (x1 : Int32) (S : St) {res : Int32} (h : f_X1_isSheet x1 S = some res) : Kti E yX1_isSheet wsX1_isSheet rm_X1_isSheet (wSheets E a S) (wSheets E a S) [.ref (a 0), .int x1] res :=
  z_enti (cc := cX1_isSheet) (maxL := 2) (rt := .boolean) (by decide +kernel) rfl (Nat.le_of_ble_eq_true rfl) (fun Γ C R => L_X1_isSheet a C R x1 h)

abbrev rm_X1_isLane : Room := { frames := 0, cells := 0, slots := 0, locals := 0 }
noncomputable def f_X1_isLane (x1 : Int32) (S : St) : Option Int32 := (if x1 < 0 then (some (0 : Int32)) else (if (3 : Int32) ≤ x1 then (some (0 : Int32)) else (some (1 : Int32))))
set_option maxHeartbeats 4000000 in
set_option maxRecDepth 100000 in
theorem L_X1_isLane {E : zEnv} {Γ : zG} (a : Nat → Nat) (C : zC E Γ cX1_isLane RX1 2 rm_X1_isLane wsX1_isLane) {res : Int32} {S : St} (R : zRi E Γ cX1_isLane 2 .boolean (wSheets E a S) res) (x1 : Int32) (h : f_X1_isLane x1 S = some res) : Zt E Γ 2 0 0 (wSheets E a S) [(0, .ref (a 0)), (1, .int x1)] 0 [] := by
  unfold f_X1_isLane at h
  refine z_iload_n C 1 rfl rfl dX1_isLane_0 ?_
  refine z_if_lt C 13 (by decide) h dX1_isLane_1 (fun hc h => ?_) (fun hc h => ?_)
  · refine z_iconst C (v := (0 : Int32)) (by decide) dX1_isLane_13 ?_
    obtain rfl := Option.some.inj h
    exact R z_n0 14 _ dX1_isLane_14
  · refine z_iload_n C 1 rfl rfl dX1_isLane_4 ?_
    refine z_iconst C (v := (3 : Int32)) (by decide) dX1_isLane_5 ?_
    refine z_icmp_ge C 13 (by decide) h dX1_isLane_6 (fun hc h => ?_) (fun hc h => ?_)
    · refine z_iconst C (v := (0 : Int32)) (by decide) dX1_isLane_13 ?_
      obtain rfl := Option.some.inj h
      exact R z_n0 14 _ dX1_isLane_14
    · refine z_iconst C (v := (1 : Int32)) (by decide) dX1_isLane_9 ?_
      refine z_goto C 14 (by decide) dX1_isLane_10 ?_
      obtain rfl := Option.some.inj h
      exact R z_n1 14 _ dX1_isLane_14

theorem c_X1_isLane (E : zEnv) (a : Nat → Nat) (x1 : Int32) (S : St) {res : Int32} (h : f_X1_isLane x1 S = some res) : Kti E yX1_isLane wsX1_isLane rm_X1_isLane (wSheets E a S) (wSheets E a S) [.ref (a 0), .int x1] res :=
  z_enti (cc := cX1_isLane) (maxL := 2) (rt := .boolean) (by decide +kernel) rfl (Nat.le_of_ble_eq_true rfl) (fun Γ C R => L_X1_isLane a C R x1 h)

abbrev rm_X1_renew : Room := { frames := 0, cells := 0, slots := 0, locals := 0 }
theorem inw_X1_renew_X1 : ∀ w ∈ wsX10, w ∈ wsX1_renew := fun _ h => List.mem_cons_of_mem _ (List.mem_append_right _ h)
set_option maxHeartbeats 4000000 in
theorem wl_X1_renew_0 (E : zEnv) (a : Nat → Nat) (S : St) (f : Nat → Int32) : (wSheets E a (st 3 f S)) = (wSheets E a S).set 5 (a 5, .inl (zI E, 40, .inl f)) := rfl
set_option maxHeartbeats 4000000 in
theorem wl_X1_renew_1 (E : zEnv) (a : Nat → Nat) (S : St) (f : Nat → Int32) : (wSheets E a (st 2 f S)) = (wSheets E a S).set 4 (a 4, .inl (zI E, 40, .inl f)) := rfl
set_option maxHeartbeats 4000000 in
theorem wl_X1_renew_2 (E : zEnv) (a : Nat → Nat) (S : St) (f : Nat → Int32) : (wSheets E a (st 1 f S)) = (wSheets E a S).set 3 (a 3, .inl (zI E, 40, .inl f)) := rfl
set_option maxHeartbeats 4000000 in
theorem wl_X1_renew_3 (E : zEnv) (a : Nat → Nat) (S : St) (f : Nat → Int32) : (wSheets E a (st 0 f S)) = (wSheets E a S).set 2 (a 2, .inl (zI E, 40, .inl f)) := rfl
set_option maxHeartbeats 4000000 in
theorem wl_X1_renew_4 (E : zEnv) (a : Nat → Nat) (S : St) (f : Nat → Int32) : (wSheets E a (st 4 f S)) = (wSheets E a S).set 6 (a 6, .inl (zI E, 4, .inl f)) := rfl
set_option maxHeartbeats 4000000 in
theorem wl_X1_renew_5 (E : zEnv) (a : Nat → Nat) (S : St) (f : Nat → Int32) : (wSheets E a (st 5 f S)) = (wSheets E a S).set 7 (a 7, .inl (zI E, 4, .inl f)) := rfl
noncomputable def f_X1_renew_17 (n : Nat) : Int32 → Int32 → St → Option St := Nat.rec (motive := fun _ => Int32 → Int32 → St → Option St) (fun _ _ _ => none) (fun _ ih => fun x1 x4 S => (if (40 : Int32) ≤ x4 then (some S) else (if x1 = 0 then (ix x4 40 (ih x1 (x4 + (1 : Int32)) (st 0 (upd (S 0) (Int32.toNatClampNeg x4) (0 : Int32)) S))) else (if x1 = 1 then (ix x4 40 (ih x1 (x4 + (1 : Int32)) (st 1 (upd (S 1) (Int32.toNatClampNeg x4) (0 : Int32)) S))) else (if x1 = 2 then (ix x4 40 (ih x1 (x4 + (1 : Int32)) (st 2 (upd (S 2) (Int32.toNatClampNeg x4) (0 : Int32)) S))) else (if x1 = 3 then (ix x4 40 (ih x1 (x4 + (1 : Int32)) (st 3 (upd (S 3) (Int32.toNatClampNeg x4) (0 : Int32)) S))) else none)))))) n
theorem f_X1_renew_17_s (n : Nat) (x1 : Int32) (x4 : Int32) (S : St) : f_X1_renew_17 (n + 1) x1 x4 S = (if (40 : Int32) ≤ x4 then (some S) else (if x1 = 0 then (ix x4 40 ((f_X1_renew_17 n) x1 (x4 + (1 : Int32)) (st 0 (upd (S 0) (Int32.toNatClampNeg x4) (0 : Int32)) S))) else (if x1 = 1 then (ix x4 40 ((f_X1_renew_17 n) x1 (x4 + (1 : Int32)) (st 1 (upd (S 1) (Int32.toNatClampNeg x4) (0 : Int32)) S))) else (if x1 = 2 then (ix x4 40 ((f_X1_renew_17 n) x1 (x4 + (1 : Int32)) (st 2 (upd (S 2) (Int32.toNatClampNeg x4) (0 : Int32)) S))) else (if x1 = 3 then (ix x4 40 ((f_X1_renew_17 n) x1 (x4 + (1 : Int32)) (st 3 (upd (S 3) (Int32.toNatClampNeg x4) (0 : Int32)) S))) else none))))) := rfl
noncomputable def f_X1_renew (x1 : Int32) (x2 : Int32) (x3 : Int32) (S : St) : Option St := (ix x1 4 (ix x1 4 (f_X1_renew_17 1000 x1 (0 : Int32) (st 5 (upd (S 5) (Int32.toNatClampNeg x1) x3) (st 4 (upd (S 4) (Int32.toNatClampNeg x1) x2) S)))))
set_option maxHeartbeats 4000000 in
set_option maxRecDepth 100000 in
theorem L_X1_renew_17 {E : zEnv} {Γ : zG} (a : Nat → Nat) (C : zC E Γ cX1_renew RX1 5 rm_X1_renew wsX1_renew) {res : St} (R : zRv E Γ cX1_renew 5 (wSheets E a res)) : ∀ (n : Nat) (x1 : Int32) (x4 : Int32) (S : St), f_X1_renew_17 n x1 x4 S = some res → Zt E Γ 5 0 0 (wSheets E a S) [(0, .ref (a 0)), (1, .int x1), (4, .int x4)] 17 [] := by
  intro n
  induction n with
  | zero =>
    intro x1 x4 S h
    cases h
  | succ n ih =>
    intro x1 x4 S h
    rw [f_X1_renew_17_s] at h
    refine z_iload C 2 rfl dX1_renew_17 ?_
    refine z_bipush C (v := (40 : Int32)) (by decide) dX1_renew_19 ?_
    refine z_icmp_ge C 40 (by decide) h dX1_renew_21 (fun hc h => ?_) (fun hc h => ?_)
    · obtain rfl := Option.some.inj h
      exact R 40 _ dX1_renew_40
    · refine z_aload_n C 0 rfl rfl dX1_renew_24 ?_
      refine z_get C 0 rfl (C := RX1) (T := TX1) (N := 3) (ci := 1) rfl inw_X1_renew_X1 0 (by decide) (ref := "EldestAge$Sheets") (List.mem_of_getElem? (i := 3) rfl) rfl (v := .ref (a 1)) rfl dX1_renew_25 ?_
      refine z_iload_n C 1 rfl rfl dX1_renew_28 ?_
      by_cases hc : x1 = 0
      · replace h := (if_e h).1 hc
        refine z_aldrII C 1 rfl (by rw [hc]; exact vp_in_iff.mpr (by decide)) (v := .ref (a 2)) (by rw [hc]; rfl) dX1_renew_29 ?_
        refine z_iload C 2 rfl dX1_renew_30 ?_
        refine z_iconst C (v := (0 : Int32)) (by decide) dX1_renew_32 ?_
        refine z_iast C (N := 40) (f := (S 0)) 2 rfl h (wSheets E a (st 0 (upd (S 0) (Int32.toNatClampNeg x4) (0 : Int32)) S)) (wl_X1_renew_3 E a S (upd (S 0) (Int32.toNatClampNeg x4) (0 : Int32))) dX1_renew_33 (fun h => ?_)
        refine z_iinc C [(4, .int (x4 + (1 : Int32))), (0, .ref (a 0)), (1, .int x1)] 2 rfl (by first | rfl | decide) (by decide) rfl dX1_renew_34 ?_
        refine z_goto C 17 (by decide) dX1_renew_37 ?_
        refine Zt_l [(0, .ref (a 0)), (1, .int x1), (4, .int (x4 + (1 : Int32)))] [1, 2, 0] rfl ?_
        exact ih x1 (x4 + (1 : Int32)) (st 0 (upd (S 0) (Int32.toNatClampNeg x4) (0 : Int32)) S) h
      · replace h := (if_e h).2 hc
        by_cases hc : x1 = 1
        · replace h := (if_e h).1 hc
          refine z_aldrII C 1 rfl (by rw [hc]; exact vp_in_iff.mpr (by decide)) (v := .ref (a 3)) (by rw [hc]; rfl) dX1_renew_29 ?_
          refine z_iload C 2 rfl dX1_renew_30 ?_
          refine z_iconst C (v := (0 : Int32)) (by decide) dX1_renew_32 ?_
          refine z_iast C (N := 40) (f := (S 1)) 3 rfl h (wSheets E a (st 1 (upd (S 1) (Int32.toNatClampNeg x4) (0 : Int32)) S)) (wl_X1_renew_2 E a S (upd (S 1) (Int32.toNatClampNeg x4) (0 : Int32))) dX1_renew_33 (fun h => ?_)
          refine z_iinc C [(4, .int (x4 + (1 : Int32))), (0, .ref (a 0)), (1, .int x1)] 2 rfl (by first | rfl | decide) (by decide) rfl dX1_renew_34 ?_
          refine z_goto C 17 (by decide) dX1_renew_37 ?_
          refine Zt_l [(0, .ref (a 0)), (1, .int x1), (4, .int (x4 + (1 : Int32)))] [1, 2, 0] rfl ?_
          exact ih x1 (x4 + (1 : Int32)) (st 1 (upd (S 1) (Int32.toNatClampNeg x4) (0 : Int32)) S) h
        · replace h := (if_e h).2 hc
          by_cases hc : x1 = 2
          · replace h := (if_e h).1 hc
            refine z_aldrII C 1 rfl (by rw [hc]; exact vp_in_iff.mpr (by decide)) (v := .ref (a 4)) (by rw [hc]; rfl) dX1_renew_29 ?_
            refine z_iload C 2 rfl dX1_renew_30 ?_
            refine z_iconst C (v := (0 : Int32)) (by decide) dX1_renew_32 ?_
            refine z_iast C (N := 40) (f := (S 2)) 4 rfl h (wSheets E a (st 2 (upd (S 2) (Int32.toNatClampNeg x4) (0 : Int32)) S)) (wl_X1_renew_1 E a S (upd (S 2) (Int32.toNatClampNeg x4) (0 : Int32))) dX1_renew_33 (fun h => ?_)
            refine z_iinc C [(4, .int (x4 + (1 : Int32))), (0, .ref (a 0)), (1, .int x1)] 2 rfl (by first | rfl | decide) (by decide) rfl dX1_renew_34 ?_
            refine z_goto C 17 (by decide) dX1_renew_37 ?_
            refine Zt_l [(0, .ref (a 0)), (1, .int x1), (4, .int (x4 + (1 : Int32)))] [1, 2, 0] rfl ?_
            exact ih x1 (x4 + (1 : Int32)) (st 2 (upd (S 2) (Int32.toNatClampNeg x4) (0 : Int32)) S) h
          · replace h := (if_e h).2 hc
            by_cases hc : x1 = 3
            · replace h := (if_e h).1 hc
              refine z_aldrII C 1 rfl (by rw [hc]; exact vp_in_iff.mpr (by decide)) (v := .ref (a 5)) (by rw [hc]; rfl) dX1_renew_29 ?_
              refine z_iload C 2 rfl dX1_renew_30 ?_
              refine z_iconst C (v := (0 : Int32)) (by decide) dX1_renew_32 ?_
              refine z_iast C (N := 40) (f := (S 3)) 5 rfl h (wSheets E a (st 3 (upd (S 3) (Int32.toNatClampNeg x4) (0 : Int32)) S)) (wl_X1_renew_0 E a S (upd (S 3) (Int32.toNatClampNeg x4) (0 : Int32))) dX1_renew_33 (fun h => ?_)
              refine z_iinc C [(4, .int (x4 + (1 : Int32))), (0, .ref (a 0)), (1, .int x1)] 2 rfl (by first | rfl | decide) (by decide) rfl dX1_renew_34 ?_
              refine z_goto C 17 (by decide) dX1_renew_37 ?_
              refine Zt_l [(0, .ref (a 0)), (1, .int x1), (4, .int (x4 + (1 : Int32)))] [1, 2, 0] rfl ?_
              exact ih x1 (x4 + (1 : Int32)) (st 3 (upd (S 3) (Int32.toNatClampNeg x4) (0 : Int32)) S) h
            · replace h := (if_e h).2 hc
              cases h

set_option maxHeartbeats 4000000 in
set_option maxRecDepth 100000 in
theorem L_X1_renew {E : zEnv} {Γ : zG} (a : Nat → Nat) (C : zC E Γ cX1_renew RX1 5 rm_X1_renew wsX1_renew) {res : St} (R : zRv E Γ cX1_renew 5 (wSheets E a res)) (x1 : Int32) (x2 : Int32) (x3 : Int32) (S : St) (h : f_X1_renew x1 x2 x3 S = some res) : Zt E Γ 5 0 0 (wSheets E a S) [(0, .ref (a 0)), (1, .int x1), (2, .int x2), (3, .int x3)] 0 [] := by
  unfold f_X1_renew at h
  refine z_aload_n C 0 rfl rfl dX1_renew_0 ?_
  refine z_get C 0 rfl (C := RX1) (T := TX1) (N := 3) (ci := 1) rfl inw_X1_renew_X1 1 (by decide) (ref := "EldestAge$Sheets") (List.mem_of_getElem? (i := 1) rfl) rfl (v := .ref (a 6)) rfl dX1_renew_1 ?_
  refine z_iload_n C 1 rfl rfl dX1_renew_4 ?_
  refine z_iload_n C 2 rfl rfl dX1_renew_5 ?_
  refine z_iast C (N := 4) (f := (S 4)) 6 rfl h (wSheets E a (st 4 (upd (S 4) (Int32.toNatClampNeg x1) x2) S)) (wl_X1_renew_4 E a S (upd (S 4) (Int32.toNatClampNeg x1) x2)) dX1_renew_6 (fun h => ?_)
  refine z_aload_n C 0 rfl rfl dX1_renew_7 ?_
  refine z_get C 0 rfl (C := RX1) (T := TX1) (N := 3) (ci := 1) rfl inw_X1_renew_X1 2 (by decide) (ref := "EldestAge$Sheets") (List.mem_of_getElem? (i := 2) rfl) rfl (v := .ref (a 7)) rfl dX1_renew_8 ?_
  refine z_iload_n C 1 rfl rfl dX1_renew_11 ?_
  refine z_iload_n C 3 rfl rfl dX1_renew_12 ?_
  refine z_iast C (N := 4) (f := (S 5)) 7 rfl h (wSheets E a (st 5 (upd (S 5) (Int32.toNatClampNeg x1) x3) (st 4 (upd (S 4) (Int32.toNatClampNeg x1) x2) S))) (wl_X1_renew_5 E a (st 4 (upd (S 4) (Int32.toNatClampNeg x1) x2) S) (upd (S 5) (Int32.toNatClampNeg x1) x3)) dX1_renew_13 (fun h => ?_)
  refine z_iconst C (v := (0 : Int32)) (by decide) dX1_renew_14 ?_
  refine z_istore C [(4, .int (0 : Int32)), (0, .ref (a 0)), (1, .int x1), (2, .int x2), (3, .int x3)] (by decide) rfl dX1_renew_15 ?_
  refine Zt_l [(0, .ref (a 0)), (1, .int x1), (4, .int (0 : Int32))] [1, 2, 0] rfl ?_
  exact L_X1_renew_17 a C R 1000 x1 (0 : Int32) (st 5 (upd (S 5) (Int32.toNatClampNeg x1) x3) (st 4 (upd (S 4) (Int32.toNatClampNeg x1) x2) S)) h

theorem c_X1_renew (E : zEnv) (a : Nat → Nat) (x1 : Int32) (x2 : Int32) (x3 : Int32) (S : St) {res : St} (h : f_X1_renew x1 x2 x3 S = some res) : Ktv E yX1_renew wsX1_renew rm_X1_renew (wSheets E a S) (wSheets E a res) [.ref (a 0), .int x1, .int x2, .int x3] :=
  z_entv (cc := cX1_renew) (maxL := 5) (by decide +kernel) rfl (Nat.le_of_ble_eq_true rfl) (fun Γ C R => L_X1_renew a C R x1 x2 x3 S h)

abbrev rm_X1_faultAt : Room := { frames := 0, cells := 0, slots := 0, locals := 0 }
theorem inw_X1_faultAt_X1 : ∀ w ∈ wsX10, w ∈ wsX1_faultAt := fun _ h => List.mem_cons_of_mem _ (List.mem_append_right _ h)
noncomputable def f_X1_faultAt_37 (S : St) : Option Int32 := (some (2 : Int32))
noncomputable def f_X1_faultAt (x1 : Int32) (x2 : Int32) (x3 : Int32) (S : St) : Option Int32 := (ix x1 4 (if 0 ≤ (S 5 (Int32.toNatClampNeg x1)) then (ix x1 4 (if (S 4 (Int32.toNatClampNeg x1)) = x2 then (if x3 < 0 then (f_X1_faultAt_37 S) else (ix x1 4 (if x3 < (S 5 (Int32.toNatClampNeg x1)) then (some (0 : Int32)) else (f_X1_faultAt_37 S)))) else (some (3 : Int32)))) else (some (1 : Int32))))
set_option maxHeartbeats 4000000 in
set_option maxRecDepth 100000 in
theorem L_X1_faultAt_37 {E : zEnv} {Γ : zG} (a : Nat → Nat) (C : zC E Γ cX1_faultAt RX1 4 rm_X1_faultAt wsX1_faultAt) {res : Int32} {S : St} (R : zRi E Γ cX1_faultAt 4 .int (wSheets E a S) res) (h : f_X1_faultAt_37 S = some res) : Zt E Γ 4 0 0 (wSheets E a S) [] 37 [] := by
  unfold f_X1_faultAt_37 at h
  refine z_iconst C (v := (2 : Int32)) (by decide) dX1_faultAt_37 ?_
  refine z_goto C 42 (by decide) dX1_faultAt_38 ?_
  obtain rfl := Option.some.inj h
  exact R rfl 42 _ dX1_faultAt_42

set_option maxHeartbeats 4000000 in
set_option maxRecDepth 100000 in
theorem L_X1_faultAt {E : zEnv} {Γ : zG} (a : Nat → Nat) (C : zC E Γ cX1_faultAt RX1 4 rm_X1_faultAt wsX1_faultAt) {res : Int32} {S : St} (R : zRi E Γ cX1_faultAt 4 .int (wSheets E a S) res) (x1 : Int32) (x2 : Int32) (x3 : Int32) (h : f_X1_faultAt x1 x2 x3 S = some res) : Zt E Γ 4 0 0 (wSheets E a S) [(0, .ref (a 0)), (1, .int x1), (2, .int x2), (3, .int x3)] 0 [] := by
  unfold f_X1_faultAt at h
  refine z_aload_n C 0 rfl rfl dX1_faultAt_0 ?_
  refine z_get C 0 rfl (C := RX1) (T := TX1) (N := 3) (ci := 1) rfl inw_X1_faultAt_X1 2 (by decide) (ref := "EldestAge$Sheets") (List.mem_of_getElem? (i := 1) rfl) rfl (v := .ref (a 7)) rfl dX1_faultAt_1 ?_
  refine z_iload_n C 1 rfl rfl dX1_faultAt_4 ?_
  refine z_iald C (N := 4) (f := (S 5)) 7 rfl h dX1_faultAt_5 (fun h => ?_)
  refine z_if_ge C 11 (by decide) h dX1_faultAt_6 (fun hc h => ?_) (fun hc h => ?_)
  · refine z_aload_n C 0 rfl rfl dX1_faultAt_11 ?_
    refine z_get C 0 rfl (C := RX1) (T := TX1) (N := 3) (ci := 1) rfl inw_X1_faultAt_X1 1 (by decide) (ref := "EldestAge$Sheets") (List.mem_of_getElem? (i := 2) rfl) rfl (v := .ref (a 6)) rfl dX1_faultAt_12 ?_
    refine z_iload_n C 1 rfl rfl dX1_faultAt_15 ?_
    refine z_iald C (N := 4) (f := (S 4)) 6 rfl h dX1_faultAt_16 (fun h => ?_)
    refine z_iload_n C 2 rfl rfl dX1_faultAt_17 ?_
    refine z_icmp_eq C 23 (by decide) h dX1_faultAt_18 (fun hc h => ?_) (fun hc h => ?_)
    · refine z_iload_n C 3 rfl rfl dX1_faultAt_23 ?_
      refine z_if_lt C 37 (by decide) h dX1_faultAt_24 (fun hc h => ?_) (fun hc h => ?_)
      · refine Zt_l [] [] rfl ?_
        exact L_X1_faultAt_37 a C R h
      · refine z_iload_n C 3 rfl rfl dX1_faultAt_27 ?_
        refine z_aload_n C 0 rfl rfl dX1_faultAt_28 ?_
        refine z_get C 0 rfl (C := RX1) (T := TX1) (N := 3) (ci := 1) rfl inw_X1_faultAt_X1 2 (by decide) (ref := "EldestAge$Sheets") (List.mem_of_getElem? (i := 1) rfl) rfl (v := .ref (a 7)) rfl dX1_faultAt_29 ?_
        refine z_iload_n C 1 rfl rfl dX1_faultAt_32 ?_
        refine z_iald C (N := 4) (f := (S 5)) 7 rfl h dX1_faultAt_33 (fun h => ?_)
        refine z_icmp_lt C 41 (by decide) h dX1_faultAt_34 (fun hc h => ?_) (fun hc h => ?_)
        · refine z_iconst C (v := (0 : Int32)) (by decide) dX1_faultAt_41 ?_
          obtain rfl := Option.some.inj h
          exact R rfl 42 _ dX1_faultAt_42
        · refine Zt_l [] [] rfl ?_
          exact L_X1_faultAt_37 a C R h
    · refine z_iconst C (v := (3 : Int32)) (by decide) dX1_faultAt_21 ?_
      obtain rfl := Option.some.inj h
      exact R rfl 22 _ dX1_faultAt_22
  · refine z_iconst C (v := (1 : Int32)) (by decide) dX1_faultAt_9 ?_
    obtain rfl := Option.some.inj h
    exact R rfl 10 _ dX1_faultAt_10

theorem c_X1_faultAt (E : zEnv) (a : Nat → Nat) (x1 : Int32) (x2 : Int32) (x3 : Int32) (S : St) {res : Int32} (h : f_X1_faultAt x1 x2 x3 S = some res) : Kti E yX1_faultAt wsX1_faultAt rm_X1_faultAt (wSheets E a S) (wSheets E a S) [.ref (a 0), .int x1, .int x2, .int x3] res :=
  z_enti (cc := cX1_faultAt) (maxL := 4) (rt := .int) (by decide +kernel) rfl (Nat.le_of_ble_eq_true rfl) (fun Γ C R => L_X1_faultAt a C R x1 x2 x3 h)

abbrev rm_X1_faultOfThree : Room := { frames := 1, cells := 0, slots := 0, locals := 23 }
theorem inw_X1_faultOfThree_X1 : ∀ w ∈ wsX10, w ∈ wsX1_faultOfThree := fun _ h => List.mem_cons_of_mem _ (List.mem_append_right _ h)
set_option maxHeartbeats 4000000 in
theorem wl_X1_faultOfThree_0 (E : zEnv) (a : Nat → Nat) (S : St) : ([0, 1, 2, 3, 4, 5, 6, 7] : List Nat).map (fun i => (wSheets E a S)[i]?) = (wSheets E a S).map some := rfl
set_option maxHeartbeats 4000000 in
theorem wl_X1_faultOfThree_1 (E : zEnv) (a : Nat → Nat) (S U : St) : (wSheets E a U).map (fun q => q.1) = (wSheets E a S).map (fun q => q.1) := rfl
noncomputable def f_X1_faultOfThree_6 (n : Nat) : Int32 → Int32 → Int32 → Int32 → Int32 → St → Option Int32 := Nat.rec (motive := fun _ => Int32 → Int32 → Int32 → Int32 → Int32 → St → Option Int32) (fun _ _ _ _ _ _ => none) (fun _ ih => fun x1 x2 x3 x4 x5 S => (if (3 : Int32) ≤ x5 then (some x4) else (if x4 = 0 then ((f_X1_faultAt x1 x2 (x3 + x5) S).bind (fun q1 => (ih x1 x2 x3 q1 (x5 + (1 : Int32)) S))) else (some x4)))) n
theorem f_X1_faultOfThree_6_s (n : Nat) (x1 : Int32) (x2 : Int32) (x3 : Int32) (x4 : Int32) (x5 : Int32) (S : St) : f_X1_faultOfThree_6 (n + 1) x1 x2 x3 x4 x5 S = (if (3 : Int32) ≤ x5 then (some x4) else (if x4 = 0 then ((f_X1_faultAt x1 x2 (x3 + x5) S).bind (fun q1 => ((f_X1_faultOfThree_6 n) x1 x2 x3 q1 (x5 + (1 : Int32)) S))) else (some x4))) := rfl
noncomputable def f_X1_faultOfThree (x1 : Int32) (x2 : Int32) (x3 : Int32) (S : St) : Option Int32 := (f_X1_faultOfThree_6 1000 x1 x2 x3 (0 : Int32) (0 : Int32) S)
set_option maxHeartbeats 4000000 in
set_option maxRecDepth 100000 in
theorem L_X1_faultOfThree_6 {E : zEnv} {Γ : zG} (a : Nat → Nat) (C : zC E Γ cX1_faultOfThree RX1 6 rm_X1_faultOfThree wsX1_faultOfThree) {res : Int32} {S : St} (R : zRi E Γ cX1_faultOfThree 6 .int (wSheets E a S) res) : ∀ (n : Nat) (x1 : Int32) (x2 : Int32) (x3 : Int32) (x4 : Int32) (x5 : Int32), f_X1_faultOfThree_6 n x1 x2 x3 x4 x5 S = some res → Zt E Γ 6 0 0 (wSheets E a S) [(0, .ref (a 0)), (1, .int x1), (2, .int x2), (3, .int x3), (4, .int x4), (5, .int x5)] 6 [] := by
  intro n
  induction n with
  | zero =>
    intro x1 x2 x3 x4 x5 h
    cases h
  | succ n ih =>
    intro x1 x2 x3 x4 x5 h
    rw [f_X1_faultOfThree_6_s] at h
    refine z_iload C 5 rfl dX1_faultOfThree_6 ?_
    refine z_iconst C (v := (3 : Int32)) (by decide) dX1_faultOfThree_8 ?_
    refine z_icmp_ge C 35 (by decide) h dX1_faultOfThree_9 (fun hc h => ?_) (fun hc h => ?_)
    · refine z_iload C 4 rfl dX1_faultOfThree_35 ?_
      obtain rfl := Option.some.inj h
      exact R rfl 37 _ dX1_faultOfThree_37
    · refine z_iload C 4 rfl dX1_faultOfThree_12 ?_
      refine z_if_ne C 35 (by decide) h dX1_faultOfThree_14 (fun hc h => ?_) (fun hc h => ?_)
      · refine z_aload_n C 0 rfl rfl dX1_faultOfThree_17 ?_
        refine z_iload_n C 1 rfl rfl dX1_faultOfThree_18 ?_
        refine z_iload_n C 2 rfl rfl dX1_faultOfThree_19 ?_
        refine z_iload_n C 3 rfl rfl dX1_faultOfThree_20 ?_
        refine z_iload C 5 rfl dX1_faultOfThree_21 ?_
        refine z_iadd C dX1_faultOfThree_23 ?_
        obtain ⟨q1, e1, h⟩ := bd_e h
        refine z_callVi C (b := a 0) (As := [.int x1, .int x2, .int (x3 + x5)]) (rest := []) (c_X1_faultAt E a x1 x2 (x3 + x5) S e1) rfl gX1_faultOfThree_X1_faultAt rfl rfl rfl 3 rfl (by decide +kernel) ⟨Nat.le_of_ble_eq_true rfl, Nat.le_of_ble_eq_true rfl⟩ [0, 1, 2, 3, 4, 5, 6, 7] (wl_X1_faultOfThree_0 E a S) (by decide) rfl (wSheets E a S) (zrep_self (wl_X1_faultOfThree_0 E a S)) 0 1 rfl rfl rfl (Nat.le_of_ble_eq_true rfl) dX1_faultOfThree_24 ⟨Nat.zero_le _, Nat.zero_le _⟩ _ rfl ?_
        refine z_istore C [(4, .int q1), (0, .ref (a 0)), (1, .int x1), (2, .int x2), (3, .int x3), (5, .int x5)] (by decide) rfl dX1_faultOfThree_27 ?_
        refine z_iinc C [(5, .int (x5 + (1 : Int32))), (4, .int q1), (0, .ref (a 0)), (1, .int x1), (2, .int x2), (3, .int x3)] 5 rfl (by first | rfl | decide) (by decide) rfl dX1_faultOfThree_29 ?_
        refine z_goto C 6 (by decide) dX1_faultOfThree_32 ?_
        refine Zt_l [(0, .ref (a 0)), (1, .int x1), (2, .int x2), (3, .int x3), (4, .int q1), (5, .int (x5 + (1 : Int32)))] [2, 3, 4, 5, 1, 0] rfl ?_
        exact ih x1 x2 x3 q1 (x5 + (1 : Int32)) h
      · refine z_iload C 4 rfl dX1_faultOfThree_35 ?_
        obtain rfl := Option.some.inj h
        exact R rfl 37 _ dX1_faultOfThree_37

set_option maxHeartbeats 4000000 in
set_option maxRecDepth 100000 in
theorem L_X1_faultOfThree {E : zEnv} {Γ : zG} (a : Nat → Nat) (C : zC E Γ cX1_faultOfThree RX1 6 rm_X1_faultOfThree wsX1_faultOfThree) {res : Int32} {S : St} (R : zRi E Γ cX1_faultOfThree 6 .int (wSheets E a S) res) (x1 : Int32) (x2 : Int32) (x3 : Int32) (h : f_X1_faultOfThree x1 x2 x3 S = some res) : Zt E Γ 6 0 0 (wSheets E a S) [(0, .ref (a 0)), (1, .int x1), (2, .int x2), (3, .int x3)] 0 [] := by
  unfold f_X1_faultOfThree at h
  refine z_iconst C (v := (0 : Int32)) (by decide) dX1_faultOfThree_0 ?_
  refine z_istore C [(4, .int (0 : Int32)), (0, .ref (a 0)), (1, .int x1), (2, .int x2), (3, .int x3)] (by decide) rfl dX1_faultOfThree_1 ?_
  refine z_iconst C (v := (0 : Int32)) (by decide) dX1_faultOfThree_3 ?_
  refine z_istore C [(5, .int (0 : Int32)), (4, .int (0 : Int32)), (0, .ref (a 0)), (1, .int x1), (2, .int x2), (3, .int x3)] (by decide) rfl dX1_faultOfThree_4 ?_
  refine Zt_l [(0, .ref (a 0)), (1, .int x1), (2, .int x2), (3, .int x3), (4, .int (0 : Int32)), (5, .int (0 : Int32))] [2, 3, 4, 5, 1, 0] rfl ?_
  exact L_X1_faultOfThree_6 a C R 1000 x1 x2 x3 (0 : Int32) (0 : Int32) h

theorem c_X1_faultOfThree (E : zEnv) (a : Nat → Nat) (x1 : Int32) (x2 : Int32) (x3 : Int32) (S : St) {res : Int32} (h : f_X1_faultOfThree x1 x2 x3 S = some res) : Kti E yX1_faultOfThree wsX1_faultOfThree rm_X1_faultOfThree (wSheets E a S) (wSheets E a S) [.ref (a 0), .int x1, .int x2, .int x3] res :=
  z_enti (cc := cX1_faultOfThree) (maxL := 6) (rt := .int) (by decide +kernel) rfl (Nat.le_of_ble_eq_true rfl) (fun Γ C R => L_X1_faultOfThree a C R x1 x2 x3 h)

abbrev rm_X1_put : Room := { frames := 0, cells := 0, slots := 0, locals := 0 }
theorem inw_X1_put_X1 : ∀ w ∈ wsX10, w ∈ wsX1_put := fun _ h => List.mem_cons_of_mem _ (List.mem_append_right _ h)
set_option maxHeartbeats 4000000 in
theorem wl_X1_put_0 (E : zEnv) (a : Nat → Nat) (S : St) (f : Nat → Int32) : (wSheets E a (st 3 f S)) = (wSheets E a S).set 5 (a 5, .inl (zI E, 40, .inl f)) := rfl
set_option maxHeartbeats 4000000 in
theorem wl_X1_put_1 (E : zEnv) (a : Nat → Nat) (S : St) (f : Nat → Int32) : (wSheets E a (st 2 f S)) = (wSheets E a S).set 4 (a 4, .inl (zI E, 40, .inl f)) := rfl
set_option maxHeartbeats 4000000 in
theorem wl_X1_put_2 (E : zEnv) (a : Nat → Nat) (S : St) (f : Nat → Int32) : (wSheets E a (st 1 f S)) = (wSheets E a S).set 3 (a 3, .inl (zI E, 40, .inl f)) := rfl
set_option maxHeartbeats 4000000 in
theorem wl_X1_put_3 (E : zEnv) (a : Nat → Nat) (S : St) (f : Nat → Int32) : (wSheets E a (st 0 f S)) = (wSheets E a S).set 2 (a 2, .inl (zI E, 40, .inl f)) := rfl
noncomputable def f_X1_put (x1 : Int32) (x2 : Int32) (x3 : Int32) (S : St) : Option St := (ix x1 4 (if (S 4 (Int32.toNatClampNeg x1)) = (0 : Int32) then (if x1 = 0 then (ix x2 40 (some (st 0 (upd (S 0) (Int32.toNatClampNeg x2) (Int8.toInt32 (Int32.toInt8 x3))) S))) else (if x1 = 1 then (ix x2 40 (some (st 1 (upd (S 1) (Int32.toNatClampNeg x2) (Int8.toInt32 (Int32.toInt8 x3))) S))) else (if x1 = 2 then (ix x2 40 (some (st 2 (upd (S 2) (Int32.toNatClampNeg x2) (Int8.toInt32 (Int32.toInt8 x3))) S))) else (if x1 = 3 then (ix x2 40 (some (st 3 (upd (S 3) (Int32.toNatClampNeg x2) (Int8.toInt32 (Int32.toInt8 x3))) S))) else none)))) else (if (S 4 (Int32.toNatClampNeg x1)) = (1 : Int32) then (if x1 = 0 then (ix x2 40 (some (st 0 (upd (S 0) (Int32.toNatClampNeg x2) (Int16.toInt32 (Int32.toInt16 x3))) S))) else (if x1 = 1 then (ix x2 40 (some (st 1 (upd (S 1) (Int32.toNatClampNeg x2) (Int16.toInt32 (Int32.toInt16 x3))) S))) else (if x1 = 2 then (ix x2 40 (some (st 2 (upd (S 2) (Int32.toNatClampNeg x2) (Int16.toInt32 (Int32.toInt16 x3))) S))) else (if x1 = 3 then (ix x2 40 (some (st 3 (upd (S 3) (Int32.toNatClampNeg x2) (Int16.toInt32 (Int32.toInt16 x3))) S))) else none)))) else (if x1 = 0 then (ix x2 40 (some (st 0 (upd (S 0) (Int32.toNatClampNeg x2) x3) S))) else (if x1 = 1 then (ix x2 40 (some (st 1 (upd (S 1) (Int32.toNatClampNeg x2) x3) S))) else (if x1 = 2 then (ix x2 40 (some (st 2 (upd (S 2) (Int32.toNatClampNeg x2) x3) S))) else (if x1 = 3 then (ix x2 40 (some (st 3 (upd (S 3) (Int32.toNatClampNeg x2) x3) S))) else none)))))))
set_option maxHeartbeats 4000000 in
set_option maxRecDepth 100000 in
theorem L_X1_put {E : zEnv} {Γ : zG} (a : Nat → Nat) (C : zC E Γ cX1_put RX1 4 rm_X1_put wsX1_put) {res : St} (R : zRv E Γ cX1_put 4 (wSheets E a res)) (x1 : Int32) (x2 : Int32) (x3 : Int32) (S : St) (h : f_X1_put x1 x2 x3 S = some res) : Zt E Γ 4 0 0 (wSheets E a S) [(0, .ref (a 0)), (1, .int x1), (2, .int x2), (3, .int x3)] 0 [] := by
  unfold f_X1_put at h
  refine z_aload_n C 0 rfl rfl dX1_put_0 ?_
  refine z_get C 0 rfl (C := RX1) (T := TX1) (N := 3) (ci := 1) rfl inw_X1_put_X1 1 (by decide) (ref := "EldestAge$Sheets") (List.mem_of_getElem? (i := 1) rfl) rfl (v := .ref (a 6)) rfl dX1_put_1 ?_
  refine z_iload_n C 1 rfl rfl dX1_put_4 ?_
  refine z_iald C (N := 4) (f := (S 4)) 6 rfl h dX1_put_5 (fun h => ?_)
  by_cases hc : (S 4 (Int32.toNatClampNeg x1)) = (0 : Int32)
  · replace h := (if_e h).1 hc
    refine z_lookup C 32 (by decide) (off := 26) (by rw [hc]; rfl) (by decide) dX1_put_6 ?_
    refine z_aload_n C 0 rfl rfl dX1_put_32 ?_
    refine z_get C 0 rfl (C := RX1) (T := TX1) (N := 3) (ci := 1) rfl inw_X1_put_X1 0 (by decide) (ref := "EldestAge$Sheets") (List.mem_of_getElem? (i := 2) rfl) rfl (v := .ref (a 1)) rfl dX1_put_33 ?_
    refine z_iload_n C 1 rfl rfl dX1_put_36 ?_
    by_cases hc : x1 = 0
    · replace h := (if_e h).1 hc
      refine z_aldrII C 1 rfl (by rw [hc]; exact vp_in_iff.mpr (by decide)) (v := .ref (a 2)) (by rw [hc]; rfl) dX1_put_37 ?_
      refine z_iload_n C 2 rfl rfl dX1_put_38 ?_
      refine z_iload_n C 3 rfl rfl dX1_put_39 ?_
      refine z_i2b C dX1_put_40 ?_
      refine z_iast C (N := 40) (f := (S 0)) 2 rfl h (wSheets E a (st 0 (upd (S 0) (Int32.toNatClampNeg x2) (Int8.toInt32 (Int32.toInt8 x3))) S)) (wl_X1_put_3 E a S (upd (S 0) (Int32.toNatClampNeg x2) (Int8.toInt32 (Int32.toInt8 x3)))) dX1_put_41 (fun h => ?_)
      refine z_goto C 67 (by decide) dX1_put_42 ?_
      obtain rfl := Option.some.inj h
      exact R 67 _ dX1_put_67
    · replace h := (if_e h).2 hc
      by_cases hc : x1 = 1
      · replace h := (if_e h).1 hc
        refine z_aldrII C 1 rfl (by rw [hc]; exact vp_in_iff.mpr (by decide)) (v := .ref (a 3)) (by rw [hc]; rfl) dX1_put_37 ?_
        refine z_iload_n C 2 rfl rfl dX1_put_38 ?_
        refine z_iload_n C 3 rfl rfl dX1_put_39 ?_
        refine z_i2b C dX1_put_40 ?_
        refine z_iast C (N := 40) (f := (S 1)) 3 rfl h (wSheets E a (st 1 (upd (S 1) (Int32.toNatClampNeg x2) (Int8.toInt32 (Int32.toInt8 x3))) S)) (wl_X1_put_2 E a S (upd (S 1) (Int32.toNatClampNeg x2) (Int8.toInt32 (Int32.toInt8 x3)))) dX1_put_41 (fun h => ?_)
        refine z_goto C 67 (by decide) dX1_put_42 ?_
        obtain rfl := Option.some.inj h
        exact R 67 _ dX1_put_67
      · replace h := (if_e h).2 hc
        by_cases hc : x1 = 2
        · replace h := (if_e h).1 hc
          refine z_aldrII C 1 rfl (by rw [hc]; exact vp_in_iff.mpr (by decide)) (v := .ref (a 4)) (by rw [hc]; rfl) dX1_put_37 ?_
          refine z_iload_n C 2 rfl rfl dX1_put_38 ?_
          refine z_iload_n C 3 rfl rfl dX1_put_39 ?_
          refine z_i2b C dX1_put_40 ?_
          refine z_iast C (N := 40) (f := (S 2)) 4 rfl h (wSheets E a (st 2 (upd (S 2) (Int32.toNatClampNeg x2) (Int8.toInt32 (Int32.toInt8 x3))) S)) (wl_X1_put_1 E a S (upd (S 2) (Int32.toNatClampNeg x2) (Int8.toInt32 (Int32.toInt8 x3)))) dX1_put_41 (fun h => ?_)
          refine z_goto C 67 (by decide) dX1_put_42 ?_
          obtain rfl := Option.some.inj h
          exact R 67 _ dX1_put_67
        · replace h := (if_e h).2 hc
          by_cases hc : x1 = 3
          · replace h := (if_e h).1 hc
            refine z_aldrII C 1 rfl (by rw [hc]; exact vp_in_iff.mpr (by decide)) (v := .ref (a 5)) (by rw [hc]; rfl) dX1_put_37 ?_
            refine z_iload_n C 2 rfl rfl dX1_put_38 ?_
            refine z_iload_n C 3 rfl rfl dX1_put_39 ?_
            refine z_i2b C dX1_put_40 ?_
            refine z_iast C (N := 40) (f := (S 3)) 5 rfl h (wSheets E a (st 3 (upd (S 3) (Int32.toNatClampNeg x2) (Int8.toInt32 (Int32.toInt8 x3))) S)) (wl_X1_put_0 E a S (upd (S 3) (Int32.toNatClampNeg x2) (Int8.toInt32 (Int32.toInt8 x3)))) dX1_put_41 (fun h => ?_)
            refine z_goto C 67 (by decide) dX1_put_42 ?_
            obtain rfl := Option.some.inj h
            exact R 67 _ dX1_put_67
          · replace h := (if_e h).2 hc
            cases h
  · replace h := (if_e h).2 hc
    have n6_0 := hc
    by_cases hc : (S 4 (Int32.toNatClampNeg x1)) = (1 : Int32)
    · replace h := (if_e h).1 hc
      refine z_lookup C 45 (by decide) (off := 39) (by rw [hc]; rfl) (by decide) dX1_put_6 ?_
      refine z_aload_n C 0 rfl rfl dX1_put_45 ?_
      refine z_get C 0 rfl (C := RX1) (T := TX1) (N := 3) (ci := 1) rfl inw_X1_put_X1 0 (by decide) (ref := "EldestAge$Sheets") (List.mem_of_getElem? (i := 2) rfl) rfl (v := .ref (a 1)) rfl dX1_put_46 ?_
      refine z_iload_n C 1 rfl rfl dX1_put_49 ?_
      by_cases hc : x1 = 0
      · replace h := (if_e h).1 hc
        refine z_aldrII C 1 rfl (by rw [hc]; exact vp_in_iff.mpr (by decide)) (v := .ref (a 2)) (by rw [hc]; rfl) dX1_put_50 ?_
        refine z_iload_n C 2 rfl rfl dX1_put_51 ?_
        refine z_iload_n C 3 rfl rfl dX1_put_52 ?_
        refine z_i2s C dX1_put_53 ?_
        refine z_iast C (N := 40) (f := (S 0)) 2 rfl h (wSheets E a (st 0 (upd (S 0) (Int32.toNatClampNeg x2) (Int16.toInt32 (Int32.toInt16 x3))) S)) (wl_X1_put_3 E a S (upd (S 0) (Int32.toNatClampNeg x2) (Int16.toInt32 (Int32.toInt16 x3)))) dX1_put_54 (fun h => ?_)
        refine z_goto C 67 (by decide) dX1_put_55 ?_
        obtain rfl := Option.some.inj h
        exact R 67 _ dX1_put_67
      · replace h := (if_e h).2 hc
        by_cases hc : x1 = 1
        · replace h := (if_e h).1 hc
          refine z_aldrII C 1 rfl (by rw [hc]; exact vp_in_iff.mpr (by decide)) (v := .ref (a 3)) (by rw [hc]; rfl) dX1_put_50 ?_
          refine z_iload_n C 2 rfl rfl dX1_put_51 ?_
          refine z_iload_n C 3 rfl rfl dX1_put_52 ?_
          refine z_i2s C dX1_put_53 ?_
          refine z_iast C (N := 40) (f := (S 1)) 3 rfl h (wSheets E a (st 1 (upd (S 1) (Int32.toNatClampNeg x2) (Int16.toInt32 (Int32.toInt16 x3))) S)) (wl_X1_put_2 E a S (upd (S 1) (Int32.toNatClampNeg x2) (Int16.toInt32 (Int32.toInt16 x3)))) dX1_put_54 (fun h => ?_)
          refine z_goto C 67 (by decide) dX1_put_55 ?_
          obtain rfl := Option.some.inj h
          exact R 67 _ dX1_put_67
        · replace h := (if_e h).2 hc
          by_cases hc : x1 = 2
          · replace h := (if_e h).1 hc
            refine z_aldrII C 1 rfl (by rw [hc]; exact vp_in_iff.mpr (by decide)) (v := .ref (a 4)) (by rw [hc]; rfl) dX1_put_50 ?_
            refine z_iload_n C 2 rfl rfl dX1_put_51 ?_
            refine z_iload_n C 3 rfl rfl dX1_put_52 ?_
            refine z_i2s C dX1_put_53 ?_
            refine z_iast C (N := 40) (f := (S 2)) 4 rfl h (wSheets E a (st 2 (upd (S 2) (Int32.toNatClampNeg x2) (Int16.toInt32 (Int32.toInt16 x3))) S)) (wl_X1_put_1 E a S (upd (S 2) (Int32.toNatClampNeg x2) (Int16.toInt32 (Int32.toInt16 x3)))) dX1_put_54 (fun h => ?_)
            refine z_goto C 67 (by decide) dX1_put_55 ?_
            obtain rfl := Option.some.inj h
            exact R 67 _ dX1_put_67
          · replace h := (if_e h).2 hc
            by_cases hc : x1 = 3
            · replace h := (if_e h).1 hc
              refine z_aldrII C 1 rfl (by rw [hc]; exact vp_in_iff.mpr (by decide)) (v := .ref (a 5)) (by rw [hc]; rfl) dX1_put_50 ?_
              refine z_iload_n C 2 rfl rfl dX1_put_51 ?_
              refine z_iload_n C 3 rfl rfl dX1_put_52 ?_
              refine z_i2s C dX1_put_53 ?_
              refine z_iast C (N := 40) (f := (S 3)) 5 rfl h (wSheets E a (st 3 (upd (S 3) (Int32.toNatClampNeg x2) (Int16.toInt32 (Int32.toInt16 x3))) S)) (wl_X1_put_0 E a S (upd (S 3) (Int32.toNatClampNeg x2) (Int16.toInt32 (Int32.toInt16 x3)))) dX1_put_54 (fun h => ?_)
              refine z_goto C 67 (by decide) dX1_put_55 ?_
              obtain rfl := Option.some.inj h
              exact R 67 _ dX1_put_67
            · replace h := (if_e h).2 hc
              cases h
    · replace h := (if_e h).2 hc
      have n6_1 := hc
      refine z_lookup C 58 (by decide) (z_lko2 n6_0 n6_1) (by decide) dX1_put_6 ?_
      refine z_aload_n C 0 rfl rfl dX1_put_58 ?_
      refine z_get C 0 rfl (C := RX1) (T := TX1) (N := 3) (ci := 1) rfl inw_X1_put_X1 0 (by decide) (ref := "EldestAge$Sheets") (List.mem_of_getElem? (i := 2) rfl) rfl (v := .ref (a 1)) rfl dX1_put_59 ?_
      refine z_iload_n C 1 rfl rfl dX1_put_62 ?_
      by_cases hc : x1 = 0
      · replace h := (if_e h).1 hc
        refine z_aldrII C 1 rfl (by rw [hc]; exact vp_in_iff.mpr (by decide)) (v := .ref (a 2)) (by rw [hc]; rfl) dX1_put_63 ?_
        refine z_iload_n C 2 rfl rfl dX1_put_64 ?_
        refine z_iload_n C 3 rfl rfl dX1_put_65 ?_
        refine z_iast C (N := 40) (f := (S 0)) 2 rfl h (wSheets E a (st 0 (upd (S 0) (Int32.toNatClampNeg x2) x3) S)) (wl_X1_put_3 E a S (upd (S 0) (Int32.toNatClampNeg x2) x3)) dX1_put_66 (fun h => ?_)
        obtain rfl := Option.some.inj h
        exact R 67 _ dX1_put_67
      · replace h := (if_e h).2 hc
        by_cases hc : x1 = 1
        · replace h := (if_e h).1 hc
          refine z_aldrII C 1 rfl (by rw [hc]; exact vp_in_iff.mpr (by decide)) (v := .ref (a 3)) (by rw [hc]; rfl) dX1_put_63 ?_
          refine z_iload_n C 2 rfl rfl dX1_put_64 ?_
          refine z_iload_n C 3 rfl rfl dX1_put_65 ?_
          refine z_iast C (N := 40) (f := (S 1)) 3 rfl h (wSheets E a (st 1 (upd (S 1) (Int32.toNatClampNeg x2) x3) S)) (wl_X1_put_2 E a S (upd (S 1) (Int32.toNatClampNeg x2) x3)) dX1_put_66 (fun h => ?_)
          obtain rfl := Option.some.inj h
          exact R 67 _ dX1_put_67
        · replace h := (if_e h).2 hc
          by_cases hc : x1 = 2
          · replace h := (if_e h).1 hc
            refine z_aldrII C 1 rfl (by rw [hc]; exact vp_in_iff.mpr (by decide)) (v := .ref (a 4)) (by rw [hc]; rfl) dX1_put_63 ?_
            refine z_iload_n C 2 rfl rfl dX1_put_64 ?_
            refine z_iload_n C 3 rfl rfl dX1_put_65 ?_
            refine z_iast C (N := 40) (f := (S 2)) 4 rfl h (wSheets E a (st 2 (upd (S 2) (Int32.toNatClampNeg x2) x3) S)) (wl_X1_put_1 E a S (upd (S 2) (Int32.toNatClampNeg x2) x3)) dX1_put_66 (fun h => ?_)
            obtain rfl := Option.some.inj h
            exact R 67 _ dX1_put_67
          · replace h := (if_e h).2 hc
            by_cases hc : x1 = 3
            · replace h := (if_e h).1 hc
              refine z_aldrII C 1 rfl (by rw [hc]; exact vp_in_iff.mpr (by decide)) (v := .ref (a 5)) (by rw [hc]; rfl) dX1_put_63 ?_
              refine z_iload_n C 2 rfl rfl dX1_put_64 ?_
              refine z_iload_n C 3 rfl rfl dX1_put_65 ?_
              refine z_iast C (N := 40) (f := (S 3)) 5 rfl h (wSheets E a (st 3 (upd (S 3) (Int32.toNatClampNeg x2) x3) S)) (wl_X1_put_0 E a S (upd (S 3) (Int32.toNatClampNeg x2) x3)) dX1_put_66 (fun h => ?_)
              obtain rfl := Option.some.inj h
              exact R 67 _ dX1_put_67
            · replace h := (if_e h).2 hc
              cases h

theorem c_X1_put (E : zEnv) (a : Nat → Nat) (x1 : Int32) (x2 : Int32) (x3 : Int32) (S : St) {res : St} (h : f_X1_put x1 x2 x3 S = some res) : Ktv E yX1_put wsX1_put rm_X1_put (wSheets E a S) (wSheets E a res) [.ref (a 0), .int x1, .int x2, .int x3] :=
  z_entv (cc := cX1_put) (maxL := 4) (by decide +kernel) rfl (Nat.le_of_ble_eq_true rfl) (fun Γ C R => L_X1_put a C R x1 x2 x3 S h)
