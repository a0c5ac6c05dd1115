abbrev rm_X7_nameHere : Room := { frames := 1, cells := 0, slots := 0, locals := 21 }
theorem inw_X7_nameHere_X7 : ∀ w ∈ wsX70, w ∈ wsX7_nameHere := fun _ h => List.mem_cons_of_mem _ (List.mem_append_right _ h)
set_option maxHeartbeats 4000000 in
theorem wl_X7_nameHere_0 (E : zEnv) (a : Nat → Nat) (S : St) : ([0, 1, 2, 3, 4, 5, 6, 7, 8, 9, 10, 11, 12, 13, 14, 15, 16] : List Nat).map (fun i => (wModel E a S)[i]?) = (wModel E a S).map some := rfl
set_option maxHeartbeats 4000000 in
theorem wl_X7_nameHere_1 (E : zEnv) (a : Nat → Nat) (S U : St) : (wModel E a U).map (fun q => q.1) = (wModel E a S).map (fun q => q.1) := rfl
noncomputable def f_X7_nameHere_99 (k2 : Int32 → St → Option Int32) (k51 : Int32 → Int32 → Int32 → St → Option Int32) (x1 : Int32) (x3 : Int32) (y0 : Int32) (S : St) : Option Int32 := (k51 x1 y0 (x3 + (1 : Int32)) S)
noncomputable def f_X7_nameHere_106 (k2 : Int32 → St → Option Int32) (x1 : Int32) (x2 : Int32) (S : St) : Option Int32 := (if x2 = 0 then (k2 (x1 + (1 : Int32)) S) else (some x1))
noncomputable def f_X7_nameHere_51 (k2 : Int32 → St → Option Int32) (n : Nat) : Int32 → Int32 → Int32 → St → Option Int32 := Nat.rec (motive := fun _ => Int32 → Int32 → Int32 → St → Option Int32) (fun _ _ _ _ => none) (fun _ ih => fun x1 x2 x3 S => (if x2 = 0 then (f_X7_nameHere_106 k2 x1 x2 S) else (if ((S 13 0) - (S 14 0)) ≤ x3 then (f_X7_nameHere_106 k2 x1 x2 S) else ((f_X7_byteAt ((S 14 0) + x3) S).bind (fun q1 => (ix x1 16 (ix ((S 17 (Int32.toNatClampNeg x1)) + x3) 72 (if q1 = (S 18 (Int32.toNatClampNeg ((S 17 (Int32.toNatClampNeg x1)) + x3))) then (f_X7_nameHere_99 k2 ih x1 x3 (1 : Int32) S) else (f_X7_nameHere_99 k2 ih x1 x3 (0 : Int32) S))))))))) n
theorem f_X7_nameHere_51_s (k2 : Int32 → St → Option Int32) (n : Nat) (x1 : Int32) (x2 : Int32) (x3 : Int32) (S : St) : f_X7_nameHere_51 k2 (n + 1) x1 x2 x3 S = (if x2 = 0 then (f_X7_nameHere_106 k2 x1 x2 S) else (if ((S 13 0) - (S 14 0)) ≤ x3 then (f_X7_nameHere_106 k2 x1 x2 S) else ((f_X7_byteAt ((S 14 0) + x3) S).bind (fun q1 => (ix x1 16 (ix ((S 17 (Int32.toNatClampNeg x1)) + x3) 72 (if q1 = (S 18 (Int32.toNatClampNeg ((S 17 (Int32.toNatClampNeg x1)) + x3))) then (f_X7_nameHere_99 k2 (f_X7_nameHere_51 k2 n) x1 x3 (1 : Int32) S) else (f_X7_nameHere_99 k2 (f_X7_nameHere_51 k2 n) x1 x3 (0 : Int32) S)))))))) := rfl
noncomputable def f_X7_nameHere_48 (k2 : Int32 → St → Option Int32) (x1 : Int32) (y0 : Int32) (S : St) : Option Int32 := (f_X7_nameHere_51 k2 1000 x1 y0 (0 : Int32) S)
noncomputable def f_X7_nameHere_2 (n : Nat) : Int32 → St → Option Int32 := Nat.rec (motive := fun _ => Int32 → St → Option Int32) (fun _ _ => none) (fun _ ih => fun x1 S => (if (15 : Int32) ≤ x1 then (some (-4 : Int32)) else (if (S 15 0) = (1 : Int32) then (ix (x1 + (1 : Int32)) 16 (ix x1 16 (if ((S 13 0) - (S 14 0)) = ((S 17 (Int32.toNatClampNeg (x1 + (1 : Int32)))) - (S 17 (Int32.toNatClampNeg x1))) then (f_X7_nameHere_48 ih x1 (1 : Int32) S) else (f_X7_nameHere_48 ih x1 (0 : Int32) S)))) else (some (-4 : Int32))))) n
theorem f_X7_nameHere_2_s (n : Nat) (x1 : Int32) (S : St) : f_X7_nameHere_2 (n + 1) x1 S = (if (15 : Int32) ≤ x1 then (some (-4 : Int32)) else (if (S 15 0) = (1 : Int32) then (ix (x1 + (1 : Int32)) 16 (ix x1 16 (if ((S 13 0) - (S 14 0)) = ((S 17 (Int32.toNatClampNeg (x1 + (1 : Int32)))) - (S 17 (Int32.toNatClampNeg x1))) then (f_X7_nameHere_48 (f_X7_nameHere_2 n) x1 (1 : Int32) S) else (f_X7_nameHere_48 (f_X7_nameHere_2 n) x1 (0 : Int32) S)))) else (some (-4 : Int32)))) := rfl
noncomputable def f_X7_nameHere (S : St) : Option Int32 := (f_X7_nameHere_2 1000 (0 : Int32) S)
set_option maxHeartbeats 4000000 in
set_option maxRecDepth 100000 in
theorem L_X7_nameHere_99 {E : zEnv} {Γ : zG} (a : Nat → Nat) (C : zC E Γ cX7_nameHere RX7 4 rm_X7_nameHere wsX7_nameHere) {res : Int32} {S : St} (R : zRi E Γ cX7_nameHere 4 .int (wModel E a S) res) (k2 : Int32 → St → Option Int32) (hk2 : ∀ (x1 : Int32), k2 x1 S = some res → Zt E Γ 4 0 0 (wModel E a S) [(0, .ref (a 0)), (1, .int x1)] 2 []) (k51 : Int32 → Int32 → Int32 → St → Option Int32) (hk51 : ∀ (x1 : Int32) (x2 : Int32) (x3 : Int32), k51 x1 x2 x3 S = some res → Zt E Γ 4 0 0 (wModel E a S) [(0, .ref (a 0)), (1, .int x1), (2, .int x2), (3, .int x3)] 51 []) (x1 : Int32) (x3 : Int32) (y0 : Int32) (h : f_X7_nameHere_99 k2 k51 x1 x3 y0 S = some res) : Zt E Γ 4 0 0 (wModel E a S) [(0, .ref (a 0)), (1, .int x1), (3, .int x3)] 99 [.int y0] := by
  unfold f_X7_nameHere_99 at h
  refine z_istore_n C [(2, .int y0), (0, .ref (a 0)), (1, .int x1), (3, .int x3)] rfl (by decide) rfl dX7_nameHere_99 ?_
  refine z_iinc C [(3, .int (x3 + (1 : Int32))), (2, .int y0), (0, .ref (a 0)), (1, .int x1)] 3 rfl (by first | rfl | decide) (by decide) rfl dX7_nameHere_100 ?_
  refine z_goto C 51 (by decide) dX7_nameHere_103 ?_
  refine Zt_l [(0, .ref (a 0)), (1, .int x1), (2, .int y0), (3, .int (x3 + (1 : Int32)))] [2, 3, 1, 0] rfl ?_
  exact hk51 x1 y0 (x3 + (1 : Int32)) h

set_option maxHeartbeats 4000000 in
set_option maxRecDepth 100000 in
theorem L_X7_nameHere_106 {E : zEnv} {Γ : zG} (a : Nat → Nat) (C : zC E Γ cX7_nameHere RX7 4 rm_X7_nameHere wsX7_nameHere) {res : Int32} {S : St} (R : zRi E Γ cX7_nameHere 4 .int (wModel E a S) res) (k2 : Int32 → St → Option Int32) (hk2 : ∀ (x1 : Int32), k2 x1 S = some res → Zt E Γ 4 0 0 (wModel E a S) [(0, .ref (a 0)), (1, .int x1)] 2 []) (x1 : Int32) (x2 : Int32) (h : f_X7_nameHere_106 k2 x1 x2 S = some res) : Zt E Γ 4 0 0 (wModel E a S) [(0, .ref (a 0)), (1, .int x1), (2, .int x2)] 106 [] := by
  unfold f_X7_nameHere_106 at h
  refine z_iload_n C 2 rfl rfl dX7_nameHere_106 ?_
  refine z_if_eq C 112 (by decide) h dX7_nameHere_107 (fun hc h => ?_) (fun hc h => ?_)
  · refine z_iinc C [(1, .int (x1 + (1 : Int32))), (0, .ref (a 0)), (2, .int x2)] 1 rfl (by first | rfl | decide) (by decide) rfl dX7_nameHere_112 ?_
    refine z_goto C 2 (by decide) dX7_nameHere_115 ?_
    refine Zt_l [(0, .ref (a 0)), (1, .int (x1 + (1 : Int32)))] [1, 0] rfl ?_
    exact hk2 (x1 + (1 : Int32)) h
  · refine z_iload_n C 1 rfl rfl dX7_nameHere_110 ?_
    obtain rfl := Option.some.inj h
    exact R rfl 111 _ dX7_nameHere_111

set_option maxHeartbeats 4000000 in
set_option maxRecDepth 100000 in
theorem L_X7_nameHere_51 {E : zEnv} {Γ : zG} (a : Nat → Nat) (C : zC E Γ cX7_nameHere RX7 4 rm_X7_nameHere wsX7_nameHere) {res : Int32} {S : St} (R : zRi E Γ cX7_nameHere 4 .int (wModel E a S) res) (k2 : Int32 → St → Option Int32) (hk2 : ∀ (x1 : Int32), k2 x1 S = some res → Zt E Γ 4 0 0 (wModel E a S) [(0, .ref (a 0)), (1, .int x1)] 2 []) : ∀ (n : Nat) (x1 : Int32) (x2 : Int32) (x3 : Int32), f_X7_nameHere_51 k2 n x1 x2 x3 S = some res → Zt E Γ 4 0 0 (wModel E a S) [(0, .ref (a 0)), (1, .int x1), (2, .int x2), (3, .int x3)] 51 [] := by
  intro n
  induction n with
  | zero =>
    intro x1 x2 x3 h
    cases h
  | succ n ih =>
    intro x1 x2 x3 h
    rw [f_X7_nameHere_51_s] at h
    refine z_iload_n C 2 rfl rfl dX7_nameHere_51 ?_
    refine z_if_eq C 106 (by decide) h dX7_nameHere_52 (fun hc h => ?_) (fun hc h => ?_)
    · refine Zt_l [(0, .ref (a 0)), (1, .int x1), (2, .int x2)] [0, 1, 2] rfl ?_
      exact L_X7_nameHere_106 a C R k2 hk2 x1 x2 h
    · refine z_iload_n C 3 rfl rfl dX7_nameHere_55 ?_
      refine z_aload_n C 0 rfl rfl dX7_nameHere_56 ?_
      refine z_get C 0 rfl (C := RX7) (T := TX7) (N := 38) (ci := 7) rfl inw_X7_nameHere_X7 13 (by decide) (ref := "EldestAgeModel") (List.mem_of_getElem? (i := 2) rfl) rfl (v := .int (S 13 0)) rfl dX7_nameHere_57 ?_
      refine z_aload_n C 0 rfl rfl dX7_nameHere_60 ?_
      refine z_get C 0 rfl (C := RX7) (T := TX7) (N := 38) (ci := 7) rfl inw_X7_nameHere_X7 14 (by decide) (ref := "EldestAgeModel") (List.mem_of_getElem? (i := 3) rfl) rfl (v := .int (S 14 0)) rfl dX7_nameHere_61 ?_
      refine z_isub C dX7_nameHere_64 ?_
      refine z_icmp_ge C 106 (by decide) h dX7_nameHere_65 (fun hc h => ?_) (fun hc h => ?_)
      · refine Zt_l [(0, .ref (a 0)), (1, .int x1), (2, .int x2)] [0, 1, 2] rfl ?_
        exact L_X7_nameHere_106 a C R k2 hk2 x1 x2 h
      · refine z_aload_n C 0 rfl rfl dX7_nameHere_68 ?_
        refine z_aload_n C 0 rfl rfl dX7_nameHere_69 ?_
        refine z_get C 0 rfl (C := RX7) (T := TX7) (N := 38) (ci := 7) rfl inw_X7_nameHere_X7 14 (by decide) (ref := "EldestAgeModel") (List.mem_of_getElem? (i := 3) rfl) rfl (v := .int (S 14 0)) rfl dX7_nameHere_70 ?_
        refine z_iload_n C 3 rfl rfl dX7_nameHere_73 ?_
        refine z_iadd C dX7_nameHere_74 ?_
        obtain ⟨q1, e1, h⟩ := bd_e h
        refine z_callVi C (b := a 0) (As := [.int ((S 14 0) + x3)]) (rest := []) (c_X7_byteAt E a ((S 14 0) + x3) S e1) rfl gX7_nameHere_X7_byteAt rfl rfl rfl 1 rfl (by decide +kernel) ⟨Nat.le_of_ble_eq_true rfl, Nat.le_of_ble_eq_true rfl⟩ [0, 1, 2, 3, 4, 5, 6, 7, 8, 9, 10, 11, 12, 13, 14, 15, 16] (wl_X7_nameHere_0 E a S) (by decide) rfl (wModel E a S) (zrep_self (wl_X7_nameHere_0 E a S)) 0 7 rfl rfl rfl (Nat.le_of_ble_eq_true rfl) dX7_nameHere_75 ⟨Nat.zero_le _, Nat.zero_le _⟩ _ rfl ?_
        refine z_aload_n C 0 rfl rfl dX7_nameHere_78 ?_
        refine z_get C 0 rfl (C := RX7) (T := TX7) (N := 38) (ci := 7) rfl inw_X7_nameHere_X7 18 (by decide) (ref := "EldestAgeModel") (List.mem_of_getElem? (i := 5) rfl) rfl (v := .ref (a 5)) rfl dX7_nameHere_79 ?_
        refine z_aload_n C 0 rfl rfl dX7_nameHere_82 ?_
        refine z_get C 0 rfl (C := RX7) (T := TX7) (N := 38) (ci := 7) rfl inw_X7_nameHere_X7 17 (by decide) (ref := "EldestAgeModel") (List.mem_of_getElem? (i := 4) rfl) rfl (v := .ref (a 4)) rfl dX7_nameHere_83 ?_
        refine z_iload_n C 1 rfl rfl dX7_nameHere_86 ?_
        refine z_iald C (N := 16) (f := (S 17)) 4 rfl h dX7_nameHere_87 (fun h => ?_)
        refine z_iload_n C 3 rfl rfl dX7_nameHere_88 ?_
        refine z_iadd C dX7_nameHere_89 ?_
        refine z_iald C (N := 72) (f := (S 18)) 5 rfl h dX7_nameHere_90 (fun h => ?_)
        refine z_icmp_ne C 98 (by decide) h dX7_nameHere_91 (fun hc h => ?_) (fun hc h => ?_)
        · refine z_iconst C (v := (1 : Int32)) (by decide) dX7_nameHere_94 ?_
          refine z_goto C 99 (by decide) dX7_nameHere_95 ?_
          refine Zt_l [(0, .ref (a 0)), (1, .int x1), (3, .int x3)] [0, 1, 3] rfl ?_
          exact L_X7_nameHere_99 a C R k2 hk2 _ ih x1 x3 (1 : Int32) h
        · refine z_iconst C (v := (0 : Int32)) (by decide) dX7_nameHere_98 ?_
          refine Zt_l [(0, .ref (a 0)), (1, .int x1), (3, .int x3)] [0, 1, 3] rfl ?_
          exact L_X7_nameHere_99 a C R k2 hk2 _ ih x1 x3 (0 : Int32) h

set_option maxHeartbeats 4000000 in
set_option maxRecDepth 100000 in
theorem L_X7_nameHere_48 {E : zEnv} {Γ : zG} (a : Nat → Nat) (C : zC E Γ cX7_nameHere RX7 4 rm_X7_nameHere wsX7_nameHere) {res : Int32} {S : St} (R : zRi E Γ cX7_nameHere 4 .int (wModel E a S) res) (k2 : Int32 → St → Option Int32) (hk2 : ∀ (x1 : Int32), k2 x1 S = some res → Zt E Γ 4 0 0 (wModel E a S) [(0, .ref (a 0)), (1, .int x1)] 2 []) (x1 : Int32) (y0 : Int32) (h : f_X7_nameHere_48 k2 x1 y0 S = some res) : Zt E Γ 4 0 0 (wModel E a S) [(0, .ref (a 0)), (1, .int x1)] 48 [.int y0] := by
  unfold f_X7_nameHere_48 at h
  refine z_istore_n C [(2, .int y0), (0, .ref (a 0)), (1, .int x1)] rfl (by decide) rfl dX7_nameHere_48 ?_
  refine z_iconst C (v := (0 : Int32)) (by decide) dX7_nameHere_49 ?_
  refine z_istore_n C [(3, .int (0 : Int32)), (2, .int y0), (0, .ref (a 0)), (1, .int x1)] rfl (by decide) rfl dX7_nameHere_50 ?_
  refine Zt_l [(0, .ref (a 0)), (1, .int x1), (2, .int y0), (3, .int (0 : Int32))] [2, 3, 1, 0] rfl ?_
  exact L_X7_nameHere_51 a C R k2 hk2 1000 x1 y0 (0 : Int32) h

set_option maxHeartbeats 4000000 in
set_option maxRecDepth 100000 in
theorem L_X7_nameHere_2 {E : zEnv} {Γ : zG} (a : Nat → Nat) (C : zC E Γ cX7_nameHere RX7 4 rm_X7_nameHere wsX7_nameHere) {res : Int32} {S : St} (R : zRi E Γ cX7_nameHere 4 .int (wModel E a S) res) : ∀ (n : Nat) (x1 : Int32), f_X7_nameHere_2 n x1 S = some res → Zt E Γ 4 0 0 (wModel E a S) [(0, .ref (a 0)), (1, .int x1)] 2 [] := by
  intro n
  induction n with
  | zero =>
    intro x1 h
    cases h
  | succ n ih =>
    intro x1 h
    rw [f_X7_nameHere_2_s] at h
    refine z_iload_n C 1 rfl rfl dX7_nameHere_2 ?_
    refine z_bipush C (v := (15 : Int32)) (by decide) dX7_nameHere_3 ?_
    refine z_icmp_ge C 118 (by decide) h dX7_nameHere_5 (fun hc h => ?_) (fun hc h => ?_)
    · refine z_bipush C (v := (-4 : Int32)) (by decide) dX7_nameHere_118 ?_
      obtain rfl := Option.some.inj h
      exact R rfl 120 _ dX7_nameHere_120
    · refine z_aload_n C 0 rfl rfl dX7_nameHere_8 ?_
      refine z_get C 0 rfl (C := RX7) (T := TX7) (N := 38) (ci := 7) rfl inw_X7_nameHere_X7 15 (by decide) (ref := "EldestAgeModel") (List.mem_of_getElem? (i := 1) rfl) rfl (v := .int (S 15 0)) rfl dX7_nameHere_9 ?_
      refine z_iconst C (v := (1 : Int32)) (by decide) dX7_nameHere_12 ?_
      refine z_icmp_ne C 118 (by decide) h dX7_nameHere_13 (fun hc h => ?_) (fun hc h => ?_)
      · refine z_aload_n C 0 rfl rfl dX7_nameHere_16 ?_
        refine z_get C 0 rfl (C := RX7) (T := TX7) (N := 38) (ci := 7) rfl inw_X7_nameHere_X7 13 (by decide) (ref := "EldestAgeModel") (List.mem_of_getElem? (i := 2) rfl) rfl (v := .int (S 13 0)) rfl dX7_nameHere_17 ?_
        refine z_aload_n C 0 rfl rfl dX7_nameHere_20 ?_
        refine z_get C 0 rfl (C := RX7) (T := TX7) (N := 38) (ci := 7) rfl inw_X7_nameHere_X7 14 (by decide) (ref := "EldestAgeModel") (List.mem_of_getElem? (i := 3) rfl) rfl (v := .int (S 14 0)) rfl dX7_nameHere_21 ?_
        refine z_isub C dX7_nameHere_24 ?_
        refine z_aload_n C 0 rfl rfl dX7_nameHere_25 ?_
        refine z_get C 0 rfl (C := RX7) (T := TX7) (N := 38) (ci := 7) rfl inw_X7_nameHere_X7 17 (by decide) (ref := "EldestAgeModel") (List.mem_of_getElem? (i := 4) rfl) rfl (v := .ref (a 4)) rfl dX7_nameHere_26 ?_
        refine z_iload_n C 1 rfl rfl dX7_nameHere_29 ?_
        refine z_iconst C (v := (1 : Int32)) (by decide) dX7_nameHere_30 ?_
        refine z_iadd C dX7_nameHere_31 ?_
        refine z_iald C (N := 16) (f := (S 17)) 4 rfl h dX7_nameHere_32 (fun h => ?_)
        refine z_aload_n C 0 rfl rfl dX7_nameHere_33 ?_
        refine z_get C 0 rfl (C := RX7) (T := TX7) (N := 38) (ci := 7) rfl inw_X7_nameHere_X7 17 (by decide) (ref := "EldestAgeModel") (List.mem_of_getElem? (i := 4) rfl) rfl (v := .ref (a 4)) rfl dX7_nameHere_34 ?_
        refine z_iload_n C 1 rfl rfl dX7_nameHere_37 ?_
        refine z_iald C (N := 16) (f := (S 17)) 4 rfl h dX7_nameHere_38 (fun h => ?_)
        refine z_isub C dX7_nameHere_39 ?_
        refine z_icmp_ne C 47 (by decide) h dX7_nameHere_40 (fun hc h => ?_) (fun hc h => ?_)
        · refine z_iconst C (v := (1 : Int32)) (by decide) dX7_nameHere_43 ?_
          refine z_goto C 48 (by decide) dX7_nameHere_44 ?_
          exact L_X7_nameHere_48 a C R _ ih x1 (1 : Int32) h
        · refine z_iconst C (v := (0 : Int32)) (by decide) dX7_nameHere_47 ?_
          exact L_X7_nameHere_48 a C R _ ih x1 (0 : Int32) h
      · refine z_bipush C (v := (-4 : Int32)) (by decide) dX7_nameHere_118 ?_
        obtain rfl := Option.some.inj h
        exact R rfl 120 _ dX7_nameHere_120

set_option maxHeartbeats 4000000 in
set_option maxRecDepth 100000 in
theorem L_X7_nameHere {E : zEnv} {Γ : zG} (a : Nat → Nat) (C : zC E Γ cX7_nameHere RX7 4 rm_X7_nameHere wsX7_nameHere) {res : Int32} {S : St} (R : zRi E Γ cX7_nameHere 4 .int (wModel E a S) res) (h : f_X7_nameHere S = some res) : Zt E Γ 4 0 0 (wModel E a S) [(0, .ref (a 0))] 0 [] := by
  unfold f_X7_nameHere at h
  refine z_iconst C (v := (0 : Int32)) (by decide) dX7_nameHere_0 ?_
  refine z_istore_n C [(1, .int (0 : Int32)), (0, .ref (a 0))] rfl (by decide) rfl dX7_nameHere_1 ?_
  refine Zt_l [(0, .ref (a 0)), (1, .int (0 : Int32))] [1, 0] rfl ?_
  exact L_X7_nameHere_2 a C R 1000 (0 : Int32) h

theorem c_X7_nameHere (E : zEnv) (a : Nat → Nat) (S : St) {res : Int32} (h : f_X7_nameHere S = some res) : Kti E yX7_nameHere wsX7_nameHere rm_X7_nameHere (wModel E a S) (wModel E a S) [.ref (a 0)] res :=
  z_enti (cc := cX7_nameHere) (maxL := 4) (rt := .int) (by decide +kernel) rfl (Nat.le_of_ble_eq_true rfl) (fun Γ C R => L_X7_nameHere a C R h)

abbrev rm_X7_step : Room := { frames := 1, cells := 0, slots := 0, locals := 25 }
theorem inw_X7_step_X7 : ∀ w ∈ wsX70, w ∈ wsX7_step := fun _ h => List.mem_cons_of_mem _ (List.mem_append_right _ h)
set_option maxHeartbeats 4000000 in
theorem wl_X7_step_0 (E : zEnv) (a : Nat → Nat) (S : St) (v : Int32) : (wModel E a (st 15 (fun _ => v) S)) = (wModel E a S).set 0 (a 0, .inr (7, List.set [.ref (a 1), .int (S 1 0), .ref (a 2), .int (S 3 0), .int (S 4 0), .int (S 5 0), .int (S 6 0), .int (S 7 0), .ref (a 3), .int (S 9 0), .int (S 10 0), .int (S 11 0), .int (S 12 0), .int (S 13 0), .int (S 14 0), .int (S 15 0), .int (S 16 0), .ref (a 4), .ref (a 5), .int (S 19 0), .int (S 20 0), .int (S 21 0), .int (S 22 0), .ref (a 6), .int (S 24 0), .ref (a 7), .int (S 26 0), .ref (a 8), .ref (a 9), .ref (a 10), .ref (a 11), .ref (a 12), .int (S 32 0), .ref (a 13), .ref (a 14), .ref (a 15), .ref (a 16), .int (S 37 0)] 15 (.int v))) := rfl
set_option maxHeartbeats 4000000 in
theorem wl_X7_step_1 (E : zEnv) (a : Nat → Nat) (S : St) : ([0, 1, 2, 3, 4, 5, 6, 7, 8, 9, 10, 11, 12, 13, 14, 15, 16] : List Nat).map (fun i => (wModel E a S)[i]?) = (wModel E a S).map some := rfl
set_option maxHeartbeats 4000000 in
theorem wl_X7_step_2 (E : zEnv) (a : Nat → Nat) (S U : St) : (wModel E a U).map (fun q => q.1) = (wModel E a S).map (fun q => q.1) := rfl
set_option maxHeartbeats 4000000 in
theorem wl_X7_step_3 (E : zEnv) (a : Nat → Nat) (S : St) (v : Int32) : (wModel E a (st 13 (fun _ => v) S)) = (wModel E a S).set 0 (a 0, .inr (7, List.set [.ref (a 1), .int (S 1 0), .ref (a 2), .int (S 3 0), .int (S 4 0), .int (S 5 0), .int (S 6 0), .int (S 7 0), .ref (a 3), .int (S 9 0), .int (S 10 0), .int (S 11 0), .int (S 12 0), .int (S 13 0), .int (S 14 0), .int (S 15 0), .int (S 16 0), .ref (a 4), .ref (a 5), .int (S 19 0), .int (S 20 0), .int (S 21 0), .int (S 22 0), .ref (a 6), .int (S 24 0), .ref (a 7), .int (S 26 0), .ref (a 8), .ref (a 9), .ref (a 10), .ref (a 11), .ref (a 12), .int (S 32 0), .ref (a 13), .ref (a 14), .ref (a 15), .ref (a 16), .int (S 37 0)] 13 (.int v))) := rfl
set_option maxHeartbeats 4000000 in
theorem wl_X7_step_4 (E : zEnv) (a : Nat → Nat) (S : St) (v : Int32) : (wModel E a (st 16 (fun _ => v) S)) = (wModel E a S).set 0 (a 0, .inr (7, List.set [.ref (a 1), .int (S 1 0), .ref (a 2), .int (S 3 0), .int (S 4 0), .int (S 5 0), .int (S 6 0), .int (S 7 0), .ref (a 3), .int (S 9 0), .int (S 10 0), .int (S 11 0), .int (S 12 0), .int (S 13 0), .int (S 14 0), .int (S 15 0), .int (S 16 0), .ref (a 4), .ref (a 5), .int (S 19 0), .int (S 20 0), .int (S 21 0), .int (S 22 0), .ref (a 6), .int (S 24 0), .ref (a 7), .int (S 26 0), .ref (a 8), .ref (a 9), .ref (a 10), .ref (a 11), .ref (a 12), .int (S 32 0), .ref (a 13), .ref (a 14), .ref (a 15), .ref (a 16), .int (S 37 0)] 16 (.int v))) := rfl
set_option maxHeartbeats 4000000 in
theorem wl_X7_step_5 (E : zEnv) (a : Nat → Nat) (S U : St) : (wModel E a U) = zrep [0, 1, 2, 3, 4, 5, 6, 7, 8, 9, 10, 11, 12, 13, 14, 15, 16] (wModel E a U) (wModel E a S) := zrep_of (isR := []) 17 rfl [] rfl rfl rfl rfl (by decide +kernel) (by decide +kernel)
set_option maxHeartbeats 4000000 in
theorem wl_X7_step_6 (E : zEnv) (a : Nat → Nat) (S : St) (v : Int32) : (wModel E a (st 14 (fun _ => v) S)) = (wModel E a S).set 0 (a 0, .inr (7, List.set [.ref (a 1), .int (S 1 0), .ref (a 2), .int (S 3 0), .int (S 4 0), .int (S 5 0), .int (S 6 0), .int (S 7 0), .ref (a 3), .int (S 9 0), .int (S 10 0), .int (S 11 0), .int (S 12 0), .int (S 13 0), .int (S 14 0), .int (S 15 0), .int (S 16 0), .ref (a 4), .ref (a 5), .int (S 19 0), .int (S 20 0), .int (S 21 0), .int (S 22 0), .ref (a 6), .int (S 24 0), .ref (a 7), .int (S 26 0), .ref (a 8), .ref (a 9), .ref (a 10), .ref (a 11), .ref (a 12), .int (S 32 0), .ref (a 13), .ref (a 14), .ref (a 15), .ref (a 16), .int (S 37 0)] 14 (.int v))) := rfl
noncomputable def f_X7_step_118 (S : St) : Option St := (some (st 15 (fun _ => (1 : Int32)) S))
noncomputable def f_X7_step_84 (n : Nat) : St → Option St := Nat.rec (motive := fun _ => St → Option St) (fun _ => none) (fun _ ih => fun S => ((f_X7_byteAt (S 13 0) S).bind (fun q1 => ((f_X7_in (Int32.toInt64 q1) (97 : Int64) (122 : Int64)).bind (fun q2 => (if q2 = 0 then (f_X7_step_118 S) else (ih  (st 13 (fun _ => ((S 13 0) + (1 : Int32))) S)))))))) n
theorem f_X7_step_84_s (n : Nat) (S : St) : f_X7_step_84 (n + 1) S = ((f_X7_byteAt (S 13 0) S).bind (fun q1 => ((f_X7_in (Int32.toInt64 q1) (97 : Int64) (122 : Int64)).bind (fun q2 => (if q2 = 0 then (f_X7_step_118 S) else ((f_X7_step_84 n)  (st 13 (fun _ => ((S 13 0) + (1 : Int32))) S))))))) := rfl
noncomputable def f_X7_step_201 (k140 : St → Option St) (y1 : Int32) (S : St) : Option St := (k140  (st 13 (fun _ => ((S 13 0) + (1 : Int32))) (st 16 (fun _ => y1) S)))
noncomputable def f_X7_step_217 (S : St) : Option St := (if ((S 13 0) - (S 14 0)) ≤ (3 : Int32) then (some (st 15 (fun _ => (2 : Int32)) S)) else ((f_X7_fails (1 : Int32) (st 15 (fun _ => (2 : Int32)) S)).bind (fun q3 => (some q3))))
noncomputable def f_X7_step_140 (n : Nat) : St → Option St := Nat.rec (motive := fun _ => St → Option St) (fun _ => none) (fun _ ih => fun S => ((f_X7_byteAt (S 13 0) S).bind (fun q4 => ((f_X7_in (Int32.toInt64 q4) (48 : Int64) (57 : Int64)).bind (fun q5 => (if q5 = 0 then (f_X7_step_217 S) else (if (3 : Int32) ≤ ((S 13 0) - (S 14 0)) then (f_X7_step_201 ih (S 16 0) S) else ((f_X7_byteAt (S 13 0) S).bind (fun q6 => (f_X7_step_201 ih ((((10 : Int32) * (S 16 0)) + q6) - (48 : Int32)) S)))))))))) n
theorem f_X7_step_140_s (n : Nat) (S : St) : f_X7_step_140 (n + 1) S = ((f_X7_byteAt (S 13 0) S).bind (fun q4 => ((f_X7_in (Int32.toInt64 q4) (48 : Int64) (57 : Int64)).bind (fun q5 => (if q5 = 0 then (f_X7_step_217 S) else (if (3 : Int32) ≤ ((S 13 0) - (S 14 0)) then (f_X7_step_201 (f_X7_step_140 n) (S 16 0) S) else ((f_X7_byteAt (S 13 0) S).bind (fun q6 => (f_X7_step_201 (f_X7_step_140 n) ((((10 : Int32) * (S 16 0)) + q6) - (48 : Int32)) S))))))))) := rfl
noncomputable def f_X7_step_34 (S : St) : Option St := ((f_X7_byteAt (S 13 0) (st 14 (fun _ => (S 13 0)) S)).bind (fun q7 => (if q7 = (-4 : Int32) then (some (st 15 (fun _ => (0 : Int32)) (st 16 (fun _ => (0 : Int32)) (st 14 (fun _ => (S 13 0)) S)))) else ((f_X7_in (Int32.toInt64 q7) (97 : Int64) (122 : Int64)).bind (fun q8 => (if q8 = 0 then ((f_X7_in (Int32.toInt64 q7) (48 : Int64) (57 : Int64)).bind (fun q9 => (if q9 = 0 then (if q7 = (59 : Int32) then (some (st 13 (fun _ => ((S 13 0) + (1 : Int32))) (st 15 (fun _ => (3 : Int32)) (st 16 (fun _ => (0 : Int32)) (st 14 (fun _ => (S 13 0)) S))))) else ((f_X7_fails (1 : Int32) (st 13 (fun _ => ((S 13 0) + (1 : Int32))) (st 15 (fun _ => (3 : Int32)) (st 16 (fun _ => (0 : Int32)) (st 14 (fun _ => (S 13 0)) S))))).bind (fun q10 => (some q10)))) else (f_X7_step_140 1000 (st 16 (fun _ => (0 : Int32)) (st 14 (fun _ => (S 13 0)) S)))))) else (f_X7_step_84 1000 (st 16 (fun _ => (0 : Int32)) (st 14 (fun _ => (S 13 0)) S)))))))))
noncomputable def f_X7_step_8 (n : Nat) : St → Option St := Nat.rec (motive := fun _ => St → Option St) (fun _ => none) (fun _ ih => fun S => ((f_X7_byteAt (S 13 0) S).bind (fun q11 => (if q11 = (32 : Int32) then (ih  (st 13 (fun _ => ((S 13 0) + (1 : Int32))) S)) else (f_X7_step_34 S))))) n
theorem f_X7_step_8_s (n : Nat) (S : St) : f_X7_step_8 (n + 1) S = ((f_X7_byteAt (S 13 0) S).bind (fun q11 => (if q11 = (32 : Int32) then ((f_X7_step_8 n)  (st 13 (fun _ => ((S 13 0) + (1 : Int32))) S)) else (f_X7_step_34 S)))) := rfl
noncomputable def f_X7_step (S : St) : Option St := (if (S 11 0) ≤ 0 then (f_X7_step_8 1000 S) else (some S))
set_option maxHeartbeats 4000000 in
set_option maxRecDepth 100000 in
theorem L_X7_step_118 {E : zEnv} {Γ : zG} (a : Nat → Nat) (C : zC E Γ cX7_step RX7 2 rm_X7_step wsX7_step) {res : St} (R : zRv E Γ cX7_step 2 (wModel E a res)) (S : St) (h : f_X7_step_118 S = some res) : Zt E Γ 2 0 0 (wModel E a S) [(0, .ref (a 0))] 118 [] := by
  unfold f_X7_step_118 at h
  refine z_aload_n C 0 rfl rfl dX7_step_118 ?_
  refine z_iconst C (v := (1 : Int32)) (by decide) dX7_step_119 ?_
  refine z_put C 0 rfl (C := RX7) (T := TX7) (N := 38) (ci := 7) rfl inw_X7_step_X7 tyX7 tyX7_ok nmX7 15 (by decide) (ref := "EldestAgeModel") (List.mem_of_getElem? (i := 5) rfl) rfl rfl (ty := .int) (v := .int (1 : Int32)) (by decide +kernel) rfl rfl (Nat.le_of_ble_eq_true rfl) (wModel E a (st 15 (fun _ => (1 : Int32)) S)) (wl_X7_step_0 E a S (1 : Int32)) dX7_step_120 ?_
  refine z_goto C 269 (by decide) dX7_step_123 ?_
  obtain rfl := Option.some.inj h
  exact R 269 _ dX7_step_269

set_option maxHeartbeats 4000000 in
set_option maxRecDepth 100000 in
theorem L_X7_step_84 {E : zEnv} {Γ : zG} (a : Nat → Nat) (C : zC E Γ cX7_step RX7 2 rm_X7_step wsX7_step) {res : St} (R : zRv E Γ cX7_step 2 (wModel E a res)) : ∀ (n : Nat) (S : St), f_X7_step_84 n S = some res → Zt E Γ 2 0 0 (wModel E a S) [(0, .ref (a 0))] 84 [] := by
  intro n
  induction n with
  | zero =>
    intro S h
    cases h
  | succ n ih =>
    intro S h
    rw [f_X7_step_84_s] at h
    refine z_aload_n C 0 rfl rfl dX7_step_84 ?_
    refine z_aload_n C 0 rfl rfl dX7_step_85 ?_
    refine z_get C 0 rfl (C := RX7) (T := TX7) (N := 38) (ci := 7) rfl inw_X7_step_X7 13 (by decide) (ref := "EldestAgeModel") (List.mem_of_getElem? (i := 2) rfl) rfl (v := .int (S 13 0)) rfl dX7_step_86 ?_
    obtain ⟨q1, e1, h⟩ := bd_e h
    refine z_callVi C (b := a 0) (As := [.int (S 13 0)]) (rest := []) (c_X7_byteAt E a (S 13 0) S e1) rfl gX7_step_X7_byteAt rfl rfl rfl 1 rfl (by decide +kernel) ⟨Nat.le_of_ble_eq_true rfl, Nat.le_of_ble_eq_true rfl⟩ [0, 1, 2, 3, 4, 5, 6, 7, 8, 9, 10, 11, 12, 13, 14, 15, 16] (wl_X7_step_1 E a S) (by decide) rfl (wModel E a S) (zrep_self (wl_X7_step_1 E a S)) 0 7 rfl rfl rfl (Nat.le_of_ble_eq_true rfl) dX7_step_89 ⟨Nat.zero_le _, Nat.zero_le _⟩ _ rfl ?_
    refine z_i2l C dX7_step_92 ?_
    refine z_ldc2 C (v := (97 : Int64)) (List.mem_of_getElem? (i := 6) rfl) dX7_step_93 ?_
    refine z_ldc2 C (v := (122 : Int64)) (List.mem_of_getElem? (i := 7) rfl) dX7_step_96 ?_
    obtain ⟨q2, e2, h⟩ := bd_e h
    refine z_callSi C (rest := []) (c_X7_in E (Int32.toInt64 q1) (97 : Int64) (122 : Int64) e2) gX7_step_X7_in rfl rfl rfl 3 rfl (by decide +kernel) ⟨Nat.le_of_ble_eq_true rfl, Nat.le_of_ble_eq_true rfl⟩ [] rfl (by decide) rfl (wModel E a S) rfl (Nat.le_of_ble_eq_true rfl) dX7_step_99 ⟨Nat.zero_le _, Nat.zero_le _⟩ _ rfl ?_
    refine z_if_eq C 118 (by decide) h dX7_step_102 (fun hc h => ?_) (fun hc h => ?_)
    · exact L_X7_step_118 a C R S h
    · refine z_aload_n C 0 rfl rfl dX7_step_105 ?_
      refine z_dup C rfl dX7_step_106 ?_
      refine z_get C 0 rfl (C := RX7) (T := TX7) (N := 38) (ci := 7) rfl inw_X7_step_X7 13 (by decide) (ref := "EldestAgeModel") (List.mem_of_getElem? (i := 2) rfl) rfl (v := .int (S 13 0)) rfl dX7_step_107 ?_
      refine z_iconst C (v := (1 : Int32)) (by decide) dX7_step_110 ?_
      refine z_iadd C dX7_step_111 ?_
      refine z_put C 0 rfl (C := RX7) (T := TX7) (N := 38) (ci := 7) rfl inw_X7_step_X7 tyX7 tyX7_ok nmX7 13 (by decide) (ref := "EldestAgeModel") (List.mem_of_getElem? (i := 2) rfl) rfl rfl (ty := .int) (v := .int ((S 13 0) + (1 : Int32))) (by decide +kernel) rfl rfl (Nat.le_of_ble_eq_true rfl) (wModel E a (st 13 (fun _ => ((S 13 0) + (1 : Int32))) S)) (wl_X7_step_3 E a S ((S 13 0) + (1 : Int32))) dX7_step_112 ?_
      refine z_goto C 84 (by decide) dX7_step_115 ?_
      exact ih (st 13 (fun _ => ((S 13 0) + (1 : Int32))) S) h

set_option maxHeartbeats 4000000 in
set_option maxRecDepth 100000 in
theorem L_X7_step_201 {E : zEnv} {Γ : zG} (a : Nat → Nat) (C : zC E Γ cX7_step RX7 2 rm_X7_step wsX7_step) {res : St} (R : zRv E Γ cX7_step 2 (wModel E a res)) (k140 : St → Option St) (hk140 : ∀ (S : St), k140 S = some res → Zt E Γ 2 0 0 (wModel E a S) [(0, .ref (a 0))] 140 []) (y1 : Int32) (S : St) (h : f_X7_step_201 k140 y1 S = some res) : Zt E Γ 2 0 0 (wModel E a S) [(0, .ref (a 0))] 201 [.int y1, .ref (a 0)] := by
  unfold f_X7_step_201 at h
  refine z_put C 0 rfl (C := RX7) (T := TX7) (N := 38) (ci := 7) rfl inw_X7_step_X7 tyX7 tyX7_ok nmX7 16 (by decide) (ref := "EldestAgeModel") (List.mem_of_getElem? (i := 4) rfl) rfl rfl (ty := .int) (v := .int y1) (by decide +kernel) rfl rfl (Nat.le_of_ble_eq_true rfl) (wModel E a (st 16 (fun _ => y1) S)) (wl_X7_step_4 E a S y1) dX7_step_201 ?_
  refine z_aload_n C 0 rfl rfl dX7_step_204 ?_
  refine z_dup C rfl dX7_step_205 ?_
  refine z_get C 0 rfl (C := RX7) (T := TX7) (N := 38) (ci := 7) rfl inw_X7_step_X7 13 (by decide) (ref := "EldestAgeModel") (List.mem_of_getElem? (i := 2) rfl) rfl (v := .int (S 13 0)) rfl dX7_step_206 ?_
  refine z_iconst C (v := (1 : Int32)) (by decide) dX7_step_209 ?_
  refine z_iadd C dX7_step_210 ?_
  refine z_put C 0 rfl (C := RX7) (T := TX7) (N := 38) (ci := 7) rfl inw_X7_step_X7 tyX7 tyX7_ok nmX7 13 (by decide) (ref := "EldestAgeModel") (List.mem_of_getElem? (i := 2) rfl) rfl rfl (ty := .int) (v := .int ((S 13 0) + (1 : Int32))) (by decide +kernel) rfl rfl (Nat.le_of_ble_eq_true rfl) (wModel E a (st 13 (fun _ => ((S 13 0) + (1 : Int32))) (st 16 (fun _ => y1) S))) (wl_X7_step_3 E a (st 16 (fun _ => y1) S) ((S 13 0) + (1 : Int32))) dX7_step_211 ?_
  refine z_goto C 140 (by decide) dX7_step_214 ?_
  exact hk140 (st 13 (fun _ => ((S 13 0) + (1 : Int32))) (st 16 (fun _ => y1) S)) h

set_option maxHeartbeats 4000000 in
set_option maxRecDepth 100000 in
theorem L_X7_step_217 {E : zEnv} {Γ : zG} (a : Nat → Nat) (C : zC E Γ cX7_step RX7 2 rm_X7_step wsX7_step) {res : St} (R : zRv E Γ cX7_step 2 (wModel E a res)) (S : St) (h : f_X7_step_217 S = some res) : Zt E Γ 2 0 0 (wModel E a S) [(0, .ref (a 0))] 217 [] := by
  unfold f_X7_step_217 at h
  refine z_aload_n C 0 rfl rfl dX7_step_217 ?_
  refine z_iconst C (v := (2 : Int32)) (by decide) dX7_step_218 ?_
  refine z_put C 0 rfl (C := RX7) (T := TX7) (N := 38) (ci := 7) rfl inw_X7_step_X7 tyX7 tyX7_ok nmX7 15 (by decide) (ref := "EldestAgeModel") (List.mem_of_getElem? (i := 5) rfl) rfl rfl (ty := .int) (v := .int (2 : Int32)) (by decide +kernel) rfl rfl (Nat.le_of_ble_eq_true rfl) (wModel E a (st 15 (fun _ => (2 : Int32)) S)) (wl_X7_step_0 E a S (2 : Int32)) dX7_step_219 ?_
  refine z_aload_n C 0 rfl rfl dX7_step_222 ?_
  refine z_get C 0 rfl (C := RX7) (T := TX7) (N := 38) (ci := 7) rfl inw_X7_step_X7 13 (by decide) (ref := "EldestAgeModel") (List.mem_of_getElem? (i := 2) rfl) rfl (v := .int (S 13 0)) rfl dX7_step_223 ?_
  refine z_aload_n C 0 rfl rfl dX7_step_226 ?_
  refine z_get C 0 rfl (C := RX7) (T := TX7) (N := 38) (ci := 7) rfl inw_X7_step_X7 14 (by decide) (ref := "EldestAgeModel") (List.mem_of_getElem? (i := 3) rfl) rfl (v := .int (S 14 0)) rfl dX7_step_227 ?_
  refine z_isub C dX7_step_230 ?_
  refine z_iconst C (v := (3 : Int32)) (by decide) dX7_step_231 ?_
  refine z_icmp_le C 269 (by decide) h dX7_step_232 (fun hc h => ?_) (fun hc h => ?_)
  · obtain rfl := Option.some.inj h
    exact R 269 _ dX7_step_269
  · refine z_aload_n C 0 rfl rfl dX7_step_235 ?_
    refine z_iconst C (v := (1 : Int32)) (by decide) dX7_step_236 ?_
    obtain ⟨q3, e3, h⟩ := bd_e h
    refine z_callVv C (b := a 0) (As := [.int (1 : Int32)]) (rest := []) (c_X7_fails E a (1 : Int32) (st 15 (fun _ => (2 : Int32)) S) e3) rfl gX7_step_X7_fails rfl rfl rfl 1 rfl (by decide +kernel) ⟨Nat.le_of_ble_eq_true rfl, Nat.le_of_ble_eq_true rfl⟩ [0, 1, 2, 3, 4, 5, 6, 7, 8, 9, 10, 11, 12, 13, 14, 15, 16] (wl_X7_step_1 E a (st 15 (fun _ => (2 : Int32)) S)) (by decide) (wl_X7_step_2 E a _ _) (wModel E a q3) (wl_X7_step_5 E a (st 15 (fun _ => (2 : Int32)) S) q3) 0 7 rfl rfl rfl (Nat.le_of_ble_eq_true rfl) dX7_step_237 ⟨Nat.zero_le _, Nat.zero_le _⟩ _ rfl ?_
    refine z_goto C 269 (by decide) dX7_step_240 ?_
    obtain rfl := Option.some.inj h
    exact R 269 _ dX7_step_269

set_option maxHeartbeats 4000000 in
set_option maxRecDepth 100000 in
theorem L_X7_step_140 {E : zEnv} {Γ : zG} (a : Nat → Nat) (C : zC E Γ cX7_step RX7 2 rm_X7_step wsX7_step) {res : St} (R : zRv E Γ cX7_step 2 (wModel E a res)) : ∀ (n : Nat) (S : St), f_X7_step_140 n S = some res → Zt E Γ 2 0 0 (wModel E a S) [(0, .ref (a 0))] 140 [] := by
  intro n
  induction n with
  | zero =>
    intro S h
    cases h
  | succ n ih =>
    intro S h
    rw [f_X7_step_140_s] at h
    refine z_aload_n C 0 rfl rfl dX7_step_140 ?_
    refine z_aload_n C 0 rfl rfl dX7_step_141 ?_
    refine z_get C 0 rfl (C := RX7) (T := TX7) (N := 38) (ci := 7) rfl inw_X7_step_X7 13 (by decide) (ref := "EldestAgeModel") (List.mem_of_getElem? (i := 2) rfl) rfl (v := .int (S 13 0)) rfl dX7_step_142 ?_
    obtain ⟨q4, e4, h⟩ := bd_e h
    refine z_callVi C (b := a 0) (As := [.int (S 13 0)]) (rest := []) (c_X7_byteAt E a (S 13 0) S e4) rfl gX7_step_X7_byteAt rfl rfl rfl 1 rfl (by decide +kernel) ⟨Nat.le_of_ble_eq_true rfl, Nat.le_of_ble_eq_true rfl⟩ [0, 1, 2, 3, 4, 5, 6, 7, 8, 9, 10, 11, 12, 13, 14, 15, 16] (wl_X7_step_1 E a S) (by decide) rfl (wModel E a S) (zrep_self (wl_X7_step_1 E a S)) 0 7 rfl rfl rfl (Nat.le_of_ble_eq_true rfl) dX7_step_145 ⟨Nat.zero_le _, Nat.zero_le _⟩ _ rfl ?_
    refine z_i2l C dX7_step_148 ?_
    refine z_ldc2 C (v := (48 : Int64)) (List.mem_of_getElem? (i := 8) rfl) dX7_step_149 ?_
    refine z_ldc2 C (v := (57 : Int64)) (List.mem_of_getElem? (i := 9) rfl) dX7_step_152 ?_
    obtain ⟨q5, e5, h⟩ := bd_e h
    refine z_callSi C (rest := []) (c_X7_in E (Int32.toInt64 q4) (48 : Int64) (57 : Int64) e5) gX7_step_X7_in rfl rfl rfl 3 rfl (by decide +kernel) ⟨Nat.le_of_ble_eq_true rfl, Nat.le_of_ble_eq_true rfl⟩ [] rfl (by decide) rfl (wModel E a S) rfl (Nat.le_of_ble_eq_true rfl) dX7_step_155 ⟨Nat.zero_le _, Nat.zero_le _⟩ _ rfl ?_
    refine z_if_eq C 217 (by decide) h dX7_step_158 (fun hc h => ?_) (fun hc h => ?_)
    · exact L_X7_step_217 a C R S h
    · refine z_aload_n C 0 rfl rfl dX7_step_161 ?_
      refine z_aload_n C 0 rfl rfl dX7_step_162 ?_
      refine z_get C 0 rfl (C := RX7) (T := TX7) (N := 38) (ci := 7) rfl inw_X7_step_X7 13 (by decide) (ref := "EldestAgeModel") (List.mem_of_getElem? (i := 2) rfl) rfl (v := .int (S 13 0)) rfl dX7_step_163 ?_
      refine z_aload_n C 0 rfl rfl dX7_step_166 ?_
      refine z_get C 0 rfl (C := RX7) (T := TX7) (N := 38) (ci := 7) rfl inw_X7_step_X7 14 (by decide) (ref := "EldestAgeModel") (List.mem_of_getElem? (i := 3) rfl) rfl (v := .int (S 14 0)) rfl dX7_step_167 ?_
      refine z_isub C dX7_step_170 ?_
      refine z_iconst C (v := (3 : Int32)) (by decide) dX7_step_171 ?_
      refine z_icmp_ge C 197 (by decide) h dX7_step_172 (fun hc h => ?_) (fun hc h => ?_)
      · refine z_aload_n C 0 rfl rfl dX7_step_197 ?_
        refine z_get C 0 rfl (C := RX7) (T := TX7) (N := 38) (ci := 7) rfl inw_X7_step_X7 16 (by decide) (ref := "EldestAgeModel") (List.mem_of_getElem? (i := 4) rfl) rfl (v := .int (S 16 0)) rfl dX7_step_198 ?_
        exact L_X7_step_201 a C R _ ih (S 16 0) S h
      · refine z_bipush C (v := (10 : Int32)) (by decide) dX7_step_175 ?_
        refine z_aload_n C 0 rfl rfl dX7_step_177 ?_
        refine z_get C 0 rfl (C := RX7) (T := TX7) (N := 38) (ci := 7) rfl inw_X7_step_X7 16 (by decide) (ref := "EldestAgeModel") (List.mem_of_getElem? (i := 4) rfl) rfl (v := .int (S 16 0)) rfl dX7_step_178 ?_
        refine z_imul C dX7_step_181 ?_
        refine z_aload_n C 0 rfl rfl dX7_step_182 ?_
        refine z_aload_n C 0 rfl rfl dX7_step_183 ?_
        refine z_get C 0 rfl (C := RX7) (T := TX7) (N := 38) (ci := 7) rfl inw_X7_step_X7 13 (by decide) (ref := "EldestAgeModel") (List.mem_of_getElem? (i := 2) rfl) rfl (v := .int (S 13 0)) rfl dX7_step_184 ?_
        obtain ⟨q6, e6, h⟩ := bd_e h
        refine z_callVi C (b := a 0) (As := [.int (S 13 0)]) (rest := [.int ((10 : Int32) * (S 16 0)), .ref (a 0)]) (c_X7_byteAt E a (S 13 0) S e6) rfl gX7_step_X7_byteAt rfl rfl rfl 1 rfl (by decide +kernel) ⟨Nat.le_of_ble_eq_true rfl, Nat.le_of_ble_eq_true rfl⟩ [0, 1, 2, 3, 4, 5, 6, 7, 8, 9, 10, 11, 12, 13, 14, 15, 16] (wl_X7_step_1 E a S) (by decide) rfl (wModel E a S) (zrep_self (wl_X7_step_1 E a S)) 0 7 rfl rfl rfl (Nat.le_of_ble_eq_true rfl) dX7_step_187 ⟨Nat.zero_le _, Nat.zero_le _⟩ _ rfl ?_
        refine z_iadd C dX7_step_190 ?_
        refine z_bipush C (v := (48 : Int32)) (by decide) dX7_step_191 ?_
        refine z_isub C dX7_step_193 ?_
        refine z_goto C 201 (by decide) dX7_step_194 ?_
        exact L_X7_step_201 a C R _ ih ((((10 : Int32) * (S 16 0)) + q6) - (48 : Int32)) S h

set_option maxHeartbeats 4000000 in
set_option maxRecDepth 100000 in
theorem L_X7_step_34 {E : zEnv} {Γ : zG} (a : Nat → Nat) (C : zC E Γ cX7_step RX7 2 rm_X7_step wsX7_step) {res : St} (R : zRv E Γ cX7_step 2 (wModel E a res)) (S : St) (h : f_X7_step_34 S = some res) : Zt E Γ 2 0 0 (wModel E a S) [(0, .ref (a 0))] 34 [] := by
  unfold f_X7_step_34 at h
  refine z_aload_n C 0 rfl rfl dX7_step_34 ?_
  refine z_aload_n C 0 rfl rfl dX7_step_35 ?_
  refine z_get C 0 rfl (C := RX7) (T := TX7) (N := 38) (ci := 7) rfl inw_X7_step_X7 13 (by decide) (ref := "EldestAgeModel") (List.mem_of_getElem? (i := 2) rfl) rfl (v := .int (S 13 0)) rfl dX7_step_36 ?_
  refine z_put C 0 rfl (C := RX7) (T := TX7) (N := 38) (ci := 7) rfl inw_X7_step_X7 tyX7 tyX7_ok nmX7 14 (by decide) (ref := "EldestAgeModel") (List.mem_of_getElem? (i := 3) rfl) rfl rfl (ty := .int) (v := .int (S 13 0)) (by decide +kernel) rfl rfl (Nat.le_of_ble_eq_true rfl) (wModel E a (st 14 (fun _ => (S 13 0)) S)) (wl_X7_step_6 E a S (S 13 0)) dX7_step_39 ?_
  refine z_aload_n C 0 rfl rfl dX7_step_42 ?_
  refine z_aload_n C 0 rfl rfl dX7_step_43 ?_
  refine z_get C 0 rfl (C := RX7) (T := TX7) (N := 38) (ci := 7) rfl inw_X7_step_X7 13 (by decide) (ref := "EldestAgeModel") (List.mem_of_getElem? (i := 2) rfl) rfl (v := .int (S 13 0)) rfl dX7_step_44 ?_
  obtain ⟨q7, e7, h⟩ := bd_e h
  refine z_callVi C (b := a 0) (As := [.int (S 13 0)]) (rest := []) (c_X7_byteAt E a (S 13 0) (st 14 (fun _ => (S 13 0)) S) e7) rfl gX7_step_X7_byteAt rfl rfl rfl 1 rfl (by decide +kernel) ⟨Nat.le_of_ble_eq_true rfl, Nat.le_of_ble_eq_true rfl⟩ [0, 1, 2, 3, 4, 5, 6, 7, 8, 9, 10, 11, 12, 13, 14, 15, 16] (wl_X7_step_1 E a (st 14 (fun _ => (S 13 0)) S)) (by decide) rfl (wModel E a (st 14 (fun _ => (S 13 0)) S)) (zrep_self (wl_X7_step_1 E a (st 14 (fun _ => (S 13 0)) S))) 0 7 rfl rfl rfl (Nat.le_of_ble_eq_true rfl) dX7_step_47 ⟨Nat.zero_le _, Nat.zero_le _⟩ _ rfl ?_
  refine z_istore_n C [(1, .int q7), (0, .ref (a 0))] rfl (by decide) rfl dX7_step_50 ?_
  refine z_aload_n C 1 rfl rfl dX7_step_51 ?_
  refine z_iconst C (v := (0 : Int32)) (by decide) dX7_step_52 ?_
  refine z_put C 0 rfl (C := RX7) (T := TX7) (N := 38) (ci := 7) rfl inw_X7_step_X7 tyX7 tyX7_ok nmX7 16 (by decide) (ref := "EldestAgeModel") (List.mem_of_getElem? (i := 4) rfl) rfl rfl (ty := .int) (v := .int (0 : Int32)) (by decide +kernel) rfl rfl (Nat.le_of_ble_eq_true rfl) (wModel E a (st 16 (fun _ => (0 : Int32)) (st 14 (fun _ => (S 13 0)) S))) (wl_X7_step_4 E a (st 14 (fun _ => (S 13 0)) S) (0 : Int32)) dX7_step_53 ?_
  refine z_iload_n C 0 rfl rfl dX7_step_56 ?_
  refine z_bipush C (v := (-4 : Int32)) (by decide) dX7_step_57 ?_
  refine z_icmp_ne C 70 (by decide) h dX7_step_59 (fun hc h => ?_) (fun hc h => ?_)
  · refine z_aload_n C 1 rfl rfl dX7_step_62 ?_
    refine z_iconst C (v := (0 : Int32)) (by decide) dX7_step_63 ?_
    refine z_put C 0 rfl (C := RX7) (T := TX7) (N := 38) (ci := 7) rfl inw_X7_step_X7 tyX7 tyX7_ok nmX7 15 (by decide) (ref := "EldestAgeModel") (List.mem_of_getElem? (i := 5) rfl) rfl rfl (ty := .int) (v := .int (0 : Int32)) (by decide +kernel) rfl rfl (Nat.le_of_ble_eq_true rfl) (wModel E a (st 15 (fun _ => (0 : Int32)) (st 16 (fun _ => (0 : Int32)) (st 14 (fun _ => (S 13 0)) S)))) (wl_X7_step_0 E a (st 16 (fun _ => (0 : Int32)) (st 14 (fun _ => (S 13 0)) S)) (0 : Int32)) dX7_step_64 ?_
    refine z_goto C 269 (by decide) dX7_step_67 ?_
    obtain rfl := Option.some.inj h
    exact R 269 _ dX7_step_269
  · refine z_iload_n C 0 rfl rfl dX7_step_70 ?_
    refine z_i2l C dX7_step_71 ?_
    refine z_ldc2 C (v := (97 : Int64)) (List.mem_of_getElem? (i := 6) rfl) dX7_step_72 ?_
    refine z_ldc2 C (v := (122 : Int64)) (List.mem_of_getElem? (i := 7) rfl) dX7_step_75 ?_
    obtain ⟨q8, e8, h⟩ := bd_e h
    refine z_callSi C (rest := []) (c_X7_in E (Int32.toInt64 q7) (97 : Int64) (122 : Int64) e8) gX7_step_X7_in rfl rfl rfl 3 rfl (by decide +kernel) ⟨Nat.le_of_ble_eq_true rfl, Nat.le_of_ble_eq_true rfl⟩ [] rfl (by decide) rfl (wModel E a (st 16 (fun _ => (0 : Int32)) (st 14 (fun _ => (S 13 0)) S))) rfl (Nat.le_of_ble_eq_true rfl) dX7_step_78 ⟨Nat.zero_le _, Nat.zero_le _⟩ _ rfl ?_
    refine z_if_eq C 126 (by decide) h dX7_step_81 (fun hc h => ?_) (fun hc h => ?_)
    · refine z_iload_n C 0 rfl rfl dX7_step_126 ?_
      refine z_i2l C dX7_step_127 ?_
      refine z_ldc2 C (v := (48 : Int64)) (List.mem_of_getElem? (i := 8) rfl) dX7_step_128 ?_
      refine z_ldc2 C (v := (57 : Int64)) (List.mem_of_getElem? (i := 9) rfl) dX7_step_131 ?_
      obtain ⟨q9, e9, h⟩ := bd_e h
      refine z_callSi C (rest := []) (c_X7_in E (Int32.toInt64 q7) (48 : Int64) (57 : Int64) e9) gX7_step_X7_in rfl rfl rfl 3 rfl (by decide +kernel) ⟨Nat.le_of_ble_eq_true rfl, Nat.le_of_ble_eq_true rfl⟩ [] rfl (by decide) rfl (wModel E a (st 16 (fun _ => (0 : Int32)) (st 14 (fun _ => (S 13 0)) S))) rfl (Nat.le_of_ble_eq_true rfl) dX7_step_134 ⟨Nat.zero_le _, Nat.zero_le _⟩ _ rfl ?_
      refine z_if_eq C 243 (by decide) h dX7_step_137 (fun hc h => ?_) (fun hc h => ?_)
      · refine z_aload_n C 1 rfl rfl dX7_step_243 ?_
        refine z_iconst C (v := (3 : Int32)) (by decide) dX7_step_244 ?_
        refine z_put C 0 rfl (C := RX7) (T := TX7) (N := 38) (ci := 7) rfl inw_X7_step_X7 tyX7 tyX7_ok nmX7 15 (by decide) (ref := "EldestAgeModel") (List.mem_of_getElem? (i := 5) rfl) rfl rfl (ty := .int) (v := .int (3 : Int32)) (by decide +kernel) rfl rfl (Nat.le_of_ble_eq_true rfl) (wModel E a (st 15 (fun _ => (3 : Int32)) (st 16 (fun _ => (0 : Int32)) (st 14 (fun _ => (S 13 0)) S)))) (wl_X7_step_0 E a (st 16 (fun _ => (0 : Int32)) (st 14 (fun _ => (S 13 0)) S)) (3 : Int32)) dX7_step_245 ?_
        refine z_aload_n C 1 rfl rfl dX7_step_248 ?_
        refine z_dup C rfl dX7_step_249 ?_
        refine z_get C 0 rfl (C := RX7) (T := TX7) (N := 38) (ci := 7) rfl inw_X7_step_X7 13 (by decide) (ref := "EldestAgeModel") (List.mem_of_getElem? (i := 2) rfl) rfl (v := .int (S 13 0)) rfl dX7_step_250 ?_
        refine z_iconst C (v := (1 : Int32)) (by decide) dX7_step_253 ?_
        refine z_iadd C dX7_step_254 ?_
        refine z_put C 0 rfl (C := RX7) (T := TX7) (N := 38) (ci := 7) rfl inw_X7_step_X7 tyX7 tyX7_ok nmX7 13 (by decide) (ref := "EldestAgeModel") (List.mem_of_getElem? (i := 2) rfl) rfl rfl (ty := .int) (v := .int ((S 13 0) + (1 : Int32))) (by decide +kernel) rfl rfl (Nat.le_of_ble_eq_true rfl) (wModel E a (st 13 (fun _ => ((S 13 0) + (1 : Int32))) (st 15 (fun _ => (3 : Int32)) (st 16 (fun _ => (0 : Int32)) (st 14 (fun _ => (S 13 0)) S))))) (wl_X7_step_3 E a (st 15 (fun _ => (3 : Int32)) (st 16 (fun _ => (0 : Int32)) (st 14 (fun _ => (S 13 0)) S))) ((S 13 0) + (1 : Int32))) dX7_step_255 ?_
        refine z_iload_n C 0 rfl rfl dX7_step_258 ?_
        refine z_bipush C (v := (59 : Int32)) (by decide) dX7_step_259 ?_
        refine z_icmp_eq C 269 (by decide) h dX7_step_261 (fun hc h => ?_) (fun hc h => ?_)
        · obtain rfl := Option.some.inj h
          exact R 269 _ dX7_step_269
        · refine z_aload_n C 1 rfl rfl dX7_step_264 ?_
          refine z_iconst C (v := (1 : Int32)) (by decide) dX7_step_265 ?_
          obtain ⟨q10, e10, h⟩ := bd_e h
          refine z_callVv C (b := a 0) (As := [.int (1 : Int32)]) (rest := []) (c_X7_fails E a (1 : Int32) (st 13 (fun _ => ((S 13 0) + (1 : Int32))) (st 15 (fun _ => (3 : Int32)) (st 16 (fun _ => (0 : Int32)) (st 14 (fun _ => (S 13 0)) S)))) e10) rfl gX7_step_X7_fails rfl rfl rfl 1 rfl (by decide +kernel) ⟨Nat.le_of_ble_eq_true rfl, Nat.le_of_ble_eq_true rfl⟩ [0, 1, 2, 3, 4, 5, 6, 7, 8, 9, 10, 11, 12, 13, 14, 15, 16] (wl_X7_step_1 E a (st 13 (fun _ => ((S 13 0) + (1 : Int32))) (st 15 (fun _ => (3 : Int32)) (st 16 (fun _ => (0 : Int32)) (st 14 (fun _ => (S 13 0)) S))))) (by decide) (wl_X7_step_2 E a _ _) (wModel E a q10) (wl_X7_step_5 E a (st 13 (fun _ => ((S 13 0) + (1 : Int32))) (st 15 (fun _ => (3 : Int32)) (st 16 (fun _ => (0 : Int32)) (st 14 (fun _ => (S 13 0)) S)))) q10) 0 7 rfl rfl rfl (Nat.le_of_ble_eq_true rfl) dX7_step_266 ⟨Nat.zero_le _, Nat.zero_le _⟩ _ rfl ?_
          obtain rfl := Option.some.inj h
          exact R 269 _ dX7_step_269
      · refine Zt_l [(0, .ref (a 0))] [1] rfl ?_
        exact L_X7_step_140 a C R 1000 (st 16 (fun _ => (0 : Int32)) (st 14 (fun _ => (S 13 0)) S)) h
    · refine Zt_l [(0, .ref (a 0))] [1] rfl ?_
      exact L_X7_step_84 a C R 1000 (st 16 (fun _ => (0 : Int32)) (st 14 (fun _ => (S 13 0)) S)) h

set_option maxHeartbeats 4000000 in
set_option maxRecDepth 100000 in
theorem L_X7_step_8 {E : zEnv} {Γ : zG} (a : Nat → Nat) (C : zC E Γ cX7_step RX7 2 rm_X7_step wsX7_step) {res : St} (R : zRv E Γ cX7_step 2 (wModel E a res)) : ∀ (n : Nat) (S : St), f_X7_step_8 n S = some res → Zt E Γ 2 0 0 (wModel E a S) [(0, .ref (a 0))] 8 [] := by
  intro n
  induction n with
  | zero =>
    intro S h
    cases h
  | succ n ih =>
    intro S h
    rw [f_X7_step_8_s] at h
    refine z_aload_n C 0 rfl rfl dX7_step_8 ?_
    refine z_aload_n C 0 rfl rfl dX7_step_9 ?_
    refine z_get C 0 rfl (C := RX7) (T := TX7) (N := 38) (ci := 7) rfl inw_X7_step_X7 13 (by decide) (ref := "EldestAgeModel") (List.mem_of_getElem? (i := 2) rfl) rfl (v := .int (S 13 0)) rfl dX7_step_10 ?_
    obtain ⟨q11, e11, h⟩ := bd_e h
    refine z_callVi C (b := a 0) (As := [.int (S 13 0)]) (rest := []) (c_X7_byteAt E a (S 13 0) S e11) rfl gX7_step_X7_byteAt rfl rfl rfl 1 rfl (by decide +kernel) ⟨Nat.le_of_ble_eq_true rfl, Nat.le_of_ble_eq_true rfl⟩ [0, 1, 2, 3, 4, 5, 6, 7, 8, 9, 10, 11, 12, 13, 14, 15, 16] (wl_X7_step_1 E a S) (by decide) rfl (wModel E a S) (zrep_self (wl_X7_step_1 E a S)) 0 7 rfl rfl rfl (Nat.le_of_ble_eq_true rfl) dX7_step_13 ⟨Nat.zero_le _, Nat.zero_le _⟩ _ rfl ?_
    refine z_bipush C (v := (32 : Int32)) (by decide) dX7_step_16 ?_
    refine z_icmp_ne C 34 (by decide) h dX7_step_18 (fun hc h => ?_) (fun hc h => ?_)
    · refine z_aload_n C 0 rfl rfl dX7_step_21 ?_
      refine z_dup C rfl dX7_step_22 ?_
      refine z_get C 0 rfl (C := RX7) (T := TX7) (N := 38) (ci := 7) rfl inw_X7_step_X7 13 (by decide) (ref := "EldestAgeModel") (List.mem_of_getElem? (i := 2) rfl) rfl (v := .int (S 13 0)) rfl dX7_step_23 ?_
      refine z_iconst C (v := (1 : Int32)) (by decide) dX7_step_26 ?_
      refine z_iadd C dX7_step_27 ?_
      refine z_put C 0 rfl (C := RX7) (T := TX7) (N := 38) (ci := 7) rfl inw_X7_step_X7 tyX7 tyX7_ok nmX7 13 (by decide) (ref := "EldestAgeModel") (List.mem_of_getElem? (i := 2) rfl) rfl rfl (ty := .int) (v := .int ((S 13 0) + (1 : Int32))) (by decide +kernel) rfl rfl (Nat.le_of_ble_eq_true rfl) (wModel E a (st 13 (fun _ => ((S 13 0) + (1 : Int32))) S)) (wl_X7_step_3 E a S ((S 13 0) + (1 : Int32))) dX7_step_28 ?_
      refine z_goto C 8 (by decide) dX7_step_31 ?_
      exact ih (st 13 (fun _ => ((S 13 0) + (1 : Int32))) S) h
    · exact L_X7_step_34 a C R S h

set_option maxHeartbeats 4000000 in
set_option maxRecDepth 100000 in
theorem L_X7_step {E : zEnv} {Γ : zG} (a : Nat → Nat) (C : zC E Γ cX7_step RX7 2 rm_X7_step wsX7_step) {res : St} (R : zRv E Γ cX7_step 2 (wModel E a res)) (S : St) (h : f_X7_step S = some res) : Zt E Γ 2 0 0 (wModel E a S) [(0, .ref (a 0))] 0 [] := by
  unfold f_X7_step at h
  refine z_aload_n C 0 rfl rfl dX7_step_0 ?_
  refine z_get C 0 rfl (C := RX7) (T := TX7) (N := 38) (ci := 7) rfl inw_X7_step_X7 11 (by decide) (ref := "EldestAgeModel") (List.mem_of_getElem? (i := 1) rfl) rfl (v := .int (S 11 0)) rfl dX7_step_1 ?_
  refine z_if_le C 8 (by decide) h dX7_step_4 (fun hc h => ?_) (fun hc h => ?_)
  · exact L_X7_step_8 a C R 1000 S h
  · obtain rfl := Option.some.inj h
    exact R 7 _ dX7_step_7

theorem c_X7_step (E : zEnv) (a : Nat → Nat) (S : St) {res : St} (h : f_X7_step S = some res) : Ktv E yX7_step wsX7_step rm_X7_step (wModel E a S) (wModel E a res) [.ref (a 0)] :=
  z_entv (cc := cX7_step) (maxL := 2) (by decide +kernel) rfl (Nat.le_of_ble_eq_true rfl) (fun Γ C R => L_X7_step a C R S h)

abbrev rm_X7_numeral : Room := { frames := 2, cells := 0, slots := 0, locals := 46 }
theorem inw_X7_numeral_X7 : ∀ w ∈ wsX70, w ∈ wsX7_numeral := fun _ h => List.mem_cons_of_mem _ (List.mem_append_right _ h)
set_option maxHeartbeats 4000000 in
theorem wl_X7_numeral_0 (E : zEnv) (a : Nat → Nat) (S : St) : ([0, 1, 2, 3, 4, 5, 6, 7, 8, 9, 10, 11, 12, 13, 14, 15, 16] : List Nat).map (fun i => (wModel E a S)[i]?) = (wModel E a S).map some := rfl
set_option maxHeartbeats 4000000 in
theorem wl_X7_numeral_1 (E : zEnv) (a : Nat → Nat) (S U : St) : (wModel E a U).map (fun q => q.1) = (wModel E a S).map (fun q => q.1) := rfl
set_option maxHeartbeats 4000000 in
theorem wl_X7_numeral_2 (E : zEnv) (a : Nat → Nat) (S U : St) : (wModel E a U) = zrep [0, 1, 2, 3, 4, 5, 6, 7, 8, 9, 10, 11, 12, 13, 14, 15, 16] (wModel E a U) (wModel E a S) := zrep_of (isR := []) 17 rfl [] rfl rfl rfl rfl (by decide +kernel) (by decide +kernel)
noncomputable def f_X7_numeral_62 (y0 : Int32) (S : St) : Option (Int32 × St) := ((f_X7_step S).bind (fun q1 => (some (y0, q1))))
noncomputable def f_X7_numeral_47 (x1 : Int32) (S : St) : Option (Int32 × St) := (if (S 11 0) = 0 then (f_X7_numeral_62 (S 16 0) S) else (f_X7_numeral_62 x1 S))
noncomputable def f_X7_numeral_20 (x1 : Int32) (x2 : Int32) (S : St) : Option (Int32 × St) := (if (S 11 0) = 0 then ((f_X7_in (Int32.toInt64 (S 16 0)) (Int32.toInt64 x1) (Int32.toInt64 x2)).bind (fun q2 => (if q2 = 0 then ((f_X7_fails (3 : Int32) S).bind (fun q3 => (f_X7_numeral_47 x1 q3))) else (f_X7_numeral_47 x1 S)))) else (f_X7_numeral_47 x1 S))
noncomputable def f_X7_numeral (x1 : Int32) (x2 : Int32) (S : St) : Option (Int32 × St) := (if (S 11 0) = 0 then (if (S 15 0) = (2 : Int32) then (f_X7_numeral_20 x1 x2 S) else ((f_X7_fails (2 : Int32) S).bind (fun q4 => (f_X7_numeral_20 x1 x2 q4)))) else (f_X7_numeral_20 x1 x2 S))
set_option maxHeartbeats 4000000 in
set_option maxRecDepth 100000 in
theorem L_X7_numeral_62 {E : zEnv} {Γ : zG} (a : Nat → Nat) (C : zC E Γ cX7_numeral RX7 4 rm_X7_numeral wsX7_numeral) {res : (Int32 × St)} (R : zRi E Γ cX7_numeral 4 .int (wModel E a res.2) res.1) (y0 : Int32) (S : St) (h : f_X7_numeral_62 y0 S = some res) : Zt E Γ 4 0 0 (wModel E a S) [(0, .ref (a 0))] 62 [.int y0] := by
  unfold f_X7_numeral_62 at h
  refine z_istore_n C [(3, .int y0), (0, .ref (a 0))] rfl (by decide) rfl dX7_numeral_62 ?_
  refine z_aload_n C 1 rfl rfl dX7_numeral_63 ?_
  obtain ⟨q1, e1, h⟩ := bd_e h
  refine z_callVv C (b := a 0) (As := []) (rest := []) (c_X7_step E a S e1) rfl gX7_numeral_X7_step rfl rfl rfl 0 rfl (by decide +kernel) ⟨Nat.le_of_ble_eq_true rfl, Nat.le_of_ble_eq_true rfl⟩ [0, 1, 2, 3, 4, 5, 6, 7, 8, 9, 10, 11, 12, 13, 14, 15, 16] (wl_X7_numeral_0 E a S) (by decide) (wl_X7_numeral_1 E a _ _) (wModel E a q1) (wl_X7_numeral_2 E a S q1) 0 7 rfl rfl rfl (Nat.le_of_ble_eq_true rfl) dX7_numeral_64 ⟨Nat.zero_le _, Nat.zero_le _⟩ _ rfl ?_
  refine z_iload_n C 0 rfl rfl dX7_numeral_67 ?_
  obtain rfl := Option.some.inj h
  exact R rfl 68 _ dX7_numeral_68

set_option maxHeartbeats 4000000 in
set_option maxRecDepth 100000 in
theorem L_X7_numeral_47 {E : zEnv} {Γ : zG} (a : Nat → Nat) (C : zC E Γ cX7_numeral RX7 4 rm_X7_numeral wsX7_numeral) {res : (Int32 × St)} (R : zRi E Γ cX7_numeral 4 .int (wModel E a res.2) res.1) (x1 : Int32) (S : St) (h : f_X7_numeral_47 x1 S = some res) : Zt E Γ 4 0 0 (wModel E a S) [(0, .ref (a 0)), (1, .int x1)] 47 [] := by
  unfold f_X7_numeral_47 at h
  refine z_aload_n C 0 rfl rfl dX7_numeral_47 ?_
  refine z_get C 0 rfl (C := RX7) (T := TX7) (N := 38) (ci := 7) rfl inw_X7_numeral_X7 11 (by decide) (ref := "EldestAgeModel") (List.mem_of_getElem? (i := 1) rfl) rfl (v := .int (S 11 0)) rfl dX7_numeral_48 ?_
  refine z_if_ne C 61 (by decide) h dX7_numeral_51 (fun hc h => ?_) (fun hc h => ?_)
  · refine z_aload_n C 0 rfl rfl dX7_numeral_54 ?_
    refine z_get C 0 rfl (C := RX7) (T := TX7) (N := 38) (ci := 7) rfl inw_X7_numeral_X7 16 (by decide) (ref := "EldestAgeModel") (List.mem_of_getElem? (i := 3) rfl) rfl (v := .int (S 16 0)) rfl dX7_numeral_55 ?_
    refine z_goto C 62 (by decide) dX7_numeral_58 ?_
    refine Zt_l [(0, .ref (a 0))] [0] rfl ?_
    exact L_X7_numeral_62 a C R (S 16 0) S h
  · refine z_iload_n C 1 rfl rfl dX7_numeral_61 ?_
    refine Zt_l [(0, .ref (a 0))] [0] rfl ?_
    exact L_X7_numeral_62 a C R x1 S h

set_option maxHeartbeats 4000000 in
set_option maxRecDepth 100000 in
theorem L_X7_numeral_20 {E : zEnv} {Γ : zG} (a : Nat → Nat) (C : zC E Γ cX7_numeral RX7 4 rm_X7_numeral wsX7_numeral) {res : (Int32 × St)} (R : zRi E Γ cX7_numeral 4 .int (wModel E a res.2) res.1) (x1 : Int32) (x2 : Int32) (S : St) (h : f_X7_numeral_20 x1 x2 S = some res) : Zt E Γ 4 0 0 (wModel E a S) [(0, .ref (a 0)), (1, .int x1), (2, .int x2)] 20 [] := by
  unfold f_X7_numeral_20 at h
  refine z_aload_n C 0 rfl rfl dX7_numeral_20 ?_
  refine z_get C 0 rfl (C := RX7) (T := TX7) (N := 38) (ci := 7) rfl inw_X7_numeral_X7 11 (by decide) (ref := "EldestAgeModel") (List.mem_of_getElem? (i := 1) rfl) rfl (v := .int (S 11 0)) rfl dX7_numeral_21 ?_
  refine z_if_ne C 47 (by decide) h dX7_numeral_24 (fun hc h => ?_) (fun hc h => ?_)
  · refine z_aload_n C 0 rfl rfl dX7_numeral_27 ?_
    refine z_get C 0 rfl (C := RX7) (T := TX7) (N := 38) (ci := 7) rfl inw_X7_numeral_X7 16 (by decide) (ref := "EldestAgeModel") (List.mem_of_getElem? (i := 3) rfl) rfl (v := .int (S 16 0)) rfl dX7_numeral_28 ?_
    refine z_i2l C dX7_numeral_31 ?_
    refine z_iload_n C 1 rfl rfl dX7_numeral_32 ?_
    refine z_i2l C dX7_numeral_33 ?_
    refine z_iload_n C 2 rfl rfl dX7_numeral_34 ?_
    refine z_i2l C dX7_numeral_35 ?_
    obtain ⟨q2, e2, h⟩ := bd_e h
    refine z_callSi C (rest := []) (c_X7_in E (Int32.toInt64 (S 16 0)) (Int32.toInt64 x1) (Int32.toInt64 x2) e2) gX7_numeral_X7_in rfl rfl rfl 3 rfl (by decide +kernel) ⟨Nat.le_of_ble_eq_true rfl, Nat.le_of_ble_eq_true rfl⟩ [] rfl (by decide) rfl (wModel E a S) rfl (Nat.le_of_ble_eq_true rfl) dX7_numeral_36 ⟨Nat.zero_le _, Nat.zero_le _⟩ _ rfl ?_
    refine z_if_ne C 47 (by decide) h dX7_numeral_39 (fun hc h => ?_) (fun hc h => ?_)
    · refine z_aload_n C 0 rfl rfl dX7_numeral_42 ?_
      refine z_iconst C (v := (3 : Int32)) (by decide) dX7_numeral_43 ?_
      obtain ⟨q3, e3, h⟩ := bd_e h
      refine z_callVv C (b := a 0) (As := [.int (3 : Int32)]) (rest := []) (c_X7_fails E a (3 : Int32) S e3) rfl gX7_numeral_X7_fails rfl rfl rfl 1 rfl (by decide +kernel) ⟨Nat.le_of_ble_eq_true rfl, Nat.le_of_ble_eq_true rfl⟩ [0, 1, 2, 3, 4, 5, 6, 7, 8, 9, 10, 11, 12, 13, 14, 15, 16] (wl_X7_numeral_0 E a S) (by decide) (wl_X7_numeral_1 E a _ _) (wModel E a q3) (wl_X7_numeral_2 E a S q3) 0 7 rfl rfl rfl (Nat.le_of_ble_eq_true rfl) dX7_numeral_44 ⟨Nat.zero_le _, Nat.zero_le _⟩ _ rfl ?_
      refine Zt_l [(0, .ref (a 0)), (1, .int x1)] [0, 1] rfl ?_
      exact L_X7_numeral_47 a C R x1 q3 h
    · refine Zt_l [(0, .ref (a 0)), (1, .int x1)] [0, 1] rfl ?_
      exact L_X7_numeral_47 a C R x1 S h
  · refine Zt_l [(0, .ref (a 0)), (1, .int x1)] [0, 1] rfl ?_
    exact L_X7_numeral_47 a C R x1 S h

set_option maxHeartbeats 4000000 in
set_option maxRecDepth 100000 in
theorem L_X7_numeral {E : zEnv} {Γ : zG} (a : Nat → Nat) (C : zC E Γ cX7_numeral RX7 4 rm_X7_numeral wsX7_numeral) {res : (Int32 × St)} (R : zRi E Γ cX7_numeral 4 .int (wModel E a res.2) res.1) (x1 : Int32) (x2 : Int32) (S : St) (h : f_X7_numeral x1 x2 S = some res) : Zt E Γ 4 0 0 (wModel E a S) [(0, .ref (a 0)), (1, .int x1), (2, .int x2)] 0 [] := by
  unfold f_X7_numeral at h
  refine z_aload_n C 0 rfl rfl dX7_numeral_0 ?_
  refine z_get C 0 rfl (C := RX7) (T := TX7) (N := 38) (ci := 7) rfl inw_X7_numeral_X7 11 (by decide) (ref := "EldestAgeModel") (List.mem_of_getElem? (i := 1) rfl) rfl (v := .int (S 11 0)) rfl dX7_numeral_1 ?_
  refine z_if_ne C 20 (by decide) h dX7_numeral_4 (fun hc h => ?_) (fun hc h => ?_)
  · refine z_aload_n C 0 rfl rfl dX7_numeral_7 ?_
    refine z_get C 0 rfl (C := RX7) (T := TX7) (N := 38) (ci := 7) rfl inw_X7_numeral_X7 15 (by decide) (ref := "EldestAgeModel") (List.mem_of_getElem? (i := 2) rfl) rfl (v := .int (S 15 0)) rfl dX7_numeral_8 ?_
    refine z_iconst C (v := (2 : Int32)) (by decide) dX7_numeral_11 ?_
    refine z_icmp_eq C 20 (by decide) h dX7_numeral_12 (fun hc h => ?_) (fun hc h => ?_)
    · exact L_X7_numeral_20 a C R x1 x2 S h
    · refine z_aload_n C 0 rfl rfl dX7_numeral_15 ?_
      refine z_iconst C (v := (2 : Int32)) (by decide) dX7_numeral_16 ?_
      obtain ⟨q4, e4, h⟩ := bd_e h
      refine z_callVv C (b := a 0) (As := [.int (2 : Int32)]) (rest := []) (c_X7_fails E a (2 : Int32) S e4) rfl gX7_numeral_X7_fails rfl rfl rfl 1 rfl (by decide +kernel) ⟨Nat.le_of_ble_eq_true rfl, Nat.le_of_ble_eq_true rfl⟩ [0, 1, 2, 3, 4, 5, 6, 7, 8, 9, 10, 11, 12, 13, 14, 15, 16] (wl_X7_numeral_0 E a S) (by decide) (wl_X7_numeral_1 E a _ _) (wModel E a q4) (wl_X7_numeral_2 E a S q4) 0 7 rfl rfl rfl (Nat.le_of_ble_eq_true rfl) dX7_numeral_17 ⟨Nat.zero_le _, Nat.zero_le _⟩ _ rfl ?_
      exact L_X7_numeral_20 a C R x1 x2 q4 h
  · exact L_X7_numeral_20 a C R x1 x2 S h

theorem c_X7_numeral (E : zEnv) (a : Nat → Nat) (x1 : Int32) (x2 : Int32) (S : St) {res : (Int32 × St)} (h : f_X7_numeral x1 x2 S = some res) : Kti E yX7_numeral wsX7_numeral rm_X7_numeral (wModel E a S) (wModel E a res.2) [.ref (a 0), .int x1, .int x2] res.1 :=
  z_enti (cc := cX7_numeral) (maxL := 4) (rt := .int) (by decide +kernel) rfl (Nat.le_of_ble_eq_true rfl) (fun Γ C R => L_X7_numeral a C R x1 x2 S h)

abbrev rm_X7_day : Room := { frames := 3, cells := 0, slots := 0, locals := 69 }
theorem inw_X7_day_X7 : ∀ w ∈ wsX70, w ∈ wsX7_day := fun _ h => List.mem_cons_of_mem _ (List.mem_append_right _ h)
set_option maxHeartbeats 4000000 in
theorem wl_X7_day_0 (E : zEnv) (a : Nat → Nat) (S : St) : ([0, 1, 2, 3, 4, 5, 6, 7, 8, 9, 10, 11, 12, 13, 14, 15, 16] : List Nat).map (fun i => (wModel E a S)[i]?) = (wModel E a S).map some := rfl
set_option maxHeartbeats 4000000 in
theorem wl_X7_day_1 (E : zEnv) (a : Nat → Nat) (S U : St) : (wModel E a U).map (fun q => q.1) = (wModel E a S).map (fun q => q.1) := rfl
set_option maxHeartbeats 4000000 in
theorem wl_X7_day_2 (E : zEnv) (a : Nat → Nat) (S U : St) : (wModel E a U) = zrep [0, 1, 2, 3, 4, 5, 6, 7, 8, 9, 10, 11, 12, 13, 14, 15, 16] (wModel E a U) (wModel E a S) := zrep_of (isR := []) 17 rfl [] rfl rfl rfl rfl (by decide +kernel) (by decide +kernel)
noncomputable def f_X7_day_57 (x2 : Int32) (S : St) : Option (Int32 × St) := ((f_X7_numeral (0 : Int32) (359 : Int32) S).bind (fun q1 => (some ((((360 : Int32) * x2) + q1.1), q1.2))))
noncomputable def f_X7_day (x1 : Int32) (S : St) : Option (Int32 × St) := ((f_X7_numeral (0 : Int32) (99 : Int32) S).bind (fun q2 => (if (q2.2 11 0) = 0 then (if (q2.2 15 0) = (2 : Int32) then ((f_X7_in (Int32.toInt64 (q2.2 16 0)) (0 : Int64) (359 : Int64)).bind (fun q3 => (if q3 = 0 then (f_X7_day_57 q2.1 q2.2) else (if x1 ≤ (((360 : Int32) * q2.1) + (q2.2 16 0)) then (f_X7_day_57 q2.1 q2.2) else ((f_X7_fails (4 : Int32) q2.2).bind (fun q4 => (f_X7_day_57 q2.1 q4))))))) else (f_X7_day_57 q2.1 q2.2)) else (f_X7_day_57 q2.1 q2.2))))
set_option maxHeartbeats 4000000 in
set_option maxRecDepth 100000 in
theorem L_X7_day_57 {E : zEnv} {Γ : zG} (a : Nat → Nat) (C : zC E Γ cX7_day RX7 3 rm_X7_day wsX7_day) {res : (Int32 × St)} (R : zRi E Γ cX7_day 3 .int (wModel E a res.2) res.1) (x2 : Int32) (S : St) (h : f_X7_day_57 x2 S = some res) : Zt E Γ 3 0 0 (wModel E a S) [(0, .ref (a 0)), (2, .int x2)] 57 [] := by
  unfold f_X7_day_57 at h
  refine z_sipush C (v := (360 : Int32)) (by decide) dX7_day_57 ?_
  refine z_iload_n C 1 rfl rfl dX7_day_60 ?_
  refine z_imul C dX7_day_61 ?_
  refine z_aload_n C 0 rfl rfl dX7_day_62 ?_
  refine z_iconst C (v := (0 : Int32)) (by decide) dX7_day_63 ?_
  refine z_sipush C (v := (359 : Int32)) (by decide) dX7_day_64 ?_
  obtain ⟨q1, e1, h⟩ := bd_e h
  refine z_callVi C (b := a 0) (As := [.int (0 : Int32), .int (359 : Int32)]) (rest := [.int ((360 : Int32) * x2)]) (c_X7_numeral E a (0 : Int32) (359 : Int32) S e1) rfl gX7_day_X7_numeral rfl rfl rfl 2 rfl (by decide +kernel) ⟨Nat.le_of_ble_eq_true rfl, Nat.le_of_ble_eq_true rfl⟩ [0, 1, 2, 3, 4, 5, 6, 7, 8, 9, 10, 11, 12, 13, 14, 15, 16] (wl_X7_day_0 E a S) (by decide) (wl_X7_day_1 E a _ _) (wModel E a q1.2) (wl_X7_day_2 E a S q1.2) 0 7 rfl rfl rfl (Nat.le_of_ble_eq_true rfl) dX7_day_67 ⟨Nat.zero_le _, Nat.zero_le _⟩ _ rfl ?_
  refine z_iadd C dX7_day_70 ?_
  obtain rfl := Option.some.inj h
  exact R rfl 71 _ dX7_day_71

set_option maxHeartbeats 4000000 in
set_option maxRecDepth 100000 in
theorem L_X7_day {E : zEnv} {Γ : zG} (a : Nat → Nat) (C : zC E Γ cX7_day RX7 3 rm_X7_day wsX7_day) {res : (Int32 × St)} (R : zRi E Γ cX7_day 3 .int (wModel E a res.2) res.1) (x1 : Int32) (S : St) (h : f_X7_day x1 S = some res) : Zt E Γ 3 0 0 (wModel E a S) [(0, .ref (a 0)), (1, .int x1)] 0 [] := by
  unfold f_X7_day at h
  refine z_aload_n C 0 rfl rfl dX7_day_0 ?_
  refine z_iconst C (v := (0 : Int32)) (by decide) dX7_day_1 ?_
  refine z_bipush C (v := (99 : Int32)) (by decide) dX7_day_2 ?_
  obtain ⟨q2, e2, h⟩ := bd_e h
  refine z_callVi C (b := a 0) (As := [.int (0 : Int32), .int (99 : Int32)]) (rest := []) (c_X7_numeral E a (0 : Int32) (99 : Int32) S e2) rfl gX7_day_X7_numeral rfl rfl rfl 2 rfl (by decide +kernel) ⟨Nat.le_of_ble_eq_true rfl, Nat.le_of_ble_eq_true rfl⟩ [0, 1, 2, 3, 4, 5, 6, 7, 8, 9, 10, 11, 12, 13, 14, 15, 16] (wl_X7_day_0 E a S) (by decide) (wl_X7_day_1 E a _ _) (wModel E a q2.2) (wl_X7_day_2 E a S q2.2) 0 7 rfl rfl rfl (Nat.le_of_ble_eq_true rfl) dX7_day_4 ⟨Nat.zero_le _, Nat.zero_le _⟩ _ rfl ?_
  refine z_istore_n C [(2, .int q2.1), (0, .ref (a 0)), (1, .int x1)] rfl (by decide) rfl dX7_day_7 ?_
  refine z_aload_n C 1 rfl rfl dX7_day_8 ?_
  refine z_get C 0 rfl (C := RX7) (T := TX7) (N := 38) (ci := 7) rfl inw_X7_day_X7 11 (by decide) (ref := "EldestAgeModel") (List.mem_of_getElem? (i := 1) rfl) rfl (v := .int (q2.2 11 0)) rfl dX7_day_9 ?_
  refine z_if_ne C 57 (by decide) h dX7_day_12 (fun hc h => ?_) (fun hc h => ?_)
  · refine z_aload_n C 1 rfl rfl dX7_day_15 ?_
    refine z_get C 0 rfl (C := RX7) (T := TX7) (N := 38) (ci := 7) rfl inw_X7_day_X7 15 (by decide) (ref := "EldestAgeModel") (List.mem_of_getElem? (i := 2) rfl) rfl (v := .int (q2.2 15 0)) rfl dX7_day_16 ?_
    refine z_iconst C (v := (2 : Int32)) (by decide) dX7_day_19 ?_
    refine z_icmp_ne C 57 (by decide) h dX7_day_20 (fun hc h => ?_) (fun hc h => ?_)
    · refine z_aload_n C 1 rfl rfl dX7_day_23 ?_
      refine z_get C 0 rfl (C := RX7) (T := TX7) (N := 38) (ci := 7) rfl inw_X7_day_X7 16 (by decide) (ref := "EldestAgeModel") (List.mem_of_getElem? (i := 3) rfl) rfl (v := .int (q2.2 16 0)) rfl dX7_day_24 ?_
      refine z_i2l C dX7_day_27 ?_
      refine z_lconst C (v := (0 : Int64)) (by decide) dX7_day_28 ?_
      refine z_ldc2 C (v := (359 : Int64)) (List.mem_of_getElem? (i := 4) rfl) dX7_day_29 ?_
      obtain ⟨q3, e3, h⟩ := bd_e h
      refine z_callSi C (rest := []) (c_X7_in E (Int32.toInt64 (q2.2 16 0)) (0 : Int64) (359 : Int64) e3) gX7_day_X7_in rfl rfl rfl 3 rfl (by decide +kernel) ⟨Nat.le_of_ble_eq_true rfl, Nat.le_of_ble_eq_true rfl⟩ [] rfl (by decide) rfl (wModel E a q2.2) rfl (Nat.le_of_ble_eq_true rfl) dX7_day_32 ⟨Nat.zero_le _, Nat.zero_le _⟩ _ rfl ?_
      refine z_if_eq C 57 (by decide) h dX7_day_35 (fun hc h => ?_) (fun hc h => ?_)
      · refine Zt_l [(0, .ref (a 0)), (2, .int q2.1)] [1, 0] rfl ?_
        exact L_X7_day_57 a C R q2.1 q2.2 h
      · refine z_sipush C (v := (360 : Int32)) (by decide) dX7_day_38 ?_
        refine z_iload_n C 0 rfl rfl dX7_day_41 ?_
        refine z_imul C dX7_day_42 ?_
        refine z_aload_n C 1 rfl rfl dX7_day_43 ?_
        refine z_get C 0 rfl (C := RX7) (T := TX7) (N := 38) (ci := 7) rfl inw_X7_day_X7 16 (by decide) (ref := "EldestAgeModel") (List.mem_of_getElem? (i := 3) rfl) rfl (v := .int (q2.2 16 0)) rfl dX7_day_44 ?_
        refine z_iadd C dX7_day_47 ?_
        refine z_iload_n C 2 rfl rfl dX7_day_48 ?_
        refine z_icmp_ge C 57 (by decide) h dX7_day_49 (fun hc h => ?_) (fun hc h => ?_)
        · refine Zt_l [(0, .ref (a 0)), (2, .int q2.1)] [1, 0] rfl ?_
          exact L_X7_day_57 a C R q2.1 q2.2 h
        · refine z_aload_n C 1 rfl rfl dX7_day_52 ?_
          refine z_iconst C (v := (4 : Int32)) (by decide) dX7_day_53 ?_
          obtain ⟨q4, e4, h⟩ := bd_e h
          refine z_callVv C (b := a 0) (As := [.int (4 : Int32)]) (rest := []) (c_X7_fails E a (4 : Int32) q2.2 e4) rfl gX7_day_X7_fails rfl rfl rfl 1 rfl (by decide +kernel) ⟨Nat.le_of_ble_eq_true rfl, Nat.le_of_ble_eq_true rfl⟩ [0, 1, 2, 3, 4, 5, 6, 7, 8, 9, 10, 11, 12, 13, 14, 15, 16] (wl_X7_day_0 E a q2.2) (by decide) (wl_X7_day_1 E a _ _) (wModel E a q4) (wl_X7_day_2 E a q2.2 q4) 0 7 rfl rfl rfl (Nat.le_of_ble_eq_true rfl) dX7_day_54 ⟨Nat.zero_le _, Nat.zero_le _⟩ _ rfl ?_
          refine Zt_l [(0, .ref (a 0)), (2, .int q2.1)] [1, 0] rfl ?_
          exact L_X7_day_57 a C R q2.1 q4 h
    · refine Zt_l [(0, .ref (a 0)), (2, .int q2.1)] [1, 0] rfl ?_
      exact L_X7_day_57 a C R q2.1 q2.2 h
  · refine Zt_l [(0, .ref (a 0)), (2, .int q2.1)] [1, 0] rfl ?_
    exact L_X7_day_57 a C R q2.1 q2.2 h

theorem c_X7_day (E : zEnv) (a : Nat → Nat) (x1 : Int32) (S : St) {res : (Int32 × St)} (h : f_X7_day x1 S = some res) : Kti E yX7_day wsX7_day rm_X7_day (wModel E a S) (wModel E a res.2) [.ref (a 0), .int x1] res.1 :=
  z_enti (cc := cX7_day) (maxL := 3) (rt := .int) (by decide +kernel) rfl (Nat.le_of_ble_eq_true rfl) (fun Γ C R => L_X7_day a C R x1 S h)

abbrev rm_X7_house : Room := { frames := 3, cells := 0, slots := 0, locals := 69 }
theorem inw_X7_house_X7 : ∀ w ∈ wsX70, w ∈ wsX7_house := fun _ h => List.mem_cons_of_mem _ (List.mem_append_right _ h)
set_option maxHeartbeats 4000000 in
theorem wl_X7_house_0 (E : zEnv) (a : Nat → Nat) (S : St) (v : Int32) : (wModel E a (st 6 (fun _ => v) S)) = (wModel E a S).set 0 (a 0, .inr (7, List.set [.ref (a 1), .int (S 1 0), .ref (a 2), .int (S 3 0), .int (S 4 0), .int (S 5 0), .int (S 6 0), .int (S 7 0), .ref (a 3), .int (S 9 0), .int (S 10 0), .int (S 11 0), .int (S 12 0), .int (S 13 0), .int (S 14 0), .int (S 15 0), .int (S 16 0), .ref (a 4), .ref (a 5), .int (S 19 0), .int (S 20 0), .int (S 21 0), .int (S 22 0), .ref (a 6), .int (S 24 0), .ref (a 7), .int (S 26 0), .ref (a 8), .ref (a 9), .ref (a 10), .ref (a 11), .ref (a 12), .int (S 32 0), .ref (a 13), .ref (a 14), .ref (a 15), .ref (a 16), .int (S 37 0)] 6 (.int v))) := rfl
set_option maxHeartbeats 4000000 in
theorem wl_X7_house_1 (E : zEnv) (a : Nat → Nat) (S : St) : ([0, 1, 2, 3, 4, 5, 6, 7, 8, 9, 10, 11, 12, 13, 14, 15, 16] : List Nat).map (fun i => (wModel E a S)[i]?) = (wModel E a S).map some := rfl
set_option maxHeartbeats 4000000 in
theorem wl_X7_house_2 (E : zEnv) (a : Nat → Nat) (S U : St) : (wModel E a U).map (fun q => q.1) = (wModel E a S).map (fun q => q.1) := rfl
set_option maxHeartbeats 4000000 in
theorem wl_X7_house_3 (E : zEnv) (a : Nat → Nat) (S U : St) : (wModel E a U) = zrep [0, 1, 2, 3, 4, 5, 6, 7, 8, 9, 10, 11, 12, 13, 14, 15, 16] (wModel E a U) (wModel E a S) := zrep_of (isR := []) 17 rfl [] rfl rfl rfl rfl (by decide +kernel) (by decide +kernel)
noncomputable def f_X7_house_25 (x1 : Int32) (y1 : Int32) (S : St) : Option (Int32 × St) := (some (x1, (st 6 (fun _ => y1) S)))
noncomputable def f_X7_house (S : St) : Option (Int32 × St) := ((f_X7_numeral (0 : Int32) (7 : Int32) S).bind (fun q1 => (if q1.1 ≤ (q1.2 6 0) then (f_X7_house_25 q1.1 (q1.2 6 0) q1.2) else (f_X7_house_25 q1.1 q1.1 q1.2))))
set_option maxHeartbeats 4000000 in
set_option maxRecDepth 100000 in
theorem L_X7_house_25 {E : zEnv} {Γ : zG} (a : Nat → Nat) (C : zC E Γ cX7_house RX7 2 rm_X7_house wsX7_house) {res : (Int32 × St)} (R : zRi E Γ cX7_house 2 .int (wModel E a res.2) res.1) (x1 : Int32) (y1 : Int32) (S : St) (h : f_X7_house_25 x1 y1 S = some res) : Zt E Γ 2 0 0 (wModel E a S) [(1, .int x1)] 25 [.int y1, .ref (a 0)] := by
  unfold f_X7_house_25 at h
  refine z_put C 0 rfl (C := RX7) (T := TX7) (N := 38) (ci := 7) rfl inw_X7_house_X7 tyX7 tyX7_ok nmX7 6 (by decide) (ref := "EldestAgeModel") (List.mem_of_getElem? (i := 1) rfl) rfl rfl (ty := .int) (v := .int y1) (by decide +kernel) rfl rfl (Nat.le_of_ble_eq_true rfl) (wModel E a (st 6 (fun _ => y1) S)) (wl_X7_house_0 E a S y1) dX7_house_25 ?_
  refine z_iload_n C 0 rfl rfl dX7_house_28 ?_
  obtain rfl := Option.some.inj h
  exact R rfl 29 _ dX7_house_29

set_option maxHeartbeats 4000000 in
set_option maxRecDepth 100000 in
theorem L_X7_house {E : zEnv} {Γ : zG} (a : Nat → Nat) (C : zC E Γ cX7_house RX7 2 rm_X7_house wsX7_house) {res : (Int32 × St)} (R : zRi E Γ cX7_house 2 .int (wModel E a res.2) res.1) (S : St) (h : f_X7_house S = some res) : Zt E Γ 2 0 0 (wModel E a S) [(0, .ref (a 0))] 0 [] := by
  unfold f_X7_house at h
  refine z_aload_n C 0 rfl rfl dX7_house_0 ?_
  refine z_iconst C (v := (0 : Int32)) (by decide) dX7_house_1 ?_
  refine z_bipush C (v := (7 : Int32)) (by decide) dX7_house_2 ?_
  obtain ⟨q1, e1, h⟩ := bd_e h
  refine z_callVi C (b := a 0) (As := [.int (0 : Int32), .int (7 : Int32)]) (rest := []) (c_X7_numeral E a (0 : Int32) (7 : Int32) S e1) rfl gX7_house_X7_numeral rfl rfl rfl 2 rfl (by decide +kernel) ⟨Nat.le_of_ble_eq_true rfl, Nat.le_of_ble_eq_true rfl⟩ [0, 1, 2, 3, 4, 5, 6, 7, 8, 9, 10, 11, 12, 13, 14, 15, 16] (wl_X7_house_1 E a S) (by decide) (wl_X7_house_2 E a _ _) (wModel E a q1.2) (wl_X7_house_3 E a S q1.2) 0 7 rfl rfl rfl (Nat.le_of_ble_eq_true rfl) dX7_house_4 ⟨Nat.zero_le _, Nat.zero_le _⟩ _ rfl ?_
  refine z_istore_n C [(1, .int q1.1), (0, .ref (a 0))] rfl (by decide) rfl dX7_house_7 ?_
  refine z_aload_n C 1 rfl rfl dX7_house_8 ?_
  refine z_iload_n C 0 rfl rfl dX7_house_9 ?_
  refine z_aload_n C 1 rfl rfl dX7_house_10 ?_
  refine z_get C 0 rfl (C := RX7) (T := TX7) (N := 38) (ci := 7) rfl inw_X7_house_X7 6 (by decide) (ref := "EldestAgeModel") (List.mem_of_getElem? (i := 1) rfl) rfl (v := .int (q1.2 6 0)) rfl dX7_house_11 ?_
  refine z_icmp_le C 21 (by decide) h dX7_house_14 (fun hc h => ?_) (fun hc h => ?_)
  · refine z_aload_n C 1 rfl rfl dX7_house_21 ?_
    refine z_get C 0 rfl (C := RX7) (T := TX7) (N := 38) (ci := 7) rfl inw_X7_house_X7 6 (by decide) (ref := "EldestAgeModel") (List.mem_of_getElem? (i := 1) rfl) rfl (v := .int (q1.2 6 0)) rfl dX7_house_22 ?_
    refine Zt_l [(1, .int q1.1)] [0] rfl ?_
    exact L_X7_house_25 a C R q1.1 (q1.2 6 0) q1.2 h
  · refine z_iload_n C 0 rfl rfl dX7_house_17 ?_
    refine z_goto C 25 (by decide) dX7_house_18 ?_
    refine Zt_l [(1, .int q1.1)] [0] rfl ?_
    exact L_X7_house_25 a C R q1.1 q1.1 q1.2 h

theorem c_X7_house (E : zEnv) (a : Nat → Nat) (S : St) {res : (Int32 × St)} (h : f_X7_house S = some res) : Kti E yX7_house wsX7_house rm_X7_house (wModel E a S) (wModel E a res.2) [.ref (a 0)] res.1 :=
  z_enti (cc := cX7_house) (maxL := 2) (rt := .int) (by decide +kernel) rfl (Nat.le_of_ble_eq_true rfl) (fun Γ C R => L_X7_house a C R S h)

abbrev rm_X7_readOne : Room := { frames := 4, cells := 0, slots := 0, locals := 91 }
theorem inw_X7_readOne_X7 : ∀ w ∈ wsX70, w ∈ wsX7_readOne := fun _ h => List.mem_cons_of_mem _ (List.mem_append_right _ h)
set_option maxHeartbeats 4000000 in
theorem wl_X7_readOne_0 (E : zEnv) (a : Nat → Nat) (S : St) (f : Nat → Int32) : (wModel E a (st 2 f S)) = (wModel E a S).set 2 (a 2, .inl (zI E, 92, .inl f)) := rfl
set_option maxHeartbeats 4000000 in
theorem wl_X7_readOne_1 (E : zEnv) (a : Nat → Nat) (S : St) : ([0, 1, 2, 3, 4, 5, 6, 7, 8, 9, 10, 11, 12, 13, 14, 15, 16] : List Nat).map (fun i => (wModel E a S)[i]?) = (wModel E a S).map some := rfl
set_option maxHeartbeats 4000000 in
theorem wl_X7_readOne_2 (E : zEnv) (a : Nat → Nat) (S U : St) : (wModel E a U).map (fun q => q.1) = (wModel E a S).map (fun q => q.1) := rfl
set_option maxHeartbeats 4000000 in
theorem wl_X7_readOne_3 (E : zEnv) (a : Nat → Nat) (S U : St) : (wModel E a U) = zrep [0, 1, 2, 3, 4, 5, 6, 7, 8, 9, 10, 11, 12, 13, 14, 15, 16] (wModel E a U) (wModel E a S) := zrep_of (isR := []) 17 rfl [] rfl rfl rfl rfl (by decide +kernel) (by decide +kernel)
noncomputable def f_X7_readOne_154 (S : St) : Option St := (ix (88 : Int32) 92 (ix (88 : Int32) 92 (some (st 2 (upd (S 2) (Int32.toNatClampNeg (88 : Int32)) ((S 2 (Int32.toNatClampNeg (88 : Int32))) + (1 : Int32))) S))))
noncomputable def f_X7_readOne_124 (x1 : Int32) (S : St) : Option St := ((f_X7_step S).bind (fun q1 => (ix (((4 : Int32) * x1) + (1 : Int32)) 92 ((f_X7_day ((q1 2 (Int32.toNatClampNeg (((4 : Int32) * x1) + (1 : Int32)))) + (1 : Int32)) q1).bind (fun q2 => (ix (((4 : Int32) * x1) + (3 : Int32)) 92 (f_X7_readOne_154 (st 2 (upd (q2.2 2) (Int32.toNatClampNeg (((4 : Int32) * x1) + (3 : Int32))) q2.1) q2.2))))))))
noncomputable def f_X7_readOne (S : St) : Option St := (ix (88 : Int32) 92 (if (S 2 (Int32.toNatClampNeg (88 : Int32))) = (10 : Int32) then ((f_X7_fails (5 : Int32) S).bind (fun q3 => (some q3))) else ((f_X7_step S).bind (fun q4 => ((f_X7_nameHere q4).bind (fun q5 => (if 0 ≤ (q5 - (10 : Int32)) then ((f_X7_step q4).bind (fun q6 => (ix ((4 : Int32) * (S 2 (Int32.toNatClampNeg (88 : Int32)))) 92 ((f_X7_day (0 : Int32) (st 2 (upd (q6 2) (Int32.toNatClampNeg ((4 : Int32) * (S 2 (Int32.toNatClampNeg (88 : Int32))))) (q5 - (10 : Int32))) q6)).bind (fun q7 => (ix (((4 : Int32) * (S 2 (Int32.toNatClampNeg (88 : Int32)))) + (1 : Int32)) 92 ((f_X7_house (st 2 (upd (q7.2 2) (Int32.toNatClampNeg (((4 : Int32) * (S 2 (Int32.toNatClampNeg (88 : Int32)))) + (1 : Int32))) q7.1) q7.2)).bind (fun q8 => (ix (((4 : Int32) * (S 2 (Int32.toNatClampNeg (88 : Int32)))) + (2 : Int32)) 92 (ix (((4 : Int32) * (S 2 (Int32.toNatClampNeg (88 : Int32)))) + (3 : Int32)) 92 (if (q8.2 11 0) = 0 then (if (q8.2 15 0) = (1 : Int32) then ((f_X7_nameHere (st 2 (upd (upd (q8.2 2) (Int32.toNatClampNeg (((4 : Int32) * (S 2 (Int32.toNatClampNeg (88 : Int32)))) + (2 : Int32))) q8.1) (Int32.toNatClampNeg (((4 : Int32) * (S 2 (Int32.toNatClampNeg (88 : Int32)))) + (3 : Int32))) (-4 : Int32)) (st 2 (upd (q8.2 2) (Int32.toNatClampNeg (((4 : Int32) * (S 2 (Int32.toNatClampNeg (88 : Int32)))) + (2 : Int32))) q8.1) q8.2))).bind (fun q9 => (if q9 = (5 : Int32) then (f_X7_readOne_124 (S 2 (Int32.toNatClampNeg (88 : Int32))) (st 2 (upd (upd (q8.2 2) (Int32.toNatClampNeg (((4 : Int32) * (S 2 (Int32.toNatClampNeg (88 : Int32)))) + (2 : Int32))) q8.1) (Int32.toNatClampNeg (((4 : Int32) * (S 2 (Int32.toNatClampNeg (88 : Int32)))) + (3 : Int32))) (-4 : Int32)) (st 2 (upd (q8.2 2) (Int32.toNatClampNeg (((4 : Int32) * (S 2 (Int32.toNatClampNeg (88 : Int32)))) + (2 : Int32))) q8.1) q8.2))) else ((f_X7_fails (2 : Int32) (st 2 (upd (upd (q8.2 2) (Int32.toNatClampNeg (((4 : Int32) * (S 2 (Int32.toNatClampNeg (88 : Int32)))) + (2 : Int32))) q8.1) (Int32.toNatClampNeg (((4 : Int32) * (S 2 (Int32.toNatClampNeg (88 : Int32)))) + (3 : Int32))) (-4 : Int32)) (st 2 (upd (q8.2 2) (Int32.toNatClampNeg (((4 : Int32) * (S 2 (Int32.toNatClampNeg (88 : Int32)))) + (2 : Int32))) q8.1) q8.2))).bind (fun q10 => (f_X7_readOne_124 (S 2 (Int32.toNatClampNeg (88 : Int32))) q10)))))) else (f_X7_readOne_154 (st 2 (upd (upd (q8.2 2) (Int32.toNatClampNeg (((4 : Int32) * (S 2 (Int32.toNatClampNeg (88 : Int32)))) + (2 : Int32))) q8.1) (Int32.toNatClampNeg (((4 : Int32) * (S 2 (Int32.toNatClampNeg (88 : Int32)))) + (3 : Int32))) (-4 : Int32)) (st 2 (upd (q8.2 2) (Int32.toNatClampNeg (((4 : Int32) * (S 2 (Int32.toNatClampNeg (88 : Int32)))) + (2 : Int32))) q8.1) q8.2)))) else (f_X7_readOne_154 (st 2 (upd (upd (q8.2 2) (Int32.toNatClampNeg (((4 : Int32) * (S 2 (Int32.toNatClampNeg (88 : Int32)))) + (2 : Int32))) q8.1) (Int32.toNatClampNeg (((4 : Int32) * (S 2 (Int32.toNatClampNeg (88 : Int32)))) + (3 : Int32))) (-4 : Int32)) (st 2 (upd (q8.2 2) (Int32.toNatClampNeg (((4 : Int32) * (S 2 (Int32.toNatClampNeg (88 : Int32)))) + (2 : Int32))) q8.1) q8.2)))))))))))))) else ((f_X7_fails (2 : Int32) q4).bind (fun q11 => (some q11))))))))))
set_option maxHeartbeats 4000000 in
set_option maxRecDepth 100000 in
theorem L_X7_readOne_154 {E : zEnv} {Γ : zG} (a : Nat → Nat) (C : zC E Γ cX7_readOne RX7 3 rm_X7_readOne wsX7_readOne) {res : St} (R : zRv E Γ cX7_readOne 3 (wModel E a res)) (S : St) (h : f_X7_readOne_154 S = some res) : Zt E Γ 3 0 0 (wModel E a S) [(0, .ref (a 0))] 154 [] := by
  unfold f_X7_readOne_154 at h
  refine z_aload_n C 0 rfl rfl dX7_readOne_154 ?_
  refine z_get C 0 rfl (C := RX7) (T := TX7) (N := 38) (ci := 7) rfl inw_X7_readOne_X7 2 (by decide) (ref := "EldestAgeModel") (List.mem_of_getElem? (i := 1) rfl) rfl (v := .ref (a 2)) rfl dX7_readOne_155 ?_
  refine z_bipush C (v := (88 : Int32)) (by decide) dX7_readOne_158 ?_
  refine z_dup2 C rfl rfl dX7_readOne_160 ?_
  refine z_iald C (N := 92) (f := (S 2)) 2 rfl h dX7_readOne_161 (fun h => ?_)
  refine z_iconst C (v := (1 : Int32)) (by decide) dX7_readOne_162 ?_
  refine z_iadd C dX7_readOne_163 ?_
  refine z_iast C (N := 92) (f := (S 2)) 2 rfl h (wModel E a (st 2 (upd (S 2) (Int32.toNatClampNeg (88 : Int32)) ((S 2 (Int32.toNatClampNeg (88 : Int32))) + (1 : Int32))) S)) (wl_X7_readOne_0 E a S (upd (S 2) (Int32.toNatClampNeg (88 : Int32)) ((S 2 (Int32.toNatClampNeg (88 : Int32))) + (1 : Int32)))) dX7_readOne_164 (fun h => ?_)
  obtain rfl := Option.some.inj h
  exact R 165 _ dX7_readOne_165

set_option maxHeartbeats 4000000 in
set_option maxRecDepth 100000 in
theorem L_X7_readOne_124 {E : zEnv} {Γ : zG} (a : Nat → Nat) (C : zC E Γ cX7_readOne RX7 3 rm_X7_readOne wsX7_readOne) {res : St} (R : zRv E Γ cX7_readOne 3 (wModel E a res)) (x1 : Int32) (S : St) (h : f_X7_readOne_124 x1 S = some res) : Zt E Γ 3 0 0 (wModel E a S) [(0, .ref (a 0)), (1, .int x1)] 124 [] := by
  unfold f_X7_readOne_124 at h
  refine z_aload_n C 0 rfl rfl dX7_readOne_124 ?_
  obtain ⟨q1, e1, h⟩ := bd_e h
  refine z_callVv C (b := a 0) (As := []) (rest := []) (c_X7_step E a S e1) rfl gX7_readOne_X7_step rfl rfl rfl 0 rfl (by decide +kernel) ⟨Nat.le_of_ble_eq_true rfl, Nat.le_of_ble_eq_true rfl⟩ [0, 1, 2, 3, 4, 5, 6, 7, 8, 9, 10, 11, 12, 13, 14, 15, 16] (wl_X7_readOne_1 E a S) (by decide) (wl_X7_readOne_2 E a _ _) (wModel E a q1) (wl_X7_readOne_3 E a S q1) 0 7 rfl rfl rfl (Nat.le_of_ble_eq_true rfl) dX7_readOne_125 ⟨Nat.zero_le _, Nat.zero_le _⟩ _ rfl ?_
  refine z_aload_n C 0 rfl rfl dX7_readOne_128 ?_
  refine z_get C 0 rfl (C := RX7) (T := TX7) (N := 38) (ci := 7) rfl inw_X7_readOne_X7 2 (by decide) (ref := "EldestAgeModel") (List.mem_of_getElem? (i := 1) rfl) rfl (v := .ref (a 2)) rfl dX7_readOne_129 ?_
  refine z_iconst C (v := (4 : Int32)) (by decide) dX7_readOne_132 ?_
  refine z_iload_n C 1 rfl rfl dX7_readOne_133 ?_
  refine z_imul C dX7_readOne_134 ?_
  refine z_iconst C (v := (3 : Int32)) (by decide) dX7_readOne_135 ?_
  refine z_iadd C dX7_readOne_136 ?_
  refine z_aload_n C 0 rfl rfl dX7_readOne_137 ?_
  refine z_aload_n C 0 rfl rfl dX7_readOne_138 ?_
  refine z_get C 0 rfl (C := RX7) (T := TX7) (N := 38) (ci := 7) rfl inw_X7_readOne_X7 2 (by decide) (ref := "EldestAgeModel") (List.mem_of_getElem? (i := 1) rfl) rfl (v := .ref (a 2)) rfl dX7_readOne_139 ?_
  refine z_iconst C (v := (4 : Int32)) (by decide) dX7_readOne_142 ?_
  refine z_iload_n C 1 rfl rfl dX7_readOne_143 ?_
  refine z_imul C dX7_readOne_144 ?_
  refine z_iconst C (v := (1 : Int32)) (by decide) dX7_readOne_145 ?_
  refine z_iadd C dX7_readOne_146 ?_
  refine z_iald C (N := 92) (f := (q1 2)) 2 rfl h dX7_readOne_147 (fun h => ?_)
  refine z_iconst C (v := (1 : Int32)) (by decide) dX7_readOne_148 ?_
  refine z_iadd C dX7_readOne_149 ?_
  obtain ⟨q2, e2, h⟩ := bd_e h
  refine z_callVi C (b := a 0) (As := [.int ((q1 2 (Int32.toNatClampNeg (((4 : Int32) * x1) + (1 : Int32)))) + (1 : Int32))]) (rest := [.int (((4 : Int32) * x1) + (3 : Int32)), .ref (a 2)]) (c_X7_day E a ((q1 2 (Int32.toNatClampNeg (((4 : Int32) * x1) + (1 : Int32)))) + (1 : Int32)) q1 e2) rfl gX7_readOne_X7_day rfl rfl rfl 1 rfl (by decide +kernel) ⟨Nat.le_of_ble_eq_true rfl, Nat.le_of_ble_eq_true rfl⟩ [0, 1, 2, 3, 4, 5, 6, 7, 8, 9, 10, 11, 12, 13, 14, 15, 16] (wl_X7_readOne_1 E a q1) (by decide) (wl_X7_readOne_2 E a _ _) (wModel E a q2.2) (wl_X7_readOne_3 E a q1 q2.2) 0 7 rfl rfl rfl (Nat.le_of_ble_eq_true rfl) dX7_readOne_150 ⟨Nat.zero_le _, Nat.zero_le _⟩ _ rfl ?_
  refine z_iast C (N := 92) (f := (q2.2 2)) 2 rfl h (wModel E a (st 2 (upd (q2.2 2) (Int32.toNatClampNeg (((4 : Int32) * x1) + (3 : Int32))) q2.1) q2.2)) (wl_X7_readOne_0 E a q2.2 (upd (q2.2 2) (Int32.toNatClampNeg (((4 : Int32) * x1) + (3 : Int32))) q2.1)) dX7_readOne_153 (fun h => ?_)
  refine Zt_l [(0, .ref (a 0))] [0] rfl ?_
  exact L_X7_readOne_154 a C R (st 2 (upd (q2.2 2) (Int32.toNatClampNeg (((4 : Int32) * x1) + (3 : Int32))) q2.1) q2.2) h

set_option maxHeartbeats 4000000 in
set_option maxRecDepth 100000 in
theorem L_X7_readOne {E : zEnv} {Γ : zG} (a : Nat → Nat) (C : zC E Γ cX7_readOne RX7 3 rm_X7_readOne wsX7_readOne) {res : St} (R : zRv E Γ cX7_readOne 3 (wModel E a res)) (S : St) (h : f_X7_readOne S = some res) : Zt E Γ 3 0 0 (wModel E a S) [(0, .ref (a 0))] 0 [] := by
  unfold f_X7_readOne at h
  refine z_aload_n C 0 rfl rfl dX7_readOne_0 ?_
  refine z_get C 0 rfl (C := RX7) (T := TX7) (N := 38) (ci := 7) rfl inw_X7_readOne_X7 2 (by decide) (ref := "EldestAgeModel") (List.mem_of_getElem? (i := 1) rfl) rfl (v := .ref (a 2)) rfl dX7_readOne_1 ?_
  refine z_bipush C (v := (88 : Int32)) (by decide) dX7_readOne_4 ?_
  refine z_iald C (N := 92) (f := (S 2)) 2 rfl h dX7_readOne_6 (fun h => ?_)
  refine z_istore_n C [(1, .int (S 2 (Int32.toNatClampNeg (88 : Int32)))), (0, .ref (a 0))] rfl (by decide) rfl dX7_readOne_7 ?_
  refine z_iload_n C 0 rfl rfl dX7_readOne_8 ?_
  refine z_bipush C (v := (10 : Int32)) (by decide) dX7_readOne_9 ?_
  refine z_icmp_ne C 20 (by decide) h dX7_readOne_11 (fun hc h => ?_) (fun hc h => ?_)
  · refine z_aload_n C 1 rfl rfl dX7_readOne_14 ?_
    refine z_iconst C (v := (5 : Int32)) (by decide) dX7_readOne_15 ?_
    obtain ⟨q3, e3, h⟩ := bd_e h
    refine z_callVv C (b := a 0) (As := [.int (5 : Int32)]) (rest := []) (c_X7_fails E a (5 : Int32) S e3) rfl gX7_readOne_X7_fails rfl rfl rfl 1 rfl (by decide +kernel) ⟨Nat.le_of_ble_eq_true rfl, Nat.le_of_ble_eq_true rfl⟩ [0, 1, 2, 3, 4, 5, 6, 7, 8, 9, 10, 11, 12, 13, 14, 15, 16] (wl_X7_readOne_1 E a S) (by decide) (wl_X7_readOne_2 E a _ _) (wModel E a q3) (wl_X7_readOne_3 E a S q3) 0 7 rfl rfl rfl (Nat.le_of_ble_eq_true rfl) dX7_readOne_16 ⟨Nat.zero_le _, Nat.zero_le _⟩ _ rfl ?_
    obtain rfl := Option.some.inj h
    exact R 19 _ dX7_readOne_19
  · refine z_aload_n C 1 rfl rfl dX7_readOne_20 ?_
    obtain ⟨q4, e4, h⟩ := bd_e h
    refine z_callVv C (b := a 0) (As := []) (rest := []) (c_X7_step E a S e4) rfl gX7_readOne_X7_step rfl rfl rfl 0 rfl (by decide +kernel) ⟨Nat.le_of_ble_eq_true rfl, Nat.le_of_ble_eq_true rfl⟩ [0, 1, 2, 3, 4, 5, 6, 7, 8, 9, 10, 11, 12, 13, 14, 15, 16] (wl_X7_readOne_1 E a S) (by decide) (wl_X7_readOne_2 E a _ _) (wModel E a q4) (wl_X7_readOne_3 E a S q4) 0 7 rfl rfl rfl (Nat.le_of_ble_eq_true rfl) dX7_readOne_21 ⟨Nat.zero_le _, Nat.zero_le _⟩ _ rfl ?_
    refine z_aload_n C 1 rfl rfl dX7_readOne_24 ?_
    obtain ⟨q5, e5, h⟩ := bd_e h
    refine z_callVi C (b := a 0) (As := []) (rest := []) (c_X7_nameHere E a q4 e5) rfl gX7_readOne_X7_nameHere rfl rfl rfl 0 rfl (by decide +kernel) ⟨Nat.le_of_ble_eq_true rfl, Nat.le_of_ble_eq_true rfl⟩ [0, 1, 2, 3, 4, 5, 6, 7, 8, 9, 10, 11, 12, 13, 14, 15, 16] (wl_X7_readOne_1 E a q4) (by decide) rfl (wModel E a q4) (zrep_self (wl_X7_readOne_1 E a q4)) 0 7 rfl rfl rfl (Nat.le_of_ble_eq_true rfl) dX7_readOne_25 ⟨Nat.zero_le _, Nat.zero_le _⟩ _ rfl ?_
    refine z_bipush C (v := (10 : Int32)) (by decide) dX7_readOne_28 ?_
    refine z_isub C dX7_readOne_30 ?_
    refine z_istore_n C [(2, .int (q5 - (10 : Int32))), (1, .int (S 2 (Int32.toNatClampNeg (88 : Int32)))), (0, .ref (a 0))] rfl (by decide) rfl dX7_readOne_31 ?_
    refine z_iload_n C 0 rfl rfl dX7_readOne_32 ?_
    refine z_if_ge C 42 (by decide) h dX7_readOne_33 (fun hc h => ?_) (fun hc h => ?_)
    · refine z_aload_n C 2 rfl rfl dX7_readOne_42 ?_
      obtain ⟨q6, e6, h⟩ := bd_e h
      refine z_callVv C (b := a 0) (As := []) (rest := []) (c_X7_step E a q4 e6) rfl gX7_readOne_X7_step rfl rfl rfl 0 rfl (by decide +kernel) ⟨Nat.le_of_ble_eq_true rfl, Nat.le_of_ble_eq_true rfl⟩ [0, 1, 2, 3, 4, 5, 6, 7, 8, 9, 10, 11, 12, 13, 14, 15, 16] (wl_X7_readOne_1 E a q4) (by decide) (wl_X7_readOne_2 E a _ _) (wModel E a q6) (wl_X7_readOne_3 E a q4 q6) 0 7 rfl rfl rfl (Nat.le_of_ble_eq_true rfl) dX7_readOne_43 ⟨Nat.zero_le _, Nat.zero_le _⟩ _ rfl ?_
      refine z_aload_n C 2 rfl rfl dX7_readOne_46 ?_
      refine z_get C 0 rfl (C := RX7) (T := TX7) (N := 38) (ci := 7) rfl inw_X7_readOne_X7 2 (by decide) (ref := "EldestAgeModel") (List.mem_of_getElem? (i := 1) rfl) rfl (v := .ref (a 2)) rfl dX7_readOne_47 ?_
      refine z_iconst C (v := (4 : Int32)) (by decide) dX7_readOne_50 ?_
      refine z_iload_n C 1 rfl rfl dX7_readOne_51 ?_
      refine z_imul C dX7_readOne_52 ?_
      refine z_iload_n C 0 rfl rfl dX7_readOne_53 ?_
      refine z_iast C (N := 92) (f := (q6 2)) 2 rfl h (wModel E a (st 2 (upd (q6 2) (Int32.toNatClampNeg ((4 : Int32) * (S 2 (Int32.toNatClampNeg (88 : Int32))))) (q5 - (10 : Int32))) q6)) (wl_X7_readOne_0 E a q6 (upd (q6 2) (Int32.toNatClampNeg ((4 : Int32) * (S 2 (Int32.toNatClampNeg (88 : Int32))))) (q5 - (10 : Int32)))) dX7_readOne_54 (fun h => ?_)
      refine z_aload_n C 2 rfl rfl dX7_readOne_55 ?_
      refine z_get C 0 rfl (C := RX7) (T := TX7) (N := 38) (ci := 7) rfl inw_X7_readOne_X7 2 (by decide) (ref := "EldestAgeModel") (List.mem_of_getElem? (i := 1) rfl) rfl (v := .ref (a 2)) rfl dX7_readOne_56 ?_
      refine z_iconst C (v := (4 : Int32)) (by decide) dX7_readOne_59 ?_
      refine z_iload_n C 1 rfl rfl dX7_readOne_60 ?_
      refine z_imul C dX7_readOne_61 ?_
      refine z_iconst C (v := (1 : Int32)) (by decide) dX7_readOne_62 ?_
      refine z_iadd C dX7_readOne_63 ?_
      refine z_aload_n C 2 rfl rfl dX7_readOne_64 ?_
      refine z_iconst C (v := (0 : Int32)) (by decide) dX7_readOne_65 ?_
      obtain ⟨q7, e7, h⟩ := bd_e h
      refine z_callVi C (b := a 0) (As := [.int (0 : Int32)]) (rest := [.int (((4 : Int32) * (S 2 (Int32.toNatClampNeg (88 : Int32)))) + (1 : Int32)), .ref (a 2)]) (c_X7_day E a (0 : Int32) (st 2 (upd (q6 2) (Int32.toNatClampNeg ((4 : Int32) * (S 2 (Int32.toNatClampNeg (88 : Int32))))) (q5 - (10 : Int32))) q6) e7) rfl gX7_readOne_X7_day rfl rfl rfl 1 rfl (by decide +kernel) ⟨Nat.le_of_ble_eq_true rfl, Nat.le_of_ble_eq_true rfl⟩ [0, 1, 2, 3, 4, 5, 6, 7, 8, 9, 10, 11, 12, 13, 14, 15, 16] (wl_X7_readOne_1 E a (st 2 (upd (q6 2) (Int32.toNatClampNeg ((4 : Int32) * (S 2 (Int32.toNatClampNeg (88 : Int32))))) (q5 - (10 : Int32))) q6)) (by decide) (wl_X7_readOne_2 E a _ _) (wModel E a q7.2) (wl_X7_readOne_3 E a (st 2 (upd (q6 2) (Int32.toNatClampNeg ((4 : Int32) * (S 2 (Int32.toNatClampNeg (88 : Int32))))) (q5 - (10 : Int32))) q6) q7.2) 0 7 rfl rfl rfl (Nat.le_of_ble_eq_true rfl) dX7_readOne_66 ⟨Nat.zero_le _, Nat.zero_le _⟩ _ rfl ?_
      refine z_iast C (N := 92) (f := (q7.2 2)) 2 rfl h (wModel E a (st 2 (upd (q7.2 2) (Int32.toNatClampNeg (((4 : Int32) * (S 2 (Int32.toNatClampNeg (88 : Int32)))) + (1 : Int32))) q7.1) q7.2)) (wl_X7_readOne_0 E a q7.2 (upd (q7.2 2) (Int32.toNatClampNeg (((4 : Int32) * (S 2 (Int32.toNatClampNeg (88 : Int32)))) + (1 : Int32))) q7.1)) dX7_readOne_69 (fun h => ?_)
      refine z_aload_n C 2 rfl rfl dX7_readOne_70 ?_
      refine z_get C 0 rfl (C := RX7) (T := TX7) (N := 38) (ci := 7) rfl inw_X7_readOne_X7 2 (by decide) (ref := "EldestAgeModel") (List.mem_of_getElem? (i := 1) rfl) rfl (v := .ref (a 2)) rfl dX7_readOne_71 ?_
      refine z_iconst C (v := (4 : Int32)) (by decide) dX7_readOne_74 ?_
      refine z_iload_n C 1 rfl rfl dX7_readOne_75 ?_
      refine z_imul C dX7_readOne_76 ?_
      refine z_iconst C (v := (2 : Int32)) (by decide) dX7_readOne_77 ?_
      refine z_iadd C dX7_readOne_78 ?_
      refine z_aload_n C 2 rfl rfl dX7_readOne_79 ?_
      obtain ⟨q8, e8, h⟩ := bd_e h
      refine z_callVi C (b := a 0) (As := []) (rest := [.int (((4 : Int32) * (S 2 (Int32.toNatClampNeg (88 : Int32)))) + (2 : Int32)), .ref (a 2)]) (c_X7_house E a (st 2 (upd (q7.2 2) (Int32.toNatClampNeg (((4 : Int32) * (S 2 (Int32.toNatClampNeg (88 : Int32)))) + (1 : Int32))) q7.1) q7.2) e8) rfl gX7_readOne_X7_house rfl rfl rfl 0 rfl (by decide +kernel) ⟨Nat.le_of_ble_eq_true rfl, Nat.le_of_ble_eq_true rfl⟩ [0, 1, 2, 3, 4, 5, 6, 7, 8, 9, 10, 11, 12, 13, 14, 15, 16] (wl_X7_readOne_1 E a (st 2 (upd (q7.2 2) (Int32.toNatClampNeg (((4 : Int32) * (S 2 (Int32.toNatClampNeg (88 : Int32)))) + (1 : Int32))) q7.1) q7.2)) (by decide) (wl_X7_readOne_2 E a _ _) (wModel E a q8.2) (wl_X7_readOne_3 E a (st 2 (upd (q7.2 2) (Int32.toNatClampNeg (((4 : Int32) * (S 2 (Int32.toNatClampNeg (88 : Int32)))) + (1 : Int32))) q7.1) q7.2) q8.2) 0 7 rfl rfl rfl (Nat.le_of_ble_eq_true rfl) dX7_readOne_80 ⟨Nat.zero_le _, Nat.zero_le _⟩ _ rfl ?_
      refine z_iast C (N := 92) (f := (q8.2 2)) 2 rfl h (wModel E a (st 2 (upd (q8.2 2) (Int32.toNatClampNeg (((4 : Int32) * (S 2 (Int32.toNatClampNeg (88 : Int32)))) + (2 : Int32))) q8.1) q8.2)) (wl_X7_readOne_0 E a q8.2 (upd (q8.2 2) (Int32.toNatClampNeg (((4 : Int32) * (S 2 (Int32.toNatClampNeg (88 : Int32)))) + (2 : Int32))) q8.1)) dX7_readOne_83 (fun h => ?_)
      refine z_aload_n C 2 rfl rfl dX7_readOne_84 ?_
      refine z_get C 0 rfl (C := RX7) (T := TX7) (N := 38) (ci := 7) rfl inw_X7_readOne_X7 2 (by decide) (ref := "EldestAgeModel") (List.mem_of_getElem? (i := 1) rfl) rfl (v := .ref (a 2)) rfl dX7_readOne_85 ?_
      refine z_iconst C (v := (4 : Int32)) (by decide) dX7_readOne_88 ?_
      refine z_iload_n C 1 rfl rfl dX7_readOne_89 ?_
      refine z_imul C dX7_readOne_90 ?_
      refine z_iconst C (v := (3 : Int32)) (by decide) dX7_readOne_91 ?_
      refine z_iadd C dX7_readOne_92 ?_
      refine z_bipush C (v := (-4 : Int32)) (by decide) dX7_readOne_93 ?_
      refine z_iast C (N := 92) (f := (upd (q8.2 2) (Int32.toNatClampNeg (((4 : Int32) * (S 2 (Int32.toNatClampNeg (88 : Int32)))) + (2 : Int32))) q8.1)) 2 rfl h (wModel E a (st 2 (upd (upd (q8.2 2) (Int32.toNatClampNeg (((4 : Int32) * (S 2 (Int32.toNatClampNeg (88 : Int32)))) + (2 : Int32))) q8.1) (Int32.toNatClampNeg (((4 : Int32) * (S 2 (Int32.toNatClampNeg (88 : Int32)))) + (3 : Int32))) (-4 : Int32)) (st 2 (upd (q8.2 2) (Int32.toNatClampNeg (((4 : Int32) * (S 2 (Int32.toNatClampNeg (88 : Int32)))) + (2 : Int32))) q8.1) q8.2))) (wl_X7_readOne_0 E a (st 2 (upd (q8.2 2) (Int32.toNatClampNeg (((4 : Int32) * (S 2 (Int32.toNatClampNeg (88 : Int32)))) + (2 : Int32))) q8.1) q8.2) (upd (upd (q8.2 2) (Int32.toNatClampNeg (((4 : Int32) * (S 2 (Int32.toNatClampNeg (88 : Int32)))) + (2 : Int32))) q8.1) (Int32.toNatClampNeg (((4 : Int32) * (S 2 (Int32.toNatClampNeg (88 : Int32)))) + (3 : Int32))) (-4 : Int32))) dX7_readOne_95 (fun h => ?_)
      refine z_aload_n C 2 rfl rfl dX7_readOne_96 ?_
      refine z_get C 0 rfl (C := RX7) (T := TX7) (N := 38) (ci := 7) rfl inw_X7_readOne_X7 11 (by decide) (ref := "EldestAgeModel") (List.mem_of_getElem? (i := 2) rfl) rfl (v := .int (q8.2 11 0)) rfl dX7_readOne_97 ?_
      refine z_if_ne C 154 (by decide) h dX7_readOne_100 (fun hc h => ?_) (fun hc h => ?_)
      · refine z_aload_n C 2 rfl rfl dX7_readOne_103 ?_
        refine z_get C 0 rfl (C := RX7) (T := TX7) (N := 38) (ci := 7) rfl inw_X7_readOne_X7 15 (by decide) (ref := "EldestAgeModel") (List.mem_of_getElem? (i := 3) rfl) rfl (v := .int (q8.2 15 0)) rfl dX7_readOne_104 ?_
        refine z_iconst C (v := (1 : Int32)) (by decide) dX7_readOne_107 ?_
        refine z_icmp_ne C 154 (by decide) h dX7_readOne_108 (fun hc h => ?_) (fun hc h => ?_)
        · refine z_aload_n C 2 rfl rfl dX7_readOne_111 ?_
          obtain ⟨q9, e9, h⟩ := bd_e h
          refine z_callVi C (b := a 0) (As := []) (rest := []) (c_X7_nameHere E a (st 2 (upd (upd (q8.2 2) (Int32.toNatClampNeg (((4 : Int32) * (S 2 (Int32.toNatClampNeg (88 : Int32)))) + (2 : Int32))) q8.1) (Int32.toNatClampNeg (((4 : Int32) * (S 2 (Int32.toNatClampNeg (88 : Int32)))) + (3 : Int32))) (-4 : Int32)) (st 2 (upd (q8.2 2) (Int32.toNatClampNeg (((4 : Int32) * (S 2 (Int32.toNatClampNeg (88 : Int32)))) + (2 : Int32))) q8.1) q8.2)) e9) rfl gX7_readOne_X7_nameHere rfl rfl rfl 0 rfl (by decide +kernel) ⟨Nat.le_of_ble_eq_true rfl, Nat.le_of_ble_eq_true rfl⟩ [0, 1, 2, 3, 4, 5, 6, 7, 8, 9, 10, 11, 12, 13, 14, 15, 16] (wl_X7_readOne_1 E a (st 2 (upd (upd (q8.2 2) (Int32.toNatClampNeg (((4 : Int32) * (S 2 (Int32.toNatClampNeg (88 : Int32)))) + (2 : Int32))) q8.1) (Int32.toNatClampNeg (((4 : Int32) * (S 2 (Int32.toNatClampNeg (88 : Int32)))) + (3 : Int32))) (-4 : Int32)) (st 2 (upd (q8.2 2) (Int32.toNatClampNeg (((4 : Int32) * (S 2 (Int32.toNatClampNeg (88 : Int32)))) + (2 : Int32))) q8.1) q8.2))) (by decide) rfl (wModel E a (st 2 (upd (upd (q8.2 2) (Int32.toNatClampNeg (((4 : Int32) * (S 2 (Int32.toNatClampNeg (88 : Int32)))) + (2 : Int32))) q8.1) (Int32.toNatClampNeg (((4 : Int32) * (S 2 (Int32.toNatClampNeg (88 : Int32)))) + (3 : Int32))) (-4 : Int32)) (st 2 (upd (q8.2 2) (Int32.toNatClampNeg (((4 : Int32) * (S 2 (Int32.toNatClampNeg (88 : Int32)))) + (2 : Int32))) q8.1) q8.2))) (zrep_self (wl_X7_readOne_1 E a (st 2 (upd (upd (q8.2 2) (Int32.toNatClampNeg (((4 : Int32) * (S 2 (Int32.toNatClampNeg (88 : Int32)))) + (2 : Int32))) q8.1) (Int32.toNatClampNeg (((4 : Int32) * (S 2 (Int32.toNatClampNeg (88 : Int32)))) + (3 : Int32))) (-4 : Int32)) (st 2 (upd (q8.2 2) (Int32.toNatClampNeg (((4 : Int32) * (S 2 (Int32.toNatClampNeg (88 : Int32)))) + (2 : Int32))) q8.1) q8.2)))) 0 7 rfl rfl rfl (Nat.le_of_ble_eq_true rfl) dX7_readOne_112 ⟨Nat.zero_le _, Nat.zero_le _⟩ _ rfl ?_
          refine z_iconst C (v := (5 : Int32)) (by decide) dX7_readOne_115 ?_
          refine z_icmp_eq C 124 (by decide) h dX7_readOne_116 (fun hc h => ?_) (fun hc h => ?_)
          · refine Zt_l [(0, .ref (a 0)), (1, .int (S 2 (Int32.toNatClampNeg (88 : Int32))))] [2, 1] rfl ?_
            exact L_X7_readOne_124 a C R (S 2 (Int32.toNatClampNeg (88 : Int32))) (st 2 (upd (upd (q8.2 2) (Int32.toNatClampNeg (((4 : Int32) * (S 2 (Int32.toNatClampNeg (88 : Int32)))) + (2 : Int32))) q8.1) (Int32.toNatClampNeg (((4 : Int32) * (S 2 (Int32.toNatClampNeg (88 : Int32)))) + (3 : Int32))) (-4 : Int32)) (st 2 (upd (q8.2 2) (Int32.toNatClampNeg (((4 : Int32) * (S 2 (Int32.toNatClampNeg (88 : Int32)))) + (2 : Int32))) q8.1) q8.2)) h
          · refine z_aload_n C 2 rfl rfl dX7_readOne_119 ?_
            refine z_iconst C (v := (2 : Int32)) (by decide) dX7_readOne_120 ?_
            obtain ⟨q10, e10, h⟩ := bd_e h
            refine z_callVv C (b := a 0) (As := [.int (2 : Int32)]) (rest := []) (c_X7_fails E a (2 : Int32) (st 2 (upd (upd (q8.2 2) (Int32.toNatClampNeg (((4 : Int32) * (S 2 (Int32.toNatClampNeg (88 : Int32)))) + (2 : Int32))) q8.1) (Int32.toNatClampNeg (((4 : Int32) * (S 2 (Int32.toNatClampNeg (88 : Int32)))) + (3 : Int32))) (-4 : Int32)) (st 2 (upd (q8.2 2) (Int32.toNatClampNeg (((4 : Int32) * (S 2 (Int32.toNatClampNeg (88 : Int32)))) + (2 : Int32))) q8.1) q8.2)) e10) rfl gX7_readOne_X7_fails rfl rfl rfl 1 rfl (by decide +kernel) ⟨Nat.le_of_ble_eq_true rfl, Nat.le_of_ble_eq_true rfl⟩ [0, 1, 2, 3, 4, 5, 6, 7, 8, 9, 10, 11, 12, 13, 14, 15, 16] (wl_X7_readOne_1 E a (st 2 (upd (upd (q8.2 2) (Int32.toNatClampNeg (((4 : Int32) * (S 2 (Int32.toNatClampNeg (88 : Int32)))) + (2 : Int32))) q8.1) (Int32.toNatClampNeg (((4 : Int32) * (S 2 (Int32.toNatClampNeg (88 : Int32)))) + (3 : Int32))) (-4 : Int32)) (st 2 (upd (q8.2 2) (Int32.toNatClampNeg (((4 : Int32) * (S 2 (Int32.toNatClampNeg (88 : Int32)))) + (2 : Int32))) q8.1) q8.2))) (by decide) (wl_X7_readOne_2 E a _ _) (wModel E a q10) (wl_X7_readOne_3 E a (st 2 (upd (upd (q8.2 2) (Int32.toNatClampNeg (((4 : Int32) * (S 2 (Int32.toNatClampNeg (88 : Int32)))) + (2 : Int32))) q8.1) (Int32.toNatClampNeg (((4 : Int32) * (S 2 (Int32.toNatClampNeg (88 : Int32)))) + (3 : Int32))) (-4 : Int32)) (st 2 (upd (q8.2 2) (Int32.toNatClampNeg (((4 : Int32) * (S 2 (Int32.toNatClampNeg (88 : Int32)))) + (2 : Int32))) q8.1) q8.2)) q10) 0 7 rfl rfl rfl (Nat.le_of_ble_eq_true rfl) dX7_readOne_121 ⟨Nat.zero_le _, Nat.zero_le _⟩ _ rfl ?_
            refine Zt_l [(0, .ref (a 0)), (1, .int (S 2 (Int32.toNatClampNeg (88 : Int32))))] [2, 1] rfl ?_
            exact L_X7_readOne_124 a C R (S 2 (Int32.toNatClampNeg (88 : Int32))) q10 h
        · refine Zt_l [(0, .ref (a 0))] [2] rfl ?_
          exact L_X7_readOne_154 a C R (st 2 (upd (upd (q8.2 2) (Int32.toNatClampNeg (((4 : Int32) * (S 2 (Int32.toNatClampNeg (88 : Int32)))) + (2 : Int32))) q8.1) (Int32.toNatClampNeg (((4 : Int32) * (S 2 (Int32.toNatClampNeg (88 : Int32)))) + (3 : Int32))) (-4 : Int32)) (st 2 (upd (q8.2 2) (Int32.toNatClampNeg (((4 : Int32) * (S 2 (Int32.toNatClampNeg (88 : Int32)))) + (2 : Int32))) q8.1) q8.2)) h
      · refine Zt_l [(0, .ref (a 0))] [2] rfl ?_
        exact L_X7_readOne_154 a C R (st 2 (upd (upd (q8.2 2) (Int32.toNatClampNeg (((4 : Int32) * (S 2 (Int32.toNatClampNeg (88 : Int32)))) + (2 : Int32))) q8.1) (Int32.toNatClampNeg (((4 : Int32) * (S 2 (Int32.toNatClampNeg (88 : Int32)))) + (3 : Int32))) (-4 : Int32)) (st 2 (upd (q8.2 2) (Int32.toNatClampNeg (((4 : Int32) * (S 2 (Int32.toNatClampNeg (88 : Int32)))) + (2 : Int32))) q8.1) q8.2)) h
    · refine z_aload_n C 2 rfl rfl dX7_readOne_36 ?_
      refine z_iconst C (v := (2 : Int32)) (by decide) dX7_readOne_37 ?_
      obtain ⟨q11, e11, h⟩ := bd_e h
      refine z_callVv C (b := a 0) (As := [.int (2 : Int32)]) (rest := []) (c_X7_fails E a (2 : Int32) q4 e11) rfl gX7_readOne_X7_fails rfl rfl rfl 1 rfl (by decide +kernel) ⟨Nat.le_of_ble_eq_true rfl, Nat.le_of_ble_eq_true rfl⟩ [0, 1, 2, 3, 4, 5, 6, 7, 8, 9, 10, 11, 12, 13, 14, 15, 16] (wl_X7_readOne_1 E a q4) (by decide) (wl_X7_readOne_2 E a _ _) (wModel E a q11) (wl_X7_readOne_3 E a q4 q11) 0 7 rfl rfl rfl (Nat.le_of_ble_eq_true rfl) dX7_readOne_38 ⟨Nat.zero_le _, Nat.zero_le _⟩ _ rfl ?_
      obtain rfl := Option.some.inj h
      exact R 41 _ dX7_readOne_41

theorem c_X7_readOne (E : zEnv) (a : Nat → Nat) (S : St) {res : St} (h : f_X7_readOne S = some res) : Ktv E yX7_readOne wsX7_readOne rm_X7_readOne (wModel E a S) (wModel E a res) [.ref (a 0)] :=
  z_entv (cc := cX7_readOne) (maxL := 3) (by decide +kernel) rfl (Nat.le_of_ble_eq_true rfl) (fun Γ C R => L_X7_readOne a C R S h)

abbrev rm_X7_readMove : Room := { frames := 4, cells := 0, slots := 0, locals := 91 }
theorem inw_X7_readMove_X7 : ∀ w ∈ wsX70, w ∈ wsX7_readMove := fun _ h => List.mem_cons_of_mem _ (List.mem_append_right _ h)
set_option maxHeartbeats 4000000 in
theorem wl_X7_readMove_0 (E : zEnv) (a : Nat → Nat) (S : St) (v : Int32) : (wModel E a (st 7 (fun _ => v) S)) = (wModel E a S).set 0 (a 0, .inr (7, List.set [.ref (a 1), .int (S 1 0), .ref (a 2), .int (S 3 0), .int (S 4 0), .int (S 5 0), .int (S 6 0), .int (S 7 0), .ref (a 3), .int (S 9 0), .int (S 10 0), .int (S 11 0), .int (S 12 0), .int (S 13 0), .int (S 14 0), .int (S 15 0), .int (S 16 0), .ref (a 4), .ref (a 5), .int (S 19 0), .int (S 20 0), .int (S 21 0), .int (S 22 0), .ref (a 6), .int (S 24 0), .ref (a 7), .int (S 26 0), .ref (a 8), .ref (a 9), .ref (a 10), .ref (a 11), .ref (a 12), .int (S 32 0), .ref (a 13), .ref (a 14), .ref (a 15), .ref (a 16), .int (S 37 0)] 7 (.int v))) := rfl
set_option maxHeartbeats 4000000 in
theorem wl_X7_readMove_1 (E : zEnv) (a : Nat → Nat) (S : St) : ([0, 1, 2, 3, 4, 5, 6, 7, 8, 9, 10, 11, 12, 13, 14, 15, 16] : List Nat).map (fun i => (wModel E a S)[i]?) = (wModel E a S).map some := rfl
set_option maxHeartbeats 4000000 in
theorem wl_X7_readMove_2 (E : zEnv) (a : Nat → Nat) (S U : St) : (wModel E a U).map (fun q => q.1) = (wModel E a S).map (fun q => q.1) := rfl
set_option maxHeartbeats 4000000 in
theorem wl_X7_readMove_3 (E : zEnv) (a : Nat → Nat) (S U : St) : (wModel E a U) = zrep [0, 1, 2, 3, 4, 5, 6, 7, 8, 9, 10, 11, 12, 13, 14, 15, 16] (wModel E a U) (wModel E a S) := zrep_of (isR := []) 17 rfl [] rfl rfl rfl rfl (by decide +kernel) (by decide +kernel)
set_option maxHeartbeats 4000000 in
theorem wl_X7_readMove_4 (E : zEnv) (a : Nat → Nat) (S : St) (f : Nat → Int32) : (wModel E a (st 2 f S)) = (wModel E a S).set 2 (a 2, .inl (zI E, 92, .inl f)) := rfl
noncomputable def f_X7_readMove_103 (x2 : Int32) (y1 : Int32) (S : St) : Option St := ((f_X7_house (st 7 (fun _ => y1) S)).bind (fun q1 => (ix (x2 + (2 : Int32)) 92 (ix (89 : Int32) 92 (ix (89 : Int32) 92 (some (st 2 (upd (upd (q1.2 2) (Int32.toNatClampNeg (x2 + (2 : Int32))) q1.1) (Int32.toNatClampNeg (89 : Int32)) (((upd (q1.2 2) (Int32.toNatClampNeg (x2 + (2 : Int32))) q1.1) (Int32.toNatClampNeg (89 : Int32))) + (1 : Int32))) (st 2 (upd (q1.2 2) (Int32.toNatClampNeg (x2 + (2 : Int32))) q1.1) q1.2))))))))
noncomputable def f_X7_readMove_53 (x2 : Int32) (y1 : Int32) (y3 : Int32) (S : St) : Option St := ((f_X7_day y3 S).bind (fun q2 => (ix y1 92 ((f_X7_numeral (0 : Int32) (9 : Int32) (st 2 (upd (q2.2 2) (Int32.toNatClampNeg y1) q2.1) q2.2)).bind (fun q3 => (ix (x2 + (1 : Int32)) 92 (ix (x2 + (1 : Int32)) 92 (if ((upd (q3.2 2) (Int32.toNatClampNeg (x2 + (1 : Int32))) q3.1) (Int32.toNatClampNeg (x2 + (1 : Int32)))) ≤ (q3.2 7 0) then (f_X7_readMove_103 x2 (q3.2 7 0) (st 2 (upd (q3.2 2) (Int32.toNatClampNeg (x2 + (1 : Int32))) q3.1) q3.2)) else (ix (x2 + (1 : Int32)) 92 (f_X7_readMove_103 x2 ((upd (q3.2 2) (Int32.toNatClampNeg (x2 + (1 : Int32))) q3.1) (Int32.toNatClampNeg (x2 + (1 : Int32)))) (st 2 (upd (q3.2 2) (Int32.toNatClampNeg (x2 + (1 : Int32))) q3.1) q3.2)))))))))))
noncomputable def f_X7_readMove (S : St) : Option St := (ix (89 : Int32) 92 (if (S 2 (Int32.toNatClampNeg (89 : Int32))) = (12 : Int32) then ((f_X7_fails (5 : Int32) S).bind (fun q4 => (some q4))) else ((f_X7_step S).bind (fun q5 => (if (S 2 (Int32.toNatClampNeg (89 : Int32))) = 0 then (f_X7_readMove_53 ((40 : Int32) + ((3 : Int32) * (S 2 (Int32.toNatClampNeg (89 : Int32))))) ((40 : Int32) + ((3 : Int32) * (S 2 (Int32.toNatClampNeg (89 : Int32))))) (0 : Int32) q5) else (ix (((40 : Int32) + ((3 : Int32) * (S 2 (Int32.toNatClampNeg (89 : Int32))))) - (3 : Int32)) 92 (f_X7_readMove_53 ((40 : Int32) + ((3 : Int32) * (S 2 (Int32.toNatClampNeg (89 : Int32))))) ((40 : Int32) + ((3 : Int32) * (S 2 (Int32.toNatClampNeg (89 : Int32))))) (q5 2 (Int32.toNatClampNeg (((40 : Int32) + ((3 : Int32) * (S 2 (Int32.toNatClampNeg (89 : Int32))))) - (3 : Int32)))) q5)))))))
set_option maxHeartbeats 4000000 in
set_option maxRecDepth 100000 in
theorem L_X7_readMove_103 {E : zEnv} {Γ : zG} (a : Nat → Nat) (C : zC E Γ cX7_readMove RX7 3 rm_X7_readMove wsX7_readMove) {res : St} (R : zRv E Γ cX7_readMove 3 (wModel E a res)) (x2 : Int32) (y1 : Int32) (S : St) (h : f_X7_readMove_103 x2 y1 S = some res) : Zt E Γ 3 0 0 (wModel E a S) [(0, .ref (a 0)), (2, .int x2)] 103 [.int y1, .ref (a 0)] := by
  unfold f_X7_readMove_103 at h
  refine z_put C 0 rfl (C := RX7) (T := TX7) (N := 38) (ci := 7) rfl inw_X7_readMove_X7 tyX7 tyX7_ok nmX7 7 (by decide) (ref := "EldestAgeModel") (List.mem_of_getElem? (i := 2) rfl) rfl rfl (ty := .int) (v := .int y1) (by decide +kernel) rfl rfl (Nat.le_of_ble_eq_true rfl) (wModel E a (st 7 (fun _ => y1) S)) (wl_X7_readMove_0 E a S y1) dX7_readMove_103 ?_
  refine z_aload_n C 0 rfl rfl dX7_readMove_106 ?_
  refine z_get C 0 rfl (C := RX7) (T := TX7) (N := 38) (ci := 7) rfl inw_X7_readMove_X7 2 (by decide) (ref := "EldestAgeModel") (List.mem_of_getElem? (i := 1) rfl) rfl (v := .ref (a 2)) rfl dX7_readMove_107 ?_
  refine z_iload_n C 1 rfl rfl dX7_readMove_110 ?_
  refine z_iconst C (v := (2 : Int32)) (by decide) dX7_readMove_111 ?_
  refine z_iadd C dX7_readMove_112 ?_
  refine z_aload_n C 0 rfl rfl dX7_readMove_113 ?_
  obtain ⟨q1, e1, h⟩ := bd_e h
  refine z_callVi C (b := a 0) (As := []) (rest := [.int (x2 + (2 : Int32)), .ref (a 2)]) (c_X7_house E a (st 7 (fun _ => y1) S) e1) rfl gX7_readMove_X7_house rfl rfl rfl 0 rfl (by decide +kernel) ⟨Nat.le_of_ble_eq_true rfl, Nat.le_of_ble_eq_true rfl⟩ [0, 1, 2, 3, 4, 5, 6, 7, 8, 9, 10, 11, 12, 13, 14, 15, 16] (wl_X7_readMove_1 E a (st 7 (fun _ => y1) S)) (by decide) (wl_X7_readMove_2 E a _ _) (wModel E a q1.2) (wl_X7_readMove_3 E a (st 7 (fun _ => y1) S) q1.2) 0 7 rfl rfl rfl (Nat.le_of_ble_eq_true rfl) dX7_readMove_114 ⟨Nat.zero_le _, Nat.zero_le _⟩ _ rfl ?_
  refine z_iast C (N := 92) (f := (q1.2 2)) 2 rfl h (wModel E a (st 2 (upd (q1.2 2) (Int32.toNatClampNeg (x2 + (2 : Int32))) q1.1) q1.2)) (wl_X7_readMove_4 E a q1.2 (upd (q1.2 2) (Int32.toNatClampNeg (x2 + (2 : Int32))) q1.1)) dX7_readMove_117 (fun h => ?_)
  refine z_aload_n C 0 rfl rfl dX7_readMove_118 ?_
  refine z_get C 0 rfl (C := RX7) (T := TX7) (N := 38) (ci := 7) rfl inw_X7_readMove_X7 2 (by decide) (ref := "EldestAgeModel") (List.mem_of_getElem? (i := 1) rfl) rfl (v := .ref (a 2)) rfl dX7_readMove_119 ?_
  refine z_bipush C (v := (89 : Int32)) (by decide) dX7_readMove_122 ?_
  refine z_dup2 C rfl rfl dX7_readMove_124 ?_
  refine z_iald C (N := 92) (f := (upd (q1.2 2) (Int32.toNatClampNeg (x2 + (2 : Int32))) q1.1)) 2 rfl h dX7_readMove_125 (fun h => ?_)
  refine z_iconst C (v := (1 : Int32)) (by decide) dX7_readMove_126 ?_
  refine z_iadd C dX7_readMove_127 ?_
  refine z_iast C (N := 92) (f := (upd (q1.2 2) (Int32.toNatClampNeg (x2 + (2 : Int32))) q1.1)) 2 rfl h (wModel E a (st 2 (upd (upd (q1.2 2) (Int32.toNatClampNeg (x2 + (2 : Int32))) q1.1) (Int32.toNatClampNeg (89 : Int32)) (((upd (q1.2 2) (Int32.toNatClampNeg (x2 + (2 : Int32))) q1.1) (Int32.toNatClampNeg (89 : Int32))) + (1 : Int32))) (st 2 (upd (q1.2 2) (Int32.toNatClampNeg (x2 + (2 : Int32))) q1.1) q1.2))) (wl_X7_readMove_4 E a (st 2 (upd (q1.2 2) (Int32.toNatClampNeg (x2 + (2 : Int32))) q1.1) q1.2) (upd (upd (q1.2 2) (Int32.toNatClampNeg (x2 + (2 : Int32))) q1.1) (Int32.toNatClampNeg (89 : Int32)) (((upd (q1.2 2) (Int32.toNatClampNeg (x2 + (2 : Int32))) q1.1) (Int32.toNatClampNeg (89 : Int32))) + (1 : Int32)))) dX7_readMove_128 (fun h => ?_)
  obtain rfl := Option.some.inj h
  exact R 129 _ dX7_readMove_129

set_option maxHeartbeats 4000000 in
set_option maxRecDepth 100000 in
theorem L_X7_readMove_53 {E : zEnv} {Γ : zG} (a : Nat → Nat) (C : zC E Γ cX7_readMove RX7 3 rm_X7_readMove wsX7_readMove) {res : St} (R : zRv E Γ cX7_readMove 3 (wModel E a res)) (x2 : Int32) (y1 : Int32) (y3 : Int32) (S : St) (h : f_X7_readMove_53 x2 y1 y3 S = some res) : Zt E Γ 3 0 0 (wModel E a S) [(0, .ref (a 0)), (2, .int x2)] 53 [.int y3, .ref (a 0), .int y1, .ref (a 2)] := by
  unfold f_X7_readMove_53 at h
  obtain ⟨q2, e2, h⟩ := bd_e h
  refine z_callVi C (b := a 0) (As := [.int y3]) (rest := [.int y1, .ref (a 2)]) (c_X7_day E a y3 S e2) rfl gX7_readMove_X7_day rfl rfl rfl 1 rfl (by decide +kernel) ⟨Nat.le_of_ble_eq_true rfl, Nat.le_of_ble_eq_true rfl⟩ [0, 1, 2, 3, 4, 5, 6, 7, 8, 9, 10, 11, 12, 13, 14, 15, 16] (wl_X7_readMove_1 E a S) (by decide) (wl_X7_readMove_2 E a _ _) (wModel E a q2.2) (wl_X7_readMove_3 E a S q2.2) 0 7 rfl rfl rfl (Nat.le_of_ble_eq_true rfl) dX7_readMove_53 ⟨Nat.zero_le _, Nat.zero_le _⟩ _ rfl ?_
  refine z_iast C (N := 92) (f := (q2.2 2)) 2 rfl h (wModel E a (st 2 (upd (q2.2 2) (Int32.toNatClampNeg y1) q2.1) q2.2)) (wl_X7_readMove_4 E a q2.2 (upd (q2.2 2) (Int32.toNatClampNeg y1) q2.1)) dX7_readMove_56 (fun h => ?_)
  refine z_aload_n C 0 rfl rfl dX7_readMove_57 ?_
  refine z_get C 0 rfl (C := RX7) (T := TX7) (N := 38) (ci := 7) rfl inw_X7_readMove_X7 2 (by decide) (ref := "EldestAgeModel") (List.mem_of_getElem? (i := 1) rfl) rfl (v := .ref (a 2)) rfl dX7_readMove_58 ?_
  refine z_iload_n C 1 rfl rfl dX7_readMove_61 ?_
  refine z_iconst C (v := (1 : Int32)) (by decide) dX7_readMove_62 ?_
  refine z_iadd C dX7_readMove_63 ?_
  refine z_aload_n C 0 rfl rfl dX7_readMove_64 ?_
  refine z_iconst C (v := (0 : Int32)) (by decide) dX7_readMove_65 ?_
  refine z_bipush C (v := (9 : Int32)) (by decide) dX7_readMove_66 ?_
  obtain ⟨q3, e3, h⟩ := bd_e h
  refine z_callVi C (b := a 0) (As := [.int (0 : Int32), .int (9 : Int32)]) (rest := [.int (x2 + (1 : Int32)), .ref (a 2)]) (c_X7_numeral E a (0 : Int32) (9 : Int32) (st 2 (upd (q2.2 2) (Int32.toNatClampNeg y1) q2.1) q2.2) e3) rfl gX7_readMove_X7_numeral rfl rfl rfl 2 rfl (by decide +kernel) ⟨Nat.le_of_ble_eq_true rfl, Nat.le_of_ble_eq_true rfl⟩ [0, 1, 2, 3, 4, 5, 6, 7, 8, 9, 10, 11, 12, 13, 14, 15, 16] (wl_X7_readMove_1 E a (st 2 (upd (q2.2 2) (Int32.toNatClampNeg y1) q2.1) q2.2)) (by decide) (wl_X7_readMove_2 E a _ _) (wModel E a q3.2) (wl_X7_readMove_3 E a (st 2 (upd (q2.2 2) (Int32.toNatClampNeg y1) q2.1) q2.2) q3.2) 0 7 rfl rfl rfl (Nat.le_of_ble_eq_true rfl) dX7_readMove_68 ⟨Nat.zero_le _, Nat.zero_le _⟩ _ rfl ?_
  refine z_iast C (N := 92) (f := (q3.2 2)) 2 rfl h (wModel E a (st 2 (upd (q3.2 2) (Int32.toNatClampNeg (x2 + (1 : Int32))) q3.1) q3.2)) (wl_X7_readMove_4 E a q3.2 (upd (q3.2 2) (Int32.toNatClampNeg (x2 + (1 : Int32))) q3.1)) dX7_readMove_71 (fun h => ?_)
  refine z_aload_n C 0 rfl rfl dX7_readMove_72 ?_
  refine z_aload_n C 0 rfl rfl dX7_readMove_73 ?_
  refine z_get C 0 rfl (C := RX7) (T := TX7) (N := 38) (ci := 7) rfl inw_X7_readMove_X7 2 (by decide) (ref := "EldestAgeModel") (List.mem_of_getElem? (i := 1) rfl) rfl (v := .ref (a 2)) rfl dX7_readMove_74 ?_
  refine z_iload_n C 1 rfl rfl dX7_readMove_77 ?_
  refine z_iconst C (v := (1 : Int32)) (by decide) dX7_readMove_78 ?_
  refine z_iadd C dX7_readMove_79 ?_
  refine z_iald C (N := 92) (f := (upd (q3.2 2) (Int32.toNatClampNeg (x2 + (1 : Int32))) q3.1)) 2 rfl h dX7_readMove_80 (fun h => ?_)
  refine z_aload_n C 0 rfl rfl dX7_readMove_81 ?_
  refine z_get C 0 rfl (C := RX7) (T := TX7) (N := 38) (ci := 7) rfl inw_X7_readMove_X7 7 (by decide) (ref := "EldestAgeModel") (List.mem_of_getElem? (i := 2) rfl) rfl (v := .int (q3.2 7 0)) rfl dX7_readMove_82 ?_
  refine z_icmp_le C 99 (by decide) h dX7_readMove_85 (fun hc h => ?_) (fun hc h => ?_)
  · refine z_aload_n C 0 rfl rfl dX7_readMove_99 ?_
    refine z_get C 0 rfl (C := RX7) (T := TX7) (N := 38) (ci := 7) rfl inw_X7_readMove_X7 7 (by decide) (ref := "EldestAgeModel") (List.mem_of_getElem? (i := 2) rfl) rfl (v := .int (q3.2 7 0)) rfl dX7_readMove_100 ?_
    exact L_X7_readMove_103 a C R x2 (q3.2 7 0) (st 2 (upd (q3.2 2) (Int32.toNatClampNeg (x2 + (1 : Int32))) q3.1) q3.2) h
  · refine z_aload_n C 0 rfl rfl dX7_readMove_88 ?_
    refine z_get C 0 rfl (C := RX7) (T := TX7) (N := 38) (ci := 7) rfl inw_X7_readMove_X7 2 (by decide) (ref := "EldestAgeModel") (List.mem_of_getElem? (i := 1) rfl) rfl (v := .ref (a 2)) rfl dX7_readMove_89 ?_
    refine z_iload_n C 1 rfl rfl dX7_readMove_92 ?_
    refine z_iconst C (v := (1 : Int32)) (by decide) dX7_readMove_93 ?_
    refine z_iadd C dX7_readMove_94 ?_
    refine z_iald C (N := 92) (f := (upd (q3.2 2) (Int32.toNatClampNeg (x2 + (1 : Int32))) q3.1)) 2 rfl h dX7_readMove_95 (fun h => ?_)
    refine z_goto C 103 (by decide) dX7_readMove_96 ?_
    exact L_X7_readMove_103 a C R x2 ((upd (q3.2 2) (Int32.toNatClampNeg (x2 + (1 : Int32))) q3.1) (Int32.toNatClampNeg (x2 + (1 : Int32)))) (st 2 (upd (q3.2 2) (Int32.toNatClampNeg (x2 + (1 : Int32))) q3.1) q3.2) h

set_option maxHeartbeats 4000000 in
set_option maxRecDepth 100000 in
theorem L_X7_readMove {E : zEnv} {Γ : zG} (a : Nat → Nat) (C : zC E Γ cX7_readMove RX7 3 rm_X7_readMove wsX7_readMove) {res : St} (R : zRv E Γ cX7_readMove 3 (wModel E a res)) (S : St) (h : f_X7_readMove S = some res) : Zt E Γ 3 0 0 (wModel E a S) [(0, .ref (a 0))] 0 [] := by
  unfold f_X7_readMove at h
  refine z_aload_n C 0 rfl rfl dX7_readMove_0 ?_
  refine z_get C 0 rfl (C := RX7) (T := TX7) (N := 38) (ci := 7) rfl inw_X7_readMove_X7 2 (by decide) (ref := "EldestAgeModel") (List.mem_of_getElem? (i := 1) rfl) rfl (v := .ref (a 2)) rfl dX7_readMove_1 ?_
  refine z_bipush C (v := (89 : Int32)) (by decide) dX7_readMove_4 ?_
  refine z_iald C (N := 92) (f := (S 2)) 2 rfl h dX7_readMove_6 (fun h => ?_)
  refine z_istore_n C [(1, .int (S 2 (Int32.toNatClampNeg (89 : Int32)))), (0, .ref (a 0))] rfl (by decide) rfl dX7_readMove_7 ?_
  refine z_iload_n C 0 rfl rfl dX7_readMove_8 ?_
  refine z_bipush C (v := (12 : Int32)) (by decide) dX7_readMove_9 ?_
  refine z_icmp_ne C 20 (by decide) h dX7_readMove_11 (fun hc h => ?_) (fun hc h => ?_)
  · refine z_aload_n C 1 rfl rfl dX7_readMove_14 ?_
    refine z_iconst C (v := (5 : Int32)) (by decide) dX7_readMove_15 ?_
    obtain ⟨q4, e4, h⟩ := bd_e h
    refine z_callVv C (b := a 0) (As := [.int (5 : Int32)]) (rest := []) (c_X7_fails E a (5 : Int32) S e4) rfl gX7_readMove_X7_fails rfl rfl rfl 1 rfl (by decide +kernel) ⟨Nat.le_of_ble_eq_true rfl, Nat.le_of_ble_eq_true rfl⟩ [0, 1, 2, 3, 4, 5, 6, 7, 8, 9, 10, 11, 12, 13, 14, 15, 16] (wl_X7_readMove_1 E a S) (by decide) (wl_X7_readMove_2 E a _ _) (wModel E a q4) (wl_X7_readMove_3 E a S q4) 0 7 rfl rfl rfl (Nat.le_of_ble_eq_true rfl) dX7_readMove_16 ⟨Nat.zero_le _, Nat.zero_le _⟩ _ rfl ?_
    obtain rfl := Option.some.inj h
    exact R 19 _ dX7_readMove_19
  · refine z_aload_n C 1 rfl rfl dX7_readMove_20 ?_
    obtain ⟨q5, e5, h⟩ := bd_e h
    refine z_callVv C (b := a 0) (As := []) (rest := []) (c_X7_step E a S e5) rfl gX7_readMove_X7_step rfl rfl rfl 0 rfl (by decide +kernel) ⟨Nat.le_of_ble_eq_true rfl, Nat.le_of_ble_eq_true rfl⟩ [0, 1, 2, 3, 4, 5, 6, 7, 8, 9, 10, 11, 12, 13, 14, 15, 16] (wl_X7_readMove_1 E a S) (by decide) (wl_X7_readMove_2 E a _ _) (wModel E a q5) (wl_X7_readMove_3 E a S q5) 0 7 rfl rfl rfl (Nat.le_of_ble_eq_true rfl) dX7_readMove_21 ⟨Nat.zero_le _, Nat.zero_le _⟩ _ rfl ?_
    refine z_bipush C (v := (40 : Int32)) (by decide) dX7_readMove_24 ?_
    refine z_iconst C (v := (3 : Int32)) (by decide) dX7_readMove_26 ?_
    refine z_iload_n C 0 rfl rfl dX7_readMove_27 ?_
    refine z_imul C dX7_readMove_28 ?_
    refine z_iadd C dX7_readMove_29 ?_
    refine z_istore_n C [(2, .int ((40 : Int32) + ((3 : Int32) * (S 2 (Int32.toNatClampNeg (89 : Int32)))))), (1, .int (S 2 (Int32.toNatClampNeg (89 : Int32)))), (0, .ref (a 0))] rfl (by decide) rfl dX7_readMove_30 ?_
    refine z_aload_n C 2 rfl rfl dX7_readMove_31 ?_
    refine z_get C 0 rfl (C := RX7) (T := TX7) (N := 38) (ci := 7) rfl inw_X7_readMove_X7 2 (by decide) (ref := "EldestAgeModel") (List.mem_of_getElem? (i := 1) rfl) rfl (v := .ref (a 2)) rfl dX7_readMove_32 ?_
    refine z_iload_n C 0 rfl rfl dX7_readMove_35 ?_
    refine z_aload_n C 2 rfl rfl dX7_readMove_36 ?_
    refine z_iload_n C 1 rfl rfl dX7_readMove_37 ?_
    refine z_if_ne C 45 (by decide) h dX7_readMove_38 (fun hc h => ?_) (fun hc h => ?_)
    · refine z_iconst C (v := (0 : Int32)) (by decide) dX7_readMove_41 ?_
      refine z_goto C 53 (by decide) dX7_readMove_42 ?_
      refine Zt_l [(0, .ref (a 0)), (2, .int ((40 : Int32) + ((3 : Int32) * (S 2 (Int32.toNatClampNeg (89 : Int32))))))] [2, 0] rfl ?_
      exact L_X7_readMove_53 a C R ((40 : Int32) + ((3 : Int32) * (S 2 (Int32.toNatClampNeg (89 : Int32))))) ((40 : Int32) + ((3 : Int32) * (S 2 (Int32.toNatClampNeg (89 : Int32))))) (0 : Int32) q5 h
    · refine z_aload_n C 2 rfl rfl dX7_readMove_45 ?_
      refine z_get C 0 rfl (C := RX7) (T := TX7) (N := 38) (ci := 7) rfl inw_X7_readMove_X7 2 (by decide) (ref := "EldestAgeModel") (List.mem_of_getElem? (i := 1) rfl) rfl (v := .ref (a 2)) rfl dX7_readMove_46 ?_
      refine z_iload_n C 0 rfl rfl dX7_readMove_49 ?_
      refine z_iconst C (v := (3 : Int32)) (by decide) dX7_readMove_50 ?_
      refine z_isub C dX7_readMove_51 ?_
      refine z_iald C (N := 92) (f := (q5 2)) 2 rfl h dX7_readMove_52 (fun h => ?_)
      refine Zt_l [(0, .ref (a 0)), (2, .int ((40 : Int32) + ((3 : Int32) * (S 2 (Int32.toNatClampNeg (89 : Int32))))))] [2, 0] rfl ?_
      exact L_X7_readMove_53 a C R ((40 : Int32) + ((3 : Int32) * (S 2 (Int32.toNatClampNeg (89 : Int32))))) ((40 : Int32) + ((3 : Int32) * (S 2 (Int32.toNatClampNeg (89 : Int32))))) (q5 2 (Int32.toNatClampNeg (((40 : Int32) + ((3 : Int32) * (S 2 (Int32.toNatClampNeg (89 : Int32))))) - (3 : Int32)))) q5 h

theorem c_X7_readMove (E : zEnv) (a : Nat → Nat) (S : St) {res : St} (h : f_X7_readMove S = some res) : Ktv E yX7_readMove wsX7_readMove rm_X7_readMove (wModel E a S) (wModel E a res) [.ref (a 0)] :=
  z_entv (cc := cX7_readMove) (maxL := 3) (by decide +kernel) rfl (Nat.le_of_ble_eq_true rfl) (fun Γ C R => L_X7_readMove a C R S h)

abbrev rm_X7_readExpect : Room := { frames := 4, cells := 0, slots := 0, locals := 91 }
theorem inw_X7_readExpect_X7 : ∀ w ∈ wsX70, w ∈ wsX7_readExpect := fun _ h => List.mem_cons_of_mem _ (List.mem_append_right _ h)
set_option maxHeartbeats 4000000 in
theorem wl_X7_readExpect_0 (E : zEnv) (a : Nat → Nat) (S : St) : ([0, 1, 2, 3, 4, 5, 6, 7, 8, 9, 10, 11, 12, 13, 14, 15, 16] : List Nat).map (fun i => (wModel E a S)[i]?) = (wModel E a S).map some := rfl
set_option maxHeartbeats 4000000 in
theorem wl_X7_readExpect_1 (E : zEnv) (a : Nat → Nat) (S U : St) : (wModel E a U).map (fun q => q.1) = (wModel E a S).map (fun q => q.1) := rfl
set_option maxHeartbeats 4000000 in
theorem wl_X7_readExpect_2 (E : zEnv) (a : Nat → Nat) (S U : St) : (wModel E a U) = zrep [0, 1, 2, 3, 4, 5, 6, 7, 8, 9, 10, 11, 12, 13, 14, 15, 16] (wModel E a U) (wModel E a S) := zrep_of (isR := []) 17 rfl [] rfl rfl rfl rfl (by decide +kernel) (by decide +kernel)
set_option maxHeartbeats 4000000 in
theorem wl_X7_readExpect_3 (E : zEnv) (a : Nat → Nat) (S : St) (f : Nat → Int32) : (wModel E a (st 2 f S)) = (wModel E a S).set 2 (a 2, .inl (zI E, 92, .inl f)) := rfl
noncomputable def f_X7_readExpect (S : St) : Option St := (ix (90 : Int32) 92 (if (S 2 (Int32.toNatClampNeg (90 : Int32))) = (4 : Int32) then ((f_X7_fails (5 : Int32) S).bind (fun q1 => (some q1))) else ((f_X7_step S).bind (fun q2 => ((f_X7_house q2).bind (fun q3 => (ix ((76 : Int32) + ((3 : Int32) * (S 2 (Int32.toNatClampNeg (90 : Int32))))) 92 ((f_X7_day (0 : Int32) (st 2 (upd (q3.2 2) (Int32.toNatClampNeg ((76 : Int32) + ((3 : Int32) * (S 2 (Int32.toNatClampNeg (90 : Int32)))))) q3.1) q3.2)).bind (fun q4 => (ix (((76 : Int32) + ((3 : Int32) * (S 2 (Int32.toNatClampNeg (90 : Int32))))) + (1 : Int32)) 92 (ix (((76 : Int32) + ((3 : Int32) * (S 2 (Int32.toNatClampNeg (90 : Int32))))) + (1 : Int32)) 92 ((f_X7_day ((upd (q4.2 2) (Int32.toNatClampNeg (((76 : Int32) + ((3 : Int32) * (S 2 (Int32.toNatClampNeg (90 : Int32))))) + (1 : Int32))) q4.1) (Int32.toNatClampNeg (((76 : Int32) + ((3 : Int32) * (S 2 (Int32.toNatClampNeg (90 : Int32))))) + (1 : Int32)))) (st 2 (upd (q4.2 2) (Int32.toNatClampNeg (((76 : Int32) + ((3 : Int32) * (S 2 (Int32.toNatClampNeg (90 : Int32))))) + (1 : Int32))) q4.1) q4.2)).bind (fun q5 => (ix (((76 : Int32) + ((3 : Int32) * (S 2 (Int32.toNatClampNeg (90 : Int32))))) + (2 : Int32)) 92 (ix (90 : Int32) 92 (ix (90 : Int32) 92 (some (st 2 (upd (upd (q5.2 2) (Int32.toNatClampNeg (((76 : Int32) + ((3 : Int32) * (S 2 (Int32.toNatClampNeg (90 : Int32))))) + (2 : Int32))) q5.1) (Int32.toNatClampNeg (90 : Int32)) (((upd (q5.2 2) (Int32.toNatClampNeg (((76 : Int32) + ((3 : Int32) * (S 2 (Int32.toNatClampNeg (90 : Int32))))) + (2 : Int32))) q5.1) (Int32.toNatClampNeg (90 : Int32))) + (1 : Int32))) (st 2 (upd (q5.2 2) (Int32.toNatClampNeg (((76 : Int32) + ((3 : Int32) * (S 2 (Int32.toNatClampNeg (90 : Int32))))) + (2 : Int32))) q5.1) q5.2)))))))))))))))))))
set_option maxHeartbeats 4000000 in
set_option maxRecDepth 100000 in
theorem L_X7_readExpect {E : zEnv} {Γ : zG} (a : Nat → Nat) (C : zC E Γ cX7_readExpect RX7 3 rm_X7_readExpect wsX7_readExpect) {res : St} (R : zRv E Γ cX7_readExpect 3 (wModel E a res)) (S : St) (h : f_X7_readExpect S = some res) : Zt E Γ 3 0 0 (wModel E a S) [(0, .ref (a 0))] 0 [] := by
  unfold f_X7_readExpect at h
  refine z_aload_n C 0 rfl rfl dX7_readExpect_0 ?_
  refine z_get C 0 rfl (C := RX7) (T := TX7) (N := 38) (ci := 7) rfl inw_X7_readExpect_X7 2 (by decide) (ref := "EldestAgeModel") (List.mem_of_getElem? (i := 1) rfl) rfl (v := .ref (a 2)) rfl dX7_readExpect_1 ?_
  refine z_bipush C (v := (90 : Int32)) (by decide) dX7_readExpect_4 ?_
  refine z_iald C (N := 92) (f := (S 2)) 2 rfl h dX7_readExpect_6 (fun h => ?_)
  refine z_istore_n C [(1, .int (S 2 (Int32.toNatClampNeg (90 : Int32)))), (0, .ref (a 0))] rfl (by decide) rfl dX7_readExpect_7 ?_
  refine z_iload_n C 0 rfl rfl dX7_readExpect_8 ?_
  refine z_iconst C (v := (4 : Int32)) (by decide) dX7_readExpect_9 ?_
  refine z_icmp_ne C 19 (by decide) h dX7_readExpect_10 (fun hc h => ?_) (fun hc h => ?_)
  · refine z_aload_n C 1 rfl rfl dX7_readExpect_13 ?_
    refine z_iconst C (v := (5 : Int32)) (by decide) dX7_readExpect_14 ?_
    obtain ⟨q1, e1, h⟩ := bd_e h
    refine z_callVv C (b := a 0) (As := [.int (5 : Int32)]) (rest := []) (c_X7_fails E a (5 : Int32) S e1) rfl gX7_readExpect_X7_fails rfl rfl rfl 1 rfl (by decide +kernel) ⟨Nat.le_of_ble_eq_true rfl, Nat.le_of_ble_eq_true rfl⟩ [0, 1, 2, 3, 4, 5, 6, 7, 8, 9, 10, 11, 12, 13, 14, 15, 16] (wl_X7_readExpect_0 E a S) (by decide) (wl_X7_readExpect_1 E a _ _) (wModel E a q1) (wl_X7_readExpect_2 E a S q1) 0 7 rfl rfl rfl (Nat.le_of_ble_eq_true rfl) dX7_readExpect_15 ⟨Nat.zero_le _, Nat.zero_le _⟩ _ rfl ?_
    obtain rfl := Option.some.inj h
    exact R 18 _ dX7_readExpect_18
  · refine z_aload_n C 1 rfl rfl dX7_readExpect_19 ?_
    obtain ⟨q2, e2, h⟩ := bd_e h
    refine z_callVv C (b := a 0) (As := []) (rest := []) (c_X7_step E a S e2) rfl gX7_readExpect_X7_step rfl rfl rfl 0 rfl (by decide +kernel) ⟨Nat.le_of_ble_eq_true rfl, Nat.le_of_ble_eq_true rfl⟩ [0, 1, 2, 3, 4, 5, 6, 7, 8, 9, 10, 11, 12, 13, 14, 15, 16] (wl_X7_readExpect_0 E a S) (by decide) (wl_X7_readExpect_1 E a _ _) (wModel E a q2) (wl_X7_readExpect_2 E a S q2) 0 7 rfl rfl rfl (Nat.le_of_ble_eq_true rfl) dX7_readExpect_20 ⟨Nat.zero_le _, Nat.zero_le _⟩ _ rfl ?_
    refine z_bipush C (v := (76 : Int32)) (by decide) dX7_readExpect_23 ?_
    refine z_iconst C (v := (3 : Int32)) (by decide) dX7_readExpect_25 ?_
    refine z_iload_n C 0 rfl rfl dX7_readExpect_26 ?_
    refine z_imul C dX7_readExpect_27 ?_
    refine z_iadd C dX7_readExpect_28 ?_
    refine z_istore_n C [(2, .int ((76 : Int32) + ((3 : Int32) * (S 2 (Int32.toNatClampNeg (90 : Int32)))))), (1, .int (S 2 (Int32.toNatClampNeg (90 : Int32)))), (0, .ref (a 0))] rfl (by decide) rfl dX7_readExpect_29 ?_
    refine z_aload_n C 2 rfl rfl dX7_readExpect_30 ?_
    refine z_get C 0 rfl (C := RX7) (T := TX7) (N := 38) (ci := 7) rfl inw_X7_readExpect_X7 2 (by decide) (ref := "EldestAgeModel") (List.mem_of_getElem? (i := 1) rfl) rfl (v := .ref (a 2)) rfl dX7_readExpect_31 ?_
    refine z_iload_n C 0 rfl rfl dX7_readExpect_34 ?_
    refine z_aload_n C 2 rfl rfl dX7_readExpect_35 ?_
    obtain ⟨q3, e3, h⟩ := bd_e h
    refine z_callVi C (b := a 0) (As := []) (rest := [.int ((76 : Int32) + ((3 : Int32) * (S 2 (Int32.toNatClampNeg (90 : Int32))))), .ref (a 2)]) (c_X7_house E a q2 e3) rfl gX7_readExpect_X7_house rfl rfl rfl 0 rfl (by decide +kernel) ⟨Nat.le_of_ble_eq_true rfl, Nat.le_of_ble_eq_true rfl⟩ [0, 1, 2, 3, 4, 5, 6, 7, 8, 9, 10, 11, 12, 13, 14, 15, 16] (wl_X7_readExpect_0 E a q2) (by decide) (wl_X7_readExpect_1 E a _ _) (wModel E a q3.2) (wl_X7_readExpect_2 E a q2 q3.2) 0 7 rfl rfl rfl (Nat.le_of_ble_eq_true rfl) dX7_readExpect_36 ⟨Nat.zero_le _, Nat.zero_le _⟩ _ rfl ?_
    refine z_iast C (N := 92) (f := (q3.2 2)) 2 rfl h (wModel E a (st 2 (upd (q3.2 2) (Int32.toNatClampNeg ((76 : Int32) + ((3 : Int32) * (S 2 (Int32.toNatClampNeg (90 : Int32)))))) q3.1) q3.2)) (wl_X7_readExpect_3 E a q3.2 (upd (q3.2 2) (Int32.toNatClampNeg ((76 : Int32) + ((3 : Int32) * (S 2 (Int32.toNatClampNeg (90 : Int32)))))) q3.1)) dX7_readExpect_39 (fun h => ?_)
    refine z_aload_n C 2 rfl rfl dX7_readExpect_40 ?_
    refine z_get C 0 rfl (C := RX7) (T := TX7) (N := 38) (ci := 7) rfl inw_X7_readExpect_X7 2 (by decide) (ref := "EldestAgeModel") (List.mem_of_getElem? (i := 1) rfl) rfl (v := .ref (a 2)) rfl dX7_readExpect_41 ?_
    refine z_iload_n C 0 rfl rfl dX7_readExpect_44 ?_
    refine z_iconst C (v := (1 : Int32)) (by decide) dX7_readExpect_45 ?_
    refine z_iadd C dX7_readExpect_46 ?_
    refine z_aload_n C 2 rfl rfl dX7_readExpect_47 ?_
    refine z_iconst C (v := (0 : Int32)) (by decide) dX7_readExpect_48 ?_
    obtain ⟨q4, e4, h⟩ := bd_e h
    refine z_callVi C (b := a 0) (As := [.int (0 : Int32)]) (rest := [.int (((76 : Int32) + ((3 : Int32) * (S 2 (Int32.toNatClampNeg (90 : Int32))))) + (1 : Int32)), .ref (a 2)]) (c_X7_day E a (0 : Int32) (st 2 (upd (q3.2 2) (Int32.toNatClampNeg ((76 : Int32) + ((3 : Int32) * (S 2 (Int32.toNatClampNeg (90 : Int32)))))) q3.1) q3.2) e4) rfl gX7_readExpect_X7_day rfl rfl rfl 1 rfl (by decide +kernel) ⟨Nat.le_of_ble_eq_true rfl, Nat.le_of_ble_eq_true rfl⟩ [0, 1, 2, 3, 4, 5, 6, 7, 8, 9, 10, 11, 12, 13, 14, 15, 16] (wl_X7_readExpect_0 E a (st 2 (upd (q3.2 2) (Int32.toNatClampNeg ((76 : Int32) + ((3 : Int32) * (S 2 (Int32.toNatClampNeg (90 : Int32)))))) q3.1) q3.2)) (by decide) (wl_X7_readExpect_1 E a _ _) (wModel E a q4.2) (wl_X7_readExpect_2 E a (st 2 (upd (q3.2 2) (Int32.toNatClampNeg ((76 : Int32) + ((3 : Int32) * (S 2 (Int32.toNatClampNeg (90 : Int32)))))) q3.1) q3.2) q4.2) 0 7 rfl rfl rfl (Nat.le_of_ble_eq_true rfl) dX7_readExpect_49 ⟨Nat.zero_le _, Nat.zero_le _⟩ _ rfl ?_
    refine z_iast C (N := 92) (f := (q4.2 2)) 2 rfl h (wModel E a (st 2 (upd (q4.2 2) (Int32.toNatClampNeg (((76 : Int32) + ((3 : Int32) * (S 2 (Int32.toNatClampNeg (90 : Int32))))) + (1 : Int32))) q4.1) q4.2)) (wl_X7_readExpect_3 E a q4.2 (upd (q4.2 2) (Int32.toNatClampNeg (((76 : Int32) + ((3 : Int32) * (S 2 (Int32.toNatClampNeg (90 : Int32))))) + (1 : Int32))) q4.1)) dX7_readExpect_52 (fun h => ?_)
    refine z_aload_n C 2 rfl rfl dX7_readExpect_53 ?_
    refine z_get C 0 rfl (C := RX7) (T := TX7) (N := 38) (ci := 7) rfl inw_X7_readExpect_X7 2 (by decide) (ref := "EldestAgeModel") (List.mem_of_getElem? (i := 1) rfl) rfl (v := .ref (a 2)) rfl dX7_readExpect_54 ?_
    refine z_iload_n C 0 rfl rfl dX7_readExpect_57 ?_
    refine z_iconst C (v := (2 : Int32)) (by decide) dX7_readExpect_58 ?_
    refine z_iadd C dX7_readExpect_59 ?_
    refine z_aload_n C 2 rfl rfl dX7_readExpect_60 ?_
    refine z_aload_n C 2 rfl rfl dX7_readExpect_61 ?_
    refine z_get C 0 rfl (C := RX7) (T := TX7) (N := 38) (ci := 7) rfl inw_X7_readExpect_X7 2 (by decide) (ref := "EldestAgeModel") (List.mem_of_getElem? (i := 1) rfl) rfl (v := .ref (a 2)) rfl dX7_readExpect_62 ?_
    refine z_iload_n C 0 rfl rfl dX7_readExpect_65 ?_
    refine z_iconst C (v := (1 : Int32)) (by decide) dX7_readExpect_66 ?_
    refine z_iadd C dX7_readExpect_67 ?_
    refine z_iald C (N := 92) (f := (upd (q4.2 2) (Int32.toNatClampNeg (((76 : Int32) + ((3 : Int32) * (S 2 (Int32.toNatClampNeg (90 : Int32))))) + (1 : Int32))) q4.1)) 2 rfl h dX7_readExpect_68 (fun h => ?_)
    obtain ⟨q5, e5, h⟩ := bd_e h
    refine z_callVi C (b := a 0) (As := [.int ((upd (q4.2 2) (Int32.toNatClampNeg (((76 : Int32) + ((3 : Int32) * (S 2 (Int32.toNatClampNeg (90 : Int32))))) + (1 : Int32))) q4.1) (Int32.toNatClampNeg (((76 : Int32) + ((3 : Int32) * (S 2 (Int32.toNatClampNeg (90 : Int32))))) + (1 : Int32))))]) (rest := [.int (((76 : Int32) + ((3 : Int32) * (S 2 (Int32.toNatClampNeg (90 : Int32))))) + (2 : Int32)), .ref (a 2)]) (c_X7_day E a ((upd (q4.2 2) (Int32.toNatClampNeg (((76 : Int32) + ((3 : Int32) * (S 2 (Int32.toNatClampNeg (90 : Int32))))) + (1 : Int32))) q4.1) (Int32.toNatClampNeg (((76 : Int32) + ((3 : Int32) * (S 2 (Int32.toNatClampNeg (90 : Int32))))) + (1 : Int32)))) (st 2 (upd (q4.2 2) (Int32.toNatClampNeg (((76 : Int32) + ((3 : Int32) * (S 2 (Int32.toNatClampNeg (90 : Int32))))) + (1 : Int32))) q4.1) q4.2) e5) rfl gX7_readExpect_X7_day rfl rfl rfl 1 rfl (by decide +kernel) ⟨Nat.le_of_ble_eq_true rfl, Nat.le_of_ble_eq_true rfl⟩ [0, 1, 2, 3, 4, 5, 6, 7, 8, 9, 10, 11, 12, 13, 14, 15, 16] (wl_X7_readExpect_0 E a (st 2 (upd (q4.2 2) (Int32.toNatClampNeg (((76 : Int32) + ((3 : Int32) * (S 2 (Int32.toNatClampNeg (90 : Int32))))) + (1 : Int32))) q4.1) q4.2)) (by decide) (wl_X7_readExpect_1 E a _ _) (wModel E a q5.2) (wl_X7_readExpect_2 E a (st 2 (upd (q4.2 2) (Int32.toNatClampNeg (((76 : Int32) + ((3 : Int32) * (S 2 (Int32.toNatClampNeg (90 : Int32))))) + (1 : Int32))) q4.1) q4.2) q5.2) 0 7 rfl rfl rfl (Nat.le_of_ble_eq_true rfl) dX7_readExpect_69 ⟨Nat.zero_le _, Nat.zero_le _⟩ _ rfl ?_
    refine z_iast C (N := 92) (f := (q5.2 2)) 2 rfl h (wModel E a (st 2 (upd (q5.2 2) (Int32.toNatClampNeg (((76 : Int32) + ((3 : Int32) * (S 2 (Int32.toNatClampNeg (90 : Int32))))) + (2 : Int32))) q5.1) q5.2)) (wl_X7_readExpect_3 E a q5.2 (upd (q5.2 2) (Int32.toNatClampNeg (((76 : Int32) + ((3 : Int32) * (S 2 (Int32.toNatClampNeg (90 : Int32))))) + (2 : Int32))) q5.1)) dX7_readExpect_72 (fun h => ?_)
    refine z_aload_n C 2 rfl rfl dX7_readExpect_73 ?_
    refine z_get C 0 rfl (C := RX7) (T := TX7) (N := 38) (ci := 7) rfl inw_X7_readExpect_X7 2 (by decide) (ref := "EldestAgeModel") (List.mem_of_getElem? (i := 1) rfl) rfl (v := .ref (a 2)) rfl dX7_readExpect_74 ?_
    refine z_bipush C (v := (90 : Int32)) (by decide) dX7_readExpect_77 ?_
    refine z_dup2 C rfl rfl dX7_readExpect_79 ?_
    refine z_iald C (N := 92) (f := (upd (q5.2 2) (Int32.toNatClampNeg (((76 : Int32) + ((3 : Int32) * (S 2 (Int32.toNatClampNeg (90 : Int32))))) + (2 : Int32))) q5.1)) 2 rfl h dX7_readExpect_80 (fun h => ?_)
    refine z_iconst C (v := (1 : Int32)) (by decide) dX7_readExpect_81 ?_
    refine z_iadd C dX7_readExpect_82 ?_
    refine z_iast C (N := 92) (f := (upd (q5.2 2) (Int32.toNatClampNeg (((76 : Int32) + ((3 : Int32) * (S 2 (Int32.toNatClampNeg (90 : Int32))))) + (2 : Int32))) q5.1)) 2 rfl h (wModel E a (st 2 (upd (upd (q5.2 2) (Int32.toNatClampNeg (((76 : Int32) + ((3 : Int32) * (S 2 (Int32.toNatClampNeg (90 : Int32))))) + (2 : Int32))) q5.1) (Int32.toNatClampNeg (90 : Int32)) (((upd (q5.2 2) (Int32.toNatClampNeg (((76 : Int32) + ((3 : Int32) * (S 2 (Int32.toNatClampNeg (90 : Int32))))) + (2 : Int32))) q5.1) (Int32.toNatClampNeg (90 : Int32))) + (1 : Int32))) (st 2 (upd (q5.2 2) (Int32.toNatClampNeg (((76 : Int32) + ((3 : Int32) * (S 2 (Int32.toNatClampNeg (90 : Int32))))) + (2 : Int32))) q5.1) q5.2))) (wl_X7_readExpect_3 E a (st 2 (upd (q5.2 2) (Int32.toNatClampNeg (((76 : Int32) + ((3 : Int32) * (S 2 (Int32.toNatClampNeg (90 : Int32))))) + (2 : Int32))) q5.1) q5.2) (upd (upd (q5.2 2) (Int32.toNatClampNeg (((76 : Int32) + ((3 : Int32) * (S 2 (Int32.toNatClampNeg (90 : Int32))))) + (2 : Int32))) q5.1) (Int32.toNatClampNeg (90 : Int32)) (((upd (q5.2 2) (Int32.toNatClampNeg (((76 : Int32) + ((3 : Int32) * (S 2 (Int32.toNatClampNeg (90 : Int32))))) + (2 : Int32))) q5.1) (Int32.toNatClampNeg (90 : Int32))) + (1 : Int32)))) dX7_readExpect_83 (fun h => ?_)
    obtain rfl := Option.some.inj h
    exact R 84 _ dX7_readExpect_84

theorem c_X7_readExpect (E : zEnv) (a : Nat → Nat) (S : St) {res : St} (h : f_X7_readExpect S = some res) : Ktv E yX7_readExpect wsX7_readExpect rm_X7_readExpect (wModel E a S) (wModel E a res) [.ref (a 0)] :=
  z_entv (cc := cX7_readExpect) (maxL := 3) (by decide +kernel) rfl (Nat.le_of_ble_eq_true rfl) (fun Γ C R => L_X7_readExpect a C R S h)

abbrev rm_X7_readOnce : Room := { frames := 3, cells := 0, slots := 0, locals := 69 }
theorem inw_X7_readOnce_X7 : ∀ w ∈ wsX70, w ∈ wsX7_readOnce := fun _ h => List.mem_cons_of_mem _ (List.mem_append_right _ h)
set_option maxHeartbeats 4000000 in
theorem wl_X7_readOnce_0 (E : zEnv) (a : Nat → Nat) (S : St) (v : Int32) : (wModel E a (st 4 (fun _ => v) S)) = (wModel E a S).set 0 (a 0, .inr (7, List.set [.ref (a 1), .int (S 1 0), .ref (a 2), .int (S 3 0), .int (S 4 0), .int (S 5 0), .int (S 6 0), .int (S 7 0), .ref (a 3), .int (S 9 0), .int (S 10 0), .int (S 11 0), .int (S 12 0), .int (S 13 0), .int (S 14 0), .int (S 15 0), .int (S 16 0), .ref (a 4), .ref (a 5), .int (S 19 0), .int (S 20 0), .int (S 21 0), .int (S 22 0), .ref (a 6), .int (S 24 0), .ref (a 7), .int (S 26 0), .ref (a 8), .ref (a 9), .ref (a 10), .ref (a 11), .ref (a 12), .int (S 32 0), .ref (a 13), .ref (a 14), .ref (a 15), .ref (a 16), .int (S 37 0)] 4 (.int v))) := rfl
set_option maxHeartbeats 4000000 in
theorem wl_X7_readOnce_1 (E : zEnv) (a : Nat → Nat) (S : St) : ([0, 1, 2, 3, 4, 5, 6, 7, 8, 9, 10, 11, 12, 13, 14, 15, 16] : List Nat).map (fun i => (wModel E a S)[i]?) = (wModel E a S).map some := rfl
set_option maxHeartbeats 4000000 in
theorem wl_X7_readOnce_2 (E : zEnv) (a : Nat → Nat) (S U : St) : (wModel E a U).map (fun q => q.1) = (wModel E a S).map (fun q => q.1) := rfl
set_option maxHeartbeats 4000000 in
theorem wl_X7_readOnce_3 (E : zEnv) (a : Nat → Nat) (S U : St) : (wModel E a U) = zrep [0, 1, 2, 3, 4, 5, 6, 7, 8, 9, 10, 11, 12, 13, 14, 15, 16] (wModel E a U) (wModel E a S) := zrep_of (isR := []) 17 rfl [] rfl rfl rfl rfl (by decide +kernel) (by decide +kernel)
set_option maxHeartbeats 4000000 in
theorem wl_X7_readOnce_4 (E : zEnv) (a : Nat → Nat) (S : St) (v : Int32) : (wModel E a (st 3 (fun _ => v) S)) = (wModel E a S).set 0 (a 0, .inr (7, List.set [.ref (a 1), .int (S 1 0), .ref (a 2), .int (S 3 0), .int (S 4 0), .int (S 5 0), .int (S 6 0), .int (S 7 0), .ref (a 3), .int (S 9 0), .int (S 10 0), .int (S 11 0), .int (S 12 0), .int (S 13 0), .int (S 14 0), .int (S 15 0), .int (S 16 0), .ref (a 4), .ref (a 5), .int (S 19 0), .int (S 20 0), .int (S 21 0), .int (S 22 0), .ref (a 6), .int (S 24 0), .ref (a 7), .int (S 26 0), .ref (a 8), .ref (a 9), .ref (a 10), .ref (a 11), .ref (a 12), .int (S 32 0), .ref (a 13), .ref (a 14), .ref (a 15), .ref (a 16), .int (S 37 0)] 3 (.int v))) := rfl
set_option maxHeartbeats 4000000 in
theorem wl_X7_readOnce_5 (E : zEnv) (a : Nat → Nat) (S : St) (v : Int32) : (wModel E a (st 5 (fun _ => v) S)) = (wModel E a S).set 0 (a 0, .inr (7, List.set [.ref (a 1), .int (S 1 0), .ref (a 2), .int (S 3 0), .int (S 4 0), .int (S 5 0), .int (S 6 0), .int (S 7 0), .ref (a 3), .int (S 9 0), .int (S 10 0), .int (S 11 0), .int (S 12 0), .int (S 13 0), .int (S 14 0), .int (S 15 0), .int (S 16 0), .ref (a 4), .ref (a 5), .int (S 19 0), .int (S 20 0), .int (S 21 0), .int (S 22 0), .ref (a 6), .int (S 24 0), .ref (a 7), .int (S 26 0), .ref (a 8), .ref (a 9), .ref (a 10), .ref (a 11), .ref (a 12), .int (S 32 0), .ref (a 13), .ref (a 14), .ref (a 15), .ref (a 16), .int (S 37 0)] 5 (.int v))) := rfl
set_option maxHeartbeats 4000000 in
theorem wl_X7_readOnce_6 (E : zEnv) (a : Nat → Nat) (S : St) (f : Nat → Int32) : (wModel E a (st 2 f S)) = (wModel E a S).set 2 (a 2, .inl (zI E, 92, .inl f)) := rfl
noncomputable def f_X7_readOnce_16 (S : St) : Option St := ((f_X7_step (st 4 (fun _ => (1 : Int32)) S)).bind (fun q1 => ((f_X7_numeral (1 : Int32) (8 : Int32) q1).bind (fun q2 => (some (st 3 (fun _ => q2.1) q2.2))))))
noncomputable def f_X7_readOnce_49 (S : St) : Option St := ((f_X7_step (st 5 (fun _ => (1 : Int32)) S)).bind (fun q3 => ((f_X7_nameHere q3).bind (fun q4 => ((f_X7_in (Int32.toInt64 (q4 - (6 : Int32))) (0 : Int64) (3 : Int64)).bind (fun q5 => (if q5 = 0 then ((f_X7_fails (2 : Int32) q3).bind (fun q6 => (some q6))) else (ix (91 : Int32) 92 ((f_X7_step (st 2 (upd (q3 2) (Int32.toNatClampNeg (91 : Int32)) (q4 - (6 : Int32))) q3)).bind (fun q7 => (some q7)))))))))))
noncomputable def f_X7_readOnce (x1 : Int32) (S : St) : Option St := (if x1 = 0 then (if (S 4 0) = 0 then (f_X7_readOnce_16 S) else ((f_X7_fails (4 : Int32) S).bind (fun q8 => (f_X7_readOnce_16 q8)))) else (if (S 5 0) = 0 then (f_X7_readOnce_49 S) else ((f_X7_fails (4 : Int32) S).bind (fun q9 => (f_X7_readOnce_49 q9)))))
set_option maxHeartbeats 4000000 in
set_option maxRecDepth 100000 in
theorem L_X7_readOnce_16 {E : zEnv} {Γ : zG} (a : Nat → Nat) (C : zC E Γ cX7_readOnce RX7 3 rm_X7_readOnce wsX7_readOnce) {res : St} (R : zRv E Γ cX7_readOnce 3 (wModel E a res)) (S : St) (h : f_X7_readOnce_16 S = some res) : Zt E Γ 3 0 0 (wModel E a S) [(0, .ref (a 0))] 16 [] := by
  unfold f_X7_readOnce_16 at h
  refine z_aload_n C 0 rfl rfl dX7_readOnce_16 ?_
  refine z_iconst C (v := (1 : Int32)) (by decide) dX7_readOnce_17 ?_
  refine z_put C 0 rfl (C := RX7) (T := TX7) (N := 38) (ci := 7) rfl inw_X7_readOnce_X7 tyX7 tyX7_ok nmX7 4 (by decide) (ref := "EldestAgeModel") (List.mem_of_getElem? (i := 1) rfl) rfl rfl (ty := .boolean) (v := .int (1 : Int32)) (by decide +kernel) (by decide +kernel) rfl (Nat.le_of_ble_eq_true rfl) (wModel E a (st 4 (fun _ => (1 : Int32)) S)) (wl_X7_readOnce_0 E a S (1 : Int32)) dX7_readOnce_18 ?_
  refine z_aload_n C 0 rfl rfl dX7_readOnce_21 ?_
  obtain ⟨q1, e1, h⟩ := bd_e h
  refine z_callVv C (b := a 0) (As := []) (rest := []) (c_X7_step E a (st 4 (fun _ => (1 : Int32)) S) e1) rfl gX7_readOnce_X7_step rfl rfl rfl 0 rfl (by decide +kernel) ⟨Nat.le_of_ble_eq_true rfl, Nat.le_of_ble_eq_true rfl⟩ [0, 1, 2, 3, 4, 5, 6, 7, 8, 9, 10, 11, 12, 13, 14, 15, 16] (wl_X7_readOnce_1 E a (st 4 (fun _ => (1 : Int32)) S)) (by decide) (wl_X7_readOnce_2 E a _ _) (wModel E a q1) (wl_X7_readOnce_3 E a (st 4 (fun _ => (1 : Int32)) S) q1) 0 7 rfl rfl rfl (Nat.le_of_ble_eq_true rfl) dX7_readOnce_22 ⟨Nat.zero_le _, Nat.zero_le _⟩ _ rfl ?_
  refine z_aload_n C 0 rfl rfl dX7_readOnce_25 ?_
  refine z_aload_n C 0 rfl rfl dX7_readOnce_26 ?_
  refine z_iconst C (v := (1 : Int32)) (by decide) dX7_readOnce_27 ?_
  refine z_bipush C (v := (8 : Int32)) (by decide) dX7_readOnce_28 ?_
  obtain ⟨q2, e2, h⟩ := bd_e h
  refine z_callVi C (b := a 0) (As := [.int (1 : Int32), .int (8 : Int32)]) (rest := [.ref (a 0)]) (c_X7_numeral E a (1 : Int32) (8 : Int32) q1 e2) rfl gX7_readOnce_X7_numeral rfl rfl rfl 2 rfl (by decide +kernel) ⟨Nat.le_of_ble_eq_true rfl, Nat.le_of_ble_eq_true rfl⟩ [0, 1, 2, 3, 4, 5, 6, 7, 8, 9, 10, 11, 12, 13, 14, 15, 16] (wl_X7_readOnce_1 E a q1) (by decide) (wl_X7_readOnce_2 E a _ _) (wModel E a q2.2) (wl_X7_readOnce_3 E a q1 q2.2) 0 7 rfl rfl rfl (Nat.le_of_ble_eq_true rfl) dX7_readOnce_30 ⟨Nat.zero_le _, Nat.zero_le _⟩ _ rfl ?_
  refine z_put C 0 rfl (C := RX7) (T := TX7) (N := 38) (ci := 7) rfl inw_X7_readOnce_X7 tyX7 tyX7_ok nmX7 3 (by decide) (ref := "EldestAgeModel") (List.mem_of_getElem? (i := 2) rfl) rfl rfl (ty := .int) (v := .int q2.1) (by decide +kernel) rfl rfl (Nat.le_of_ble_eq_true rfl) (wModel E a (st 3 (fun _ => q2.1) q2.2)) (wl_X7_readOnce_4 E a q2.2 q2.1) dX7_readOnce_33 ?_
  obtain rfl := Option.some.inj h
  exact R 36 _ dX7_readOnce_36

set_option maxHeartbeats 4000000 in
set_option maxRecDepth 100000 in
theorem L_X7_readOnce_49 {E : zEnv} {Γ : zG} (a : Nat → Nat) (C : zC E Γ cX7_readOnce RX7 3 rm_X7_readOnce wsX7_readOnce) {res : St} (R : zRv E Γ cX7_readOnce 3 (wModel E a res)) (S : St) (h : f_X7_readOnce_49 S = some res) : Zt E Γ 3 0 0 (wModel E a S) [(0, .ref (a 0))] 49 [] := by
  unfold f_X7_readOnce_49 at h
  refine z_aload_n C 0 rfl rfl dX7_readOnce_49 ?_
  refine z_iconst C (v := (1 : Int32)) (by decide) dX7_readOnce_50 ?_
  refine z_put C 0 rfl (C := RX7) (T := TX7) (N := 38) (ci := 7) rfl inw_X7_readOnce_X7 tyX7 tyX7_ok nmX7 5 (by decide) (ref := "EldestAgeModel") (List.mem_of_getElem? (i := 3) rfl) rfl rfl (ty := .boolean) (v := .int (1 : Int32)) (by decide +kernel) (by decide +kernel) rfl (Nat.le_of_ble_eq_true rfl) (wModel E a (st 5 (fun _ => (1 : Int32)) S)) (wl_X7_readOnce_5 E a S (1 : Int32)) dX7_readOnce_51 ?_
  refine z_aload_n C 0 rfl rfl dX7_readOnce_54 ?_
  obtain ⟨q3, e3, h⟩ := bd_e h
  refine z_callVv C (b := a 0) (As := []) (rest := []) (c_X7_step E a (st 5 (fun _ => (1 : Int32)) S) e3) rfl gX7_readOnce_X7_step rfl rfl rfl 0 rfl (by decide +kernel) ⟨Nat.le_of_ble_eq_true rfl, Nat.le_of_ble_eq_true rfl⟩ [0, 1, 2, 3, 4, 5, 6, 7, 8, 9, 10, 11, 12, 13, 14, 15, 16] (wl_X7_readOnce_1 E a (st 5 (fun _ => (1 : Int32)) S)) (by decide) (wl_X7_readOnce_2 E a _ _) (wModel E a q3) (wl_X7_readOnce_3 E a (st 5 (fun _ => (1 : Int32)) S) q3) 0 7 rfl rfl rfl (Nat.le_of_ble_eq_true rfl) dX7_readOnce_55 ⟨Nat.zero_le _, Nat.zero_le _⟩ _ rfl ?_
  refine z_aload_n C 0 rfl rfl dX7_readOnce_58 ?_
  obtain ⟨q4, e4, h⟩ := bd_e h
  refine z_callVi C (b := a 0) (As := []) (rest := []) (c_X7_nameHere E a q3 e4) rfl gX7_readOnce_X7_nameHere rfl rfl rfl 0 rfl (by decide +kernel) ⟨Nat.le_of_ble_eq_true rfl, Nat.le_of_ble_eq_true rfl⟩ [0, 1, 2, 3, 4, 5, 6, 7, 8, 9, 10, 11, 12, 13, 14, 15, 16] (wl_X7_readOnce_1 E a q3) (by decide) rfl (wModel E a q3) (zrep_self (wl_X7_readOnce_1 E a q3)) 0 7 rfl rfl rfl (Nat.le_of_ble_eq_true rfl) dX7_readOnce_59 ⟨Nat.zero_le _, Nat.zero_le _⟩ _ rfl ?_
  refine z_bipush C (v := (6 : Int32)) (by decide) dX7_readOnce_62 ?_
  refine z_isub C dX7_readOnce_64 ?_
  refine z_istore_n C [(2, .int (q4 - (6 : Int32))), (0, .ref (a 0))] rfl (by decide) rfl dX7_readOnce_65 ?_
  refine z_iload_n C 0 rfl rfl dX7_readOnce_66 ?_
  refine z_i2l C dX7_readOnce_67 ?_
  refine z_lconst C (v := (0 : Int64)) (by decide) dX7_readOnce_68 ?_
  refine z_ldc2 C (v := (3 : Int64)) (List.mem_of_getElem? (i := 4) rfl) dX7_readOnce_69 ?_
  obtain ⟨q5, e5, h⟩ := bd_e h
  refine z_callSi C (rest := []) (c_X7_in E (Int32.toInt64 (q4 - (6 : Int32))) (0 : Int64) (3 : Int64) e5) gX7_readOnce_X7_in rfl rfl rfl 3 rfl (by decide +kernel) ⟨Nat.le_of_ble_eq_true rfl, Nat.le_of_ble_eq_true rfl⟩ [] rfl (by decide) rfl (wModel E a q3) rfl (Nat.le_of_ble_eq_true rfl) dX7_readOnce_72 ⟨Nat.zero_le _, Nat.zero_le _⟩ _ rfl ?_
  refine z_if_ne C 84 (by decide) h dX7_readOnce_75 (fun hc h => ?_) (fun hc h => ?_)
  · refine z_aload_n C 1 rfl rfl dX7_readOnce_78 ?_
    refine z_iconst C (v := (2 : Int32)) (by decide) dX7_readOnce_79 ?_
    obtain ⟨q6, e6, h⟩ := bd_e h
    refine z_callVv C (b := a 0) (As := [.int (2 : Int32)]) (rest := []) (c_X7_fails E a (2 : Int32) q3 e6) rfl gX7_readOnce_X7_fails rfl rfl rfl 1 rfl (by decide +kernel) ⟨Nat.le_of_ble_eq_true rfl, Nat.le_of_ble_eq_true rfl⟩ [0, 1, 2, 3, 4, 5, 6, 7, 8, 9, 10, 11, 12, 13, 14, 15, 16] (wl_X7_readOnce_1 E a q3) (by decide) (wl_X7_readOnce_2 E a _ _) (wModel E a q6) (wl_X7_readOnce_3 E a q3 q6) 0 7 rfl rfl rfl (Nat.le_of_ble_eq_true rfl) dX7_readOnce_80 ⟨Nat.zero_le _, Nat.zero_le _⟩ _ rfl ?_
    obtain rfl := Option.some.inj h
    exact R 83 _ dX7_readOnce_83
  · refine z_aload_n C 1 rfl rfl dX7_readOnce_84 ?_
    refine z_get C 0 rfl (C := RX7) (T := TX7) (N := 38) (ci := 7) rfl inw_X7_readOnce_X7 2 (by decide) (ref := "EldestAgeModel") (List.mem_of_getElem? (i := 5) rfl) rfl (v := .ref (a 2)) rfl dX7_readOnce_85 ?_
    refine z_bipush C (v := (91 : Int32)) (by decide) dX7_readOnce_88 ?_
    refine z_iload_n C 0 rfl rfl dX7_readOnce_90 ?_
    refine z_iast C (N := 92) (f := (q3 2)) 2 rfl h (wModel E a (st 2 (upd (q3 2) (Int32.toNatClampNeg (91 : Int32)) (q4 - (6 : Int32))) q3)) (wl_X7_readOnce_6 E a q3 (upd (q3 2) (Int32.toNatClampNeg (91 : Int32)) (q4 - (6 : Int32)))) dX7_readOnce_91 (fun h => ?_)
    refine z_aload_n C 1 rfl rfl dX7_readOnce_92 ?_
    obtain ⟨q7, e7, h⟩ := bd_e h
    refine z_callVv C (b := a 0) (As := []) (rest := []) (c_X7_step E a (st 2 (upd (q3 2) (Int32.toNatClampNeg (91 : Int32)) (q4 - (6 : Int32))) q3) e7) rfl gX7_readOnce_X7_step rfl rfl rfl 0 rfl (by decide +kernel) ⟨Nat.le_of_ble_eq_true rfl, Nat.le_of_ble_eq_true rfl⟩ [0, 1, 2, 3, 4, 5, 6, 7, 8, 9, 10, 11, 12, 13, 14, 15, 16] (wl_X7_readOnce_1 E a (st 2 (upd (q3 2) (Int32.toNatClampNeg (91 : Int32)) (q4 - (6 : Int32))) q3)) (by decide) (wl_X7_readOnce_2 E a _ _) (wModel E a q7) (wl_X7_readOnce_3 E a (st 2 (upd (q3 2) (Int32.toNatClampNeg (91 : Int32)) (q4 - (6 : Int32))) q3) q7) 0 7 rfl rfl rfl (Nat.le_of_ble_eq_true rfl) dX7_readOnce_93 ⟨Nat.zero_le _, Nat.zero_le _⟩ _ rfl ?_
    obtain rfl := Option.some.inj h
    exact R 96 _ dX7_readOnce_96

set_option maxHeartbeats 4000000 in
set_option maxRecDepth 100000 in
theorem L_X7_readOnce {E : zEnv} {Γ : zG} (a : Nat → Nat) (C : zC E Γ cX7_readOnce RX7 3 rm_X7_readOnce wsX7_readOnce) {res : St} (R : zRv E Γ cX7_readOnce 3 (wModel E a res)) (x1 : Int32) (S : St) (h : f_X7_readOnce x1 S = some res) : Zt E Γ 3 0 0 (wModel E a S) [(0, .ref (a 0)), (1, .int x1)] 0 [] := by
  unfold f_X7_readOnce at h
  refine z_iload_n C 1 rfl rfl dX7_readOnce_0 ?_
  refine z_if_ne C 37 (by decide) h dX7_readOnce_1 (fun hc h => ?_) (fun hc h => ?_)
  · refine z_aload_n C 0 rfl rfl dX7_readOnce_4 ?_
    refine z_get C 0 rfl (C := RX7) (T := TX7) (N := 38) (ci := 7) rfl inw_X7_readOnce_X7 4 (by decide) (ref := "EldestAgeModel") (List.mem_of_getElem? (i := 1) rfl) rfl (v := .int (S 4 0)) rfl dX7_readOnce_5 ?_
    refine z_if_eq C 16 (by decide) h dX7_readOnce_8 (fun hc h => ?_) (fun hc h => ?_)
    · refine Zt_l [(0, .ref (a 0))] [0] rfl ?_
      exact L_X7_readOnce_16 a C R S h
    · refine z_aload_n C 0 rfl rfl dX7_readOnce_11 ?_
      refine z_iconst C (v := (4 : Int32)) (by decide) dX7_readOnce_12 ?_
      obtain ⟨q8, e8, h⟩ := bd_e h
      refine z_callVv C (b := a 0) (As := [.int (4 : Int32)]) (rest := []) (c_X7_fails E a (4 : Int32) S e8) rfl gX7_readOnce_X7_fails rfl rfl rfl 1 rfl (by decide +kernel) ⟨Nat.le_of_ble_eq_true rfl, Nat.le_of_ble_eq_true rfl⟩ [0, 1, 2, 3, 4, 5, 6, 7, 8, 9, 10, 11, 12, 13, 14, 15, 16] (wl_X7_readOnce_1 E a S) (by decide) (wl_X7_readOnce_2 E a _ _) (wModel E a q8) (wl_X7_readOnce_3 E a S q8) 0 7 rfl rfl rfl (Nat.le_of_ble_eq_true rfl) dX7_readOnce_13 ⟨Nat.zero_le _, Nat.zero_le _⟩ _ rfl ?_
      refine Zt_l [(0, .ref (a 0))] [0] rfl ?_
      exact L_X7_readOnce_16 a C R q8 h
  · refine z_aload_n C 0 rfl rfl dX7_readOnce_37 ?_
    refine z_get C 0 rfl (C := RX7) (T := TX7) (N := 38) (ci := 7) rfl inw_X7_readOnce_X7 5 (by decide) (ref := "EldestAgeModel") (List.mem_of_getElem? (i := 3) rfl) rfl (v := .int (S 5 0)) rfl dX7_readOnce_38 ?_
    refine z_if_eq C 49 (by decide) h dX7_readOnce_41 (fun hc h => ?_) (fun hc h => ?_)
    · refine Zt_l [(0, .ref (a 0))] [0] rfl ?_
      exact L_X7_readOnce_49 a C R S h
    · refine z_aload_n C 0 rfl rfl dX7_readOnce_44 ?_
      refine z_iconst C (v := (4 : Int32)) (by decide) dX7_readOnce_45 ?_
      obtain ⟨q9, e9, h⟩ := bd_e h
      refine z_callVv C (b := a 0) (As := [.int (4 : Int32)]) (rest := []) (c_X7_fails E a (4 : Int32) S e9) rfl gX7_readOnce_X7_fails rfl rfl rfl 1 rfl (by decide +kernel) ⟨Nat.le_of_ble_eq_true rfl, Nat.le_of_ble_eq_true rfl⟩ [0, 1, 2, 3, 4, 5, 6, 7, 8, 9, 10, 11, 12, 13, 14, 15, 16] (wl_X7_readOnce_1 E a S) (by decide) (wl_X7_readOnce_2 E a _ _) (wModel E a q9) (wl_X7_readOnce_3 E a S q9) 0 7 rfl rfl rfl (Nat.le_of_ble_eq_true rfl) dX7_readOnce_46 ⟨Nat.zero_le _, Nat.zero_le _⟩ _ rfl ?_
      refine Zt_l [(0, .ref (a 0))] [0] rfl ?_
      exact L_X7_readOnce_49 a C R q9 h

theorem c_X7_readOnce (E : zEnv) (a : Nat → Nat) (x1 : Int32) (S : St) {res : St} (h : f_X7_readOnce x1 S = some res) : Ktv E yX7_readOnce wsX7_readOnce rm_X7_readOnce (wModel E a S) (wModel E a res) [.ref (a 0), .int x1] :=
  z_entv (cc := cX7_readOnce) (maxL := 3) (by decide +kernel) rfl (Nat.le_of_ble_eq_true rfl) (fun Γ C R => L_X7_readOnce a C R x1 S h)

abbrev rm_X7_readLine : Room := { frames := 5, cells := 0, slots := 0, locals := 113 }
theorem inw_X7_readLine_X7 : ∀ w ∈ wsX70, w ∈ wsX7_readLine := fun _ h => List.mem_cons_of_mem _ (List.mem_append_right _ h)
set_option maxHeartbeats 4000000 in
theorem wl_X7_readLine_0 (E : zEnv) (a : Nat → Nat) (S : St) : ([0, 1, 2, 3, 4, 5, 6, 7, 8, 9, 10, 11, 12, 13, 14, 15, 16] : List Nat).map (fun i => (wModel E a S)[i]?) = (wModel E a S).map some := rfl
set_option maxHeartbeats 4000000 in
theorem wl_X7_readLine_1 (E : zEnv) (a : Nat → Nat) (S U : St) : (wModel E a U).map (fun q => q.1) = (wModel E a S).map (fun q => q.1) := rfl
set_option maxHeartbeats 4000000 in
theorem wl_X7_readLine_2 (E : zEnv) (a : Nat → Nat) (S U : St) : (wModel E a U) = zrep [0, 1, 2, 3, 4, 5, 6, 7, 8, 9, 10, 11, 12, 13, 14, 15, 16] (wModel E a U) (wModel E a S) := zrep_of (isR := []) 17 rfl [] rfl rfl rfl rfl (by decide +kernel) (by decide +kernel)
noncomputable def f_X7_readLine_84 (S : St) : Option St := ((f_X7_step S).bind (fun q1 => (some q1)))
noncomputable def f_X7_readLine_64 (S : St) : Option St := (if (S 11 0) = 0 then (if (S 15 0) = (3 : Int32) then (f_X7_readLine_84 S) else ((f_X7_fails (2 : Int32) S).bind (fun q2 => (f_X7_readLine_84 q2)))) else (f_X7_readLine_84 S))
noncomputable def f_X7_readLine (S : St) : Option St := ((f_X7_nameHere S).bind (fun q3 => ((f_X7_in (Int32.toInt64 q3) (0 : Int64) (4 : Int64)).bind (fun q4 => (if q4 = 0 then ((f_X7_fails (2 : Int32) S).bind (fun q5 => (some q5))) else (if q3 = (2 : Int32) then ((f_X7_readOne S).bind (fun q6 => (f_X7_readLine_64 q6))) else (if q3 = (3 : Int32) then ((f_X7_readMove S).bind (fun q7 => (f_X7_readLine_64 q7))) else (if q3 = (4 : Int32) then ((f_X7_readExpect S).bind (fun q8 => (f_X7_readLine_64 q8))) else ((f_X7_readOnce q3 S).bind (fun q9 => (f_X7_readLine_64 q9)))))))))))
set_option maxHeartbeats 4000000 in
set_option maxRecDepth 100000 in
theorem L_X7_readLine_84 {E : zEnv} {Γ : zG} (a : Nat → Nat) (C : zC E Γ cX7_readLine RX7 2 rm_X7_readLine wsX7_readLine) {res : St} (R : zRv E Γ cX7_readLine 2 (wModel E a res)) (S : St) (h : f_X7_readLine_84 S = some res) : Zt E Γ 2 0 0 (wModel E a S) [(0, .ref (a 0))] 84 [] := by
  unfold f_X7_readLine_84 at h
  refine z_aload_n C 0 rfl rfl dX7_readLine_84 ?_
  obtain ⟨q1, e1, h⟩ := bd_e h
  refine z_callVv C (b := a 0) (As := []) (rest := []) (c_X7_step E a S e1) rfl gX7_readLine_X7_step rfl rfl rfl 0 rfl (by decide +kernel) ⟨Nat.le_of_ble_eq_true rfl, Nat.le_of_ble_eq_true rfl⟩ [0, 1, 2, 3, 4, 5, 6, 7, 8, 9, 10, 11, 12, 13, 14, 15, 16] (wl_X7_readLine_0 E a S) (by decide) (wl_X7_readLine_1 E a _ _) (wModel E a q1) (wl_X7_readLine_2 E a S q1) 0 7 rfl rfl rfl (Nat.le_of_ble_eq_true rfl) dX7_readLine_85 ⟨Nat.zero_le _, Nat.zero_le _⟩ _ rfl ?_
  obtain rfl := Option.some.inj h
  exact R 88 _ dX7_readLine_88

set_option maxHeartbeats 4000000 in
set_option maxRecDepth 100000 in
theorem L_X7_readLine_64 {E : zEnv} {Γ : zG} (a : Nat → Nat) (C : zC E Γ cX7_readLine RX7 2 rm_X7_readLine wsX7_readLine) {res : St} (R : zRv E Γ cX7_readLine 2 (wModel E a res)) (S : St) (h : f_X7_readLine_64 S = some res) : Zt E Γ 2 0 0 (wModel E a S) [(0, .ref (a 0))] 64 [] := by
  unfold f_X7_readLine_64 at h
  refine z_aload_n C 0 rfl rfl dX7_readLine_64 ?_
  refine z_get C 0 rfl (C := RX7) (T := TX7) (N := 38) (ci := 7) rfl inw_X7_readLine_X7 11 (by decide) (ref := "EldestAgeModel") (List.mem_of_getElem? (i := 2) rfl) rfl (v := .int (S 11 0)) rfl dX7_readLine_65 ?_
  refine z_if_ne C 84 (by decide) h dX7_readLine_68 (fun hc h => ?_) (fun hc h => ?_)
  · refine z_aload_n C 0 rfl rfl dX7_readLine_71 ?_
    refine z_get C 0 rfl (C := RX7) (T := TX7) (N := 38) (ci := 7) rfl inw_X7_readLine_X7 15 (by decide) (ref := "EldestAgeModel") (List.mem_of_getElem? (i := 3) rfl) rfl (v := .int (S 15 0)) rfl dX7_readLine_72 ?_
    refine z_iconst C (v := (3 : Int32)) (by decide) dX7_readLine_75 ?_
    refine z_icmp_eq C 84 (by decide) h dX7_readLine_76 (fun hc h => ?_) (fun hc h => ?_)
    · exact L_X7_readLine_84 a C R S h
    · refine z_aload_n C 0 rfl rfl dX7_readLine_79 ?_
      refine z_iconst C (v := (2 : Int32)) (by decide) dX7_readLine_80 ?_
      obtain ⟨q2, e2, h⟩ := bd_e h
      refine z_callVv C (b := a 0) (As := [.int (2 : Int32)]) (rest := []) (c_X7_fails E a (2 : Int32) S e2) rfl gX7_readLine_X7_fails rfl rfl rfl 1 rfl (by decide +kernel) ⟨Nat.le_of_ble_eq_true rfl, Nat.le_of_ble_eq_true rfl⟩ [0, 1, 2, 3, 4, 5, 6, 7, 8, 9, 10, 11, 12, 13, 14, 15, 16] (wl_X7_readLine_0 E a S) (by decide) (wl_X7_readLine_1 E a _ _) (wModel E a q2) (wl_X7_readLine_2 E a S q2) 0 7 rfl rfl rfl (Nat.le_of_ble_eq_true rfl) dX7_readLine_81 ⟨Nat.zero_le _, Nat.zero_le _⟩ _ rfl ?_
      exact L_X7_readLine_84 a C R q2 h
  · exact L_X7_readLine_84 a C R S h

set_option maxHeartbeats 4000000 in
set_option maxRecDepth 100000 in
theorem L_X7_readLine {E : zEnv} {Γ : zG} (a : Nat → Nat) (C : zC E Γ cX7_readLine RX7 2 rm_X7_readLine wsX7_readLine) {res : St} (R : zRv E Γ cX7_readLine 2 (wModel E a res)) (S : St) (h : f_X7_readLine S = some res) : Zt E Γ 2 0 0 (wModel E a S) [(0, .ref (a 0))] 0 [] := by
  unfold f_X7_readLine at h
  refine z_aload_n C 0 rfl rfl dX7_readLine_0 ?_
  obtain ⟨q3, e3, h⟩ := bd_e h
  refine z_callVi C (b := a 0) (As := []) (rest := []) (c_X7_nameHere E a S e3) rfl gX7_readLine_X7_nameHere rfl rfl rfl 0 rfl (by decide +kernel) ⟨Nat.le_of_ble_eq_true rfl, Nat.le_of_ble_eq_true rfl⟩ [0, 1, 2, 3, 4, 5, 6, 7, 8, 9, 10, 11, 12, 13, 14, 15, 16] (wl_X7_readLine_0 E a S) (by decide) rfl (wModel E a S) (zrep_self (wl_X7_readLine_0 E a S)) 0 7 rfl rfl rfl (Nat.le_of_ble_eq_true rfl) dX7_readLine_1 ⟨Nat.zero_le _, Nat.zero_le _⟩ _ rfl ?_
  refine z_istore_n C [(1, .int q3), (0, .ref (a 0))] rfl (by decide) rfl dX7_readLine_4 ?_
  refine z_iload_n C 0 rfl rfl dX7_readLine_5 ?_
  refine z_i2l C dX7_readLine_6 ?_
  refine z_lconst C (v := (0 : Int64)) (by decide) dX7_readLine_7 ?_
  refine z_ldc2 C (v := (4 : Int64)) (List.mem_of_getElem? (i := 1) rfl) dX7_readLine_8 ?_
  obtain ⟨q4, e4, h⟩ := bd_e h
  refine z_callSi C (rest := []) (c_X7_in E (Int32.toInt64 q3) (0 : Int64) (4 : Int64) e4) gX7_readLine_X7_in rfl rfl rfl 3 rfl (by decide +kernel) ⟨Nat.le_of_ble_eq_true rfl, Nat.le_of_ble_eq_true rfl⟩ [] rfl (by decide) rfl (wModel E a S) rfl (Nat.le_of_ble_eq_true rfl) dX7_readLine_11 ⟨Nat.zero_le _, Nat.zero_le _⟩ _ rfl ?_
  refine z_if_ne C 23 (by decide) h dX7_readLine_14 (fun hc h => ?_) (fun hc h => ?_)
  · refine z_aload_n C 1 rfl rfl dX7_readLine_17 ?_
    refine z_iconst C (v := (2 : Int32)) (by decide) dX7_readLine_18 ?_
    obtain ⟨q5, e5, h⟩ := bd_e h
    refine z_callVv C (b := a 0) (As := [.int (2 : Int32)]) (rest := []) (c_X7_fails E a (2 : Int32) S e5) rfl gX7_readLine_X7_fails rfl rfl rfl 1 rfl (by decide +kernel) ⟨Nat.le_of_ble_eq_true rfl, Nat.le_of_ble_eq_true rfl⟩ [0, 1, 2, 3, 4, 5, 6, 7, 8, 9, 10, 11, 12, 13, 14, 15, 16] (wl_X7_readLine_0 E a S) (by decide) (wl_X7_readLine_1 E a _ _) (wModel E a q5) (wl_X7_readLine_2 E a S q5) 0 7 rfl rfl rfl (Nat.le_of_ble_eq_true rfl) dX7_readLine_19 ⟨Nat.zero_le _, Nat.zero_le _⟩ _ rfl ?_
    obtain rfl := Option.some.inj h
    exact R 22 _ dX7_readLine_22
  · refine z_iload_n C 0 rfl rfl dX7_readLine_23 ?_
    refine z_iconst C (v := (2 : Int32)) (by decide) dX7_readLine_24 ?_
    refine z_icmp_ne C 35 (by decide) h dX7_readLine_25 (fun hc h => ?_) (fun hc h => ?_)
    · refine z_aload_n C 1 rfl rfl dX7_readLine_28 ?_
      obtain ⟨q6, e6, h⟩ := bd_e h
      refine z_callVv C (b := a 0) (As := []) (rest := []) (c_X7_readOne E a S e6) rfl gX7_readLine_X7_readOne rfl rfl rfl 0 rfl (by decide +kernel) ⟨Nat.le_of_ble_eq_true rfl, Nat.le_of_ble_eq_true rfl⟩ [0, 1, 2, 3, 4, 5, 6, 7, 8, 9, 10, 11, 12, 13, 14, 15, 16] (wl_X7_readLine_0 E a S) (by decide) (wl_X7_readLine_1 E a _ _) (wModel E a q6) (wl_X7_readLine_2 E a S q6) 0 7 rfl rfl rfl (Nat.le_of_ble_eq_true rfl) dX7_readLine_29 ⟨Nat.zero_le _, Nat.zero_le _⟩ _ rfl ?_
      refine z_goto C 64 (by decide) dX7_readLine_32 ?_
      refine Zt_l [(0, .ref (a 0))] [1] rfl ?_
      exact L_X7_readLine_64 a C R q6 h
    · refine z_iload_n C 0 rfl rfl dX7_readLine_35 ?_
      refine z_iconst C (v := (3 : Int32)) (by decide) dX7_readLine_36 ?_
      refine z_icmp_ne C 47 (by decide) h dX7_readLine_37 (fun hc h => ?_) (fun hc h => ?_)
      · refine z_aload_n C 1 rfl rfl dX7_readLine_40 ?_
        obtain ⟨q7, e7, h⟩ := bd_e h
        refine z_callVv C (b := a 0) (As := []) (rest := []) (c_X7_readMove E a S e7) rfl gX7_readLine_X7_readMove rfl rfl rfl 0 rfl (by decide +kernel) ⟨Nat.le_of_ble_eq_true rfl, Nat.le_of_ble_eq_true rfl⟩ [0, 1, 2, 3, 4, 5, 6, 7, 8, 9, 10, 11, 12, 13, 14, 15, 16] (wl_X7_readLine_0 E a S) (by decide) (wl_X7_readLine_1 E a _ _) (wModel E a q7) (wl_X7_readLine_2 E a S q7) 0 7 rfl rfl rfl (Nat.le_of_ble_eq_true rfl) dX7_readLine_41 ⟨Nat.zero_le _, Nat.zero_le _⟩ _ rfl ?_
        refine z_goto C 64 (by decide) dX7_readLine_44 ?_
        refine Zt_l [(0, .ref (a 0))] [1] rfl ?_
        exact L_X7_readLine_64 a C R q7 h
      · refine z_iload_n C 0 rfl rfl dX7_readLine_47 ?_
        refine z_iconst C (v := (4 : Int32)) (by decide) dX7_readLine_48 ?_
        refine z_icmp_ne C 59 (by decide) h dX7_readLine_49 (fun hc h => ?_) (fun hc h => ?_)
        · refine z_aload_n C 1 rfl rfl dX7_readLine_52 ?_
          obtain ⟨q8, e8, h⟩ := bd_e h
          refine z_callVv C (b := a 0) (As := []) (rest := []) (c_X7_readExpect E a S e8) rfl gX7_readLine_X7_readExpect rfl rfl rfl 0 rfl (by decide +kernel) ⟨Nat.le_of_ble_eq_true rfl, Nat.le_of_ble_eq_true rfl⟩ [0, 1, 2, 3, 4, 5, 6, 7, 8, 9, 10, 11, 12, 13, 14, 15, 16] (wl_X7_readLine_0 E a S) (by decide) (wl_X7_readLine_1 E a _ _) (wModel E a q8) (wl_X7_readLine_2 E a S q8) 0 7 rfl rfl rfl (Nat.le_of_ble_eq_true rfl) dX7_readLine_53 ⟨Nat.zero_le _, Nat.zero_le _⟩ _ rfl ?_
          refine z_goto C 64 (by decide) dX7_readLine_56 ?_
          refine Zt_l [(0, .ref (a 0))] [1] rfl ?_
          exact L_X7_readLine_64 a C R q8 h
        · refine z_aload_n C 1 rfl rfl dX7_readLine_59 ?_
          refine z_iload_n C 0 rfl rfl dX7_readLine_60 ?_
          obtain ⟨q9, e9, h⟩ := bd_e h
          refine z_callVv C (b := a 0) (As := [.int q3]) (rest := []) (c_X7_readOnce E a q3 S e9) rfl gX7_readLine_X7_readOnce rfl rfl rfl 1 rfl (by decide +kernel) ⟨Nat.le_of_ble_eq_true rfl, Nat.le_of_ble_eq_true rfl⟩ [0, 1, 2, 3, 4, 5, 6, 7, 8, 9, 10, 11, 12, 13, 14, 15, 16] (wl_X7_readLine_0 E a S) (by decide) (wl_X7_readLine_1 E a _ _) (wModel E a q9) (wl_X7_readLine_2 E a S q9) 0 7 rfl rfl rfl (Nat.le_of_ble_eq_true rfl) dX7_readLine_61 ⟨Nat.zero_le _, Nat.zero_le _⟩ _ rfl ?_
          refine Zt_l [(0, .ref (a 0))] [1] rfl ?_
          exact L_X7_readLine_64 a C R q9 h

theorem c_X7_readLine (E : zEnv) (a : Nat → Nat) (S : St) {res : St} (h : f_X7_readLine S = some res) : Ktv E yX7_readLine wsX7_readLine rm_X7_readLine (wModel E a S) (wModel E a res) [.ref (a 0)] :=
  z_entv (cc := cX7_readLine) (maxL := 2) (by decide +kernel) rfl (Nat.le_of_ble_eq_true rfl) (fun Γ C R => L_X7_readLine a C R S h)

abbrev rm_X7_street : Room := { frames := 6, cells := 0, slots := 0, locals := 134 }
theorem inw_X7_street_X7 : ∀ w ∈ wsX70, w ∈ wsX7_street := fun _ h => List.mem_cons_of_mem _ (List.mem_append_right _ h)
set_option maxHeartbeats 4000000 in
theorem wl_X7_street_0 (E : zEnv) (a : Nat → Nat) (S : St) (v : Int32) : (wModel E a (st 1 (fun _ => v) S)) = (wModel E a S).set 0 (a 0, .inr (7, List.set [.ref (a 1), .int (S 1 0), .ref (a 2), .int (S 3 0), .int (S 4 0), .int (S 5 0), .int (S 6 0), .int (S 7 0), .ref (a 3), .int (S 9 0), .int (S 10 0), .int (S 11 0), .int (S 12 0), .int (S 13 0), .int (S 14 0), .int (S 15 0), .int (S 16 0), .ref (a 4), .ref (a 5), .int (S 19 0), .int (S 20 0), .int (S 21 0), .int (S 22 0), .ref (a 6), .int (S 24 0), .ref (a 7), .int (S 26 0), .ref (a 8), .ref (a 9), .ref (a 10), .ref (a 11), .ref (a 12), .int (S 32 0), .ref (a 13), .ref (a 14), .ref (a 15), .ref (a 16), .int (S 37 0)] 1 (.int v))) := rfl
set_option maxHeartbeats 4000000 in
theorem wl_X7_street_1 (E : zEnv) (a : Nat → Nat) (S : St) (v : Int32) : (wModel E a (st 24 (fun _ => v) S)) = (wModel E a S).set 0 (a 0, .inr (7, List.set [.ref (a 1), .int (S 1 0), .ref (a 2), .int (S 3 0), .int (S 4 0), .int (S 5 0), .int (S 6 0), .int (S 7 0), .ref (a 3), .int (S 9 0), .int (S 10 0), .int (S 11 0), .int (S 12 0), .int (S 13 0), .int (S 14 0), .int (S 15 0), .int (S 16 0), .ref (a 4), .ref (a 5), .int (S 19 0), .int (S 20 0), .int (S 21 0), .int (S 22 0), .ref (a 6), .int (S 24 0), .ref (a 7), .int (S 26 0), .ref (a 8), .ref (a 9), .ref (a 10), .ref (a 11), .ref (a 12), .int (S 32 0), .ref (a 13), .ref (a 14), .ref (a 15), .ref (a 16), .int (S 37 0)] 24 (.int v))) := rfl
set_option maxHeartbeats 4000000 in
theorem wl_X7_street_2 (E : zEnv) (a : Nat → Nat) (S : St) (v : Int32) : (wModel E a (st 32 (fun _ => v) S)) = (wModel E a S).set 0 (a 0, .inr (7, List.set [.ref (a 1), .int (S 1 0), .ref (a 2), .int (S 3 0), .int (S 4 0), .int (S 5 0), .int (S 6 0), .int (S 7 0), .ref (a 3), .int (S 9 0), .int (S 10 0), .int (S 11 0), .int (S 12 0), .int (S 13 0), .int (S 14 0), .int (S 15 0), .int (S 16 0), .ref (a 4), .ref (a 5), .int (S 19 0), .int (S 20 0), .int (S 21 0), .int (S 22 0), .ref (a 6), .int (S 24 0), .ref (a 7), .int (S 26 0), .ref (a 8), .ref (a 9), .ref (a 10), .ref (a 11), .ref (a 12), .int (S 32 0), .ref (a 13), .ref (a 14), .ref (a 15), .ref (a 16), .int (S 37 0)] 32 (.int v))) := rfl
set_option maxHeartbeats 4000000 in
theorem wl_X7_street_3 (E : zEnv) (a : Nat → Nat) (S : St) (f : Nat → Int32) : (wModel E a (st 33 f S)) = (wModel E a S).set 13 (a 13, .inl (zZ E, 2, .inl f)) := rfl
set_option maxHeartbeats 4000000 in
theorem wl_X7_street_4 (E : zEnv) (a : Nat → Nat) (S : St) (f : Nat → Int32) : (wModel E a (st 0 f S)) = (wModel E a S).set 1 (a 1, .inl (zI E, 368, .inl f)) := rfl
set_option maxHeartbeats 4000000 in
theorem wl_X7_street_5 (E : zEnv) (a : Nat → Nat) (S : St) (v : Int32) : (wModel E a (st 9 (fun _ => v) S)) = (wModel E a S).set 0 (a 0, .inr (7, List.set [.ref (a 1), .int (S 1 0), .ref (a 2), .int (S 3 0), .int (S 4 0), .int (S 5 0), .int (S 6 0), .int (S 7 0), .ref (a 3), .int (S 9 0), .int (S 10 0), .int (S 11 0), .int (S 12 0), .int (S 13 0), .int (S 14 0), .int (S 15 0), .int (S 16 0), .ref (a 4), .ref (a 5), .int (S 19 0), .int (S 20 0), .int (S 21 0), .int (S 22 0), .ref (a 6), .int (S 24 0), .ref (a 7), .int (S 26 0), .ref (a 8), .ref (a 9), .ref (a 10), .ref (a 11), .ref (a 12), .int (S 32 0), .ref (a 13), .ref (a 14), .ref (a 15), .ref (a 16), .int (S 37 0)] 9 (.int v))) := rfl
set_option maxHeartbeats 4000000 in
theorem wl_X7_street_6 (E : zEnv) (a : Nat → Nat) (S : St) (v : Int32) : (wModel E a (st 10 (fun _ => v) S)) = (wModel E a S).set 0 (a 0, .inr (7, List.set [.ref (a 1), .int (S 1 0), .ref (a 2), .int (S 3 0), .int (S 4 0), .int (S 5 0), .int (S 6 0), .int (S 7 0), .ref (a 3), .int (S 9 0), .int (S 10 0), .int (S 11 0), .int (S 12 0), .int (S 13 0), .int (S 14 0), .int (S 15 0), .int (S 16 0), .ref (a 4), .ref (a 5), .int (S 19 0), .int (S 20 0), .int (S 21 0), .int (S 22 0), .ref (a 6), .int (S 24 0), .ref (a 7), .int (S 26 0), .ref (a 8), .ref (a 9), .ref (a 10), .ref (a 11), .ref (a 12), .int (S 32 0), .ref (a 13), .ref (a 14), .ref (a 15), .ref (a 16), .int (S 37 0)] 10 (.int v))) := rfl
set_option maxHeartbeats 4000000 in
theorem wl_X7_street_7 (E : zEnv) (a : Nat → Nat) (S : St) : ([0, 1, 2, 3, 4, 5, 6, 7, 8, 9, 10, 11, 12, 13, 14, 15, 16] : List Nat).map (fun i => (wModel E a S)[i]?) = (wModel E a S).map some := rfl
set_option maxHeartbeats 4000000 in
theorem wl_X7_street_8 (E : zEnv) (a : Nat → Nat) (S U : St) : (wModel E a U).map (fun q => q.1) = (wModel E a S).map (fun q => q.1) := rfl
set_option maxHeartbeats 4000000 in
theorem wl_X7_street_9 (E : zEnv) (a : Nat → Nat) (S U : St) : (wModel E a U) = zrep [0, 1, 2, 3, 4, 5, 6, 7, 8, 9, 10, 11, 12, 13, 14, 15, 16] (wModel E a U) (wModel E a S) := zrep_of (isR := []) 17 rfl [] rfl rfl rfl rfl (by decide +kernel) (by decide +kernel)
set_option maxHeartbeats 4000000 in
theorem wl_X7_street_10 (E : zEnv) (a : Nat → Nat) (S : St) (f : Nat → Int32) : (wModel E a (st 2 f S)) = (wModel E a S).set 2 (a 2, .inl (zI E, 92, .inl f)) := rfl
set_option maxHeartbeats 4000000 in
theorem wl_X7_street_11 (E : zEnv) (a : Nat → Nat) (S : St) (v : Int32) : (wModel E a (st 11 (fun _ => v) S)) = (wModel E a S).set 0 (a 0, .inr (7, List.set [.ref (a 1), .int (S 1 0), .ref (a 2), .int (S 3 0), .int (S 4 0), .int (S 5 0), .int (S 6 0), .int (S 7 0), .ref (a 3), .int (S 9 0), .int (S 10 0), .int (S 11 0), .int (S 12 0), .int (S 13 0), .int (S 14 0), .int (S 15 0), .int (S 16 0), .ref (a 4), .ref (a 5), .int (S 19 0), .int (S 20 0), .int (S 21 0), .int (S 22 0), .ref (a 6), .int (S 24 0), .ref (a 7), .int (S 26 0), .ref (a 8), .ref (a 9), .ref (a 10), .ref (a 11), .ref (a 12), .int (S 32 0), .ref (a 13), .ref (a 14), .ref (a 15), .ref (a 16), .int (S 37 0)] 11 (.int v))) := rfl
set_option maxHeartbeats 4000000 in
theorem wl_X7_street_12 (E : zEnv) (a : Nat → Nat) (S : St) (v : Int32) : (wModel E a (st 13 (fun _ => v) S)) = (wModel E a S).set 0 (a 0, .inr (7, List.set [.ref (a 1), .int (S 1 0), .ref (a 2), .int (S 3 0), .int (S 4 0), .int (S 5 0), .int (S 6 0), .int (S 7 0), .ref (a 3), .int (S 9 0), .int (S 10 0), .int (S 11 0), .int (S 12 0), .int (S 13 0), .int (S 14 0), .int (S 15 0), .int (S 16 0), .ref (a 4), .ref (a 5), .int (S 19 0), .int (S 20 0), .int (S 21 0), .int (S 22 0), .ref (a 6), .int (S 24 0), .ref (a 7), .int (S 26 0), .ref (a 8), .ref (a 9), .ref (a 10), .ref (a 11), .ref (a 12), .int (S 32 0), .ref (a 13), .ref (a 14), .ref (a 15), .ref (a 16), .int (S 37 0)] 13 (.int v))) := rfl
set_option maxHeartbeats 4000000 in
theorem wl_X7_street_13 (E : zEnv) (a : Nat → Nat) (S : St) (v : Int32) : (wModel E a (st 3 (fun _ => v) S)) = (wModel E a S).set 0 (a 0, .inr (7, List.set [.ref (a 1), .int (S 1 0), .ref (a 2), .int (S 3 0), .int (S 4 0), .int (S 5 0), .int (S 6 0), .int (S 7 0), .ref (a 3), .int (S 9 0), .int (S 10 0), .int (S 11 0), .int (S 12 0), .int (S 13 0), .int (S 14 0), .int (S 15 0), .int (S 16 0), .ref (a 4), .ref (a 5), .int (S 19 0), .int (S 20 0), .int (S 21 0), .int (S 22 0), .ref (a 6), .int (S 24 0), .ref (a 7), .int (S 26 0), .ref (a 8), .ref (a 9), .ref (a 10), .ref (a 11), .ref (a 12), .int (S 32 0), .ref (a 13), .ref (a 14), .ref (a 15), .ref (a 16), .int (S 37 0)] 3 (.int v))) := rfl
set_option maxHeartbeats 4000000 in
theorem wl_X7_street_14 (E : zEnv) (a : Nat → Nat) (S : St) (v : Int32) : (wModel E a (st 4 (fun _ => v) S)) = (wModel E a S).set 0 (a 0, .inr (7, List.set [.ref (a 1), .int (S 1 0), .ref (a 2), .int (S 3 0), .int (S 4 0), .int (S 5 0), .int (S 6 0), .int (S 7 0), .ref (a 3), .int (S 9 0), .int (S 10 0), .int (S 11 0), .int (S 12 0), .int (S 13 0), .int (S 14 0), .int (S 15 0), .int (S 16 0), .ref (a 4), .ref (a 5), .int (S 19 0), .int (S 20 0), .int (S 21 0), .int (S 22 0), .ref (a 6), .int (S 24 0), .ref (a 7), .int (S 26 0), .ref (a 8), .ref (a 9), .ref (a 10), .ref (a 11), .ref (a 12), .int (S 32 0), .ref (a 13), .ref (a 14), .ref (a 15), .ref (a 16), .int (S 37 0)] 4 (.int v))) := rfl
set_option maxHeartbeats 4000000 in
theorem wl_X7_street_15 (E : zEnv) (a : Nat → Nat) (S : St) (v : Int32) : (wModel E a (st 5 (fun _ => v) S)) = (wModel E a S).set 0 (a 0, .inr (7, List.set [.ref (a 1), .int (S 1 0), .ref (a 2), .int (S 3 0), .int (S 4 0), .int (S 5 0), .int (S 6 0), .int (S 7 0), .ref (a 3), .int (S 9 0), .int (S 10 0), .int (S 11 0), .int (S 12 0), .int (S 13 0), .int (S 14 0), .int (S 15 0), .int (S 16 0), .ref (a 4), .ref (a 5), .int (S 19 0), .int (S 20 0), .int (S 21 0), .int (S 22 0), .ref (a 6), .int (S 24 0), .ref (a 7), .int (S 26 0), .ref (a 8), .ref (a 9), .ref (a 10), .ref (a 11), .ref (a 12), .int (S 32 0), .ref (a 13), .ref (a 14), .ref (a 15), .ref (a 16), .int (S 37 0)] 5 (.int v))) := rfl
set_option maxHeartbeats 4000000 in
theorem wl_X7_street_16 (E : zEnv) (a : Nat → Nat) (S : St) (v : Int32) : (wModel E a (st 6 (fun _ => v) S)) = (wModel E a S).set 0 (a 0, .inr (7, List.set [.ref (a 1), .int (S 1 0), .ref (a 2), .int (S 3 0), .int (S 4 0), .int (S 5 0), .int (S 6 0), .int (S 7 0), .ref (a 3), .int (S 9 0), .int (S 10 0), .int (S 11 0), .int (S 12 0), .int (S 13 0), .int (S 14 0), .int (S 15 0), .int (S 16 0), .ref (a 4), .ref (a 5), .int (S 19 0), .int (S 20 0), .int (S 21 0), .int (S 22 0), .ref (a 6), .int (S 24 0), .ref (a 7), .int (S 26 0), .ref (a 8), .ref (a 9), .ref (a 10), .ref (a 11), .ref (a 12), .int (S 32 0), .ref (a 13), .ref (a 14), .ref (a 15), .ref (a 16), .int (S 37 0)] 6 (.int v))) := rfl
set_option maxHeartbeats 4000000 in
theorem wl_X7_street_17 (E : zEnv) (a : Nat → Nat) (S : St) (v : Int32) : (wModel E a (st 7 (fun _ => v) S)) = (wModel E a S).set 0 (a 0, .inr (7, List.set [.ref (a 1), .int (S 1 0), .ref (a 2), .int (S 3 0), .int (S 4 0), .int (S 5 0), .int (S 6 0), .int (S 7 0), .ref (a 3), .int (S 9 0), .int (S 10 0), .int (S 11 0), .int (S 12 0), .int (S 13 0), .int (S 14 0), .int (S 15 0), .int (S 16 0), .ref (a 4), .ref (a 5), .int (S 19 0), .int (S 20 0), .int (S 21 0), .int (S 22 0), .ref (a 6), .int (S 24 0), .ref (a 7), .int (S 26 0), .ref (a 8), .ref (a 9), .ref (a 10), .ref (a 11), .ref (a 12), .int (S 32 0), .ref (a 13), .ref (a 14), .ref (a 15), .ref (a 16), .int (S 37 0)] 7 (.int v))) := rfl
noncomputable def f_X7_street_178 (x1 : Int32) (S : St) : Option (Int32 × St) := (ix (0 : Int32) 2 (ix (1 : Int32) 2 (some (x1, (st 33 (upd (upd (S 33) (Int32.toNatClampNeg (0 : Int32)) (vp_nar .boolean (0 : Int32))) (Int32.toNatClampNeg (1 : Int32)) (vp_nar .boolean (0 : Int32))) (st 33 (upd (S 33) (Int32.toNatClampNeg (0 : Int32)) (vp_nar .boolean (0 : Int32))) (st 32 (fun _ => (0 : Int32)) (st 24 (fun _ => (0 : Int32)) (st 1 (fun _ => (S 3 0)) S)))))))))
noncomputable def f_X7_street_154 (n : Nat) : Int32 → Int32 → St → Option (Int32 × St) := Nat.rec (motive := fun _ => Int32 → Int32 → St → Option (Int32 × St)) (fun _ _ _ => none) (fun _ ih => fun x1 x2 S => (if (92 : Int32) ≤ x2 then (f_X7_street_178 x1 S) else (ix x2 92 (ix x2 368 (ih x1 (x2 + (1 : Int32)) (st 0 (upd (S 0) (Int32.toNatClampNeg x2) (S 2 (Int32.toNatClampNeg x2))) S)))))) n
theorem f_X7_street_154_s (n : Nat) (x1 : Int32) (x2 : Int32) (S : St) : f_X7_street_154 (n + 1) x1 x2 S = (if (92 : Int32) ≤ x2 then (f_X7_street_178 x1 S) else (ix x2 92 (ix x2 368 ((f_X7_street_154 n) x1 (x2 + (1 : Int32)) (st 0 (upd (S 0) (Int32.toNatClampNeg x2) (S 2 (Int32.toNatClampNeg x2))) S))))) := rfl
noncomputable def f_X7_street_124 (x1 : Int32) (S : St) : Option (Int32 × St) := (if (S 11 0) ≤ 0 then (f_X7_street_154 1000 x1 (0 : Int32) (st 10 (fun _ => (S 11 0)) (st 9 (fun _ => (0 : Int32)) S))) else (some (((-10 : Int32) - (S 12 0)), (st 10 (fun _ => (S 11 0)) (st 9 (fun _ => (0 : Int32)) S)))))
noncomputable def f_X7_street_118 (x1 : Int32) (S : St) : Option (Int32 × St) := ((f_X7_fails (6 : Int32) S).bind (fun q1 => (f_X7_street_124 x1 q1)))
noncomputable def f_X7_street_86 (x1 : Int32) (S : St) : Option (Int32 × St) := (if (S 11 0) = 0 then (if (S 3 0) ≤ (S 6 0) then (f_X7_street_118 x1 S) else (ix (88 : Int32) 92 (if (S 7 0) < (S 2 (Int32.toNatClampNeg (88 : Int32))) then (f_X7_street_124 x1 S) else (f_X7_street_118 x1 S)))) else (f_X7_street_124 x1 S))
noncomputable def f_X7_street_62 (n : Nat) : Int32 → St → Option (Int32 × St) := Nat.rec (motive := fun _ => Int32 → St → Option (Int32 × St)) (fun _ _ => none) (fun _ ih => fun x1 S => (if (S 11 0) = 0 then (if (S 15 0) = 0 then (f_X7_street_86 x1 S) else ((f_X7_readLine S).bind (fun q2 => (ih (x1 + (1 : Int32)) q2)))) else (f_X7_street_86 x1 S))) n
theorem f_X7_street_62_s (n : Nat) (x1 : Int32) (S : St) : f_X7_street_62 (n + 1) x1 S = (if (S 11 0) = 0 then (if (S 15 0) = 0 then (f_X7_street_86 x1 S) else ((f_X7_readLine S).bind (fun q2 => ((f_X7_street_62 n) (x1 + (1 : Int32)) q2)))) else (f_X7_street_86 x1 S)) := rfl
noncomputable def f_X7_street_58 (x1 : Int32) (S : St) : Option (Int32 × St) := ((f_X7_step S).bind (fun q3 => (f_X7_street_62 1000 x1 q3)))
noncomputable def f_X7_street_39 (n : Nat) : Int32 → Int32 → St → Option (Int32 × St) := Nat.rec (motive := fun _ => Int32 → Int32 → St → Option (Int32 × St)) (fun _ _ _ => none) (fun _ ih => fun x1 x2 S => (if (92 : Int32) ≤ x2 then (f_X7_street_58 x1 S) else (ix x2 92 (ih x1 (x2 + (1 : Int32)) (st 2 (upd (S 2) (Int32.toNatClampNeg x2) (0 : Int32)) S))))) n
theorem f_X7_street_39_s (n : Nat) (x1 : Int32) (x2 : Int32) (S : St) : f_X7_street_39 (n + 1) x1 x2 S = (if (92 : Int32) ≤ x2 then (f_X7_street_58 x1 S) else (ix x2 92 ((f_X7_street_39 n) x1 (x2 + (1 : Int32)) (st 2 (upd (S 2) (Int32.toNatClampNeg x2) (0 : Int32)) S)))) := rfl
noncomputable def f_X7_street (S : St) : Option (Int32 × St) := (f_X7_street_39 1000 (0 : Int32) (0 : Int32) (st 7 (fun _ => (-1 : Int32)) (st 6 (fun _ => (-1 : Int32)) (st 5 (fun _ => (0 : Int32)) (st 4 (fun _ => (0 : Int32)) (st 3 (fun _ => (4 : Int32)) (st 13 (fun _ => (0 : Int32)) (st 11 (fun _ => (0 : Int32)) S))))))))
set_option maxHeartbeats 4000000 in
set_option maxRecDepth 100000 in
theorem L_X7_street_178 {E : zEnv} {Γ : zG} (a : Nat → Nat) (C : zC E Γ cX7_street RX7 3 rm_X7_street wsX7_street) {res : (Int32 × St)} (R : zRi E Γ cX7_street 3 .int (wModel E a res.2) res.1) (x1 : Int32) (S : St) (h : f_X7_street_178 x1 S = some res) : Zt E Γ 3 0 0 (wModel E a S) [(0, .ref (a 0)), (1, .int x1)] 178 [] := by
  unfold f_X7_street_178 at h
  refine z_aload_n C 0 rfl rfl dX7_street_178 ?_
  refine z_aload_n C 0 rfl rfl dX7_street_179 ?_
  refine z_get C 0 rfl (C := RX7) (T := TX7) (N := 38) (ci := 7) rfl inw_X7_street_X7 3 (by decide) (ref := "EldestAgeModel") (List.mem_of_getElem? (i := 3) rfl) rfl (v := .int (S 3 0)) rfl dX7_street_180 ?_
  refine z_put C 0 rfl (C := RX7) (T := TX7) (N := 38) (ci := 7) rfl inw_X7_street_X7 tyX7 tyX7_ok nmX7 1 (by decide) (ref := "EldestAgeModel") (List.mem_of_getElem? (i := 14) rfl) rfl rfl (ty := .int) (v := .int (S 3 0)) (by decide +kernel) rfl rfl (Nat.le_of_ble_eq_true rfl) (wModel E a (st 1 (fun _ => (S 3 0)) S)) (wl_X7_street_0 E a S (S 3 0)) dX7_street_183 ?_
  refine z_aload_n C 0 rfl rfl dX7_street_186 ?_
  refine z_iconst C (v := (0 : Int32)) (by decide) dX7_street_187 ?_
  refine z_put C 0 rfl (C := RX7) (T := TX7) (N := 38) (ci := 7) rfl inw_X7_street_X7 tyX7 tyX7_ok nmX7 24 (by decide) (ref := "EldestAgeModel") (List.mem_of_getElem? (i := 15) rfl) rfl rfl (ty := .int) (v := .int (0 : Int32)) (by decide +kernel) rfl rfl (Nat.le_of_ble_eq_true rfl) (wModel E a (st 24 (fun _ => (0 : Int32)) (st 1 (fun _ => (S 3 0)) S))) (wl_X7_street_1 E a (st 1 (fun _ => (S 3 0)) S) (0 : Int32)) dX7_street_188 ?_
  refine z_aload_n C 0 rfl rfl dX7_street_191 ?_
  refine z_iconst C (v := (0 : Int32)) (by decide) dX7_street_192 ?_
  refine z_put C 0 rfl (C := RX7) (T := TX7) (N := 38) (ci := 7) rfl inw_X7_street_X7 tyX7 tyX7_ok nmX7 32 (by decide) (ref := "EldestAgeModel") (List.mem_of_getElem? (i := 16) rfl) rfl rfl (ty := .int) (v := .int (0 : Int32)) (by decide +kernel) rfl rfl (Nat.le_of_ble_eq_true rfl) (wModel E a (st 32 (fun _ => (0 : Int32)) (st 24 (fun _ => (0 : Int32)) (st 1 (fun _ => (S 3 0)) S)))) (wl_X7_street_2 E a (st 24 (fun _ => (0 : Int32)) (st 1 (fun _ => (S 3 0)) S)) (0 : Int32)) dX7_street_193 ?_
  refine z_aload_n C 0 rfl rfl dX7_street_196 ?_
  refine z_get C 0 rfl (C := RX7) (T := TX7) (N := 38) (ci := 7) rfl inw_X7_street_X7 33 (by decide) (ref := "EldestAgeModel") (List.mem_of_getElem? (i := 17) rfl) rfl (v := .ref (a 13)) rfl dX7_street_197 ?_
  refine z_iconst C (v := (0 : Int32)) (by decide) dX7_street_200 ?_
  refine z_iconst C (v := (0 : Int32)) (by decide) dX7_street_201 ?_
  refine z_zast C (N := 2) (f := (S 33)) 13 rfl h (wModel E a (st 33 (upd (S 33) (Int32.toNatClampNeg (0 : Int32)) (vp_nar .boolean (0 : Int32))) (st 32 (fun _ => (0 : Int32)) (st 24 (fun _ => (0 : Int32)) (st 1 (fun _ => (S 3 0)) S))))) (wl_X7_street_3 E a (st 32 (fun _ => (0 : Int32)) (st 24 (fun _ => (0 : Int32)) (st 1 (fun _ => (S 3 0)) S))) (upd (S 33) (Int32.toNatClampNeg (0 : Int32)) (vp_nar .boolean (0 : Int32)))) dX7_street_202 (fun h => ?_)
  refine z_aload_n C 0 rfl rfl dX7_street_203 ?_
  refine z_get C 0 rfl (C := RX7) (T := TX7) (N := 38) (ci := 7) rfl inw_X7_street_X7 33 (by decide) (ref := "EldestAgeModel") (List.mem_of_getElem? (i := 17) rfl) rfl (v := .ref (a 13)) rfl dX7_street_204 ?_
  refine z_iconst C (v := (1 : Int32)) (by decide) dX7_street_207 ?_
  refine z_iconst C (v := (0 : Int32)) (by decide) dX7_street_208 ?_
  refine z_zast C (N := 2) (f := (upd (S 33) (Int32.toNatClampNeg (0 : Int32)) (vp_nar .boolean (0 : Int32)))) 13 rfl h (wModel E a (st 33 (upd (upd (S 33) (Int32.toNatClampNeg (0 : Int32)) (vp_nar .boolean (0 : Int32))) (Int32.toNatClampNeg (1 : Int32)) (vp_nar .boolean (0 : Int32))) (st 33 (upd (S 33) (Int32.toNatClampNeg (0 : Int32)) (vp_nar .boolean (0 : Int32))) (st 32 (fun _ => (0 : Int32)) (st 24 (fun _ => (0 : Int32)) (st 1 (fun _ => (S 3 0)) S)))))) (wl_X7_street_3 E a (st 33 (upd (S 33) (Int32.toNatClampNeg (0 : Int32)) (vp_nar .boolean (0 : Int32))) (st 32 (fun _ => (0 : Int32)) (st 24 (fun _ => (0 : Int32)) (st 1 (fun _ => (S 3 0)) S)))) (upd (upd (S 33) (Int32.toNatClampNeg (0 : Int32)) (vp_nar .boolean (0 : Int32))) (Int32.toNatClampNeg (1 : Int32)) (vp_nar .boolean (0 : Int32)))) dX7_street_209 (fun h => ?_)
  refine z_iload_n C 1 rfl rfl dX7_street_210 ?_
  obtain rfl := Option.some.inj h
  exact R rfl 211 _ dX7_street_211

set_option maxHeartbeats 4000000 in
set_option maxRecDepth 100000 in
theorem L_X7_street_154 {E : zEnv} {Γ : zG} (a : Nat → Nat) (C : zC E Γ cX7_street RX7 3 rm_X7_street wsX7_street) {res : (Int32 × St)} (R : zRi E Γ cX7_street 3 .int (wModel E a res.2) res.1) : ∀ (n : Nat) (x1 : Int32) (x2 : Int32) (S : St), f_X7_street_154 n x1 x2 S = some res → Zt E Γ 3 0 0 (wModel E a S) [(0, .ref (a 0)), (1, .int x1), (2, .int x2)] 154 [] := by
  intro n
  induction n with
  | zero =>
    intro x1 x2 S h
    cases h
  | succ n ih =>
    intro x1 x2 S h
    rw [f_X7_street_154_s] at h
    refine z_iload_n C 2 rfl rfl dX7_street_154 ?_
    refine z_bipush C (v := (92 : Int32)) (by decide) dX7_street_155 ?_
    refine z_icmp_ge C 178 (by decide) h dX7_street_157 (fun hc h => ?_) (fun hc h => ?_)
    · refine Zt_l [(0, .ref (a 0)), (1, .int x1)] [0, 1] rfl ?_
      exact L_X7_street_178 a C R x1 S h
    · refine z_aload_n C 0 rfl rfl dX7_street_160 ?_
      refine z_get C 0 rfl (C := RX7) (T := TX7) (N := 38) (ci := 7) rfl inw_X7_street_X7 0 (by decide) (ref := "EldestAgeModel") (List.mem_of_getElem? (i := 13) rfl) rfl (v := .ref (a 1)) rfl dX7_street_161 ?_
      refine z_iload_n C 2 rfl rfl dX7_street_164 ?_
      refine z_aload_n C 0 rfl rfl dX7_street_165 ?_
      refine z_get C 0 rfl (C := RX7) (T := TX7) (N := 38) (ci := 7) rfl inw_X7_street_X7 2 (by decide) (ref := "EldestAgeModel") (List.mem_of_getElem? (i := 8) rfl) rfl (v := .ref (a 2)) rfl dX7_street_166 ?_
      refine z_iload_n C 2 rfl rfl dX7_street_169 ?_
      refine z_iald C (N := 92) (f := (S 2)) 2 rfl h dX7_street_170 (fun h => ?_)
      refine z_iast C (N := 368) (f := (S 0)) 1 rfl h (wModel E a (st 0 (upd (S 0) (Int32.toNatClampNeg x2) (S 2 (Int32.toNatClampNeg x2))) S)) (wl_X7_street_4 E a S (upd (S 0) (Int32.toNatClampNeg x2) (S 2 (Int32.toNatClampNeg x2)))) dX7_street_171 (fun h => ?_)
      refine z_iinc C [(2, .int (x2 + (1 : Int32))), (0, .ref (a 0)), (1, .int x1)] 2 rfl (by first | rfl | decide) (by decide) rfl dX7_street_172 ?_
      refine z_goto C 154 (by decide) dX7_street_175 ?_
      refine Zt_l [(0, .ref (a 0)), (1, .int x1), (2, .int (x2 + (1 : Int32)))] [1, 2, 0] rfl ?_
      exact ih x1 (x2 + (1 : Int32)) (st 0 (upd (S 0) (Int32.toNatClampNeg x2) (S 2 (Int32.toNatClampNeg x2))) S) h

set_option maxHeartbeats 4000000 in
set_option maxRecDepth 100000 in
theorem L_X7_street_124 {E : zEnv} {Γ : zG} (a : Nat → Nat) (C : zC E Γ cX7_street RX7 3 rm_X7_street wsX7_street) {res : (Int32 × St)} (R : zRi E Γ cX7_street 3 .int (wModel E a res.2) res.1) (x1 : Int32) (S : St) (h : f_X7_street_124 x1 S = some res) : Zt E Γ 3 0 0 (wModel E a S) [(0, .ref (a 0)), (1, .int x1)] 124 [] := by
  unfold f_X7_street_124 at h
  refine z_aload_n C 0 rfl rfl dX7_street_124 ?_
  refine z_iconst C (v := (0 : Int32)) (by decide) dX7_street_125 ?_
  refine z_put C 0 rfl (C := RX7) (T := TX7) (N := 38) (ci := 7) rfl inw_X7_street_X7 tyX7 tyX7_ok nmX7 9 (by decide) (ref := "EldestAgeModel") (List.mem_of_getElem? (i := 10) rfl) rfl rfl (ty := .int) (v := .int (0 : Int32)) (by decide +kernel) rfl rfl (Nat.le_of_ble_eq_true rfl) (wModel E a (st 9 (fun _ => (0 : Int32)) S)) (wl_X7_street_5 E a S (0 : Int32)) dX7_street_126 ?_
  refine z_aload_n C 0 rfl rfl dX7_street_129 ?_
  refine z_aload_n C 0 rfl rfl dX7_street_130 ?_
  refine z_get C 0 rfl (C := RX7) (T := TX7) (N := 38) (ci := 7) rfl inw_X7_street_X7 11 (by decide) (ref := "EldestAgeModel") (List.mem_of_getElem? (i := 1) rfl) rfl (v := .int (S 11 0)) rfl dX7_street_131 ?_
  refine z_put C 0 rfl (C := RX7) (T := TX7) (N := 38) (ci := 7) rfl inw_X7_street_X7 tyX7 tyX7_ok nmX7 10 (by decide) (ref := "EldestAgeModel") (List.mem_of_getElem? (i := 11) rfl) rfl rfl (ty := .int) (v := .int (S 11 0)) (by decide +kernel) rfl rfl (Nat.le_of_ble_eq_true rfl) (wModel E a (st 10 (fun _ => (S 11 0)) (st 9 (fun _ => (0 : Int32)) S))) (wl_X7_street_6 E a (st 9 (fun _ => (0 : Int32)) S) (S 11 0)) dX7_street_134 ?_
  refine z_aload_n C 0 rfl rfl dX7_street_137 ?_
  refine z_get C 0 rfl (C := RX7) (T := TX7) (N := 38) (ci := 7) rfl inw_X7_street_X7 11 (by decide) (ref := "EldestAgeModel") (List.mem_of_getElem? (i := 1) rfl) rfl (v := .int (S 11 0)) rfl dX7_street_138 ?_
  refine z_if_le C 152 (by decide) h dX7_street_141 (fun hc h => ?_) (fun hc h => ?_)
  · refine z_iconst C (v := (0 : Int32)) (by decide) dX7_street_152 ?_
    refine z_istore_n C [(2, .int (0 : Int32)), (0, .ref (a 0)), (1, .int x1)] rfl (by decide) rfl dX7_street_153 ?_
    refine Zt_l [(0, .ref (a 0)), (1, .int x1), (2, .int (0 : Int32))] [1, 2, 0] rfl ?_
    exact L_X7_street_154 a C R 1000 x1 (0 : Int32) (st 10 (fun _ => (S 11 0)) (st 9 (fun _ => (0 : Int32)) S)) h
  · refine z_bipush C (v := (-10 : Int32)) (by decide) dX7_street_144 ?_
    refine z_aload_n C 0 rfl rfl dX7_street_146 ?_
    refine z_get C 0 rfl (C := RX7) (T := TX7) (N := 38) (ci := 7) rfl inw_X7_street_X7 12 (by decide) (ref := "EldestAgeModel") (List.mem_of_getElem? (i := 12) rfl) rfl (v := .int (S 12 0)) rfl dX7_street_147 ?_
    refine z_isub C dX7_street_150 ?_
    obtain rfl := Option.some.inj h
    exact R rfl 151 _ dX7_street_151

set_option maxHeartbeats 4000000 in
set_option maxRecDepth 100000 in
theorem L_X7_street_118 {E : zEnv} {Γ : zG} (a : Nat → Nat) (C : zC E Γ cX7_street RX7 3 rm_X7_street wsX7_street) {res : (Int32 × St)} (R : zRi E Γ cX7_street 3 .int (wModel E a res.2) res.1) (x1 : Int32) (S : St) (h : f_X7_street_118 x1 S = some res) : Zt E Γ 3 0 0 (wModel E a S) [(0, .ref (a 0)), (1, .int x1)] 118 [] := by
  unfold f_X7_street_118 at h
  refine z_aload_n C 0 rfl rfl dX7_street_118 ?_
  refine z_bipush C (v := (6 : Int32)) (by decide) dX7_street_119 ?_
  obtain ⟨q1, e1, h⟩ := bd_e h
  refine z_callVv C (b := a 0) (As := [.int (6 : Int32)]) (rest := []) (c_X7_fails E a (6 : Int32) S e1) rfl gX7_street_X7_fails rfl rfl rfl 1 rfl (by decide +kernel) ⟨Nat.le_of_ble_eq_true rfl, Nat.le_of_ble_eq_true rfl⟩ [0, 1, 2, 3, 4, 5, 6, 7, 8, 9, 10, 11, 12, 13, 14, 15, 16] (wl_X7_street_7 E a S) (by decide) (wl_X7_street_8 E a _ _) (wModel E a q1) (wl_X7_street_9 E a S q1) 0 7 rfl rfl rfl (Nat.le_of_ble_eq_true rfl) dX7_street_121 ⟨Nat.zero_le _, Nat.zero_le _⟩ _ rfl ?_
  exact L_X7_street_124 a C R x1 q1 h

set_option maxHeartbeats 4000000 in
set_option maxRecDepth 100000 in
theorem L_X7_street_86 {E : zEnv} {Γ : zG} (a : Nat → Nat) (C : zC E Γ cX7_street RX7 3 rm_X7_street wsX7_street) {res : (Int32 × St)} (R : zRi E Γ cX7_street 3 .int (wModel E a res.2) res.1) (x1 : Int32) (S : St) (h : f_X7_street_86 x1 S = some res) : Zt E Γ 3 0 0 (wModel E a S) [(0, .ref (a 0)), (1, .int x1)] 86 [] := by
  unfold f_X7_street_86 at h
  refine z_aload_n C 0 rfl rfl dX7_street_86 ?_
  refine z_get C 0 rfl (C := RX7) (T := TX7) (N := 38) (ci := 7) rfl inw_X7_street_X7 11 (by decide) (ref := "EldestAgeModel") (List.mem_of_getElem? (i := 1) rfl) rfl (v := .int (S 11 0)) rfl dX7_street_87 ?_
  refine z_if_ne C 124 (by decide) h dX7_street_90 (fun hc h => ?_) (fun hc h => ?_)
  · refine z_aload_n C 0 rfl rfl dX7_street_93 ?_
    refine z_get C 0 rfl (C := RX7) (T := TX7) (N := 38) (ci := 7) rfl inw_X7_street_X7 6 (by decide) (ref := "EldestAgeModel") (List.mem_of_getElem? (i := 6) rfl) rfl (v := .int (S 6 0)) rfl dX7_street_94 ?_
    refine z_aload_n C 0 rfl rfl dX7_street_97 ?_
    refine z_get C 0 rfl (C := RX7) (T := TX7) (N := 38) (ci := 7) rfl inw_X7_street_X7 3 (by decide) (ref := "EldestAgeModel") (List.mem_of_getElem? (i := 3) rfl) rfl (v := .int (S 3 0)) rfl dX7_street_98 ?_
    refine z_icmp_ge C 118 (by decide) h dX7_street_101 (fun hc h => ?_) (fun hc h => ?_)
    · exact L_X7_street_118 a C R x1 S h
    · refine z_aload_n C 0 rfl rfl dX7_street_104 ?_
      refine z_get C 0 rfl (C := RX7) (T := TX7) (N := 38) (ci := 7) rfl inw_X7_street_X7 7 (by decide) (ref := "EldestAgeModel") (List.mem_of_getElem? (i := 7) rfl) rfl (v := .int (S 7 0)) rfl dX7_street_105 ?_
      refine z_aload_n C 0 rfl rfl dX7_street_108 ?_
      refine z_get C 0 rfl (C := RX7) (T := TX7) (N := 38) (ci := 7) rfl inw_X7_street_X7 2 (by decide) (ref := "EldestAgeModel") (List.mem_of_getElem? (i := 8) rfl) rfl (v := .ref (a 2)) rfl dX7_street_109 ?_
      refine z_bipush C (v := (88 : Int32)) (by decide) dX7_street_112 ?_
      refine z_iald C (N := 92) (f := (S 2)) 2 rfl h dX7_street_114 (fun h => ?_)
      refine z_icmp_lt C 124 (by decide) h dX7_street_115 (fun hc h => ?_) (fun hc h => ?_)
      · exact L_X7_street_124 a C R x1 S h
      · exact L_X7_street_118 a C R x1 S h
  · exact L_X7_street_124 a C R x1 S h

set_option maxHeartbeats 4000000 in
set_option maxRecDepth 100000 in
theorem L_X7_street_62 {E : zEnv} {Γ : zG} (a : Nat → Nat) (C : zC E Γ cX7_street RX7 3 rm_X7_street wsX7_street) {res : (Int32 × St)} (R : zRi E Γ cX7_street 3 .int (wModel E a res.2) res.1) : ∀ (n : Nat) (x1 : Int32) (S : St), f_X7_street_62 n x1 S = some res → Zt E Γ 3 0 0 (wModel E a S) [(0, .ref (a 0)), (1, .int x1)] 62 [] := by
  intro n
  induction n with
  | zero =>
    intro x1 S h
    cases h
  | succ n ih =>
    intro x1 S h
    rw [f_X7_street_62_s] at h
    refine z_aload_n C 0 rfl rfl dX7_street_62 ?_
    refine z_get C 0 rfl (C := RX7) (T := TX7) (N := 38) (ci := 7) rfl inw_X7_street_X7 11 (by decide) (ref := "EldestAgeModel") (List.mem_of_getElem? (i := 1) rfl) rfl (v := .int (S 11 0)) rfl dX7_street_63 ?_
    refine z_if_ne C 86 (by decide) h dX7_street_66 (fun hc h => ?_) (fun hc h => ?_)
    · refine z_aload_n C 0 rfl rfl dX7_street_69 ?_
      refine z_get C 0 rfl (C := RX7) (T := TX7) (N := 38) (ci := 7) rfl inw_X7_street_X7 15 (by decide) (ref := "EldestAgeModel") (List.mem_of_getElem? (i := 9) rfl) rfl (v := .int (S 15 0)) rfl dX7_street_70 ?_
      refine z_if_eq C 86 (by decide) h dX7_street_73 (fun hc h => ?_) (fun hc h => ?_)
      · exact L_X7_street_86 a C R x1 S h
      · refine z_aload_n C 0 rfl rfl dX7_street_76 ?_
        obtain ⟨q2, e2, h⟩ := bd_e h
        refine z_callVv C (b := a 0) (As := []) (rest := []) (c_X7_readLine E a S e2) rfl gX7_street_X7_readLine rfl rfl rfl 0 rfl (by decide +kernel) ⟨Nat.le_of_ble_eq_true rfl, Nat.le_of_ble_eq_true rfl⟩ [0, 1, 2, 3, 4, 5, 6, 7, 8, 9, 10, 11, 12, 13, 14, 15, 16] (wl_X7_street_7 E a S) (by decide) (wl_X7_street_8 E a _ _) (wModel E a q2) (wl_X7_street_9 E a S q2) 0 7 rfl rfl rfl (Nat.le_of_ble_eq_true rfl) dX7_street_77 ⟨Nat.zero_le _, Nat.zero_le _⟩ _ rfl ?_
        refine z_iinc C [(1, .int (x1 + (1 : Int32))), (0, .ref (a 0))] 1 rfl (by first | rfl | decide) (by decide) rfl dX7_street_80 ?_
        refine z_goto C 62 (by decide) dX7_street_83 ?_
        refine Zt_l [(0, .ref (a 0)), (1, .int (x1 + (1 : Int32)))] [1, 0] rfl ?_
        exact ih (x1 + (1 : Int32)) q2 h
    · exact L_X7_street_86 a C R x1 S h

set_option maxHeartbeats 4000000 in
set_option maxRecDepth 100000 in
theorem L_X7_street_58 {E : zEnv} {Γ : zG} (a : Nat → Nat) (C : zC E Γ cX7_street RX7 3 rm_X7_street wsX7_street) {res : (Int32 × St)} (R : zRi E Γ cX7_street 3 .int (wModel E a res.2) res.1) (x1 : Int32) (S : St) (h : f_X7_street_58 x1 S = some res) : Zt E Γ 3 0 0 (wModel E a S) [(0, .ref (a 0)), (1, .int x1)] 58 [] := by
  unfold f_X7_street_58 at h
  refine z_aload_n C 0 rfl rfl dX7_street_58 ?_
  obtain ⟨q3, e3, h⟩ := bd_e h
  refine z_callVv C (b := a 0) (As := []) (rest := []) (c_X7_step E a S e3) rfl gX7_street_X7_step rfl rfl rfl 0 rfl (by decide +kernel) ⟨Nat.le_of_ble_eq_true rfl, Nat.le_of_ble_eq_true rfl⟩ [0, 1, 2, 3, 4, 5, 6, 7, 8, 9, 10, 11, 12, 13, 14, 15, 16] (wl_X7_street_7 E a S) (by decide) (wl_X7_street_8 E a _ _) (wModel E a q3) (wl_X7_street_9 E a S q3) 0 7 rfl rfl rfl (Nat.le_of_ble_eq_true rfl) dX7_street_59 ⟨Nat.zero_le _, Nat.zero_le _⟩ _ rfl ?_
  exact L_X7_street_62 a C R 1000 x1 q3 h

set_option maxHeartbeats 4000000 in
set_option maxRecDepth 100000 in
theorem L_X7_street_39 {E : zEnv} {Γ : zG} (a : Nat → Nat) (C : zC E Γ cX7_street RX7 3 rm_X7_street wsX7_street) {res : (Int32 × St)} (R : zRi E Γ cX7_street 3 .int (wModel E a res.2) res.1) : ∀ (n : Nat) (x1 : Int32) (x2 : Int32) (S : St), f_X7_street_39 n x1 x2 S = some res → Zt E Γ 3 0 0 (wModel E a S) [(0, .ref (a 0)), (1, .int x1), (2, .int x2)] 39 [] := by
  intro n
  induction n with
  | zero =>
    intro x1 x2 S h
    cases h
  | succ n ih =>
    intro x1 x2 S h
    rw [f_X7_street_39_s] at h
    refine z_iload_n C 2 rfl rfl dX7_street_39 ?_
    refine z_bipush C (v := (92 : Int32)) (by decide) dX7_street_40 ?_
    refine z_icmp_ge C 58 (by decide) h dX7_street_42 (fun hc h => ?_) (fun hc h => ?_)
    · refine Zt_l [(0, .ref (a 0)), (1, .int x1)] [0, 1] rfl ?_
      exact L_X7_street_58 a C R x1 S h
    · refine z_aload_n C 0 rfl rfl dX7_street_45 ?_
      refine z_get C 0 rfl (C := RX7) (T := TX7) (N := 38) (ci := 7) rfl inw_X7_street_X7 2 (by decide) (ref := "EldestAgeModel") (List.mem_of_getElem? (i := 8) rfl) rfl (v := .ref (a 2)) rfl dX7_street_46 ?_
      refine z_iload_n C 2 rfl rfl dX7_street_49 ?_
      refine z_iconst C (v := (0 : Int32)) (by decide) dX7_street_50 ?_
      refine z_iast C (N := 92) (f := (S 2)) 2 rfl h (wModel E a (st 2 (upd (S 2) (Int32.toNatClampNeg x2) (0 : Int32)) S)) (wl_X7_street_10 E a S (upd (S 2) (Int32.toNatClampNeg x2) (0 : Int32))) dX7_street_51 (fun h => ?_)
      refine z_iinc C [(2, .int (x2 + (1 : Int32))), (0, .ref (a 0)), (1, .int x1)] 2 rfl (by first | rfl | decide) (by decide) rfl dX7_street_52 ?_
      refine z_goto C 39 (by decide) dX7_street_55 ?_
      refine Zt_l [(0, .ref (a 0)), (1, .int x1), (2, .int (x2 + (1 : Int32)))] [1, 2, 0] rfl ?_
      exact ih x1 (x2 + (1 : Int32)) (st 2 (upd (S 2) (Int32.toNatClampNeg x2) (0 : Int32)) S) h

set_option maxHeartbeats 4000000 in
set_option maxRecDepth 100000 in
theorem L_X7_street {E : zEnv} {Γ : zG} (a : Nat → Nat) (C : zC E Γ cX7_street RX7 3 rm_X7_street wsX7_street) {res : (Int32 × St)} (R : zRi E Γ cX7_street 3 .int (wModel E a res.2) res.1) (S : St) (h : f_X7_street S = some res) : Zt E Γ 3 0 0 (wModel E a S) [(0, .ref (a 0))] 0 [] := by
  unfold f_X7_street at h
  refine z_aload_n C 0 rfl rfl dX7_street_0 ?_
  refine z_iconst C (v := (0 : Int32)) (by decide) dX7_street_1 ?_
  refine z_put C 0 rfl (C := RX7) (T := TX7) (N := 38) (ci := 7) rfl inw_X7_street_X7 tyX7 tyX7_ok nmX7 11 (by decide) (ref := "EldestAgeModel") (List.mem_of_getElem? (i := 1) rfl) rfl rfl (ty := .int) (v := .int (0 : Int32)) (by decide +kernel) rfl rfl (Nat.le_of_ble_eq_true rfl) (wModel E a (st 11 (fun _ => (0 : Int32)) S)) (wl_X7_street_11 E a S (0 : Int32)) dX7_street_2 ?_
  refine z_aload_n C 0 rfl rfl dX7_street_5 ?_
  refine z_iconst C (v := (0 : Int32)) (by decide) dX7_street_6 ?_
  refine z_put C 0 rfl (C := RX7) (T := TX7) (N := 38) (ci := 7) rfl inw_X7_street_X7 tyX7 tyX7_ok nmX7 13 (by decide) (ref := "EldestAgeModel") (List.mem_of_getElem? (i := 2) rfl) rfl rfl (ty := .int) (v := .int (0 : Int32)) (by decide +kernel) rfl rfl (Nat.le_of_ble_eq_true rfl) (wModel E a (st 13 (fun _ => (0 : Int32)) (st 11 (fun _ => (0 : Int32)) S))) (wl_X7_street_12 E a (st 11 (fun _ => (0 : Int32)) S) (0 : Int32)) dX7_street_7 ?_
  refine z_aload_n C 0 rfl rfl dX7_street_10 ?_
  refine z_iconst C (v := (4 : Int32)) (by decide) dX7_street_11 ?_
  refine z_put C 0 rfl (C := RX7) (T := TX7) (N := 38) (ci := 7) rfl inw_X7_street_X7 tyX7 tyX7_ok nmX7 3 (by decide) (ref := "EldestAgeModel") (List.mem_of_getElem? (i := 3) rfl) rfl rfl (ty := .int) (v := .int (4 : Int32)) (by decide +kernel) rfl rfl (Nat.le_of_ble_eq_true rfl) (wModel E a (st 3 (fun _ => (4 : Int32)) (st 13 (fun _ => (0 : Int32)) (st 11 (fun _ => (0 : Int32)) S)))) (wl_X7_street_13 E a (st 13 (fun _ => (0 : Int32)) (st 11 (fun _ => (0 : Int32)) S)) (4 : Int32)) dX7_street_12 ?_
  refine z_aload_n C 0 rfl rfl dX7_street_15 ?_
  refine z_iconst C (v := (0 : Int32)) (by decide) dX7_street_16 ?_
  refine z_put C 0 rfl (C := RX7) (T := TX7) (N := 38) (ci := 7) rfl inw_X7_street_X7 tyX7 tyX7_ok nmX7 4 (by decide) (ref := "EldestAgeModel") (List.mem_of_getElem? (i := 4) rfl) rfl rfl (ty := .boolean) (v := .int (0 : Int32)) (by decide +kernel) (by decide +kernel) rfl (Nat.le_of_ble_eq_true rfl) (wModel E a (st 4 (fun _ => (0 : Int32)) (st 3 (fun _ => (4 : Int32)) (st 13 (fun _ => (0 : Int32)) (st 11 (fun _ => (0 : Int32)) S))))) (wl_X7_street_14 E a (st 3 (fun _ => (4 : Int32)) (st 13 (fun _ => (0 : Int32)) (st 11 (fun _ => (0 : Int32)) S))) (0 : Int32)) dX7_street_17 ?_
  refine z_aload_n C 0 rfl rfl dX7_street_20 ?_
  refine z_iconst C (v := (0 : Int32)) (by decide) dX7_street_21 ?_
  refine z_put C 0 rfl (C := RX7) (T := TX7) (N := 38) (ci := 7) rfl inw_X7_street_X7 tyX7 tyX7_ok nmX7 5 (by decide) (ref := "EldestAgeModel") (List.mem_of_getElem? (i := 5) rfl) rfl rfl (ty := .boolean) (v := .int (0 : Int32)) (by decide +kernel) (by decide +kernel) rfl (Nat.le_of_ble_eq_true rfl) (wModel E a (st 5 (fun _ => (0 : Int32)) (st 4 (fun _ => (0 : Int32)) (st 3 (fun _ => (4 : Int32)) (st 13 (fun _ => (0 : Int32)) (st 11 (fun _ => (0 : Int32)) S)))))) (wl_X7_street_15 E a (st 4 (fun _ => (0 : Int32)) (st 3 (fun _ => (4 : Int32)) (st 13 (fun _ => (0 : Int32)) (st 11 (fun _ => (0 : Int32)) S)))) (0 : Int32)) dX7_street_22 ?_
  refine z_aload_n C 0 rfl rfl dX7_street_25 ?_
  refine z_iconst C (v := (-1 : Int32)) (by decide) dX7_street_26 ?_
  refine z_put C 0 rfl (C := RX7) (T := TX7) (N := 38) (ci := 7) rfl inw_X7_street_X7 tyX7 tyX7_ok nmX7 6 (by decide) (ref := "EldestAgeModel") (List.mem_of_getElem? (i := 6) rfl) rfl rfl (ty := .int) (v := .int (-1 : Int32)) (by decide +kernel) rfl rfl (Nat.le_of_ble_eq_true rfl) (wModel E a (st 6 (fun _ => (-1 : Int32)) (st 5 (fun _ => (0 : Int32)) (st 4 (fun _ => (0 : Int32)) (st 3 (fun _ => (4 : Int32)) (st 13 (fun _ => (0 : Int32)) (st 11 (fun _ => (0 : Int32)) S))))))) (wl_X7_street_16 E a (st 5 (fun _ => (0 : Int32)) (st 4 (fun _ => (0 : Int32)) (st 3 (fun _ => (4 : Int32)) (st 13 (fun _ => (0 : Int32)) (st 11 (fun _ => (0 : Int32)) S))))) (-1 : Int32)) dX7_street_27 ?_
  refine z_aload_n C 0 rfl rfl dX7_street_30 ?_
  refine z_iconst C (v := (-1 : Int32)) (by decide) dX7_street_31 ?_
  refine z_put C 0 rfl (C := RX7) (T := TX7) (N := 38) (ci := 7) rfl inw_X7_street_X7 tyX7 tyX7_ok nmX7 7 (by decide) (ref := "EldestAgeModel") (List.mem_of_getElem? (i := 7) rfl) rfl rfl (ty := .int) (v := .int (-1 : Int32)) (by decide +kernel) rfl rfl (Nat.le_of_ble_eq_true rfl) (wModel E a (st 7 (fun _ => (-1 : Int32)) (st 6 (fun _ => (-1 : Int32)) (st 5 (fun _ => (0 : Int32)) (st 4 (fun _ => (0 : Int32)) (st 3 (fun _ => (4 : Int32)) (st 13 (fun _ => (0 : Int32)) (st 11 (fun _ => (0 : Int32)) S)))))))) (wl_X7_street_17 E a (st 6 (fun _ => (-1 : Int32)) (st 5 (fun _ => (0 : Int32)) (st 4 (fun _ => (0 : Int32)) (st 3 (fun _ => (4 : Int32)) (st 13 (fun _ => (0 : Int32)) (st 11 (fun _ => (0 : Int32)) S)))))) (-1 : Int32)) dX7_street_32 ?_
  refine z_iconst C (v := (0 : Int32)) (by decide) dX7_street_35 ?_
  refine z_istore_n C [(1, .int (0 : Int32)), (0, .ref (a 0))] rfl (by decide) rfl dX7_street_36 ?_
  refine z_iconst C (v := (0 : Int32)) (by decide) dX7_street_37 ?_
  refine z_istore_n C [(2, .int (0 : Int32)), (1, .int (0 : Int32)), (0, .ref (a 0))] rfl (by decide) rfl dX7_street_38 ?_
  refine Zt_l [(0, .ref (a 0)), (1, .int (0 : Int32)), (2, .int (0 : Int32))] [2, 1, 0] rfl ?_
  exact L_X7_street_39 a C R 1000 (0 : Int32) (0 : Int32) (st 7 (fun _ => (-1 : Int32)) (st 6 (fun _ => (-1 : Int32)) (st 5 (fun _ => (0 : Int32)) (st 4 (fun _ => (0 : Int32)) (st 3 (fun _ => (4 : Int32)) (st 13 (fun _ => (0 : Int32)) (st 11 (fun _ => (0 : Int32)) S))))))) h

theorem c_X7_street (E : zEnv) (a : Nat → Nat) (S : St) {res : (Int32 × St)} (h : f_X7_street S = some res) : Kti E yX7_street wsX7_street rm_X7_street (wModel E a S) (wModel E a res.2) [.ref (a 0)] res.1 :=
  z_enti (cc := cX7_street) (maxL := 3) (rt := .int) (by decide +kernel) rfl (Nat.le_of_ble_eq_true rfl) (fun Γ C R => L_X7_street a C R S h)
