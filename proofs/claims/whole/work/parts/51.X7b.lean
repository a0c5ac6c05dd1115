abbrev rm_X7_isAlive : Room := { frames := 0, cells := 0, slots := 0, locals := 0 }
theorem inw_X7_isAlive_X7 : ∀ w ∈ wsX70, w ∈ wsX7_isAlive := fun _ h => List.mem_cons_of_mem _ (List.mem_append_right _ h)
noncomputable def f_X7_isAlive_43 (S : St) : Option Int32 := (some (1 : Int32))
noncomputable def f_X7_isAlive (x1 : Int32) (x2 : Int32) (x3 : Int32) (S : St) : Option Int32 := (ix ((x1 + ((4 : Int32) * x2)) + (3 : Int32)) 368 (ix ((x1 + ((4 : Int32) * x2)) + (1 : Int32)) 368 (if x3 < (S 0 (Int32.toNatClampNeg ((x1 + ((4 : Int32) * x2)) + (1 : Int32)))) then (some (0 : Int32)) else (if (S 0 (Int32.toNatClampNeg ((x1 + ((4 : Int32) * x2)) + (3 : Int32)))) = (-4 : Int32) then (f_X7_isAlive_43 S) else (if (S 0 (Int32.toNatClampNeg ((x1 + ((4 : Int32) * x2)) + (3 : Int32)))) ≤ x3 then (some (0 : Int32)) else (f_X7_isAlive_43 S))))))
set_option maxHeartbeats 4000000 in
set_option maxRecDepth 100000 in
theorem L_X7_isAlive_43 {E : zEnv} {Γ : zG} (a : Nat → Nat) (C : zC E Γ cX7_isAlive RX7 5 rm_X7_isAlive wsX7_isAlive) {res : Int32} {S : St} (R : zRi E Γ cX7_isAlive 5 .boolean (wModel E a S) res) (h : f_X7_isAlive_43 S = some res) : Zt E Γ 5 0 0 (wModel E a S) [] 43 [] := by
  unfold f_X7_isAlive_43 at h
  refine z_iconst C (v := (1 : Int32)) (by decide) dX7_isAlive_43 ?_
  refine z_goto C 48 (by decide) dX7_isAlive_44 ?_
  obtain rfl := Option.some.inj h
  exact R z_n1 48 _ dX7_isAlive_48

set_option maxHeartbeats 4000000 in
set_option maxRecDepth 100000 in
theorem L_X7_isAlive {E : zEnv} {Γ : zG} (a : Nat → Nat) (C : zC E Γ cX7_isAlive RX7 5 rm_X7_isAlive wsX7_isAlive) {res : Int32} {S : St} (R : zRi E Γ cX7_isAlive 5 .boolean (wModel E a S) res) (x1 : Int32) (x2 : Int32) (x3 : Int32) (h : f_X7_isAlive x1 x2 x3 S = some res) : Zt E Γ 5 0 0 (wModel E a S) [(0, .ref (a 0)), (1, .int x1), (2, .int x2), (3, .int x3)] 0 [] := by
  unfold f_X7_isAlive at h
  refine z_aload_n C 0 rfl rfl dX7_isAlive_0 ?_
  refine z_get C 0 rfl (C := RX7) (T := TX7) (N := 38) (ci := 7) rfl inw_X7_isAlive_X7 0 (by decide) (ref := "EldestAgeModel") (List.mem_of_getElem? (i := 1) rfl) rfl (v := .ref (a 1)) rfl dX7_isAlive_1 ?_
  refine z_iload_n C 1 rfl rfl dX7_isAlive_4 ?_
  refine z_iconst C (v := (4 : Int32)) (by decide) dX7_isAlive_5 ?_
  refine z_iload_n C 2 rfl rfl dX7_isAlive_6 ?_
  refine z_imul C dX7_isAlive_7 ?_
  refine z_iadd C dX7_isAlive_8 ?_
  refine z_iconst C (v := (3 : Int32)) (by decide) dX7_isAlive_9 ?_
  refine z_iadd C dX7_isAlive_10 ?_
  refine z_iald C (N := 368) (f := (S 0)) 1 rfl h dX7_isAlive_11 (fun h => ?_)
  refine z_istore C [(4, .int (S 0 (Int32.toNatClampNeg ((x1 + ((4 : Int32) * x2)) + (3 : Int32))))), (0, .ref (a 0)), (1, .int x1), (2, .int x2), (3, .int x3)] (by decide) rfl dX7_isAlive_12 ?_
  refine z_aload_n C 1 rfl rfl dX7_isAlive_14 ?_
  refine z_get C 0 rfl (C := RX7) (T := TX7) (N := 38) (ci := 7) rfl inw_X7_isAlive_X7 0 (by decide) (ref := "EldestAgeModel") (List.mem_of_getElem? (i := 1) rfl) rfl (v := .ref (a 1)) rfl dX7_isAlive_15 ?_
  refine z_iload_n C 2 rfl rfl dX7_isAlive_18 ?_
  refine z_iconst C (v := (4 : Int32)) (by decide) dX7_isAlive_19 ?_
  refine z_iload_n C 3 rfl rfl dX7_isAlive_20 ?_
  refine z_imul C dX7_isAlive_21 ?_
  refine z_iadd C dX7_isAlive_22 ?_
  refine z_iconst C (v := (1 : Int32)) (by decide) dX7_isAlive_23 ?_
  refine z_iadd C dX7_isAlive_24 ?_
  refine z_iald C (N := 368) (f := (S 0)) 1 rfl h dX7_isAlive_25 (fun h => ?_)
  refine z_iload_n C 4 rfl rfl dX7_isAlive_26 ?_
  refine z_icmp_gt C 47 (by decide) h dX7_isAlive_27 (fun hc h => ?_) (fun hc h => ?_)
  · refine z_iconst C (v := (0 : Int32)) (by decide) dX7_isAlive_47 ?_
    obtain rfl := Option.some.inj h
    exact R z_n0 48 _ dX7_isAlive_48
  · refine z_iload C 0 rfl dX7_isAlive_30 ?_
    refine z_bipush C (v := (-4 : Int32)) (by decide) dX7_isAlive_32 ?_
    refine z_icmp_eq C 43 (by decide) h dX7_isAlive_34 (fun hc h => ?_) (fun hc h => ?_)
    · refine Zt_l [] [] rfl ?_
      exact L_X7_isAlive_43 a C R h
    · refine z_iload_n C 4 rfl rfl dX7_isAlive_37 ?_
      refine z_iload C 0 rfl dX7_isAlive_38 ?_
      refine z_icmp_ge C 47 (by decide) h dX7_isAlive_40 (fun hc h => ?_) (fun hc h => ?_)
      · refine z_iconst C (v := (0 : Int32)) (by decide) dX7_isAlive_47 ?_
        obtain rfl := Option.some.inj h
        exact R z_n0 48 _ dX7_isAlive_48
      · refine Zt_l [] [] rfl ?_
        exact L_X7_isAlive_43 a C R h

theorem c_X7_isAlive (E : zEnv) (a : Nat → Nat) (x1 : Int32) (x2 : Int32) (x3 : Int32) (S : St) {res : Int32} (h : f_X7_isAlive x1 x2 x3 S = some res) : Kti E yX7_isAlive wsX7_isAlive rm_X7_isAlive (wModel E a S) (wModel E a S) [.ref (a 0), .int x1, .int x2, .int x3] res :=
  z_enti (cc := cX7_isAlive) (maxL := 5) (rt := .boolean) (by decide +kernel) rfl (Nat.le_of_ble_eq_true rfl) (fun Γ C R => L_X7_isAlive a C R x1 x2 x3 h)

abbrev rm_X7_homeOf : Room := { frames := 0, cells := 0, slots := 0, locals := 0 }
theorem inw_X7_homeOf_X7 : ∀ w ∈ wsX70, w ∈ wsX7_homeOf := fun _ h => List.mem_cons_of_mem _ (List.mem_append_right _ h)
noncomputable def f_X7_homeOf_80 (k17 : Int32 → Int32 → Int32 → Int32 → Int32 → St → Option Int32) (x1 : Int32) (x2 : Int32) (x3 : Int32) (x5 : Int32) (y0 : Int32) (S : St) : Option Int32 := (k17 x1 x2 x3 y0 (x5 + (1 : Int32)) S)
noncomputable def f_X7_homeOf_78 (k17 : Int32 → Int32 → Int32 → Int32 → Int32 → St → Option Int32) (x1 : Int32) (x2 : Int32) (x3 : Int32) (x4 : Int32) (x5 : Int32) (S : St) : Option Int32 := (f_X7_homeOf_80 k17 x1 x2 x3 x5 x4 S)
noncomputable def f_X7_homeOf_17 (n : Nat) : Int32 → Int32 → Int32 → Int32 → Int32 → St → Option Int32 := Nat.rec (motive := fun _ => Int32 → Int32 → Int32 → Int32 → Int32 → St → Option Int32) (fun _ _ _ _ _ _ => none) (fun _ ih => fun x1 x2 x3 x4 x5 S => (ix (x1 + (89 : Int32)) 368 (if (S 0 (Int32.toNatClampNeg (x1 + (89 : Int32)))) ≤ x5 then (some x4) else (ix (((x1 + (40 : Int32)) + ((3 : Int32) * x5)) + (1 : Int32)) 368 (if (S 0 (Int32.toNatClampNeg (((x1 + (40 : Int32)) + ((3 : Int32) * x5)) + (1 : Int32)))) = x2 then (ix ((x1 + (40 : Int32)) + ((3 : Int32) * x5)) 368 (if x3 < (S 0 (Int32.toNatClampNeg ((x1 + (40 : Int32)) + ((3 : Int32) * x5)))) then (f_X7_homeOf_78 ih x1 x2 x3 x4 x5 S) else (ix (((x1 + (40 : Int32)) + ((3 : Int32) * x5)) + (2 : Int32)) 368 (f_X7_homeOf_80 ih x1 x2 x3 x5 (S 0 (Int32.toNatClampNeg (((x1 + (40 : Int32)) + ((3 : Int32) * x5)) + (2 : Int32)))) S)))) else (f_X7_homeOf_78 ih x1 x2 x3 x4 x5 S)))))) n
theorem f_X7_homeOf_17_s (n : Nat) (x1 : Int32) (x2 : Int32) (x3 : Int32) (x4 : Int32) (x5 : Int32) (S : St) : f_X7_homeOf_17 (n + 1) x1 x2 x3 x4 x5 S = (ix (x1 + (89 : Int32)) 368 (if (S 0 (Int32.toNatClampNeg (x1 + (89 : Int32)))) ≤ x5 then (some x4) else (ix (((x1 + (40 : Int32)) + ((3 : Int32) * x5)) + (1 : Int32)) 368 (if (S 0 (Int32.toNatClampNeg (((x1 + (40 : Int32)) + ((3 : Int32) * x5)) + (1 : Int32)))) = x2 then (ix ((x1 + (40 : Int32)) + ((3 : Int32) * x5)) 368 (if x3 < (S 0 (Int32.toNatClampNeg ((x1 + (40 : Int32)) + ((3 : Int32) * x5)))) then (f_X7_homeOf_78 (f_X7_homeOf_17 n) x1 x2 x3 x4 x5 S) else (ix (((x1 + (40 : Int32)) + ((3 : Int32) * x5)) + (2 : Int32)) 368 (f_X7_homeOf_80 (f_X7_homeOf_17 n) x1 x2 x3 x5 (S 0 (Int32.toNatClampNeg (((x1 + (40 : Int32)) + ((3 : Int32) * x5)) + (2 : Int32)))) S)))) else (f_X7_homeOf_78 (f_X7_homeOf_17 n) x1 x2 x3 x4 x5 S))))) := rfl
noncomputable def f_X7_homeOf (x1 : Int32) (x2 : Int32) (x3 : Int32) (S : St) : Option Int32 := (ix ((x1 + ((4 : Int32) * x2)) + (2 : Int32)) 368 (f_X7_homeOf_17 1000 x1 x2 x3 (S 0 (Int32.toNatClampNeg ((x1 + ((4 : Int32) * x2)) + (2 : Int32)))) (0 : Int32) S))
set_option maxHeartbeats 4000000 in
set_option maxRecDepth 100000 in
theorem L_X7_homeOf_80 {E : zEnv} {Γ : zG} (a : Nat → Nat) (C : zC E Γ cX7_homeOf RX7 7 rm_X7_homeOf wsX7_homeOf) {res : Int32} {S : St} (R : zRi E Γ cX7_homeOf 7 .int (wModel E a S) res) (k17 : Int32 → Int32 → Int32 → Int32 → Int32 → St → Option Int32) (hk17 : ∀ (x1 : Int32) (x2 : Int32) (x3 : Int32) (x4 : Int32) (x5 : Int32), k17 x1 x2 x3 x4 x5 S = some res → Zt E Γ 7 0 0 (wModel E a S) [(0, .ref (a 0)), (1, .int x1), (2, .int x2), (3, .int x3), (4, .int x4), (5, .int x5)] 17 []) (x1 : Int32) (x2 : Int32) (x3 : Int32) (x5 : Int32) (y0 : Int32) (h : f_X7_homeOf_80 k17 x1 x2 x3 x5 y0 S = some res) : Zt E Γ 7 0 0 (wModel E a S) [(0, .ref (a 0)), (1, .int x1), (2, .int x2), (3, .int x3), (5, .int x5)] 80 [.int y0] := by
  unfold f_X7_homeOf_80 at h
  refine z_istore C [(4, .int y0), (0, .ref (a 0)), (1, .int x1), (2, .int x2), (3, .int x3), (5, .int x5)] (by decide) rfl dX7_homeOf_80 ?_
  refine z_iinc C [(5, .int (x5 + (1 : Int32))), (4, .int y0), (0, .ref (a 0)), (1, .int x1), (2, .int x2), (3, .int x3)] 5 rfl (by first | rfl | decide) (by decide) rfl dX7_homeOf_82 ?_
  refine z_goto C 17 (by decide) dX7_homeOf_85 ?_
  refine Zt_l [(0, .ref (a 0)), (1, .int x1), (2, .int x2), (3, .int x3), (4, .int y0), (5, .int (x5 + (1 : Int32)))] [2, 3, 4, 5, 1, 0] rfl ?_
  exact hk17 x1 x2 x3 y0 (x5 + (1 : Int32)) h

set_option maxHeartbeats 4000000 in
set_option maxRecDepth 100000 in
theorem L_X7_homeOf_78 {E : zEnv} {Γ : zG} (a : Nat → Nat) (C : zC E Γ cX7_homeOf RX7 7 rm_X7_homeOf wsX7_homeOf) {res : Int32} {S : St} (R : zRi E Γ cX7_homeOf 7 .int (wModel E a S) res) (k17 : Int32 → Int32 → Int32 → Int32 → Int32 → St → Option Int32) (hk17 : ∀ (x1 : Int32) (x2 : Int32) (x3 : Int32) (x4 : Int32) (x5 : Int32), k17 x1 x2 x3 x4 x5 S = some res → Zt E Γ 7 0 0 (wModel E a S) [(0, .ref (a 0)), (1, .int x1), (2, .int x2), (3, .int x3), (4, .int x4), (5, .int x5)] 17 []) (x1 : Int32) (x2 : Int32) (x3 : Int32) (x4 : Int32) (x5 : Int32) (h : f_X7_homeOf_78 k17 x1 x2 x3 x4 x5 S = some res) : Zt E Γ 7 0 0 (wModel E a S) [(0, .ref (a 0)), (1, .int x1), (2, .int x2), (3, .int x3), (4, .int x4), (5, .int x5)] 78 [] := by
  unfold f_X7_homeOf_78 at h
  refine z_iload C 4 rfl dX7_homeOf_78 ?_
  refine Zt_l [(0, .ref (a 0)), (1, .int x1), (2, .int x2), (3, .int x3), (5, .int x5)] [0, 1, 2, 3, 5] rfl ?_
  exact L_X7_homeOf_80 a C R k17 hk17 x1 x2 x3 x5 x4 h

set_option maxHeartbeats 4000000 in
set_option maxRecDepth 100000 in
theorem L_X7_homeOf_17 {E : zEnv} {Γ : zG} (a : Nat → Nat) (C : zC E Γ cX7_homeOf RX7 7 rm_X7_homeOf wsX7_homeOf) {res : Int32} {S : St} (R : zRi E Γ cX7_homeOf 7 .int (wModel E a S) res) : ∀ (n : Nat) (x1 : Int32) (x2 : Int32) (x3 : Int32) (x4 : Int32) (x5 : Int32), f_X7_homeOf_17 n x1 x2 x3 x4 x5 S = some res → Zt E Γ 7 0 0 (wModel E a S) [(0, .ref (a 0)), (1, .int x1), (2, .int x2), (3, .int x3), (4, .int x4), (5, .int x5)] 17 [] := by
  intro n
  induction n with
  | zero =>
    intro x1 x2 x3 x4 x5 h
    cases h
  | succ n ih =>
    intro x1 x2 x3 x4 x5 h
    rw [f_X7_homeOf_17_s] at h
    refine z_iload C 5 rfl dX7_homeOf_17 ?_
    refine z_aload_n C 0 rfl rfl dX7_homeOf_19 ?_
    refine z_get C 0 rfl (C := RX7) (T := TX7) (N := 38) (ci := 7) rfl inw_X7_homeOf_X7 0 (by decide) (ref := "EldestAgeModel") (List.mem_of_getElem? (i := 1) rfl) rfl (v := .ref (a 1)) rfl dX7_homeOf_20 ?_
    refine z_iload_n C 1 rfl rfl dX7_homeOf_23 ?_
    refine z_bipush C (v := (89 : Int32)) (by decide) dX7_homeOf_24 ?_
    refine z_iadd C dX7_homeOf_26 ?_
    refine z_iald C (N := 368) (f := (S 0)) 1 rfl h dX7_homeOf_27 (fun h => ?_)
    refine z_icmp_ge C 88 (by decide) h dX7_homeOf_28 (fun hc h => ?_) (fun hc h => ?_)
    · refine z_iload C 4 rfl dX7_homeOf_88 ?_
      obtain rfl := Option.some.inj h
      exact R rfl 90 _ dX7_homeOf_90
    · refine z_iload_n C 1 rfl rfl dX7_homeOf_31 ?_
      refine z_bipush C (v := (40 : Int32)) (by decide) dX7_homeOf_32 ?_
      refine z_iadd C dX7_homeOf_34 ?_
      refine z_iconst C (v := (3 : Int32)) (by decide) dX7_homeOf_35 ?_
      refine z_iload C 5 rfl dX7_homeOf_36 ?_
      refine z_imul C dX7_homeOf_38 ?_
      refine z_iadd C dX7_homeOf_39 ?_
      refine z_istore C [(6, .int ((x1 + (40 : Int32)) + ((3 : Int32) * x5))), (0, .ref (a 0)), (1, .int x1), (2, .int x2), (3, .int x3), (4, .int x4), (5, .int x5)] (by decide) rfl dX7_homeOf_40 ?_
      refine z_aload_n C 1 rfl rfl dX7_homeOf_42 ?_
      refine z_get C 0 rfl (C := RX7) (T := TX7) (N := 38) (ci := 7) rfl inw_X7_homeOf_X7 0 (by decide) (ref := "EldestAgeModel") (List.mem_of_getElem? (i := 1) rfl) rfl (v := .ref (a 1)) rfl dX7_homeOf_43 ?_
      refine z_iload C 0 rfl dX7_homeOf_46 ?_
      refine z_iconst C (v := (1 : Int32)) (by decide) dX7_homeOf_48 ?_
      refine z_iadd C dX7_homeOf_49 ?_
      refine z_iald C (N := 368) (f := (S 0)) 1 rfl h dX7_homeOf_50 (fun h => ?_)
      refine z_iload_n C 3 rfl rfl dX7_homeOf_51 ?_
      refine z_icmp_ne C 78 (by decide) h dX7_homeOf_52 (fun hc h => ?_) (fun hc h => ?_)
      · refine z_aload_n C 1 rfl rfl dX7_homeOf_55 ?_
        refine z_get C 0 rfl (C := RX7) (T := TX7) (N := 38) (ci := 7) rfl inw_X7_homeOf_X7 0 (by decide) (ref := "EldestAgeModel") (List.mem_of_getElem? (i := 1) rfl) rfl (v := .ref (a 1)) rfl dX7_homeOf_56 ?_
        refine z_iload C 0 rfl dX7_homeOf_59 ?_
        refine z_iald C (N := 368) (f := (S 0)) 1 rfl h dX7_homeOf_61 (fun h => ?_)
        refine z_iload_n C 4 rfl rfl dX7_homeOf_62 ?_
        refine z_icmp_gt C 78 (by decide) h dX7_homeOf_63 (fun hc h => ?_) (fun hc h => ?_)
        · refine Zt_l [(0, .ref (a 0)), (1, .int x1), (2, .int x2), (3, .int x3), (4, .int x4), (5, .int x5)] [1, 2, 3, 4, 5, 6] rfl ?_
          exact L_X7_homeOf_78 a C R _ ih x1 x2 x3 x4 x5 h
        · refine z_aload_n C 1 rfl rfl dX7_homeOf_66 ?_
          refine z_get C 0 rfl (C := RX7) (T := TX7) (N := 38) (ci := 7) rfl inw_X7_homeOf_X7 0 (by decide) (ref := "EldestAgeModel") (List.mem_of_getElem? (i := 1) rfl) rfl (v := .ref (a 1)) rfl dX7_homeOf_67 ?_
          refine z_iload C 0 rfl dX7_homeOf_70 ?_
          refine z_iconst C (v := (2 : Int32)) (by decide) dX7_homeOf_72 ?_
          refine z_iadd C dX7_homeOf_73 ?_
          refine z_iald C (N := 368) (f := (S 0)) 1 rfl h dX7_homeOf_74 (fun h => ?_)
          refine z_goto C 80 (by decide) dX7_homeOf_75 ?_
          refine Zt_l [(0, .ref (a 0)), (1, .int x1), (2, .int x2), (3, .int x3), (5, .int x5)] [1, 2, 3, 4, 6] rfl ?_
          exact L_X7_homeOf_80 a C R _ ih x1 x2 x3 x5 (S 0 (Int32.toNatClampNeg (((x1 + (40 : Int32)) + ((3 : Int32) * x5)) + (2 : Int32)))) h
      · refine Zt_l [(0, .ref (a 0)), (1, .int x1), (2, .int x2), (3, .int x3), (4, .int x4), (5, .int x5)] [1, 2, 3, 4, 5, 6] rfl ?_
        exact L_X7_homeOf_78 a C R _ ih x1 x2 x3 x4 x5 h

set_option maxHeartbeats 4000000 in
set_option maxRecDepth 100000 in
theorem L_X7_homeOf {E : zEnv} {Γ : zG} (a : Nat → Nat) (C : zC E Γ cX7_homeOf RX7 7 rm_X7_homeOf wsX7_homeOf) {res : Int32} {S : St} (R : zRi E Γ cX7_homeOf 7 .int (wModel E a S) res) (x1 : Int32) (x2 : Int32) (x3 : Int32) (h : f_X7_homeOf x1 x2 x3 S = some res) : Zt E Γ 7 0 0 (wModel E a S) [(0, .ref (a 0)), (1, .int x1), (2, .int x2), (3, .int x3)] 0 [] := by
  unfold f_X7_homeOf at h
  refine z_aload_n C 0 rfl rfl dX7_homeOf_0 ?_
  refine z_get C 0 rfl (C := RX7) (T := TX7) (N := 38) (ci := 7) rfl inw_X7_homeOf_X7 0 (by decide) (ref := "EldestAgeModel") (List.mem_of_getElem? (i := 1) rfl) rfl (v := .ref (a 1)) rfl dX7_homeOf_1 ?_
  refine z_iload_n C 1 rfl rfl dX7_homeOf_4 ?_
  refine z_iconst C (v := (4 : Int32)) (by decide) dX7_homeOf_5 ?_
  refine z_iload_n C 2 rfl rfl dX7_homeOf_6 ?_
  refine z_imul C dX7_homeOf_7 ?_
  refine z_iadd C dX7_homeOf_8 ?_
  refine z_iconst C (v := (2 : Int32)) (by decide) dX7_homeOf_9 ?_
  refine z_iadd C dX7_homeOf_10 ?_
  refine z_iald C (N := 368) (f := (S 0)) 1 rfl h dX7_homeOf_11 (fun h => ?_)
  refine z_istore C [(4, .int (S 0 (Int32.toNatClampNeg ((x1 + ((4 : Int32) * x2)) + (2 : Int32))))), (0, .ref (a 0)), (1, .int x1), (2, .int x2), (3, .int x3)] (by decide) rfl dX7_homeOf_12 ?_
  refine z_iconst C (v := (0 : Int32)) (by decide) dX7_homeOf_14 ?_
  refine z_istore C [(5, .int (0 : Int32)), (4, .int (S 0 (Int32.toNatClampNeg ((x1 + ((4 : Int32) * x2)) + (2 : Int32))))), (0, .ref (a 0)), (1, .int x1), (2, .int x2), (3, .int x3)] (by decide) rfl dX7_homeOf_15 ?_
  refine Zt_l [(0, .ref (a 0)), (1, .int x1), (2, .int x2), (3, .int x3), (4, .int (S 0 (Int32.toNatClampNeg ((x1 + ((4 : Int32) * x2)) + (2 : Int32))))), (5, .int (0 : Int32))] [2, 3, 4, 5, 1, 0] rfl ?_
  exact L_X7_homeOf_17 a C R 1000 x1 x2 x3 (S 0 (Int32.toNatClampNeg ((x1 + ((4 : Int32) * x2)) + (2 : Int32)))) (0 : Int32) h

theorem c_X7_homeOf (E : zEnv) (a : Nat → Nat) (x1 : Int32) (x2 : Int32) (x3 : Int32) (S : St) {res : Int32} (h : f_X7_homeOf x1 x2 x3 S = some res) : Kti E yX7_homeOf wsX7_homeOf rm_X7_homeOf (wModel E a S) (wModel E a S) [.ref (a 0), .int x1, .int x2, .int x3] res :=
  z_enti (cc := cX7_homeOf) (maxL := 7) (rt := .int) (by decide +kernel) rfl (Nat.le_of_ble_eq_true rfl) (fun Γ C R => L_X7_homeOf a C R x1 x2 x3 h)

abbrev rm_X7_years : Room := { frames := 2, cells := 0, slots := 0, locals := 46 }
theorem inw_X7_years_X7 : ∀ w ∈ wsX70, w ∈ wsX7_years := fun _ h => List.mem_cons_of_mem _ (List.mem_append_right _ h)
set_option maxHeartbeats 4000000 in
theorem wl_X7_years_0 (E : zEnv) (a : Nat → Nat) (S : St) : ([0, 1, 2, 3, 4, 5, 6, 7, 8, 9, 10, 11, 12, 13, 14, 15, 16] : List Nat).map (fun i => (wModel E a S)[i]?) = (wModel E a S).map some := rfl
set_option maxHeartbeats 4000000 in
theorem wl_X7_years_1 (E : zEnv) (a : Nat → Nat) (S U : St) : (wModel E a U).map (fun q => q.1) = (wModel E a S).map (fun q => q.1) := rfl
noncomputable def f_X7_years (x1 : Int32) (x2 : Int32) (S : St) : Option Int32 := ((f_X7_isOne x1 S).bind (fun q1 => (if q1 = 0 then (some (-1 : Int32)) else ((f_X7_isDay x2).bind (fun q2 => (if q2 = 0 then (some (-1 : Int32)) else ((f_X7_isAlive (0 : Int32) x1 x2 S).bind (fun q3 => (if q3 = 0 then (some (-4 : Int32)) else (ix (((4 : Int32) * x1) + (1 : Int32)) 368 (some ((x2 - (S 0 (Int32.toNatClampNeg (((4 : Int32) * x1) + (1 : Int32))))) / (360 : Int32)))))))))))))
set_option maxHeartbeats 4000000 in
set_option maxRecDepth 100000 in
theorem L_X7_years {E : zEnv} {Γ : zG} (a : Nat → Nat) (C : zC E Γ cX7_years RX7 3 rm_X7_years wsX7_years) {res : Int32} {S : St} (R : zRi E Γ cX7_years 3 .int (wModel E a S) res) (x1 : Int32) (x2 : Int32) (h : f_X7_years x1 x2 S = some res) : Zt E Γ 3 0 0 (wModel E a S) [(0, .ref (a 0)), (1, .int x1), (2, .int x2)] 0 [] := by
  unfold f_X7_years at h
  refine z_aload_n C 0 rfl rfl dX7_years_0 ?_
  refine z_iload_n C 1 rfl rfl dX7_years_1 ?_
  obtain ⟨q1, e1, h⟩ := bd_e h
  refine z_callVi C (b := a 0) (As := [.int x1]) (rest := []) (c_X7_isOne E a x1 S e1) rfl gX7_years_X7_isOne rfl rfl rfl 1 rfl (by decide +kernel) ⟨Nat.le_of_ble_eq_true rfl, Nat.le_of_ble_eq_true rfl⟩ [0, 1, 2, 3, 4, 5, 6, 7, 8, 9, 10, 11, 12, 13, 14, 15, 16] (wl_X7_years_0 E a S) (by decide) rfl (wModel E a S) (zrep_self (wl_X7_years_0 E a S)) 0 7 rfl rfl rfl (Nat.le_of_ble_eq_true rfl) dX7_years_2 ⟨Nat.zero_le _, Nat.zero_le _⟩ _ rfl ?_
  refine z_if_eq C 15 (by decide) h dX7_years_5 (fun hc h => ?_) (fun hc h => ?_)
  · refine z_iconst C (v := (-1 : Int32)) (by decide) dX7_years_15 ?_
    obtain rfl := Option.some.inj h
    exact R rfl 16 _ dX7_years_16
  · refine z_iload_n C 2 rfl rfl dX7_years_8 ?_
    obtain ⟨q2, e2, h⟩ := bd_e h
    refine z_callSi C (rest := []) (c_X7_isDay E x2 e2) gX7_years_X7_isDay rfl rfl rfl 1 rfl (by decide +kernel) ⟨Nat.le_of_ble_eq_true rfl, Nat.le_of_ble_eq_true rfl⟩ [] rfl (by decide) rfl (wModel E a S) rfl (Nat.le_of_ble_eq_true rfl) dX7_years_9 ⟨Nat.zero_le _, Nat.zero_le _⟩ _ rfl ?_
    refine z_if_ne C 17 (by decide) h dX7_years_12 (fun hc h => ?_) (fun hc h => ?_)
    · refine z_iconst C (v := (-1 : Int32)) (by decide) dX7_years_15 ?_
      obtain rfl := Option.some.inj h
      exact R rfl 16 _ dX7_years_16
    · refine z_aload_n C 0 rfl rfl dX7_years_17 ?_
      refine z_iconst C (v := (0 : Int32)) (by decide) dX7_years_18 ?_
      refine z_iload_n C 1 rfl rfl dX7_years_19 ?_
      refine z_iload_n C 2 rfl rfl dX7_years_20 ?_
      obtain ⟨q3, e3, h⟩ := bd_e h
      refine z_callVi C (b := a 0) (As := [.int (0 : Int32), .int x1, .int x2]) (rest := []) (c_X7_isAlive E a (0 : Int32) x1 x2 S e3) rfl gX7_years_X7_isAlive rfl rfl rfl 3 rfl (by decide +kernel) ⟨Nat.le_of_ble_eq_true rfl, Nat.le_of_ble_eq_true rfl⟩ [0, 1, 2, 3, 4, 5, 6, 7, 8, 9, 10, 11, 12, 13, 14, 15, 16] (wl_X7_years_0 E a S) (by decide) rfl (wModel E a S) (zrep_self (wl_X7_years_0 E a S)) 0 7 rfl rfl rfl (Nat.le_of_ble_eq_true rfl) dX7_years_21 ⟨Nat.zero_le _, Nat.zero_le _⟩ _ rfl ?_
      refine z_if_eq C 46 (by decide) h dX7_years_24 (fun hc h => ?_) (fun hc h => ?_)
      · refine z_bipush C (v := (-4 : Int32)) (by decide) dX7_years_46 ?_
        obtain rfl := Option.some.inj h
        exact R rfl 48 _ dX7_years_48
      · refine z_iload_n C 2 rfl rfl dX7_years_27 ?_
        refine z_aload_n C 0 rfl rfl dX7_years_28 ?_
        refine z_get C 0 rfl (C := RX7) (T := TX7) (N := 38) (ci := 7) rfl inw_X7_years_X7 0 (by decide) (ref := "EldestAgeModel") (List.mem_of_getElem? (i := 1) rfl) rfl (v := .ref (a 1)) rfl dX7_years_29 ?_
        refine z_iconst C (v := (4 : Int32)) (by decide) dX7_years_32 ?_
        refine z_iload_n C 1 rfl rfl dX7_years_33 ?_
        refine z_imul C dX7_years_34 ?_
        refine z_iconst C (v := (1 : Int32)) (by decide) dX7_years_35 ?_
        refine z_iadd C dX7_years_36 ?_
        refine z_iald C (N := 368) (f := (S 0)) 1 rfl h dX7_years_37 (fun h => ?_)
        refine z_isub C dX7_years_38 ?_
        refine z_sipush C (v := (360 : Int32)) (by decide) dX7_years_39 ?_
        refine z_idiv C (by decide) dX7_years_42 ?_
        refine z_goto C 48 (by decide) dX7_years_43 ?_
        obtain rfl := Option.some.inj h
        exact R rfl 48 _ dX7_years_48

theorem c_X7_years (E : zEnv) (a : Nat → Nat) (x1 : Int32) (x2 : Int32) (S : St) {res : Int32} (h : f_X7_years x1 x2 S = some res) : Kti E yX7_years wsX7_years rm_X7_years (wModel E a S) (wModel E a S) [.ref (a 0), .int x1, .int x2] res :=
  z_enti (cc := cX7_years) (maxL := 3) (rt := .int) (by decide +kernel) rfl (Nat.le_of_ble_eq_true rfl) (fun Γ C R => L_X7_years a C R x1 x2 h)

abbrev rm_X7_lives : Room := { frames := 2, cells := 0, slots := 0, locals := 46 }
theorem inw_X7_lives_X7 : ∀ w ∈ wsX70, w ∈ wsX7_lives := fun _ h => List.mem_cons_of_mem _ (List.mem_append_right _ h)
set_option maxHeartbeats 4000000 in
theorem wl_X7_lives_0 (E : zEnv) (a : Nat → Nat) (S : St) : ([0, 1, 2, 3, 4, 5, 6, 7, 8, 9, 10, 11, 12, 13, 14, 15, 16] : List Nat).map (fun i => (wModel E a S)[i]?) = (wModel E a S).map some := rfl
set_option maxHeartbeats 4000000 in
theorem wl_X7_lives_1 (E : zEnv) (a : Nat → Nat) (S U : St) : (wModel E a U).map (fun q => q.1) = (wModel E a S).map (fun q => q.1) := rfl
noncomputable def f_X7_lives (x1 : Int32) (x2 : Int32) (S : St) : Option Int32 := ((f_X7_isOne x1 S).bind (fun q1 => (if q1 = 0 then (some (-1 : Int32)) else ((f_X7_isDay x2).bind (fun q2 => (if q2 = 0 then (some (-1 : Int32)) else ((f_X7_isAlive (0 : Int32) x1 x2 S).bind (fun q3 => (if q3 = 0 then (some (-4 : Int32)) else ((f_X7_homeOf (0 : Int32) x1 x2 S).bind (fun q4 => (some q4))))))))))))
set_option maxHeartbeats 4000000 in
set_option maxRecDepth 100000 in
theorem L_X7_lives {E : zEnv} {Γ : zG} (a : Nat → Nat) (C : zC E Γ cX7_lives RX7 3 rm_X7_lives wsX7_lives) {res : Int32} {S : St} (R : zRi E Γ cX7_lives 3 .int (wModel E a S) res) (x1 : Int32) (x2 : Int32) (h : f_X7_lives x1 x2 S = some res) : Zt E Γ 3 0 0 (wModel E a S) [(0, .ref (a 0)), (1, .int x1), (2, .int x2)] 0 [] := by
  unfold f_X7_lives at h
  refine z_aload_n C 0 rfl rfl dX7_lives_0 ?_
  refine z_iload_n C 1 rfl rfl dX7_lives_1 ?_
  obtain ⟨q1, e1, h⟩ := bd_e h
  refine z_callVi C (b := a 0) (As := [.int x1]) (rest := []) (c_X7_isOne E a x1 S e1) rfl gX7_lives_X7_isOne rfl rfl rfl 1 rfl (by decide +kernel) ⟨Nat.le_of_ble_eq_true rfl, Nat.le_of_ble_eq_true rfl⟩ [0, 1, 2, 3, 4, 5, 6, 7, 8, 9, 10, 11, 12, 13, 14, 15, 16] (wl_X7_lives_0 E a S) (by decide) rfl (wModel E a S) (zrep_self (wl_X7_lives_0 E a S)) 0 7 rfl rfl rfl (Nat.le_of_ble_eq_true rfl) dX7_lives_2 ⟨Nat.zero_le _, Nat.zero_le _⟩ _ rfl ?_
  refine z_if_eq C 15 (by decide) h dX7_lives_5 (fun hc h => ?_) (fun hc h => ?_)
  · refine z_iconst C (v := (-1 : Int32)) (by decide) dX7_lives_15 ?_
    obtain rfl := Option.some.inj h
    exact R rfl 16 _ dX7_lives_16
  · refine z_iload_n C 2 rfl rfl dX7_lives_8 ?_
    obtain ⟨q2, e2, h⟩ := bd_e h
    refine z_callSi C (rest := []) (c_X7_isDay E x2 e2) gX7_lives_X7_isDay rfl rfl rfl 1 rfl (by decide +kernel) ⟨Nat.le_of_ble_eq_true rfl, Nat.le_of_ble_eq_true rfl⟩ [] rfl (by decide) rfl (wModel E a S) rfl (Nat.le_of_ble_eq_true rfl) dX7_lives_9 ⟨Nat.zero_le _, Nat.zero_le _⟩ _ rfl ?_
    refine z_if_ne C 17 (by decide) h dX7_lives_12 (fun hc h => ?_) (fun hc h => ?_)
    · refine z_iconst C (v := (-1 : Int32)) (by decide) dX7_lives_15 ?_
      obtain rfl := Option.some.inj h
      exact R rfl 16 _ dX7_lives_16
    · refine z_aload_n C 0 rfl rfl dX7_lives_17 ?_
      refine z_iconst C (v := (0 : Int32)) (by decide) dX7_lives_18 ?_
      refine z_iload_n C 1 rfl rfl dX7_lives_19 ?_
      refine z_iload_n C 2 rfl rfl dX7_lives_20 ?_
      obtain ⟨q3, e3, h⟩ := bd_e h
      refine z_callVi C (b := a 0) (As := [.int (0 : Int32), .int x1, .int x2]) (rest := []) (c_X7_isAlive E a (0 : Int32) x1 x2 S e3) rfl gX7_lives_X7_isAlive rfl rfl rfl 3 rfl (by decide +kernel) ⟨Nat.le_of_ble_eq_true rfl, Nat.le_of_ble_eq_true rfl⟩ [0, 1, 2, 3, 4, 5, 6, 7, 8, 9, 10, 11, 12, 13, 14, 15, 16] (wl_X7_lives_0 E a S) (by decide) rfl (wModel E a S) (zrep_self (wl_X7_lives_0 E a S)) 0 7 rfl rfl rfl (Nat.le_of_ble_eq_true rfl) dX7_lives_21 ⟨Nat.zero_le _, Nat.zero_le _⟩ _ rfl ?_
      refine z_if_eq C 37 (by decide) h dX7_lives_24 (fun hc h => ?_) (fun hc h => ?_)
      · refine z_bipush C (v := (-4 : Int32)) (by decide) dX7_lives_37 ?_
        obtain rfl := Option.some.inj h
        exact R rfl 39 _ dX7_lives_39
      · refine z_aload_n C 0 rfl rfl dX7_lives_27 ?_
        refine z_iconst C (v := (0 : Int32)) (by decide) dX7_lives_28 ?_
        refine z_iload_n C 1 rfl rfl dX7_lives_29 ?_
        refine z_iload_n C 2 rfl rfl dX7_lives_30 ?_
        obtain ⟨q4, e4, h⟩ := bd_e h
        refine z_callVi C (b := a 0) (As := [.int (0 : Int32), .int x1, .int x2]) (rest := []) (c_X7_homeOf E a (0 : Int32) x1 x2 S e4) rfl gX7_lives_X7_homeOf rfl rfl rfl 3 rfl (by decide +kernel) ⟨Nat.le_of_ble_eq_true rfl, Nat.le_of_ble_eq_true rfl⟩ [0, 1, 2, 3, 4, 5, 6, 7, 8, 9, 10, 11, 12, 13, 14, 15, 16] (wl_X7_lives_0 E a S) (by decide) rfl (wModel E a S) (zrep_self (wl_X7_lives_0 E a S)) 0 7 rfl rfl rfl (Nat.le_of_ble_eq_true rfl) dX7_lives_31 ⟨Nat.zero_le _, Nat.zero_le _⟩ _ rfl ?_
        refine z_goto C 39 (by decide) dX7_lives_34 ?_
        obtain rfl := Option.some.inj h
        exact R rfl 39 _ dX7_lives_39

theorem c_X7_lives (E : zEnv) (a : Nat → Nat) (x1 : Int32) (x2 : Int32) (S : St) {res : Int32} (h : f_X7_lives x1 x2 S = some res) : Kti E yX7_lives wsX7_lives rm_X7_lives (wModel E a S) (wModel E a S) [.ref (a 0), .int x1, .int x2] res :=
  z_enti (cc := cX7_lives) (maxL := 3) (rt := .int) (by decide +kernel) rfl (Nat.le_of_ble_eq_true rfl) (fun Γ C R => L_X7_lives a C R x1 x2 h)

abbrev rm_X7_empties : Room := { frames := 0, cells := 0, slots := 0, locals := 0 }
theorem inw_X7_empties_X7 : ∀ w ∈ wsX70, w ∈ wsX7_empties := fun _ h => List.mem_cons_of_mem _ (List.mem_append_right _ h)
set_option maxHeartbeats 4000000 in
theorem wl_X7_empties_0 (E : zEnv) (a : Nat → Nat) (S : St) (v : Int32) : (wModel E a (st 19 (fun _ => v) S)) = (wModel E a S).set 0 (a 0, .inr (7, List.set [.ref (a 1), .int (S 1 0), .ref (a 2), .int (S 3 0), .int (S 4 0), .int (S 5 0), .int (S 6 0), .int (S 7 0), .ref (a 3), .int (S 9 0), .int (S 10 0), .int (S 11 0), .int (S 12 0), .int (S 13 0), .int (S 14 0), .int (S 15 0), .int (S 16 0), .ref (a 4), .ref (a 5), .int (S 19 0), .int (S 20 0), .int (S 21 0), .int (S 22 0), .ref (a 6), .int (S 24 0), .ref (a 7), .int (S 26 0), .ref (a 8), .ref (a 9), .ref (a 10), .ref (a 11), .ref (a 12), .int (S 32 0), .ref (a 13), .ref (a 14), .ref (a 15), .ref (a 16), .int (S 37 0)] 19 (.int v))) := rfl
set_option maxHeartbeats 4000000 in
theorem wl_X7_empties_1 (E : zEnv) (a : Nat → Nat) (S : St) (v : Int32) : (wModel E a (st 20 (fun _ => v) S)) = (wModel E a S).set 0 (a 0, .inr (7, List.set [.ref (a 1), .int (S 1 0), .ref (a 2), .int (S 3 0), .int (S 4 0), .int (S 5 0), .int (S 6 0), .int (S 7 0), .ref (a 3), .int (S 9 0), .int (S 10 0), .int (S 11 0), .int (S 12 0), .int (S 13 0), .int (S 14 0), .int (S 15 0), .int (S 16 0), .ref (a 4), .ref (a 5), .int (S 19 0), .int (S 20 0), .int (S 21 0), .int (S 22 0), .ref (a 6), .int (S 24 0), .ref (a 7), .int (S 26 0), .ref (a 8), .ref (a 9), .ref (a 10), .ref (a 11), .ref (a 12), .int (S 32 0), .ref (a 13), .ref (a 14), .ref (a 15), .ref (a 16), .int (S 37 0)] 20 (.int v))) := rfl
noncomputable def f_X7_empties (S : St) : Option St := (some (st 20 (fun _ => (0 : Int32)) (st 19 (fun _ => (0 : Int32)) S)))
set_option maxHeartbeats 4000000 in
set_option maxRecDepth 100000 in
theorem L_X7_empties {E : zEnv} {Γ : zG} (a : Nat → Nat) (C : zC E Γ cX7_empties RX7 1 rm_X7_empties wsX7_empties) {res : St} (R : zRv E Γ cX7_empties 1 (wModel E a res)) (S : St) (h : f_X7_empties S = some res) : Zt E Γ 1 0 0 (wModel E a S) [(0, .ref (a 0))] 0 [] := by
  unfold f_X7_empties at h
  refine z_aload_n C 0 rfl rfl dX7_empties_0 ?_
  refine z_iconst C (v := (0 : Int32)) (by decide) dX7_empties_1 ?_
  refine z_put C 0 rfl (C := RX7) (T := TX7) (N := 38) (ci := 7) rfl inw_X7_empties_X7 tyX7 tyX7_ok nmX7 19 (by decide) (ref := "EldestAgeModel") (List.mem_of_getElem? (i := 1) rfl) rfl rfl (ty := .int) (v := .int (0 : Int32)) (by decide +kernel) rfl rfl (Nat.le_of_ble_eq_true rfl) (wModel E a (st 19 (fun _ => (0 : Int32)) S)) (wl_X7_empties_0 E a S (0 : Int32)) dX7_empties_2 ?_
  refine z_aload_n C 0 rfl rfl dX7_empties_5 ?_
  refine z_iconst C (v := (0 : Int32)) (by decide) dX7_empties_6 ?_
  refine z_put C 0 rfl (C := RX7) (T := TX7) (N := 38) (ci := 7) rfl inw_X7_empties_X7 tyX7 tyX7_ok nmX7 20 (by decide) (ref := "EldestAgeModel") (List.mem_of_getElem? (i := 2) rfl) rfl rfl (ty := .int) (v := .int (0 : Int32)) (by decide +kernel) rfl rfl (Nat.le_of_ble_eq_true rfl) (wModel E a (st 20 (fun _ => (0 : Int32)) (st 19 (fun _ => (0 : Int32)) S))) (wl_X7_empties_1 E a (st 19 (fun _ => (0 : Int32)) S) (0 : Int32)) dX7_empties_7 ?_
  obtain rfl := Option.some.inj h
  exact R 10 _ dX7_empties_10

theorem c_X7_empties (E : zEnv) (a : Nat → Nat) (S : St) {res : St} (h : f_X7_empties S = some res) : Ktv E yX7_empties wsX7_empties rm_X7_empties (wModel E a S) (wModel E a res) [.ref (a 0)] :=
  z_entv (cc := cX7_empties) (maxL := 1) (by decide +kernel) rfl (Nat.le_of_ble_eq_true rfl) (fun Γ C R => L_X7_empties a C R S h)

abbrev rm_X7_tells : Room := { frames := 0, cells := 0, slots := 0, locals := 0 }
theorem inw_X7_tells_X7 : ∀ w ∈ wsX70, w ∈ wsX7_tells := fun _ h => List.mem_cons_of_mem _ (List.mem_append_right _ h)
set_option maxHeartbeats 4000000 in
theorem wl_X7_tells_0 (E : zEnv) (a : Nat → Nat) (S : St) (v : Int32) : (wModel E a (st 22 (fun _ => v) S)) = (wModel E a S).set 0 (a 0, .inr (7, List.set [.ref (a 1), .int (S 1 0), .ref (a 2), .int (S 3 0), .int (S 4 0), .int (S 5 0), .int (S 6 0), .int (S 7 0), .ref (a 3), .int (S 9 0), .int (S 10 0), .int (S 11 0), .int (S 12 0), .int (S 13 0), .int (S 14 0), .int (S 15 0), .int (S 16 0), .ref (a 4), .ref (a 5), .int (S 19 0), .int (S 20 0), .int (S 21 0), .int (S 22 0), .ref (a 6), .int (S 24 0), .ref (a 7), .int (S 26 0), .ref (a 8), .ref (a 9), .ref (a 10), .ref (a 11), .ref (a 12), .int (S 32 0), .ref (a 13), .ref (a 14), .ref (a 15), .ref (a 16), .int (S 37 0)] 22 (.int v))) := rfl
set_option maxHeartbeats 4000000 in
theorem wl_X7_tells_1 (E : zEnv) (a : Nat → Nat) (S : St) (v : Int32) : (wModel E a (st 19 (fun _ => v) S)) = (wModel E a S).set 0 (a 0, .inr (7, List.set [.ref (a 1), .int (S 1 0), .ref (a 2), .int (S 3 0), .int (S 4 0), .int (S 5 0), .int (S 6 0), .int (S 7 0), .ref (a 3), .int (S 9 0), .int (S 10 0), .int (S 11 0), .int (S 12 0), .int (S 13 0), .int (S 14 0), .int (S 15 0), .int (S 16 0), .ref (a 4), .ref (a 5), .int (S 19 0), .int (S 20 0), .int (S 21 0), .int (S 22 0), .ref (a 6), .int (S 24 0), .ref (a 7), .int (S 26 0), .ref (a 8), .ref (a 9), .ref (a 10), .ref (a 11), .ref (a 12), .int (S 32 0), .ref (a 13), .ref (a 14), .ref (a 15), .ref (a 16), .int (S 37 0)] 19 (.int v))) := rfl
set_option maxHeartbeats 4000000 in
theorem wl_X7_tells_2 (E : zEnv) (a : Nat → Nat) (S : St) (v : Int32) : (wModel E a (st 20 (fun _ => v) S)) = (wModel E a S).set 0 (a 0, .inr (7, List.set [.ref (a 1), .int (S 1 0), .ref (a 2), .int (S 3 0), .int (S 4 0), .int (S 5 0), .int (S 6 0), .int (S 7 0), .ref (a 3), .int (S 9 0), .int (S 10 0), .int (S 11 0), .int (S 12 0), .int (S 13 0), .int (S 14 0), .int (S 15 0), .int (S 16 0), .ref (a 4), .ref (a 5), .int (S 19 0), .int (S 20 0), .int (S 21 0), .int (S 22 0), .ref (a 6), .int (S 24 0), .ref (a 7), .int (S 26 0), .ref (a 8), .ref (a 9), .ref (a 10), .ref (a 11), .ref (a 12), .int (S 32 0), .ref (a 13), .ref (a 14), .ref (a 15), .ref (a 16), .int (S 37 0)] 20 (.int v))) := rfl
set_option maxHeartbeats 4000000 in
theorem wl_X7_tells_3 (E : zEnv) (a : Nat → Nat) (S : St) (v : Int32) : (wModel E a (st 21 (fun _ => v) S)) = (wModel E a S).set 0 (a 0, .inr (7, List.set [.ref (a 1), .int (S 1 0), .ref (a 2), .int (S 3 0), .int (S 4 0), .int (S 5 0), .int (S 6 0), .int (S 7 0), .ref (a 3), .int (S 9 0), .int (S 10 0), .int (S 11 0), .int (S 12 0), .int (S 13 0), .int (S 14 0), .int (S 15 0), .int (S 16 0), .ref (a 4), .ref (a 5), .int (S 19 0), .int (S 20 0), .int (S 21 0), .int (S 22 0), .ref (a 6), .int (S 24 0), .ref (a 7), .int (S 26 0), .ref (a 8), .ref (a 9), .ref (a 10), .ref (a 11), .ref (a 12), .int (S 32 0), .ref (a 13), .ref (a 14), .ref (a 15), .ref (a 16), .int (S 37 0)] 21 (.int v))) := rfl
noncomputable def f_X7_tells_51 (x1 : Int32) (x2 : Int32) (y1 : Int32) (S : St) : Option St := (some (st 20 (fun _ => ((S 20 0) + (x2 * x1))) (st 19 (fun _ => ((S 19 0) + x2)) (st 22 (fun _ => y1) S))))
noncomputable def f_X7_tells_43 (x1 : Int32) (x2 : Int32) (S : St) : Option St := (f_X7_tells_51 x1 x2 x1 S)
noncomputable def f_X7_tells_24 (x1 : Int32) (x2 : Int32) (y1 : Int32) (S : St) : Option St := (if (S 19 0) = 0 then (f_X7_tells_43 x1 x2 (st 21 (fun _ => y1) S)) else (if (S 22 0) ≤ x1 then (f_X7_tells_51 x1 x2 (S 22 0) (st 21 (fun _ => y1) S)) else (f_X7_tells_43 x1 x2 (st 21 (fun _ => y1) S))))
noncomputable def f_X7_tells_16 (x1 : Int32) (x2 : Int32) (S : St) : Option St := (f_X7_tells_24 x1 x2 x1 S)
noncomputable def f_X7_tells (x1 : Int32) (x2 : Int32) (S : St) : Option St := (if (S 19 0) = 0 then (f_X7_tells_16 x1 x2 S) else (if x1 ≤ (S 21 0) then (f_X7_tells_24 x1 x2 (S 21 0) S) else (f_X7_tells_16 x1 x2 S)))
set_option maxHeartbeats 4000000 in
set_option maxRecDepth 100000 in
theorem L_X7_tells_51 {E : zEnv} {Γ : zG} (a : Nat → Nat) (C : zC E Γ cX7_tells RX7 3 rm_X7_tells wsX7_tells) {res : St} (R : zRv E Γ cX7_tells 3 (wModel E a res)) (x1 : Int32) (x2 : Int32) (y1 : Int32) (S : St) (h : f_X7_tells_51 x1 x2 y1 S = some res) : Zt E Γ 3 0 0 (wModel E a S) [(0, .ref (a 0)), (1, .int x1), (2, .int x2)] 51 [.int y1, .ref (a 0)] := by
  unfold f_X7_tells_51 at h
  refine z_put C 0 rfl (C := RX7) (T := TX7) (N := 38) (ci := 7) rfl inw_X7_tells_X7 tyX7 tyX7_ok nmX7 22 (by decide) (ref := "EldestAgeModel") (List.mem_of_getElem? (i := 3) rfl) rfl rfl (ty := .int) (v := .int y1) (by decide +kernel) rfl rfl (Nat.le_of_ble_eq_true rfl) (wModel E a (st 22 (fun _ => y1) S)) (wl_X7_tells_0 E a S y1) dX7_tells_51 ?_
  refine z_aload_n C 0 rfl rfl dX7_tells_54 ?_
  refine z_dup C rfl dX7_tells_55 ?_
  refine z_get C 0 rfl (C := RX7) (T := TX7) (N := 38) (ci := 7) rfl inw_X7_tells_X7 19 (by decide) (ref := "EldestAgeModel") (List.mem_of_getElem? (i := 1) rfl) rfl (v := .int (S 19 0)) rfl dX7_tells_56 ?_
  refine z_iload_n C 2 rfl rfl dX7_tells_59 ?_
  refine z_iadd C dX7_tells_60 ?_
  refine z_put C 0 rfl (C := RX7) (T := TX7) (N := 38) (ci := 7) rfl inw_X7_tells_X7 tyX7 tyX7_ok nmX7 19 (by decide) (ref := "EldestAgeModel") (List.mem_of_getElem? (i := 1) rfl) rfl rfl (ty := .int) (v := .int ((S 19 0) + x2)) (by decide +kernel) rfl rfl (Nat.le_of_ble_eq_true rfl) (wModel E a (st 19 (fun _ => ((S 19 0) + x2)) (st 22 (fun _ => y1) S))) (wl_X7_tells_1 E a (st 22 (fun _ => y1) S) ((S 19 0) + x2)) dX7_tells_61 ?_
  refine z_aload_n C 0 rfl rfl dX7_tells_64 ?_
  refine z_dup C rfl dX7_tells_65 ?_
  refine z_get C 0 rfl (C := RX7) (T := TX7) (N := 38) (ci := 7) rfl inw_X7_tells_X7 20 (by decide) (ref := "EldestAgeModel") (List.mem_of_getElem? (i := 4) rfl) rfl (v := .int (S 20 0)) rfl dX7_tells_66 ?_
  refine z_iload_n C 2 rfl rfl dX7_tells_69 ?_
  refine z_iload_n C 1 rfl rfl dX7_tells_70 ?_
  refine z_imul C dX7_tells_71 ?_
  refine z_iadd C dX7_tells_72 ?_
  refine z_put C 0 rfl (C := RX7) (T := TX7) (N := 38) (ci := 7) rfl inw_X7_tells_X7 tyX7 tyX7_ok nmX7 20 (by decide) (ref := "EldestAgeModel") (List.mem_of_getElem? (i := 4) rfl) rfl rfl (ty := .int) (v := .int ((S 20 0) + (x2 * x1))) (by decide +kernel) rfl rfl (Nat.le_of_ble_eq_true rfl) (wModel E a (st 20 (fun _ => ((S 20 0) + (x2 * x1))) (st 19 (fun _ => ((S 19 0) + x2)) (st 22 (fun _ => y1) S)))) (wl_X7_tells_2 E a (st 19 (fun _ => ((S 19 0) + x2)) (st 22 (fun _ => y1) S)) ((S 20 0) + (x2 * x1))) dX7_tells_73 ?_
  obtain rfl := Option.some.inj h
  exact R 76 _ dX7_tells_76

set_option maxHeartbeats 4000000 in
set_option maxRecDepth 100000 in
theorem L_X7_tells_43 {E : zEnv} {Γ : zG} (a : Nat → Nat) (C : zC E Γ cX7_tells RX7 3 rm_X7_tells wsX7_tells) {res : St} (R : zRv E Γ cX7_tells 3 (wModel E a res)) (x1 : Int32) (x2 : Int32) (S : St) (h : f_X7_tells_43 x1 x2 S = some res) : Zt E Γ 3 0 0 (wModel E a S) [(0, .ref (a 0)), (1, .int x1), (2, .int x2)] 43 [.ref (a 0)] := by
  unfold f_X7_tells_43 at h
  refine z_iload_n C 1 rfl rfl dX7_tells_43 ?_
  refine z_goto C 51 (by decide) dX7_tells_44 ?_
  exact L_X7_tells_51 a C R x1 x2 x1 S h

set_option maxHeartbeats 4000000 in
set_option maxRecDepth 100000 in
theorem L_X7_tells_24 {E : zEnv} {Γ : zG} (a : Nat → Nat) (C : zC E Γ cX7_tells RX7 3 rm_X7_tells wsX7_tells) {res : St} (R : zRv E Γ cX7_tells 3 (wModel E a res)) (x1 : Int32) (x2 : Int32) (y1 : Int32) (S : St) (h : f_X7_tells_24 x1 x2 y1 S = some res) : Zt E Γ 3 0 0 (wModel E a S) [(0, .ref (a 0)), (1, .int x1), (2, .int x2)] 24 [.int y1, .ref (a 0)] := by
  unfold f_X7_tells_24 at h
  refine z_put C 0 rfl (C := RX7) (T := TX7) (N := 38) (ci := 7) rfl inw_X7_tells_X7 tyX7 tyX7_ok nmX7 21 (by decide) (ref := "EldestAgeModel") (List.mem_of_getElem? (i := 2) rfl) rfl rfl (ty := .int) (v := .int y1) (by decide +kernel) rfl rfl (Nat.le_of_ble_eq_true rfl) (wModel E a (st 21 (fun _ => y1) S)) (wl_X7_tells_3 E a S y1) dX7_tells_24 ?_
  refine z_aload_n C 0 rfl rfl dX7_tells_27 ?_
  refine z_aload_n C 0 rfl rfl dX7_tells_28 ?_
  refine z_get C 0 rfl (C := RX7) (T := TX7) (N := 38) (ci := 7) rfl inw_X7_tells_X7 19 (by decide) (ref := "EldestAgeModel") (List.mem_of_getElem? (i := 1) rfl) rfl (v := .int (S 19 0)) rfl dX7_tells_29 ?_
  refine z_if_eq C 43 (by decide) h dX7_tells_32 (fun hc h => ?_) (fun hc h => ?_)
  · exact L_X7_tells_43 a C R x1 x2 (st 21 (fun _ => y1) S) h
  · refine z_iload_n C 1 rfl rfl dX7_tells_35 ?_
    refine z_aload_n C 0 rfl rfl dX7_tells_36 ?_
    refine z_get C 0 rfl (C := RX7) (T := TX7) (N := 38) (ci := 7) rfl inw_X7_tells_X7 22 (by decide) (ref := "EldestAgeModel") (List.mem_of_getElem? (i := 3) rfl) rfl (v := .int (S 22 0)) rfl dX7_tells_37 ?_
    refine z_icmp_ge C 47 (by decide) h dX7_tells_40 (fun hc h => ?_) (fun hc h => ?_)
    · refine z_aload_n C 0 rfl rfl dX7_tells_47 ?_
      refine z_get C 0 rfl (C := RX7) (T := TX7) (N := 38) (ci := 7) rfl inw_X7_tells_X7 22 (by decide) (ref := "EldestAgeModel") (List.mem_of_getElem? (i := 3) rfl) rfl (v := .int (S 22 0)) rfl dX7_tells_48 ?_
      exact L_X7_tells_51 a C R x1 x2 (S 22 0) (st 21 (fun _ => y1) S) h
    · exact L_X7_tells_43 a C R x1 x2 (st 21 (fun _ => y1) S) h

set_option maxHeartbeats 4000000 in
set_option maxRecDepth 100000 in
theorem L_X7_tells_16 {E : zEnv} {Γ : zG} (a : Nat → Nat) (C : zC E Γ cX7_tells RX7 3 rm_X7_tells wsX7_tells) {res : St} (R : zRv E Γ cX7_tells 3 (wModel E a res)) (x1 : Int32) (x2 : Int32) (S : St) (h : f_X7_tells_16 x1 x2 S = some res) : Zt E Γ 3 0 0 (wModel E a S) [(0, .ref (a 0)), (1, .int x1), (2, .int x2)] 16 [.ref (a 0)] := by
  unfold f_X7_tells_16 at h
  refine z_iload_n C 1 rfl rfl dX7_tells_16 ?_
  refine z_goto C 24 (by decide) dX7_tells_17 ?_
  exact L_X7_tells_24 a C R x1 x2 x1 S h

set_option maxHeartbeats 4000000 in
set_option maxRecDepth 100000 in
theorem L_X7_tells {E : zEnv} {Γ : zG} (a : Nat → Nat) (C : zC E Γ cX7_tells RX7 3 rm_X7_tells wsX7_tells) {res : St} (R : zRv E Γ cX7_tells 3 (wModel E a res)) (x1 : Int32) (x2 : Int32) (S : St) (h : f_X7_tells x1 x2 S = some res) : Zt E Γ 3 0 0 (wModel E a S) [(0, .ref (a 0)), (1, .int x1), (2, .int x2)] 0 [] := by
  unfold f_X7_tells at h
  refine z_aload_n C 0 rfl rfl dX7_tells_0 ?_
  refine z_aload_n C 0 rfl rfl dX7_tells_1 ?_
  refine z_get C 0 rfl (C := RX7) (T := TX7) (N := 38) (ci := 7) rfl inw_X7_tells_X7 19 (by decide) (ref := "EldestAgeModel") (List.mem_of_getElem? (i := 1) rfl) rfl (v := .int (S 19 0)) rfl dX7_tells_2 ?_
  refine z_if_eq C 16 (by decide) h dX7_tells_5 (fun hc h => ?_) (fun hc h => ?_)
  · exact L_X7_tells_16 a C R x1 x2 S h
  · refine z_iload_n C 1 rfl rfl dX7_tells_8 ?_
    refine z_aload_n C 0 rfl rfl dX7_tells_9 ?_
    refine z_get C 0 rfl (C := RX7) (T := TX7) (N := 38) (ci := 7) rfl inw_X7_tells_X7 21 (by decide) (ref := "EldestAgeModel") (List.mem_of_getElem? (i := 2) rfl) rfl (v := .int (S 21 0)) rfl dX7_tells_10 ?_
    refine z_icmp_le C 20 (by decide) h dX7_tells_13 (fun hc h => ?_) (fun hc h => ?_)
    · refine z_aload_n C 0 rfl rfl dX7_tells_20 ?_
      refine z_get C 0 rfl (C := RX7) (T := TX7) (N := 38) (ci := 7) rfl inw_X7_tells_X7 21 (by decide) (ref := "EldestAgeModel") (List.mem_of_getElem? (i := 2) rfl) rfl (v := .int (S 21 0)) rfl dX7_tells_21 ?_
      exact L_X7_tells_24 a C R x1 x2 (S 21 0) S h
    · exact L_X7_tells_16 a C R x1 x2 S h

theorem c_X7_tells (E : zEnv) (a : Nat → Nat) (x1 : Int32) (x2 : Int32) (S : St) {res : St} (h : f_X7_tells x1 x2 S = some res) : Ktv E yX7_tells wsX7_tells rm_X7_tells (wModel E a S) (wModel E a res) [.ref (a 0), .int x1, .int x2] :=
  z_entv (cc := cX7_tells) (maxL := 3) (by decide +kernel) rfl (Nat.le_of_ble_eq_true rfl) (fun Γ C R => L_X7_tells a C R x1 x2 S h)

abbrev rm_X7_tellsOf : Room := { frames := 1, cells := 0, slots := 0, locals := 22 }
theorem inw_X7_tellsOf_X7 : ∀ w ∈ wsX70, w ∈ wsX7_tellsOf := fun _ h => List.mem_cons_of_mem _ (List.mem_append_right _ h)
set_option maxHeartbeats 4000000 in
theorem wl_X7_tellsOf_0 (E : zEnv) (a : Nat → Nat) (S : St) : ([0, 1, 2, 3, 4, 5, 6, 7, 8, 9, 10, 11, 12, 13, 14, 15, 16] : List Nat).map (fun i => (wModel E a S)[i]?) = (wModel E a S).map some := rfl
set_option maxHeartbeats 4000000 in
theorem wl_X7_tellsOf_1 (E : zEnv) (a : Nat → Nat) (S U : St) : (wModel E a U).map (fun q => q.1) = (wModel E a S).map (fun q => q.1) := rfl
set_option maxHeartbeats 4000000 in
theorem wl_X7_tellsOf_2 (E : zEnv) (a : Nat → Nat) (S U : St) : (wModel E a U) = zrep [0, 1, 2, 3, 4, 5, 6, 7, 8, 9, 10, 11, 12, 13, 14, 15, 16] (wModel E a U) (wModel E a S) := zrep_of (isR := []) 17 rfl [] rfl rfl rfl rfl (by decide +kernel) (by decide +kernel)
noncomputable def f_X7_tellsOf_79 (y1 : Int32) (y2 : Int32) (S : St) : Option St := ((f_X7_tells y1 y2 S).bind (fun q1 => (some q1)))
noncomputable def f_X7_tellsOf_57 (x4 : Int32) (y0 : Int32) (S : St) : Option St := (if x4 = (4 : Int32) then (some S) else (if x4 = (3 : Int32) then (f_X7_tellsOf_79 y0 (2 : Int32) S) else (f_X7_tellsOf_79 y0 (1 : Int32) S)))
noncomputable def f_X7_tellsOf (x1 : Int32) (x2 : Int32) (x3 : Int32) (S : St) : Option St := (ix (x1 + ((4 : Int32) * x2)) 368 (ix ((x1 + ((4 : Int32) * x2)) + (1 : Int32)) 368 (if (S 0 (Int32.toNatClampNeg (x1 + ((4 : Int32) * x2)))) = (2 : Int32) then (if ((x3 - (S 0 (Int32.toNatClampNeg ((x1 + ((4 : Int32) * x2)) + (1 : Int32))))) / (360 : Int32)) ≤ (3 : Int32) then (f_X7_tellsOf_57 (S 0 (Int32.toNatClampNeg (x1 + ((4 : Int32) * x2)))) (0 : Int32) S) else (f_X7_tellsOf_57 (S 0 (Int32.toNatClampNeg (x1 + ((4 : Int32) * x2)))) (((x3 - (S 0 (Int32.toNatClampNeg ((x1 + ((4 : Int32) * x2)) + (1 : Int32))))) / (360 : Int32)) - (3 : Int32)) S)) else (f_X7_tellsOf_57 (S 0 (Int32.toNatClampNeg (x1 + ((4 : Int32) * x2)))) ((x3 - (S 0 (Int32.toNatClampNeg ((x1 + ((4 : Int32) * x2)) + (1 : Int32))))) / (360 : Int32)) S))))
set_option maxHeartbeats 4000000 in
set_option maxRecDepth 100000 in
theorem L_X7_tellsOf_79 {E : zEnv} {Γ : zG} (a : Nat → Nat) (C : zC E Γ cX7_tellsOf RX7 6 rm_X7_tellsOf wsX7_tellsOf) {res : St} (R : zRv E Γ cX7_tellsOf 6 (wModel E a res)) (y1 : Int32) (y2 : Int32) (S : St) (h : f_X7_tellsOf_79 y1 y2 S = some res) : Zt E Γ 6 0 0 (wModel E a S) [] 79 [.int y2, .int y1, .ref (a 0)] := by
  unfold f_X7_tellsOf_79 at h
  obtain ⟨q1, e1, h⟩ := bd_e h
  refine z_callVv C (b := a 0) (As := [.int y1, .int y2]) (rest := []) (c_X7_tells E a y1 y2 S e1) rfl gX7_tellsOf_X7_tells rfl rfl rfl 2 rfl (by decide +kernel) ⟨Nat.le_of_ble_eq_true rfl, Nat.le_of_ble_eq_true rfl⟩ [0, 1, 2, 3, 4, 5, 6, 7, 8, 9, 10, 11, 12, 13, 14, 15, 16] (wl_X7_tellsOf_0 E a S) (by decide) (wl_X7_tellsOf_1 E a _ _) (wModel E a q1) (wl_X7_tellsOf_2 E a S q1) 0 7 rfl rfl rfl (Nat.le_of_ble_eq_true rfl) dX7_tellsOf_79 ⟨Nat.zero_le _, Nat.zero_le _⟩ _ rfl ?_
  obtain rfl := Option.some.inj h
  exact R 82 _ dX7_tellsOf_82

set_option maxHeartbeats 4000000 in
set_option maxRecDepth 100000 in
theorem L_X7_tellsOf_57 {E : zEnv} {Γ : zG} (a : Nat → Nat) (C : zC E Γ cX7_tellsOf RX7 6 rm_X7_tellsOf wsX7_tellsOf) {res : St} (R : zRv E Γ cX7_tellsOf 6 (wModel E a res)) (x4 : Int32) (y0 : Int32) (S : St) (h : f_X7_tellsOf_57 x4 y0 S = some res) : Zt E Γ 6 0 0 (wModel E a S) [(0, .ref (a 0)), (4, .int x4)] 57 [.int y0] := by
  unfold f_X7_tellsOf_57 at h
  refine z_istore C [(5, .int y0), (0, .ref (a 0)), (4, .int x4)] (by decide) rfl dX7_tellsOf_57 ?_
  refine z_iload C 2 rfl dX7_tellsOf_59 ?_
  refine z_iconst C (v := (4 : Int32)) (by decide) dX7_tellsOf_61 ?_
  refine z_icmp_eq C 82 (by decide) h dX7_tellsOf_62 (fun hc h => ?_) (fun hc h => ?_)
  · obtain rfl := Option.some.inj h
    exact R 82 _ dX7_tellsOf_82
  · refine z_aload_n C 1 rfl rfl dX7_tellsOf_65 ?_
    refine z_iload C 0 rfl dX7_tellsOf_66 ?_
    refine z_iload C 2 rfl dX7_tellsOf_68 ?_
    refine z_iconst C (v := (3 : Int32)) (by decide) dX7_tellsOf_70 ?_
    refine z_icmp_ne C 78 (by decide) h dX7_tellsOf_71 (fun hc h => ?_) (fun hc h => ?_)
    · refine z_iconst C (v := (2 : Int32)) (by decide) dX7_tellsOf_74 ?_
      refine z_goto C 79 (by decide) dX7_tellsOf_75 ?_
      refine Zt_l [] [] rfl ?_
      exact L_X7_tellsOf_79 a C R y0 (2 : Int32) S h
    · refine z_iconst C (v := (1 : Int32)) (by decide) dX7_tellsOf_78 ?_
      refine Zt_l [] [] rfl ?_
      exact L_X7_tellsOf_79 a C R y0 (1 : Int32) S h

set_option maxHeartbeats 4000000 in
set_option maxRecDepth 100000 in
theorem L_X7_tellsOf {E : zEnv} {Γ : zG} (a : Nat → Nat) (C : zC E Γ cX7_tellsOf RX7 6 rm_X7_tellsOf wsX7_tellsOf) {res : St} (R : zRv E Γ cX7_tellsOf 6 (wModel E a res)) (x1 : Int32) (x2 : Int32) (x3 : Int32) (S : St) (h : f_X7_tellsOf x1 x2 x3 S = some res) : Zt E Γ 6 0 0 (wModel E a S) [(0, .ref (a 0)), (1, .int x1), (2, .int x2), (3, .int x3)] 0 [] := by
  unfold f_X7_tellsOf at h
  refine z_aload_n C 0 rfl rfl dX7_tellsOf_0 ?_
  refine z_get C 0 rfl (C := RX7) (T := TX7) (N := 38) (ci := 7) rfl inw_X7_tellsOf_X7 0 (by decide) (ref := "EldestAgeModel") (List.mem_of_getElem? (i := 1) rfl) rfl (v := .ref (a 1)) rfl dX7_tellsOf_1 ?_
  refine z_iload_n C 1 rfl rfl dX7_tellsOf_4 ?_
  refine z_iconst C (v := (4 : Int32)) (by decide) dX7_tellsOf_5 ?_
  refine z_iload_n C 2 rfl rfl dX7_tellsOf_6 ?_
  refine z_imul C dX7_tellsOf_7 ?_
  refine z_iadd C dX7_tellsOf_8 ?_
  refine z_iald C (N := 368) (f := (S 0)) 1 rfl h dX7_tellsOf_9 (fun h => ?_)
  refine z_istore C [(4, .int (S 0 (Int32.toNatClampNeg (x1 + ((4 : Int32) * x2))))), (0, .ref (a 0)), (1, .int x1), (2, .int x2), (3, .int x3)] (by decide) rfl dX7_tellsOf_10 ?_
  refine z_iload_n C 4 rfl rfl dX7_tellsOf_12 ?_
  refine z_aload_n C 1 rfl rfl dX7_tellsOf_13 ?_
  refine z_get C 0 rfl (C := RX7) (T := TX7) (N := 38) (ci := 7) rfl inw_X7_tellsOf_X7 0 (by decide) (ref := "EldestAgeModel") (List.mem_of_getElem? (i := 1) rfl) rfl (v := .ref (a 1)) rfl dX7_tellsOf_14 ?_
  refine z_iload_n C 2 rfl rfl dX7_tellsOf_17 ?_
  refine z_iconst C (v := (4 : Int32)) (by decide) dX7_tellsOf_18 ?_
  refine z_iload_n C 3 rfl rfl dX7_tellsOf_19 ?_
  refine z_imul C dX7_tellsOf_20 ?_
  refine z_iadd C dX7_tellsOf_21 ?_
  refine z_iconst C (v := (1 : Int32)) (by decide) dX7_tellsOf_22 ?_
  refine z_iadd C dX7_tellsOf_23 ?_
  refine z_iald C (N := 368) (f := (S 0)) 1 rfl h dX7_tellsOf_24 (fun h => ?_)
  refine z_isub C dX7_tellsOf_25 ?_
  refine z_sipush C (v := (360 : Int32)) (by decide) dX7_tellsOf_26 ?_
  refine z_idiv C (by decide) dX7_tellsOf_29 ?_
  refine z_istore C [(5, .int ((x3 - (S 0 (Int32.toNatClampNeg ((x1 + ((4 : Int32) * x2)) + (1 : Int32))))) / (360 : Int32))), (4, .int (S 0 (Int32.toNatClampNeg (x1 + ((4 : Int32) * x2))))), (0, .ref (a 0)), (1, .int x1), (2, .int x2), (3, .int x3)] (by decide) rfl dX7_tellsOf_30 ?_
  refine z_iload C 1 rfl dX7_tellsOf_32 ?_
  refine z_iconst C (v := (2 : Int32)) (by decide) dX7_tellsOf_34 ?_
  refine z_icmp_ne C 55 (by decide) h dX7_tellsOf_35 (fun hc h => ?_) (fun hc h => ?_)
  · refine z_iload C 0 rfl dX7_tellsOf_38 ?_
    refine z_iconst C (v := (3 : Int32)) (by decide) dX7_tellsOf_40 ?_
    refine z_icmp_le C 51 (by decide) h dX7_tellsOf_41 (fun hc h => ?_) (fun hc h => ?_)
    · refine z_iconst C (v := (0 : Int32)) (by decide) dX7_tellsOf_51 ?_
      refine z_goto C 57 (by decide) dX7_tellsOf_52 ?_
      refine Zt_l [(0, .ref (a 0)), (4, .int (S 0 (Int32.toNatClampNeg (x1 + ((4 : Int32) * x2)))))] [2, 1] rfl ?_
      exact L_X7_tellsOf_57 a C R (S 0 (Int32.toNatClampNeg (x1 + ((4 : Int32) * x2)))) (0 : Int32) S h
    · refine z_iload C 0 rfl dX7_tellsOf_44 ?_
      refine z_iconst C (v := (3 : Int32)) (by decide) dX7_tellsOf_46 ?_
      refine z_isub C dX7_tellsOf_47 ?_
      refine z_goto C 57 (by decide) dX7_tellsOf_48 ?_
      refine Zt_l [(0, .ref (a 0)), (4, .int (S 0 (Int32.toNatClampNeg (x1 + ((4 : Int32) * x2)))))] [2, 1] rfl ?_
      exact L_X7_tellsOf_57 a C R (S 0 (Int32.toNatClampNeg (x1 + ((4 : Int32) * x2)))) (((x3 - (S 0 (Int32.toNatClampNeg ((x1 + ((4 : Int32) * x2)) + (1 : Int32))))) / (360 : Int32)) - (3 : Int32)) S h
  · refine z_iload C 0 rfl dX7_tellsOf_55 ?_
    refine Zt_l [(0, .ref (a 0)), (4, .int (S 0 (Int32.toNatClampNeg (x1 + ((4 : Int32) * x2)))))] [2, 1] rfl ?_
    exact L_X7_tellsOf_57 a C R (S 0 (Int32.toNatClampNeg (x1 + ((4 : Int32) * x2)))) ((x3 - (S 0 (Int32.toNatClampNeg ((x1 + ((4 : Int32) * x2)) + (1 : Int32))))) / (360 : Int32)) S h

theorem c_X7_tellsOf (E : zEnv) (a : Nat → Nat) (x1 : Int32) (x2 : Int32) (x3 : Int32) (S : St) {res : St} (h : f_X7_tellsOf x1 x2 x3 S = some res) : Ktv E yX7_tellsOf wsX7_tellsOf rm_X7_tellsOf (wModel E a S) (wModel E a res) [.ref (a 0), .int x1, .int x2, .int x3] :=
  z_entv (cc := cX7_tellsOf) (maxL := 6) (by decide +kernel) rfl (Nat.le_of_ble_eq_true rfl) (fun Γ C R => L_X7_tellsOf a C R x1 x2 x3 S h)

abbrev rm_X7_toldBy : Room := { frames := 0, cells := 0, slots := 0, locals := 0 }
theorem inw_X7_toldBy_X7 : ∀ w ∈ wsX70, w ∈ wsX7_toldBy := fun _ h => List.mem_cons_of_mem _ (List.mem_append_right _ h)
noncomputable def f_X7_toldBy (x1 : Int32) (S : St) : Option Int32 := (if (S 19 0) = 0 then (some (-4 : Int32)) else (if x1 = 0 then (some (S 21 0)) else (if x1 = (1 : Int32) then (some (S 22 0)) else (if x1 = (2 : Int32) then (some (S 20 0)) else (nz (S 19 0) (some ((S 20 0) / (S 19 0))))))))
set_option maxHeartbeats 4000000 in
set_option maxRecDepth 100000 in
theorem L_X7_toldBy {E : zEnv} {Γ : zG} (a : Nat → Nat) (C : zC E Γ cX7_toldBy RX7 2 rm_X7_toldBy wsX7_toldBy) {res : Int32} {S : St} (R : zRi E Γ cX7_toldBy 2 .int (wModel E a S) res) (x1 : Int32) (h : f_X7_toldBy x1 S = some res) : Zt E Γ 2 0 0 (wModel E a S) [(0, .ref (a 0)), (1, .int x1)] 0 [] := by
  unfold f_X7_toldBy at h
  refine z_aload_n C 0 rfl rfl dX7_toldBy_0 ?_
  refine z_get C 0 rfl (C := RX7) (T := TX7) (N := 38) (ci := 7) rfl inw_X7_toldBy_X7 19 (by decide) (ref := "EldestAgeModel") (List.mem_of_getElem? (i := 1) rfl) rfl (v := .int (S 19 0)) rfl dX7_toldBy_1 ?_
  refine z_if_ne C 10 (by decide) h dX7_toldBy_4 (fun hc h => ?_) (fun hc h => ?_)
  · refine z_bipush C (v := (-4 : Int32)) (by decide) dX7_toldBy_7 ?_
    obtain rfl := Option.some.inj h
    exact R rfl 9 _ dX7_toldBy_9
  · refine z_iload_n C 1 rfl rfl dX7_toldBy_10 ?_
    refine z_if_ne C 21 (by decide) h dX7_toldBy_11 (fun hc h => ?_) (fun hc h => ?_)
    · refine z_aload_n C 0 rfl rfl dX7_toldBy_14 ?_
      refine z_get C 0 rfl (C := RX7) (T := TX7) (N := 38) (ci := 7) rfl inw_X7_toldBy_X7 21 (by decide) (ref := "EldestAgeModel") (List.mem_of_getElem? (i := 2) rfl) rfl (v := .int (S 21 0)) rfl dX7_toldBy_15 ?_
      refine z_goto C 54 (by decide) dX7_toldBy_18 ?_
      obtain rfl := Option.some.inj h
      exact R rfl 54 _ dX7_toldBy_54
    · refine z_iload_n C 1 rfl rfl dX7_toldBy_21 ?_
      refine z_iconst C (v := (1 : Int32)) (by decide) dX7_toldBy_22 ?_
      refine z_icmp_ne C 33 (by decide) h dX7_toldBy_23 (fun hc h => ?_) (fun hc h => ?_)
      · refine z_aload_n C 0 rfl rfl dX7_toldBy_26 ?_
        refine z_get C 0 rfl (C := RX7) (T := TX7) (N := 38) (ci := 7) rfl inw_X7_toldBy_X7 22 (by decide) (ref := "EldestAgeModel") (List.mem_of_getElem? (i := 3) rfl) rfl (v := .int (S 22 0)) rfl dX7_toldBy_27 ?_
        refine z_goto C 54 (by decide) dX7_toldBy_30 ?_
        obtain rfl := Option.some.inj h
        exact R rfl 54 _ dX7_toldBy_54
      · refine z_iload_n C 1 rfl rfl dX7_toldBy_33 ?_
        refine z_iconst C (v := (2 : Int32)) (by decide) dX7_toldBy_34 ?_
        refine z_icmp_ne C 45 (by decide) h dX7_toldBy_35 (fun hc h => ?_) (fun hc h => ?_)
        · refine z_aload_n C 0 rfl rfl dX7_toldBy_38 ?_
          refine z_get C 0 rfl (C := RX7) (T := TX7) (N := 38) (ci := 7) rfl inw_X7_toldBy_X7 20 (by decide) (ref := "EldestAgeModel") (List.mem_of_getElem? (i := 4) rfl) rfl (v := .int (S 20 0)) rfl dX7_toldBy_39 ?_
          refine z_goto C 54 (by decide) dX7_toldBy_42 ?_
          obtain rfl := Option.some.inj h
          exact R rfl 54 _ dX7_toldBy_54
        · refine z_aload_n C 0 rfl rfl dX7_toldBy_45 ?_
          refine z_get C 0 rfl (C := RX7) (T := TX7) (N := 38) (ci := 7) rfl inw_X7_toldBy_X7 20 (by decide) (ref := "EldestAgeModel") (List.mem_of_getElem? (i := 4) rfl) rfl (v := .int (S 20 0)) rfl dX7_toldBy_46 ?_
          refine z_aload_n C 0 rfl rfl dX7_toldBy_49 ?_
          refine z_get C 0 rfl (C := RX7) (T := TX7) (N := 38) (ci := 7) rfl inw_X7_toldBy_X7 19 (by decide) (ref := "EldestAgeModel") (List.mem_of_getElem? (i := 1) rfl) rfl (v := .int (S 19 0)) rfl dX7_toldBy_50 ?_
          refine z_idiv C (nz_e h).1 dX7_toldBy_53 ?_
          replace h := (nz_e h).2
          obtain rfl := Option.some.inj h
          exact R rfl 54 _ dX7_toldBy_54

theorem c_X7_toldBy (E : zEnv) (a : Nat → Nat) (x1 : Int32) (S : St) {res : Int32} (h : f_X7_toldBy x1 S = some res) : Kti E yX7_toldBy wsX7_toldBy rm_X7_toldBy (wModel E a S) (wModel E a S) [.ref (a 0), .int x1] res :=
  z_enti (cc := cX7_toldBy) (maxL := 2) (rt := .int) (by decide +kernel) rfl (Nat.le_of_ble_eq_true rfl) (fun Γ C R => L_X7_toldBy a C R x1 h)

abbrev rm_X7_layHouse : Room := { frames := 2, cells := 0, slots := 0, locals := 47 }
theorem inw_X7_layHouse_X7 : ∀ w ∈ wsX70, w ∈ wsX7_layHouse := fun _ h => List.mem_cons_of_mem _ (List.mem_append_right _ h)
set_option maxHeartbeats 4000000 in
theorem wl_X7_layHouse_0 (E : zEnv) (a : Nat → Nat) (S : St) : ([0, 1, 2, 3, 4, 5, 6, 7, 8, 9, 10, 11, 12, 13, 14, 15, 16] : List Nat).map (fun i => (wModel E a S)[i]?) = (wModel E a S).map some := rfl
set_option maxHeartbeats 4000000 in
theorem wl_X7_layHouse_1 (E : zEnv) (a : Nat → Nat) (S U : St) : (wModel E a U).map (fun q => q.1) = (wModel E a S).map (fun q => q.1) := rfl
set_option maxHeartbeats 4000000 in
theorem wl_X7_layHouse_2 (E : zEnv) (a : Nat → Nat) (S U : St) : (wModel E a U) = zrep [0, 1, 2, 3, 4, 5, 6, 7, 8, 9, 10, 11, 12, 13, 14, 15, 16] (wModel E a U) (wModel E a S) := zrep_of (isR := []) 17 rfl [] rfl rfl rfl rfl (by decide +kernel) (by decide +kernel)
noncomputable def f_X7_layHouse_52 (k7 : Int32 → Int32 → Int32 → Int32 → St → Option St) (x1 : Int32) (x2 : Int32) (x3 : Int32) (x4 : Int32) (S : St) : Option St := (k7 x1 x2 x3 (x4 + (1 : Int32)) S)
noncomputable def f_X7_layHouse_7 (n : Nat) : Int32 → Int32 → Int32 → Int32 → St → Option St := Nat.rec (motive := fun _ => Int32 → Int32 → Int32 → Int32 → St → Option St) (fun _ _ _ _ _ => none) (fun _ ih => fun x1 x2 x3 x4 S => (ix (x1 + (88 : Int32)) 368 (if (S 0 (Int32.toNatClampNeg (x1 + (88 : Int32)))) ≤ x4 then (some S) else ((f_X7_isAlive x1 x4 x3 S).bind (fun q1 => (if q1 = 0 then (f_X7_layHouse_52 ih x1 x2 x3 x4 S) else ((f_X7_homeOf x1 x4 x3 S).bind (fun q2 => (if q2 = x2 then ((f_X7_tellsOf x1 x4 x3 S).bind (fun q3 => (f_X7_layHouse_52 ih x1 x2 x3 x4 q3))) else (f_X7_layHouse_52 ih x1 x2 x3 x4 S)))))))))) n
theorem f_X7_layHouse_7_s (n : Nat) (x1 : Int32) (x2 : Int32) (x3 : Int32) (x4 : Int32) (S : St) : f_X7_layHouse_7 (n + 1) x1 x2 x3 x4 S = (ix (x1 + (88 : Int32)) 368 (if (S 0 (Int32.toNatClampNeg (x1 + (88 : Int32)))) ≤ x4 then (some S) else ((f_X7_isAlive x1 x4 x3 S).bind (fun q1 => (if q1 = 0 then (f_X7_layHouse_52 (f_X7_layHouse_7 n) x1 x2 x3 x4 S) else ((f_X7_homeOf x1 x4 x3 S).bind (fun q2 => (if q2 = x2 then ((f_X7_tellsOf x1 x4 x3 S).bind (fun q3 => (f_X7_layHouse_52 (f_X7_layHouse_7 n) x1 x2 x3 x4 q3))) else (f_X7_layHouse_52 (f_X7_layHouse_7 n) x1 x2 x3 x4 S))))))))) := rfl
noncomputable def f_X7_layHouse (x1 : Int32) (x2 : Int32) (x3 : Int32) (S : St) : Option St := ((f_X7_empties S).bind (fun q4 => (f_X7_layHouse_7 1000 x1 x2 x3 (0 : Int32) q4)))
set_option maxHeartbeats 4000000 in
set_option maxRecDepth 100000 in
theorem L_X7_layHouse_52 {E : zEnv} {Γ : zG} (a : Nat → Nat) (C : zC E Γ cX7_layHouse RX7 5 rm_X7_layHouse wsX7_layHouse) {res : St} (R : zRv E Γ cX7_layHouse 5 (wModel E a res)) (k7 : Int32 → Int32 → Int32 → Int32 → St → Option St) (hk7 : ∀ (x1 : Int32) (x2 : Int32) (x3 : Int32) (x4 : Int32) (S : St), k7 x1 x2 x3 x4 S = some res → Zt E Γ 5 0 0 (wModel E a S) [(0, .ref (a 0)), (1, .int x1), (2, .int x2), (3, .int x3), (4, .int x4)] 7 []) (x1 : Int32) (x2 : Int32) (x3 : Int32) (x4 : Int32) (S : St) (h : f_X7_layHouse_52 k7 x1 x2 x3 x4 S = some res) : Zt E Γ 5 0 0 (wModel E a S) [(0, .ref (a 0)), (1, .int x1), (2, .int x2), (3, .int x3), (4, .int x4)] 52 [] := by
  unfold f_X7_layHouse_52 at h
  refine z_iinc C [(4, .int (x4 + (1 : Int32))), (0, .ref (a 0)), (1, .int x1), (2, .int x2), (3, .int x3)] 4 rfl (by first | rfl | decide) (by decide) rfl dX7_layHouse_52 ?_
  refine z_goto C 7 (by decide) dX7_layHouse_55 ?_
  refine Zt_l [(0, .ref (a 0)), (1, .int x1), (2, .int x2), (3, .int x3), (4, .int (x4 + (1 : Int32)))] [1, 2, 3, 4, 0] rfl ?_
  exact hk7 x1 x2 x3 (x4 + (1 : Int32)) S h

set_option maxHeartbeats 4000000 in
set_option maxRecDepth 100000 in
theorem L_X7_layHouse_7 {E : zEnv} {Γ : zG} (a : Nat → Nat) (C : zC E Γ cX7_layHouse RX7 5 rm_X7_layHouse wsX7_layHouse) {res : St} (R : zRv E Γ cX7_layHouse 5 (wModel E a res)) : ∀ (n : Nat) (x1 : Int32) (x2 : Int32) (x3 : Int32) (x4 : Int32) (S : St), f_X7_layHouse_7 n x1 x2 x3 x4 S = some res → Zt E Γ 5 0 0 (wModel E a S) [(0, .ref (a 0)), (1, .int x1), (2, .int x2), (3, .int x3), (4, .int x4)] 7 [] := by
  intro n
  induction n with
  | zero =>
    intro x1 x2 x3 x4 S h
    cases h
  | succ n ih =>
    intro x1 x2 x3 x4 S h
    rw [f_X7_layHouse_7_s] at h
    refine z_iload C 4 rfl dX7_layHouse_7 ?_
    refine z_aload_n C 0 rfl rfl dX7_layHouse_9 ?_
    refine z_get C 0 rfl (C := RX7) (T := TX7) (N := 38) (ci := 7) rfl inw_X7_layHouse_X7 0 (by decide) (ref := "EldestAgeModel") (List.mem_of_getElem? (i := 1) rfl) rfl (v := .ref (a 1)) rfl dX7_layHouse_10 ?_
    refine z_iload_n C 1 rfl rfl dX7_layHouse_13 ?_
    refine z_bipush C (v := (88 : Int32)) (by decide) dX7_layHouse_14 ?_
    refine z_iadd C dX7_layHouse_16 ?_
    refine z_iald C (N := 368) (f := (S 0)) 1 rfl h dX7_layHouse_17 (fun h => ?_)
    refine z_icmp_ge C 58 (by decide) h dX7_layHouse_18 (fun hc h => ?_) (fun hc h => ?_)
    · obtain rfl := Option.some.inj h
      exact R 58 _ dX7_layHouse_58
    · refine z_aload_n C 0 rfl rfl dX7_layHouse_21 ?_
      refine z_iload_n C 1 rfl rfl dX7_layHouse_22 ?_
      refine z_iload C 4 rfl dX7_layHouse_23 ?_
      refine z_iload_n C 3 rfl rfl dX7_layHouse_25 ?_
      obtain ⟨q1, e1, h⟩ := bd_e h
      refine z_callVi C (b := a 0) (As := [.int x1, .int x4, .int x3]) (rest := []) (c_X7_isAlive E a x1 x4 x3 S e1) rfl gX7_layHouse_X7_isAlive rfl rfl rfl 3 rfl (by decide +kernel) ⟨Nat.le_of_ble_eq_true rfl, Nat.le_of_ble_eq_true rfl⟩ [0, 1, 2, 3, 4, 5, 6, 7, 8, 9, 10, 11, 12, 13, 14, 15, 16] (wl_X7_layHouse_0 E a S) (by decide) rfl (wModel E a S) (zrep_self (wl_X7_layHouse_0 E a S)) 0 7 rfl rfl rfl (Nat.le_of_ble_eq_true rfl) dX7_layHouse_26 ⟨Nat.zero_le _, Nat.zero_le _⟩ _ rfl ?_
      refine z_if_eq C 52 (by decide) h dX7_layHouse_29 (fun hc h => ?_) (fun hc h => ?_)
      · exact L_X7_layHouse_52 a C R _ ih x1 x2 x3 x4 S h
      · refine z_aload_n C 0 rfl rfl dX7_layHouse_32 ?_
        refine z_iload_n C 1 rfl rfl dX7_layHouse_33 ?_
        refine z_iload C 4 rfl dX7_layHouse_34 ?_
        refine z_iload_n C 3 rfl rfl dX7_layHouse_36 ?_
        obtain ⟨q2, e2, h⟩ := bd_e h
        refine z_callVi C (b := a 0) (As := [.int x1, .int x4, .int x3]) (rest := []) (c_X7_homeOf E a x1 x4 x3 S e2) rfl gX7_layHouse_X7_homeOf rfl rfl rfl 3 rfl (by decide +kernel) ⟨Nat.le_of_ble_eq_true rfl, Nat.le_of_ble_eq_true rfl⟩ [0, 1, 2, 3, 4, 5, 6, 7, 8, 9, 10, 11, 12, 13, 14, 15, 16] (wl_X7_layHouse_0 E a S) (by decide) rfl (wModel E a S) (zrep_self (wl_X7_layHouse_0 E a S)) 0 7 rfl rfl rfl (Nat.le_of_ble_eq_true rfl) dX7_layHouse_37 ⟨Nat.zero_le _, Nat.zero_le _⟩ _ rfl ?_
        refine z_iload_n C 2 rfl rfl dX7_layHouse_40 ?_
        refine z_icmp_ne C 52 (by decide) h dX7_layHouse_41 (fun hc h => ?_) (fun hc h => ?_)
        · refine z_aload_n C 0 rfl rfl dX7_layHouse_44 ?_
          refine z_iload_n C 1 rfl rfl dX7_layHouse_45 ?_
          refine z_iload C 4 rfl dX7_layHouse_46 ?_
          refine z_iload_n C 3 rfl rfl dX7_layHouse_48 ?_
          obtain ⟨q3, e3, h⟩ := bd_e h
          refine z_callVv C (b := a 0) (As := [.int x1, .int x4, .int x3]) (rest := []) (c_X7_tellsOf E a x1 x4 x3 S e3) rfl gX7_layHouse_X7_tellsOf rfl rfl rfl 3 rfl (by decide +kernel) ⟨Nat.le_of_ble_eq_true rfl, Nat.le_of_ble_eq_true rfl⟩ [0, 1, 2, 3, 4, 5, 6, 7, 8, 9, 10, 11, 12, 13, 14, 15, 16] (wl_X7_layHouse_0 E a S) (by decide) (wl_X7_layHouse_1 E a _ _) (wModel E a q3) (wl_X7_layHouse_2 E a S q3) 0 7 rfl rfl rfl (Nat.le_of_ble_eq_true rfl) dX7_layHouse_49 ⟨Nat.zero_le _, Nat.zero_le _⟩ _ rfl ?_
          exact L_X7_layHouse_52 a C R _ ih x1 x2 x3 x4 q3 h
        · exact L_X7_layHouse_52 a C R _ ih x1 x2 x3 x4 S h

set_option maxHeartbeats 4000000 in
set_option maxRecDepth 100000 in
theorem L_X7_layHouse {E : zEnv} {Γ : zG} (a : Nat → Nat) (C : zC E Γ cX7_layHouse RX7 5 rm_X7_layHouse wsX7_layHouse) {res : St} (R : zRv E Γ cX7_layHouse 5 (wModel E a res)) (x1 : Int32) (x2 : Int32) (x3 : Int32) (S : St) (h : f_X7_layHouse x1 x2 x3 S = some res) : Zt E Γ 5 0 0 (wModel E a S) [(0, .ref (a 0)), (1, .int x1), (2, .int x2), (3, .int x3)] 0 [] := by
  unfold f_X7_layHouse at h
  refine z_aload_n C 0 rfl rfl dX7_layHouse_0 ?_
  obtain ⟨q4, e4, h⟩ := bd_e h
  refine z_callVv C (b := a 0) (As := []) (rest := []) (c_X7_empties E a S e4) rfl gX7_layHouse_X7_empties rfl rfl rfl 0 rfl (by decide +kernel) ⟨Nat.le_of_ble_eq_true rfl, Nat.le_of_ble_eq_true rfl⟩ [0, 1, 2, 3, 4, 5, 6, 7, 8, 9, 10, 11, 12, 13, 14, 15, 16] (wl_X7_layHouse_0 E a S) (by decide) (wl_X7_layHouse_1 E a _ _) (wModel E a q4) (wl_X7_layHouse_2 E a S q4) 0 7 rfl rfl rfl (Nat.le_of_ble_eq_true rfl) dX7_layHouse_1 ⟨Nat.zero_le _, Nat.zero_le _⟩ _ rfl ?_
  refine z_iconst C (v := (0 : Int32)) (by decide) dX7_layHouse_4 ?_
  refine z_istore C [(4, .int (0 : Int32)), (0, .ref (a 0)), (1, .int x1), (2, .int x2), (3, .int x3)] (by decide) rfl dX7_layHouse_5 ?_
  refine Zt_l [(0, .ref (a 0)), (1, .int x1), (2, .int x2), (3, .int x3), (4, .int (0 : Int32))] [1, 2, 3, 4, 0] rfl ?_
  exact L_X7_layHouse_7 a C R 1000 x1 x2 x3 (0 : Int32) q4 h

theorem c_X7_layHouse (E : zEnv) (a : Nat → Nat) (x1 : Int32) (x2 : Int32) (x3 : Int32) (S : St) {res : St} (h : f_X7_layHouse x1 x2 x3 S = some res) : Ktv E yX7_layHouse wsX7_layHouse rm_X7_layHouse (wModel E a S) (wModel E a res) [.ref (a 0), .int x1, .int x2, .int x3] :=
  z_entv (cc := cX7_layHouse) (maxL := 5) (by decide +kernel) rfl (Nat.le_of_ble_eq_true rfl) (fun Γ C R => L_X7_layHouse a C R x1 x2 x3 S h)

abbrev rm_X7_numberOf : Room := { frames := 3, cells := 0, slots := 0, locals := 71 }
theorem inw_X7_numberOf_X7 : ∀ w ∈ wsX70, w ∈ wsX7_numberOf := fun _ h => List.mem_cons_of_mem _ (List.mem_append_right _ h)
set_option maxHeartbeats 4000000 in
theorem wl_X7_numberOf_0 (E : zEnv) (a : Nat → Nat) (S : St) : ([0, 1, 2, 3, 4, 5, 6, 7, 8, 9, 10, 11, 12, 13, 14, 15, 16] : List Nat).map (fun i => (wModel E a S)[i]?) = (wModel E a S).map some := rfl
set_option maxHeartbeats 4000000 in
theorem wl_X7_numberOf_1 (E : zEnv) (a : Nat → Nat) (S U : St) : (wModel E a U).map (fun q => q.1) = (wModel E a S).map (fun q => q.1) := rfl
set_option maxHeartbeats 4000000 in
theorem wl_X7_numberOf_2 (E : zEnv) (a : Nat → Nat) (S U : St) : (wModel E a U) = zrep [0, 1, 2, 3, 4, 5, 6, 7, 8, 9, 10, 11, 12, 13, 14, 15, 16] (wModel E a U) (wModel E a S) := zrep_of (isR := []) 17 rfl [] rfl rfl rfl rfl (by decide +kernel) (by decide +kernel)
noncomputable def f_X7_numberOf (x1 : Int32) (x2 : Int32) (x3 : Int32) (x4 : Int32) (S : St) : Option (Int32 × St) := ((f_X7_layHouse x1 x2 x3 S).bind (fun q1 => ((f_X7_toldBy x4 q1).bind (fun q2 => (some (q2, q1))))))
set_option maxHeartbeats 4000000 in
set_option maxRecDepth 100000 in
theorem L_X7_numberOf {E : zEnv} {Γ : zG} (a : Nat → Nat) (C : zC E Γ cX7_numberOf RX7 5 rm_X7_numberOf wsX7_numberOf) {res : (Int32 × St)} (R : zRi E Γ cX7_numberOf 5 .int (wModel E a res.2) res.1) (x1 : Int32) (x2 : Int32) (x3 : Int32) (x4 : Int32) (S : St) (h : f_X7_numberOf x1 x2 x3 x4 S = some res) : Zt E Γ 5 0 0 (wModel E a S) [(0, .ref (a 0)), (1, .int x1), (2, .int x2), (3, .int x3), (4, .int x4)] 0 [] := by
  unfold f_X7_numberOf at h
  refine z_aload_n C 0 rfl rfl dX7_numberOf_0 ?_
  refine z_iload_n C 1 rfl rfl dX7_numberOf_1 ?_
  refine z_iload_n C 2 rfl rfl dX7_numberOf_2 ?_
  refine z_iload_n C 3 rfl rfl dX7_numberOf_3 ?_
  obtain ⟨q1, e1, h⟩ := bd_e h
  refine z_callVv C (b := a 0) (As := [.int x1, .int x2, .int x3]) (rest := []) (c_X7_layHouse E a x1 x2 x3 S e1) rfl gX7_numberOf_X7_layHouse rfl rfl rfl 3 rfl (by decide +kernel) ⟨Nat.le_of_ble_eq_true rfl, Nat.le_of_ble_eq_true rfl⟩ [0, 1, 2, 3, 4, 5, 6, 7, 8, 9, 10, 11, 12, 13, 14, 15, 16] (wl_X7_numberOf_0 E a S) (by decide) (wl_X7_numberOf_1 E a _ _) (wModel E a q1) (wl_X7_numberOf_2 E a S q1) 0 7 rfl rfl rfl (Nat.le_of_ble_eq_true rfl) dX7_numberOf_4 ⟨Nat.zero_le _, Nat.zero_le _⟩ _ rfl ?_
  refine z_aload_n C 0 rfl rfl dX7_numberOf_7 ?_
  refine z_iload C 4 rfl dX7_numberOf_8 ?_
  obtain ⟨q2, e2, h⟩ := bd_e h
  refine z_callVi C (b := a 0) (As := [.int x4]) (rest := []) (c_X7_toldBy E a x4 q1 e2) rfl gX7_numberOf_X7_toldBy rfl rfl rfl 1 rfl (by decide +kernel) ⟨Nat.le_of_ble_eq_true rfl, Nat.le_of_ble_eq_true rfl⟩ [0, 1, 2, 3, 4, 5, 6, 7, 8, 9, 10, 11, 12, 13, 14, 15, 16] (wl_X7_numberOf_0 E a q1) (by decide) rfl (wModel E a q1) (zrep_self (wl_X7_numberOf_0 E a q1)) 0 7 rfl rfl rfl (Nat.le_of_ble_eq_true rfl) dX7_numberOf_10 ⟨Nat.zero_le _, Nat.zero_le _⟩ _ rfl ?_
  obtain rfl := Option.some.inj h
  exact R rfl 13 _ dX7_numberOf_13

theorem c_X7_numberOf (E : zEnv) (a : Nat → Nat) (x1 : Int32) (x2 : Int32) (x3 : Int32) (x4 : Int32) (S : St) {res : (Int32 × St)} (h : f_X7_numberOf x1 x2 x3 x4 S = some res) : Kti E yX7_numberOf wsX7_numberOf rm_X7_numberOf (wModel E a S) (wModel E a res.2) [.ref (a 0), .int x1, .int x2, .int x3, .int x4] res.1 :=
  z_enti (cc := cX7_numberOf) (maxL := 5) (rt := .int) (by decide +kernel) rfl (Nat.le_of_ble_eq_true rfl) (fun Γ C R => L_X7_numberOf a C R x1 x2 x3 x4 S h)

abbrev rm_X7_numberNow : Room := { frames := 4, cells := 0, slots := 0, locals := 95 }
theorem inw_X7_numberNow_X7 : ∀ w ∈ wsX70, w ∈ wsX7_numberNow := fun _ h => List.mem_cons_of_mem _ (List.mem_append_right _ h)
set_option maxHeartbeats 4000000 in
theorem wl_X7_numberNow_0 (E : zEnv) (a : Nat → Nat) (S : St) : ([0, 1, 2, 3, 4, 5, 6, 7, 8, 9, 10, 11, 12, 13, 14, 15, 16] : List Nat).map (fun i => (wModel E a S)[i]?) = (wModel E a S).map some := rfl
set_option maxHeartbeats 4000000 in
theorem wl_X7_numberNow_1 (E : zEnv) (a : Nat → Nat) (S U : St) : (wModel E a U).map (fun q => q.1) = (wModel E a S).map (fun q => q.1) := rfl
set_option maxHeartbeats 4000000 in
theorem wl_X7_numberNow_2 (E : zEnv) (a : Nat → Nat) (S U : St) : (wModel E a U) = zrep [0, 1, 2, 3, 4, 5, 6, 7, 8, 9, 10, 11, 12, 13, 14, 15, 16] (wModel E a U) (wModel E a S) := zrep_of (isR := []) 17 rfl [] rfl rfl rfl rfl (by decide +kernel) (by decide +kernel)
noncomputable def f_X7_numberNow (x1 : Int32) (x2 : Int32) (S : St) : Option (Int32 × St) := (ix (91 : Int32) 368 ((f_X7_numberOf (0 : Int32) x1 x2 (S 0 (Int32.toNatClampNeg (91 : Int32))) S).bind (fun q1 => (some (q1.1, q1.2)))))
set_option maxHeartbeats 4000000 in
set_option maxRecDepth 100000 in
theorem L_X7_numberNow {E : zEnv} {Γ : zG} (a : Nat → Nat) (C : zC E Γ cX7_numberNow RX7 3 rm_X7_numberNow wsX7_numberNow) {res : (Int32 × St)} (R : zRi E Γ cX7_numberNow 3 .int (wModel E a res.2) res.1) (x1 : Int32) (x2 : Int32) (S : St) (h : f_X7_numberNow x1 x2 S = some res) : Zt E Γ 3 0 0 (wModel E a S) [(0, .ref (a 0)), (1, .int x1), (2, .int x2)] 0 [] := by
  unfold f_X7_numberNow at h
  refine z_aload_n C 0 rfl rfl dX7_numberNow_0 ?_
  refine z_iconst C (v := (0 : Int32)) (by decide) dX7_numberNow_1 ?_
  refine z_iload_n C 1 rfl rfl dX7_numberNow_2 ?_
  refine z_iload_n C 2 rfl rfl dX7_numberNow_3 ?_
  refine z_aload_n C 0 rfl rfl dX7_numberNow_4 ?_
  refine z_get C 0 rfl (C := RX7) (T := TX7) (N := 38) (ci := 7) rfl inw_X7_numberNow_X7 0 (by decide) (ref := "EldestAgeModel") (List.mem_of_getElem? (i := 1) rfl) rfl (v := .ref (a 1)) rfl dX7_numberNow_5 ?_
  refine z_bipush C (v := (91 : Int32)) (by decide) dX7_numberNow_8 ?_
  refine z_iald C (N := 368) (f := (S 0)) 1 rfl h dX7_numberNow_10 (fun h => ?_)
  obtain ⟨q1, e1, h⟩ := bd_e h
  refine z_callVi C (b := a 0) (As := [.int (0 : Int32), .int x1, .int x2, .int (S 0 (Int32.toNatClampNeg (91 : Int32)))]) (rest := []) (c_X7_numberOf E a (0 : Int32) x1 x2 (S 0 (Int32.toNatClampNeg (91 : Int32))) S e1) rfl gX7_numberNow_X7_numberOf rfl rfl rfl 4 rfl (by decide +kernel) ⟨Nat.le_of_ble_eq_true rfl, Nat.le_of_ble_eq_true rfl⟩ [0, 1, 2, 3, 4, 5, 6, 7, 8, 9, 10, 11, 12, 13, 14, 15, 16] (wl_X7_numberNow_0 E a S) (by decide) (wl_X7_numberNow_1 E a _ _) (wModel E a q1.2) (wl_X7_numberNow_2 E a S q1.2) 0 7 rfl rfl rfl (Nat.le_of_ble_eq_true rfl) dX7_numberNow_11 ⟨Nat.zero_le _, Nat.zero_le _⟩ _ rfl ?_
  obtain rfl := Option.some.inj h
  exact R rfl 14 _ dX7_numberNow_14

theorem c_X7_numberNow (E : zEnv) (a : Nat → Nat) (x1 : Int32) (x2 : Int32) (S : St) {res : (Int32 × St)} (h : f_X7_numberNow x1 x2 S = some res) : Kti E yX7_numberNow wsX7_numberNow rm_X7_numberNow (wModel E a S) (wModel E a res.2) [.ref (a 0), .int x1, .int x2] res.1 :=
  z_enti (cc := cX7_numberNow) (maxL := 3) (rt := .int) (by decide +kernel) rfl (Nat.le_of_ble_eq_true rfl) (fun Γ C R => L_X7_numberNow a C R x1 x2 S h)

abbrev rm_X7_number : Room := { frames := 5, cells := 0, slots := 0, locals := 117 }
theorem inw_X7_number_X7 : ∀ w ∈ wsX70, w ∈ wsX7_number := fun _ h => List.mem_cons_of_mem _ (List.mem_append_right _ h)
set_option maxHeartbeats 4000000 in
theorem wl_X7_number_0 (E : zEnv) (a : Nat → Nat) (S : St) : ([0, 1, 2, 3, 4, 5, 6, 7, 8, 9, 10, 11, 12, 13, 14, 15, 16] : List Nat).map (fun i => (wModel E a S)[i]?) = (wModel E a S).map some := rfl
set_option maxHeartbeats 4000000 in
theorem wl_X7_number_1 (E : zEnv) (a : Nat → Nat) (S U : St) : (wModel E a U).map (fun q => q.1) = (wModel E a S).map (fun q => q.1) := rfl
set_option maxHeartbeats 4000000 in
theorem wl_X7_number_2 (E : zEnv) (a : Nat → Nat) (S U : St) : (wModel E a U) = zrep [0, 1, 2, 3, 4, 5, 6, 7, 8, 9, 10, 11, 12, 13, 14, 15, 16] (wModel E a U) (wModel E a S) := zrep_of (isR := []) 17 rfl [] rfl rfl rfl rfl (by decide +kernel) (by decide +kernel)
noncomputable def f_X7_number (x1 : Int32) (x2 : Int32) (S : St) : Option (Int32 × St) := ((f_X7_isHouse x1 S).bind (fun q1 => (if q1 = 0 then (some ((-1 : Int32), S)) else ((f_X7_isDay x2).bind (fun q2 => (if q2 = 0 then (some ((-1 : Int32), S)) else ((f_X7_numberNow x1 x2 S).bind (fun q3 => (some (q3.1, q3.2))))))))))
set_option maxHeartbeats 4000000 in
set_option maxRecDepth 100000 in
theorem L_X7_number {E : zEnv} {Γ : zG} (a : Nat → Nat) (C : zC E Γ cX7_number RX7 3 rm_X7_number wsX7_number) {res : (Int32 × St)} (R : zRi E Γ cX7_number 3 .int (wModel E a res.2) res.1) (x1 : Int32) (x2 : Int32) (S : St) (h : f_X7_number x1 x2 S = some res) : Zt E Γ 3 0 0 (wModel E a S) [(0, .ref (a 0)), (1, .int x1), (2, .int x2)] 0 [] := by
  unfold f_X7_number at h
  refine z_aload_n C 0 rfl rfl dX7_number_0 ?_
  refine z_iload_n C 1 rfl rfl dX7_number_1 ?_
  obtain ⟨q1, e1, h⟩ := bd_e h
  refine z_callVi C (b := a 0) (As := [.int x1]) (rest := []) (c_X7_isHouse E a x1 S e1) rfl gX7_number_X7_isHouse rfl rfl rfl 1 rfl (by decide +kernel) ⟨Nat.le_of_ble_eq_true rfl, Nat.le_of_ble_eq_true rfl⟩ [0, 1, 2, 3, 4, 5, 6, 7, 8, 9, 10, 11, 12, 13, 14, 15, 16] (wl_X7_number_0 E a S) (by decide) rfl (wModel E a S) (zrep_self (wl_X7_number_0 E a S)) 0 7 rfl rfl rfl (Nat.le_of_ble_eq_true rfl) dX7_number_2 ⟨Nat.zero_le _, Nat.zero_le _⟩ _ rfl ?_
  refine z_if_eq C 24 (by decide) h dX7_number_5 (fun hc h => ?_) (fun hc h => ?_)
  · refine z_iconst C (v := (-1 : Int32)) (by decide) dX7_number_24 ?_
    obtain rfl := Option.some.inj h
    exact R rfl 25 _ dX7_number_25
  · refine z_iload_n C 2 rfl rfl dX7_number_8 ?_
    obtain ⟨q2, e2, h⟩ := bd_e h
    refine z_callSi C (rest := []) (c_X7_isDay E x2 e2) gX7_number_X7_isDay rfl rfl rfl 1 rfl (by decide +kernel) ⟨Nat.le_of_ble_eq_true rfl, Nat.le_of_ble_eq_true rfl⟩ [] rfl (by decide) rfl (wModel E a S) rfl (Nat.le_of_ble_eq_true rfl) dX7_number_9 ⟨Nat.zero_le _, Nat.zero_le _⟩ _ rfl ?_
    refine z_if_eq C 24 (by decide) h dX7_number_12 (fun hc h => ?_) (fun hc h => ?_)
    · refine z_iconst C (v := (-1 : Int32)) (by decide) dX7_number_24 ?_
      obtain rfl := Option.some.inj h
      exact R rfl 25 _ dX7_number_25
    · refine z_aload_n C 0 rfl rfl dX7_number_15 ?_
      refine z_iload_n C 1 rfl rfl dX7_number_16 ?_
      refine z_iload_n C 2 rfl rfl dX7_number_17 ?_
      obtain ⟨q3, e3, h⟩ := bd_e h
      refine z_callVi C (b := a 0) (As := [.int x1, .int x2]) (rest := []) (c_X7_numberNow E a x1 x2 S e3) rfl gX7_number_X7_numberNow rfl rfl rfl 2 rfl (by decide +kernel) ⟨Nat.le_of_ble_eq_true rfl, Nat.le_of_ble_eq_true rfl⟩ [0, 1, 2, 3, 4, 5, 6, 7, 8, 9, 10, 11, 12, 13, 14, 15, 16] (wl_X7_number_0 E a S) (by decide) (wl_X7_number_1 E a _ _) (wModel E a q3.2) (wl_X7_number_2 E a S q3.2) 0 7 rfl rfl rfl (Nat.le_of_ble_eq_true rfl) dX7_number_18 ⟨Nat.zero_le _, Nat.zero_le _⟩ _ rfl ?_
      refine z_goto C 25 (by decide) dX7_number_21 ?_
      obtain rfl := Option.some.inj h
      exact R rfl 25 _ dX7_number_25

theorem c_X7_number (E : zEnv) (a : Nat → Nat) (x1 : Int32) (x2 : Int32) (S : St) {res : (Int32 × St)} (h : f_X7_number x1 x2 S = some res) : Kti E yX7_number wsX7_number rm_X7_number (wModel E a S) (wModel E a res.2) [.ref (a 0), .int x1, .int x2] res.1 :=
  z_enti (cc := cX7_number) (maxL := 3) (rt := .int) (by decide +kernel) rfl (Nat.le_of_ble_eq_true rfl) (fun Γ C R => L_X7_number a C R x1 x2 S h)

abbrev rm_X7_with : Room := { frames := 5, cells := 0, slots := 0, locals := 117 }
theorem inw_X7_with_X7 : ∀ w ∈ wsX70, w ∈ wsX7_with := fun _ h => List.mem_cons_of_mem _ (List.mem_append_right _ h)
set_option maxHeartbeats 4000000 in
theorem wl_X7_with_0 (E : zEnv) (a : Nat → Nat) (S : St) : ([0, 1, 2, 3, 4, 5, 6, 7, 8, 9, 10, 11, 12, 13, 14, 15, 16] : List Nat).map (fun i => (wModel E a S)[i]?) = (wModel E a S).map some := rfl
set_option maxHeartbeats 4000000 in
theorem wl_X7_with_1 (E : zEnv) (a : Nat → Nat) (S U : St) : (wModel E a U).map (fun q => q.1) = (wModel E a S).map (fun q => q.1) := rfl
set_option maxHeartbeats 4000000 in
theorem wl_X7_with_2 (E : zEnv) (a : Nat → Nat) (S U : St) : (wModel E a U) = zrep [0, 1, 2, 3, 4, 5, 6, 7, 8, 9, 10, 11, 12, 13, 14, 15, 16] (wModel E a U) (wModel E a S) := zrep_of (isR := []) 17 rfl [] rfl rfl rfl rfl (by decide +kernel) (by decide +kernel)
noncomputable def f_X7_with_60 (k5 : Int32 → Int32 → Int32 → Int32 → St → Option (Int32 × St)) (x1 : Int32) (x2 : Int32) (x4 : Int32) (y0 : Int32) (y1 : Int32) (S : St) : Option (Int32 × St) := (k5 x1 x2 (y0 ||| y1) (x4 + (1 : Int32)) S)
noncomputable def f_X7_with_5 (n : Nat) : Int32 → Int32 → Int32 → Int32 → St → Option (Int32 × St) := Nat.rec (motive := fun _ => Int32 → Int32 → Int32 → Int32 → St → Option (Int32 × St)) (fun _ _ _ _ _ => none) (fun _ ih => fun x1 x2 x3 x4 S => (if (S 1 0) ≤ x4 then (some (x3, S)) else ((f_X7_numberNow x4 x2 S).bind (fun q1 => (if 0 ≤ x1 then (if q1.1 = x1 then (f_X7_with_60 ih x1 x2 x4 x3 ((1 : Int32) <<< (x4 &&& 31)) q1.2) else (f_X7_with_60 ih x1 x2 x4 x3 (0 : Int32) q1.2)) else (if q1.1 = (-4 : Int32) then (f_X7_with_60 ih x1 x2 x4 x3 ((1 : Int32) <<< (x4 &&& 31)) q1.2) else (f_X7_with_60 ih x1 x2 x4 x3 (0 : Int32) q1.2))))))) n
theorem f_X7_with_5_s (n : Nat) (x1 : Int32) (x2 : Int32) (x3 : Int32) (x4 : Int32) (S : St) : f_X7_with_5 (n + 1) x1 x2 x3 x4 S = (if (S 1 0) ≤ x4 then (some (x3, S)) else ((f_X7_numberNow x4 x2 S).bind (fun q1 => (if 0 ≤ x1 then (if q1.1 = x1 then (f_X7_with_60 (f_X7_with_5 n) x1 x2 x4 x3 ((1 : Int32) <<< (x4 &&& 31)) q1.2) else (f_X7_with_60 (f_X7_with_5 n) x1 x2 x4 x3 (0 : Int32) q1.2)) else (if q1.1 = (-4 : Int32) then (f_X7_with_60 (f_X7_with_5 n) x1 x2 x4 x3 ((1 : Int32) <<< (x4 &&& 31)) q1.2) else (f_X7_with_60 (f_X7_with_5 n) x1 x2 x4 x3 (0 : Int32) q1.2)))))) := rfl
noncomputable def f_X7_with (x1 : Int32) (x2 : Int32) (S : St) : Option (Int32 × St) := (f_X7_with_5 1000 x1 x2 (0 : Int32) (0 : Int32) S)
set_option maxHeartbeats 4000000 in
set_option maxRecDepth 100000 in
theorem L_X7_with_60 {E : zEnv} {Γ : zG} (a : Nat → Nat) (C : zC E Γ cX7_with RX7 6 rm_X7_with wsX7_with) {res : (Int32 × St)} (R : zRi E Γ cX7_with 6 .int (wModel E a res.2) res.1) (k5 : Int32 → Int32 → Int32 → Int32 → St → Option (Int32 × St)) (hk5 : ∀ (x1 : Int32) (x2 : Int32) (x3 : Int32) (x4 : Int32) (S : St), k5 x1 x2 x3 x4 S = some res → Zt E Γ 6 0 0 (wModel E a S) [(0, .ref (a 0)), (1, .int x1), (2, .int x2), (3, .int x3), (4, .int x4)] 5 []) (x1 : Int32) (x2 : Int32) (x4 : Int32) (y0 : Int32) (y1 : Int32) (S : St) (h : f_X7_with_60 k5 x1 x2 x4 y0 y1 S = some res) : Zt E Γ 6 0 0 (wModel E a S) [(0, .ref (a 0)), (1, .int x1), (2, .int x2), (4, .int x4)] 60 [.int y1, .int y0] := by
  unfold f_X7_with_60 at h
  refine z_ior C dX7_with_60 ?_
  refine z_istore_n C [(3, .int (y0 ||| y1)), (0, .ref (a 0)), (1, .int x1), (2, .int x2), (4, .int x4)] rfl (by decide) rfl dX7_with_61 ?_
  refine z_iinc C [(4, .int (x4 + (1 : Int32))), (3, .int (y0 ||| y1)), (0, .ref (a 0)), (1, .int x1), (2, .int x2)] 4 rfl (by first | rfl | decide) (by decide) rfl dX7_with_62 ?_
  refine z_goto C 5 (by decide) dX7_with_65 ?_
  refine Zt_l [(0, .ref (a 0)), (1, .int x1), (2, .int x2), (3, .int (y0 ||| y1)), (4, .int (x4 + (1 : Int32)))] [2, 3, 4, 1, 0] rfl ?_
  exact hk5 x1 x2 (y0 ||| y1) (x4 + (1 : Int32)) S h

set_option maxHeartbeats 4000000 in
set_option maxRecDepth 100000 in
theorem L_X7_with_5 {E : zEnv} {Γ : zG} (a : Nat → Nat) (C : zC E Γ cX7_with RX7 6 rm_X7_with wsX7_with) {res : (Int32 × St)} (R : zRi E Γ cX7_with 6 .int (wModel E a res.2) res.1) : ∀ (n : Nat) (x1 : Int32) (x2 : Int32) (x3 : Int32) (x4 : Int32) (S : St), f_X7_with_5 n x1 x2 x3 x4 S = some res → Zt E Γ 6 0 0 (wModel E a S) [(0, .ref (a 0)), (1, .int x1), (2, .int x2), (3, .int x3), (4, .int x4)] 5 [] := by
  intro n
  induction n with
  | zero =>
    intro x1 x2 x3 x4 S h
    cases h
  | succ n ih =>
    intro x1 x2 x3 x4 S h
    rw [f_X7_with_5_s] at h
    refine z_iload C 4 rfl dX7_with_5 ?_
    refine z_aload_n C 0 rfl rfl dX7_with_7 ?_
    refine z_get C 0 rfl (C := RX7) (T := TX7) (N := 38) (ci := 7) rfl inw_X7_with_X7 1 (by decide) (ref := "EldestAgeModel") (List.mem_of_getElem? (i := 1) rfl) rfl (v := .int (S 1 0)) rfl dX7_with_8 ?_
    refine z_icmp_ge C 68 (by decide) h dX7_with_11 (fun hc h => ?_) (fun hc h => ?_)
    · refine z_iload_n C 3 rfl rfl dX7_with_68 ?_
      obtain rfl := Option.some.inj h
      exact R rfl 69 _ dX7_with_69
    · refine z_aload_n C 0 rfl rfl dX7_with_14 ?_
      refine z_iload C 4 rfl dX7_with_15 ?_
      refine z_iload_n C 2 rfl rfl dX7_with_17 ?_
      obtain ⟨q1, e1, h⟩ := bd_e h
      refine z_callVi C (b := a 0) (As := [.int x4, .int x2]) (rest := []) (c_X7_numberNow E a x4 x2 S e1) rfl gX7_with_X7_numberNow rfl rfl rfl 2 rfl (by decide +kernel) ⟨Nat.le_of_ble_eq_true rfl, Nat.le_of_ble_eq_true rfl⟩ [0, 1, 2, 3, 4, 5, 6, 7, 8, 9, 10, 11, 12, 13, 14, 15, 16] (wl_X7_with_0 E a S) (by decide) (wl_X7_with_1 E a _ _) (wModel E a q1.2) (wl_X7_with_2 E a S q1.2) 0 7 rfl rfl rfl (Nat.le_of_ble_eq_true rfl) dX7_with_18 ⟨Nat.zero_le _, Nat.zero_le _⟩ _ rfl ?_
      refine z_istore C [(5, .int q1.1), (0, .ref (a 0)), (1, .int x1), (2, .int x2), (3, .int x3), (4, .int x4)] (by decide) rfl dX7_with_21 ?_
      refine z_iload_n C 4 rfl rfl dX7_with_23 ?_
      refine z_iload_n C 2 rfl rfl dX7_with_24 ?_
      refine z_if_ge C 46 (by decide) h dX7_with_25 (fun hc h => ?_) (fun hc h => ?_)
      · refine z_iload C 0 rfl dX7_with_46 ?_
        refine z_iload_n C 2 rfl rfl dX7_with_48 ?_
        refine z_icmp_ne C 59 (by decide) h dX7_with_49 (fun hc h => ?_) (fun hc h => ?_)
        · refine z_iconst C (v := (1 : Int32)) (by decide) dX7_with_52 ?_
          refine z_iload C 5 rfl dX7_with_53 ?_
          refine z_ishl C dX7_with_55 ?_
          refine z_goto C 60 (by decide) dX7_with_56 ?_
          refine Zt_l [(0, .ref (a 0)), (1, .int x1), (2, .int x2), (4, .int x4)] [1, 2, 3, 5] rfl ?_
          exact L_X7_with_60 a C R _ ih x1 x2 x4 x3 ((1 : Int32) <<< (x4 &&& 31)) q1.2 h
        · refine z_iconst C (v := (0 : Int32)) (by decide) dX7_with_59 ?_
          refine Zt_l [(0, .ref (a 0)), (1, .int x1), (2, .int x2), (4, .int x4)] [1, 2, 3, 5] rfl ?_
          exact L_X7_with_60 a C R _ ih x1 x2 x4 x3 (0 : Int32) q1.2 h
      · refine z_iload C 0 rfl dX7_with_28 ?_
        refine z_bipush C (v := (-4 : Int32)) (by decide) dX7_with_30 ?_
        refine z_icmp_ne C 42 (by decide) h dX7_with_32 (fun hc h => ?_) (fun hc h => ?_)
        · refine z_iconst C (v := (1 : Int32)) (by decide) dX7_with_35 ?_
          refine z_iload C 5 rfl dX7_with_36 ?_
          refine z_ishl C dX7_with_38 ?_
          refine z_goto C 60 (by decide) dX7_with_39 ?_
          refine Zt_l [(0, .ref (a 0)), (1, .int x1), (2, .int x2), (4, .int x4)] [1, 2, 3, 5] rfl ?_
          exact L_X7_with_60 a C R _ ih x1 x2 x4 x3 ((1 : Int32) <<< (x4 &&& 31)) q1.2 h
        · refine z_iconst C (v := (0 : Int32)) (by decide) dX7_with_42 ?_
          refine z_goto C 60 (by decide) dX7_with_43 ?_
          refine Zt_l [(0, .ref (a 0)), (1, .int x1), (2, .int x2), (4, .int x4)] [1, 2, 3, 5] rfl ?_
          exact L_X7_with_60 a C R _ ih x1 x2 x4 x3 (0 : Int32) q1.2 h

set_option maxHeartbeats 4000000 in
set_option maxRecDepth 100000 in
theorem L_X7_with {E : zEnv} {Γ : zG} (a : Nat → Nat) (C : zC E Γ cX7_with RX7 6 rm_X7_with wsX7_with) {res : (Int32 × St)} (R : zRi E Γ cX7_with 6 .int (wModel E a res.2) res.1) (x1 : Int32) (x2 : Int32) (S : St) (h : f_X7_with x1 x2 S = some res) : Zt E Γ 6 0 0 (wModel E a S) [(0, .ref (a 0)), (1, .int x1), (2, .int x2)] 0 [] := by
  unfold f_X7_with at h
  refine z_iconst C (v := (0 : Int32)) (by decide) dX7_with_0 ?_
  refine z_istore_n C [(3, .int (0 : Int32)), (0, .ref (a 0)), (1, .int x1), (2, .int x2)] rfl (by decide) rfl dX7_with_1 ?_
  refine z_iconst C (v := (0 : Int32)) (by decide) dX7_with_2 ?_
  refine z_istore C [(4, .int (0 : Int32)), (3, .int (0 : Int32)), (0, .ref (a 0)), (1, .int x1), (2, .int x2)] (by decide) rfl dX7_with_3 ?_
  refine Zt_l [(0, .ref (a 0)), (1, .int x1), (2, .int x2), (3, .int (0 : Int32)), (4, .int (0 : Int32))] [2, 3, 4, 1, 0] rfl ?_
  exact L_X7_with_5 a C R 1000 x1 x2 (0 : Int32) (0 : Int32) S h

theorem c_X7_with (E : zEnv) (a : Nat → Nat) (x1 : Int32) (x2 : Int32) (S : St) {res : (Int32 × St)} (h : f_X7_with x1 x2 S = some res) : Kti E yX7_with wsX7_with rm_X7_with (wModel E a S) (wModel E a res.2) [.ref (a 0), .int x1, .int x2] res.1 :=
  z_enti (cc := cX7_with) (maxL := 6) (rt := .int) (by decide +kernel) rfl (Nat.le_of_ble_eq_true rfl) (fun Γ C R => L_X7_with a C R x1 x2 S h)

abbrev rm_X7_at : Room := { frames := 6, cells := 0, slots := 0, locals := 142 }
theorem inw_X7_at_X7 : ∀ w ∈ wsX70, w ∈ wsX7_at := fun _ h => List.mem_cons_of_mem _ (List.mem_append_right _ h)
set_option maxHeartbeats 4000000 in
theorem wl_X7_at_0 (E : zEnv) (a : Nat → Nat) (S : St) : ([0, 1, 2, 3, 4, 5, 6, 7, 8, 9, 10, 11, 12, 13, 14, 15, 16] : List Nat).map (fun i => (wModel E a S)[i]?) = (wModel E a S).map some := rfl
set_option maxHeartbeats 4000000 in
theorem wl_X7_at_1 (E : zEnv) (a : Nat → Nat) (S U : St) : (wModel E a U).map (fun q => q.1) = (wModel E a S).map (fun q => q.1) := rfl
set_option maxHeartbeats 4000000 in
theorem wl_X7_at_2 (E : zEnv) (a : Nat → Nat) (S U : St) : (wModel E a U) = zrep [0, 1, 2, 3, 4, 5, 6, 7, 8, 9, 10, 11, 12, 13, 14, 15, 16] (wModel E a U) (wModel E a S) := zrep_of (isR := []) 17 rfl [] rfl rfl rfl rfl (by decide +kernel) (by decide +kernel)
noncomputable def f_X7_at (x1 : Int32) (x2 : Int32) (S : St) : Option (Int32 × St) := ((f_X7_isDay x2).bind (fun q1 => (if q1 = 0 then (some ((-1 : Int32), S)) else ((f_X7_with x1 x2 S).bind (fun q2 => (some (q2.1, q2.2)))))))
set_option maxHeartbeats 4000000 in
set_option maxRecDepth 100000 in
theorem L_X7_at {E : zEnv} {Γ : zG} (a : Nat → Nat) (C : zC E Γ cX7_at RX7 3 rm_X7_at wsX7_at) {res : (Int32 × St)} (R : zRi E Γ cX7_at 3 .int (wModel E a res.2) res.1) (x1 : Int32) (x2 : Int32) (S : St) (h : f_X7_at x1 x2 S = some res) : Zt E Γ 3 0 0 (wModel E a S) [(0, .ref (a 0)), (1, .int x1), (2, .int x2)] 0 [] := by
  unfold f_X7_at at h
  refine z_iload_n C 2 rfl rfl dX7_at_0 ?_
  obtain ⟨q1, e1, h⟩ := bd_e h
  refine z_callSi C (rest := []) (c_X7_isDay E x2 e1) gX7_at_X7_isDay rfl rfl rfl 1 rfl (by decide +kernel) ⟨Nat.le_of_ble_eq_true rfl, Nat.le_of_ble_eq_true rfl⟩ [] rfl (by decide) rfl (wModel E a S) rfl (Nat.le_of_ble_eq_true rfl) dX7_at_1 ⟨Nat.zero_le _, Nat.zero_le _⟩ _ rfl ?_
  refine z_if_eq C 16 (by decide) h dX7_at_4 (fun hc h => ?_) (fun hc h => ?_)
  · refine z_iconst C (v := (-1 : Int32)) (by decide) dX7_at_16 ?_
    obtain rfl := Option.some.inj h
    exact R rfl 17 _ dX7_at_17
  · refine z_aload_n C 0 rfl rfl dX7_at_7 ?_
    refine z_iload_n C 1 rfl rfl dX7_at_8 ?_
    refine z_iload_n C 2 rfl rfl dX7_at_9 ?_
    obtain ⟨q2, e2, h⟩ := bd_e h
    refine z_callVi C (b := a 0) (As := [.int x1, .int x2]) (rest := []) (c_X7_with E a x1 x2 S e2) rfl gX7_at_X7_with rfl rfl rfl 2 rfl (by decide +kernel) ⟨Nat.le_of_ble_eq_true rfl, Nat.le_of_ble_eq_true rfl⟩ [0, 1, 2, 3, 4, 5, 6, 7, 8, 9, 10, 11, 12, 13, 14, 15, 16] (wl_X7_at_0 E a S) (by decide) (wl_X7_at_1 E a _ _) (wModel E a q2.2) (wl_X7_at_2 E a S q2.2) 0 7 rfl rfl rfl (Nat.le_of_ble_eq_true rfl) dX7_at_10 ⟨Nat.zero_le _, Nat.zero_le _⟩ _ rfl ?_
    refine z_goto C 17 (by decide) dX7_at_13 ?_
    obtain rfl := Option.some.inj h
    exact R rfl 17 _ dX7_at_17

theorem c_X7_at (E : zEnv) (a : Nat → Nat) (x1 : Int32) (x2 : Int32) (S : St) {res : (Int32 × St)} (h : f_X7_at x1 x2 S = some res) : Kti E yX7_at wsX7_at rm_X7_at (wModel E a S) (wModel E a res.2) [.ref (a 0), .int x1, .int x2] res.1 :=
  z_enti (cc := cX7_at) (maxL := 3) (rt := .int) (by decide +kernel) rfl (Nat.le_of_ble_eq_true rfl) (fun Γ C R => L_X7_at a C R x1 x2 S h)

abbrev rm_X7_twins : Room := { frames := 6, cells := 0, slots := 0, locals := 142 }
theorem inw_X7_twins_X7 : ∀ w ∈ wsX70, w ∈ wsX7_twins := fun _ h => List.mem_cons_of_mem _ (List.mem_append_right _ h)
set_option maxHeartbeats 4000000 in
theorem wl_X7_twins_0 (E : zEnv) (a : Nat → Nat) (S : St) : ([0, 1, 2, 3, 4, 5, 6, 7, 8, 9, 10, 11, 12, 13, 14, 15, 16] : List Nat).map (fun i => (wModel E a S)[i]?) = (wModel E a S).map some := rfl
set_option maxHeartbeats 4000000 in
theorem wl_X7_twins_1 (E : zEnv) (a : Nat → Nat) (S U : St) : (wModel E a U).map (fun q => q.1) = (wModel E a S).map (fun q => q.1) := rfl
set_option maxHeartbeats 4000000 in
theorem wl_X7_twins_2 (E : zEnv) (a : Nat → Nat) (S U : St) : (wModel E a U) = zrep [0, 1, 2, 3, 4, 5, 6, 7, 8, 9, 10, 11, 12, 13, 14, 15, 16] (wModel E a U) (wModel E a S) := zrep_of (isR := []) 17 rfl [] rfl rfl rfl rfl (by decide +kernel) (by decide +kernel)
noncomputable def f_X7_twins_57 (k13 : Int32 → Int32 → Int32 → St → Option (Int32 × St)) (x1 : Int32) (x3 : Int32) (y0 : Int32) (y1 : Int32) (S : St) : Option (Int32 × St) := (k13 x1 (y0 ||| y1) (x3 + (1 : Int32)) S)
noncomputable def f_X7_twins_56 (k13 : Int32 → Int32 → Int32 → St → Option (Int32 × St)) (x1 : Int32) (x3 : Int32) (y0 : Int32) (S : St) : Option (Int32 × St) := (f_X7_twins_57 k13 x1 x3 y0 (0 : Int32) S)
noncomputable def f_X7_twins_13 (n : Nat) : Int32 → Int32 → Int32 → St → Option (Int32 × St) := Nat.rec (motive := fun _ => Int32 → Int32 → Int32 → St → Option (Int32 × St)) (fun _ _ _ _ => none) (fun _ ih => fun x1 x2 x3 S => (if (S 1 0) ≤ x3 then (some (x2, S)) else ((f_X7_numberNow x3 x1 S).bind (fun q1 => (if q1.1 = (-4 : Int32) then (f_X7_twins_56 ih x1 x3 x2 q1.2) else ((f_X7_with q1.1 x1 q1.2).bind (fun q2 => (if q2.1 = ((1 : Int32) <<< (x3 &&& 31)) then (f_X7_twins_56 ih x1 x3 x2 q2.2) else (f_X7_twins_57 ih x1 x3 x2 ((1 : Int32) <<< (x3 &&& 31)) q2.2))))))))) n
theorem f_X7_twins_13_s (n : Nat) (x1 : Int32) (x2 : Int32) (x3 : Int32) (S : St) : f_X7_twins_13 (n + 1) x1 x2 x3 S = (if (S 1 0) ≤ x3 then (some (x2, S)) else ((f_X7_numberNow x3 x1 S).bind (fun q1 => (if q1.1 = (-4 : Int32) then (f_X7_twins_56 (f_X7_twins_13 n) x1 x3 x2 q1.2) else ((f_X7_with q1.1 x1 q1.2).bind (fun q2 => (if q2.1 = ((1 : Int32) <<< (x3 &&& 31)) then (f_X7_twins_56 (f_X7_twins_13 n) x1 x3 x2 q2.2) else (f_X7_twins_57 (f_X7_twins_13 n) x1 x3 x2 ((1 : Int32) <<< (x3 &&& 31)) q2.2)))))))) := rfl
noncomputable def f_X7_twins (x1 : Int32) (S : St) : Option (Int32 × St) := ((f_X7_isDay x1).bind (fun q3 => (if q3 = 0 then (some ((-1 : Int32), S)) else (f_X7_twins_13 1000 x1 (0 : Int32) (0 : Int32) S))))
set_option maxHeartbeats 4000000 in
set_option maxRecDepth 100000 in
theorem L_X7_twins_57 {E : zEnv} {Γ : zG} (a : Nat → Nat) (C : zC E Γ cX7_twins RX7 5 rm_X7_twins wsX7_twins) {res : (Int32 × St)} (R : zRi E Γ cX7_twins 5 .int (wModel E a res.2) res.1) (k13 : Int32 → Int32 → Int32 → St → Option (Int32 × St)) (hk13 : ∀ (x1 : Int32) (x2 : Int32) (x3 : Int32) (S : St), k13 x1 x2 x3 S = some res → Zt E Γ 5 0 0 (wModel E a S) [(0, .ref (a 0)), (1, .int x1), (2, .int x2), (3, .int x3)] 13 []) (x1 : Int32) (x3 : Int32) (y0 : Int32) (y1 : Int32) (S : St) (h : f_X7_twins_57 k13 x1 x3 y0 y1 S = some res) : Zt E Γ 5 0 0 (wModel E a S) [(0, .ref (a 0)), (1, .int x1), (3, .int x3)] 57 [.int y1, .int y0] := by
  unfold f_X7_twins_57 at h
  refine z_ior C dX7_twins_57 ?_
  refine z_istore_n C [(2, .int (y0 ||| y1)), (0, .ref (a 0)), (1, .int x1), (3, .int x3)] rfl (by decide) rfl dX7_twins_58 ?_
  refine z_iinc C [(3, .int (x3 + (1 : Int32))), (2, .int (y0 ||| y1)), (0, .ref (a 0)), (1, .int x1)] 3 rfl (by first | rfl | decide) (by decide) rfl dX7_twins_59 ?_
  refine z_goto C 13 (by decide) dX7_twins_62 ?_
  refine Zt_l [(0, .ref (a 0)), (1, .int x1), (2, .int (y0 ||| y1)), (3, .int (x3 + (1 : Int32)))] [2, 3, 1, 0] rfl ?_
  exact hk13 x1 (y0 ||| y1) (x3 + (1 : Int32)) S h

set_option maxHeartbeats 4000000 in
set_option maxRecDepth 100000 in
theorem L_X7_twins_56 {E : zEnv} {Γ : zG} (a : Nat → Nat) (C : zC E Γ cX7_twins RX7 5 rm_X7_twins wsX7_twins) {res : (Int32 × St)} (R : zRi E Γ cX7_twins 5 .int (wModel E a res.2) res.1) (k13 : Int32 → Int32 → Int32 → St → Option (Int32 × St)) (hk13 : ∀ (x1 : Int32) (x2 : Int32) (x3 : Int32) (S : St), k13 x1 x2 x3 S = some res → Zt E Γ 5 0 0 (wModel E a S) [(0, .ref (a 0)), (1, .int x1), (2, .int x2), (3, .int x3)] 13 []) (x1 : Int32) (x3 : Int32) (y0 : Int32) (S : St) (h : f_X7_twins_56 k13 x1 x3 y0 S = some res) : Zt E Γ 5 0 0 (wModel E a S) [(0, .ref (a 0)), (1, .int x1), (3, .int x3)] 56 [.int y0] := by
  unfold f_X7_twins_56 at h
  refine z_iconst C (v := (0 : Int32)) (by decide) dX7_twins_56 ?_
  exact L_X7_twins_57 a C R k13 hk13 x1 x3 y0 (0 : Int32) S h

set_option maxHeartbeats 4000000 in
set_option maxRecDepth 100000 in
theorem L_X7_twins_13 {E : zEnv} {Γ : zG} (a : Nat → Nat) (C : zC E Γ cX7_twins RX7 5 rm_X7_twins wsX7_twins) {res : (Int32 × St)} (R : zRi E Γ cX7_twins 5 .int (wModel E a res.2) res.1) : ∀ (n : Nat) (x1 : Int32) (x2 : Int32) (x3 : Int32) (S : St), f_X7_twins_13 n x1 x2 x3 S = some res → Zt E Γ 5 0 0 (wModel E a S) [(0, .ref (a 0)), (1, .int x1), (2, .int x2), (3, .int x3)] 13 [] := by
  intro n
  induction n with
  | zero =>
    intro x1 x2 x3 S h
    cases h
  | succ n ih =>
    intro x1 x2 x3 S h
    rw [f_X7_twins_13_s] at h
    refine z_iload_n C 3 rfl rfl dX7_twins_13 ?_
    refine z_aload_n C 0 rfl rfl dX7_twins_14 ?_
    refine z_get C 0 rfl (C := RX7) (T := TX7) (N := 38) (ci := 7) rfl inw_X7_twins_X7 1 (by decide) (ref := "EldestAgeModel") (List.mem_of_getElem? (i := 1) rfl) rfl (v := .int (S 1 0)) rfl dX7_twins_15 ?_
    refine z_icmp_ge C 65 (by decide) h dX7_twins_18 (fun hc h => ?_) (fun hc h => ?_)
    · refine z_iload_n C 2 rfl rfl dX7_twins_65 ?_
      obtain rfl := Option.some.inj h
      exact R rfl 66 _ dX7_twins_66
    · refine z_aload_n C 0 rfl rfl dX7_twins_21 ?_
      refine z_iload_n C 3 rfl rfl dX7_twins_22 ?_
      refine z_iload_n C 1 rfl rfl dX7_twins_23 ?_
      obtain ⟨q1, e1, h⟩ := bd_e h
      refine z_callVi C (b := a 0) (As := [.int x3, .int x1]) (rest := []) (c_X7_numberNow E a x3 x1 S e1) rfl gX7_twins_X7_numberNow rfl rfl rfl 2 rfl (by decide +kernel) ⟨Nat.le_of_ble_eq_true rfl, Nat.le_of_ble_eq_true rfl⟩ [0, 1, 2, 3, 4, 5, 6, 7, 8, 9, 10, 11, 12, 13, 14, 15, 16] (wl_X7_twins_0 E a S) (by decide) (wl_X7_twins_1 E a _ _) (wModel E a q1.2) (wl_X7_twins_2 E a S q1.2) 0 7 rfl rfl rfl (Nat.le_of_ble_eq_true rfl) dX7_twins_24 ⟨Nat.zero_le _, Nat.zero_le _⟩ _ rfl ?_
      refine z_istore C [(4, .int q1.1), (0, .ref (a 0)), (1, .int x1), (2, .int x2), (3, .int x3)] (by decide) rfl dX7_twins_27 ?_
      refine z_iload_n C 3 rfl rfl dX7_twins_29 ?_
      refine z_iload C 0 rfl dX7_twins_30 ?_
      refine z_bipush C (v := (-4 : Int32)) (by decide) dX7_twins_32 ?_
      refine z_icmp_eq C 56 (by decide) h dX7_twins_34 (fun hc h => ?_) (fun hc h => ?_)
      · refine Zt_l [(0, .ref (a 0)), (1, .int x1), (3, .int x3)] [1, 2, 4] rfl ?_
        exact L_X7_twins_56 a C R _ ih x1 x3 x2 q1.2 h
      · refine z_aload_n C 1 rfl rfl dX7_twins_37 ?_
        refine z_iload C 0 rfl dX7_twins_38 ?_
        refine z_iload_n C 2 rfl rfl dX7_twins_40 ?_
        obtain ⟨q2, e2, h⟩ := bd_e h
        refine z_callVi C (b := a 0) (As := [.int q1.1, .int x1]) (rest := [.int x2]) (c_X7_with E a q1.1 x1 q1.2 e2) rfl gX7_twins_X7_with rfl rfl rfl 2 rfl (by decide +kernel) ⟨Nat.le_of_ble_eq_true rfl, Nat.le_of_ble_eq_true rfl⟩ [0, 1, 2, 3, 4, 5, 6, 7, 8, 9, 10, 11, 12, 13, 14, 15, 16] (wl_X7_twins_0 E a q1.2) (by decide) (wl_X7_twins_1 E a _ _) (wModel E a q2.2) (wl_X7_twins_2 E a q1.2 q2.2) 0 7 rfl rfl rfl (Nat.le_of_ble_eq_true rfl) dX7_twins_41 ⟨Nat.zero_le _, Nat.zero_le _⟩ _ rfl ?_
        refine z_iconst C (v := (1 : Int32)) (by decide) dX7_twins_44 ?_
        refine z_iload_n C 4 rfl rfl dX7_twins_45 ?_
        refine z_ishl C dX7_twins_46 ?_
        refine z_icmp_eq C 56 (by decide) h dX7_twins_47 (fun hc h => ?_) (fun hc h => ?_)
        · refine Zt_l [(0, .ref (a 0)), (1, .int x1), (3, .int x3)] [1, 2, 4] rfl ?_
          exact L_X7_twins_56 a C R _ ih x1 x3 x2 q2.2 h
        · refine z_iconst C (v := (1 : Int32)) (by decide) dX7_twins_50 ?_
          refine z_iload_n C 4 rfl rfl dX7_twins_51 ?_
          refine z_ishl C dX7_twins_52 ?_
          refine z_goto C 57 (by decide) dX7_twins_53 ?_
          refine Zt_l [(0, .ref (a 0)), (1, .int x1), (3, .int x3)] [1, 2, 4] rfl ?_
          exact L_X7_twins_57 a C R _ ih x1 x3 x2 ((1 : Int32) <<< (x3 &&& 31)) q2.2 h

set_option maxHeartbeats 4000000 in
set_option maxRecDepth 100000 in
theorem L_X7_twins {E : zEnv} {Γ : zG} (a : Nat → Nat) (C : zC E Γ cX7_twins RX7 5 rm_X7_twins wsX7_twins) {res : (Int32 × St)} (R : zRi E Γ cX7_twins 5 .int (wModel E a res.2) res.1) (x1 : Int32) (S : St) (h : f_X7_twins x1 S = some res) : Zt E Γ 5 0 0 (wModel E a S) [(0, .ref (a 0)), (1, .int x1)] 0 [] := by
  unfold f_X7_twins at h
  refine z_iload_n C 1 rfl rfl dX7_twins_0 ?_
  obtain ⟨q3, e3, h⟩ := bd_e h
  refine z_callSi C (rest := []) (c_X7_isDay E x1 e3) gX7_twins_X7_isDay rfl rfl rfl 1 rfl (by decide +kernel) ⟨Nat.le_of_ble_eq_true rfl, Nat.le_of_ble_eq_true rfl⟩ [] rfl (by decide) rfl (wModel E a S) rfl (Nat.le_of_ble_eq_true rfl) dX7_twins_1 ⟨Nat.zero_le _, Nat.zero_le _⟩ _ rfl ?_
  refine z_if_ne C 9 (by decide) h dX7_twins_4 (fun hc h => ?_) (fun hc h => ?_)
  · refine z_iconst C (v := (-1 : Int32)) (by decide) dX7_twins_7 ?_
    obtain rfl := Option.some.inj h
    exact R rfl 8 _ dX7_twins_8
  · refine z_iconst C (v := (0 : Int32)) (by decide) dX7_twins_9 ?_
    refine z_istore_n C [(2, .int (0 : Int32)), (0, .ref (a 0)), (1, .int x1)] rfl (by decide) rfl dX7_twins_10 ?_
    refine z_iconst C (v := (0 : Int32)) (by decide) dX7_twins_11 ?_
    refine z_istore_n C [(3, .int (0 : Int32)), (2, .int (0 : Int32)), (0, .ref (a 0)), (1, .int x1)] rfl (by decide) rfl dX7_twins_12 ?_
    refine Zt_l [(0, .ref (a 0)), (1, .int x1), (2, .int (0 : Int32)), (3, .int (0 : Int32))] [2, 3, 1, 0] rfl ?_
    exact L_X7_twins_13 a C R 1000 x1 (0 : Int32) (0 : Int32) S h

theorem c_X7_twins (E : zEnv) (a : Nat → Nat) (x1 : Int32) (S : St) {res : (Int32 × St)} (h : f_X7_twins x1 S = some res) : Kti E yX7_twins wsX7_twins rm_X7_twins (wModel E a S) (wModel E a res.2) [.ref (a 0), .int x1] res.1 :=
  z_enti (cc := cX7_twins) (maxL := 5) (rt := .int) (by decide +kernel) rfl (Nat.le_of_ble_eq_true rfl) (fun Γ C R => L_X7_twins a C R x1 S h)
