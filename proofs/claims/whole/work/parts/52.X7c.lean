abbrev rm_X7_eventAfter : Room := { frames := 1, cells := 0, slots := 0, locals := 20 }
theorem inw_X7_eventAfter_X7 : ∀ w ∈ wsX70, w ∈ wsX7_eventAfter := fun _ h => List.mem_cons_of_mem _ (List.mem_append_right _ h)
set_option maxHeartbeats 4000000 in
theorem wl_X7_eventAfter_0 (E : zEnv) (a : Nat → Nat) (S : St) : ([0, 1, 2, 3, 4, 5, 6, 7, 8, 9, 10, 11, 12, 13, 14, 15, 16] : List Nat).map (fun i => (wModel E a S)[i]?) = (wModel E a S).map some := rfl
set_option maxHeartbeats 4000000 in
theorem wl_X7_eventAfter_1 (E : zEnv) (a : Nat → Nat) (S U : St) : (wModel E a U).map (fun q => q.1) = (wModel E a S).map (fun q => q.1) := rfl
noncomputable def f_X7_eventAfter_98 (k5 : Int32 → Int32 → Int32 → St → Option Int32) (x1 : Int32) (x3 : Int32) (y0 : Int32) (S : St) : Option Int32 := (k5 x1 y0 (x3 + (1 : Int32)) S)
noncomputable def f_X7_eventAfter_97 (k5 : Int32 → Int32 → Int32 → St → Option Int32) (x1 : Int32) (x2 : Int32) (x3 : Int32) (S : St) : Option Int32 := (f_X7_eventAfter_98 k5 x1 x3 x2 S)
noncomputable def f_X7_eventAfter_79 (k5 : Int32 → Int32 → Int32 → St → Option Int32) (x1 : Int32) (x3 : Int32) (x5 : Int32) (y0 : Int32) (S : St) : Option Int32 := (if x5 ≤ x1 then (f_X7_eventAfter_97 k5 x1 y0 x3 S) else (if y0 ≤ x5 then (f_X7_eventAfter_97 k5 x1 y0 x3 S) else (f_X7_eventAfter_98 k5 x1 x3 x5 S)))
noncomputable def f_X7_eventAfter_65 (k5 : Int32 → Int32 → Int32 → St → Option Int32) (x1 : Int32) (x2 : Int32) (x3 : Int32) (x5 : Int32) (y0 : Int32) (S : St) : Option Int32 := (if x2 ≤ y0 then (f_X7_eventAfter_79 k5 x1 x3 x5 x2 S) else (f_X7_eventAfter_79 k5 x1 x3 x5 y0 S))
noncomputable def f_X7_eventAfter_149 (k107 : Int32 → Int32 → Int32 → St → Option Int32) (x1 : Int32) (x3 : Int32) (y0 : Int32) (S : St) : Option Int32 := (k107 x1 y0 (x3 + (1 : Int32)) S)
noncomputable def f_X7_eventAfter_148 (k107 : Int32 → Int32 → Int32 → St → Option Int32) (x1 : Int32) (x2 : Int32) (x3 : Int32) (S : St) : Option Int32 := (f_X7_eventAfter_149 k107 x1 x3 x2 S)
noncomputable def f_X7_eventAfter_107 (n : Nat) : Int32 → Int32 → Int32 → St → Option Int32 := Nat.rec (motive := fun _ => Int32 → Int32 → Int32 → St → Option Int32) (fun _ _ _ _ => none) (fun _ ih => fun x1 x2 x3 S => (ix (89 : Int32) 368 (if (S 0 (Int32.toNatClampNeg (89 : Int32))) ≤ x3 then (some x2) else (ix ((40 : Int32) + ((3 : Int32) * x3)) 368 (if (S 0 (Int32.toNatClampNeg ((40 : Int32) + ((3 : Int32) * x3)))) ≤ x1 then (f_X7_eventAfter_148 ih x1 x2 x3 S) else (if x2 ≤ (S 0 (Int32.toNatClampNeg ((40 : Int32) + ((3 : Int32) * x3)))) then (f_X7_eventAfter_148 ih x1 x2 x3 S) else (f_X7_eventAfter_149 ih x1 x3 (S 0 (Int32.toNatClampNeg ((40 : Int32) + ((3 : Int32) * x3)))) S))))))) n
theorem f_X7_eventAfter_107_s (n : Nat) (x1 : Int32) (x2 : Int32) (x3 : Int32) (S : St) : f_X7_eventAfter_107 (n + 1) x1 x2 x3 S = (ix (89 : Int32) 368 (if (S 0 (Int32.toNatClampNeg (89 : Int32))) ≤ x3 then (some x2) else (ix ((40 : Int32) + ((3 : Int32) * x3)) 368 (if (S 0 (Int32.toNatClampNeg ((40 : Int32) + ((3 : Int32) * x3)))) ≤ x1 then (f_X7_eventAfter_148 (f_X7_eventAfter_107 n) x1 x2 x3 S) else (if x2 ≤ (S 0 (Int32.toNatClampNeg ((40 : Int32) + ((3 : Int32) * x3)))) then (f_X7_eventAfter_148 (f_X7_eventAfter_107 n) x1 x2 x3 S) else (f_X7_eventAfter_149 (f_X7_eventAfter_107 n) x1 x3 (S 0 (Int32.toNatClampNeg ((40 : Int32) + ((3 : Int32) * x3)))) S)))))) := rfl
noncomputable def f_X7_eventAfter_105 (x1 : Int32) (x2 : Int32) (S : St) : Option Int32 := (f_X7_eventAfter_107 1000 x1 x2 (0 : Int32) S)
noncomputable def f_X7_eventAfter_5 (n : Nat) : Int32 → Int32 → Int32 → St → Option Int32 := Nat.rec (motive := fun _ => Int32 → Int32 → Int32 → St → Option Int32) (fun _ _ _ _ => none) (fun _ ih => fun x1 x2 x3 S => ((f_X7_people S).bind (fun q1 => (if q1 ≤ x3 then (f_X7_eventAfter_105 x1 x2 S) else (ix (((4 : Int32) * x3) + (1 : Int32)) 368 (ix (((4 : Int32) * x3) + (3 : Int32)) 368 (if (S 0 (Int32.toNatClampNeg (((4 : Int32) * x3) + (1 : Int32)))) ≤ x1 then (f_X7_eventAfter_65 ih x1 x2 x3 (S 0 (Int32.toNatClampNeg (((4 : Int32) * x3) + (3 : Int32)))) ((S 0 (Int32.toNatClampNeg (((4 : Int32) * x3) + (1 : Int32)))) + ((360 : Int32) * (((x1 - (S 0 (Int32.toNatClampNeg (((4 : Int32) * x3) + (1 : Int32))))) / (360 : Int32)) + (1 : Int32)))) S) else (f_X7_eventAfter_65 ih x1 x2 x3 (S 0 (Int32.toNatClampNeg (((4 : Int32) * x3) + (3 : Int32)))) (S 0 (Int32.toNatClampNeg (((4 : Int32) * x3) + (1 : Int32)))) S)))))))) n
theorem f_X7_eventAfter_5_s (n : Nat) (x1 : Int32) (x2 : Int32) (x3 : Int32) (S : St) : f_X7_eventAfter_5 (n + 1) x1 x2 x3 S = ((f_X7_people S).bind (fun q1 => (if q1 ≤ x3 then (f_X7_eventAfter_105 x1 x2 S) else (ix (((4 : Int32) * x3) + (1 : Int32)) 368 (ix (((4 : Int32) * x3) + (3 : Int32)) 368 (if (S 0 (Int32.toNatClampNeg (((4 : Int32) * x3) + (1 : Int32)))) ≤ x1 then (f_X7_eventAfter_65 (f_X7_eventAfter_5 n) x1 x2 x3 (S 0 (Int32.toNatClampNeg (((4 : Int32) * x3) + (3 : Int32)))) ((S 0 (Int32.toNatClampNeg (((4 : Int32) * x3) + (1 : Int32)))) + ((360 : Int32) * (((x1 - (S 0 (Int32.toNatClampNeg (((4 : Int32) * x3) + (1 : Int32))))) / (360 : Int32)) + (1 : Int32)))) S) else (f_X7_eventAfter_65 (f_X7_eventAfter_5 n) x1 x2 x3 (S 0 (Int32.toNatClampNeg (((4 : Int32) * x3) + (3 : Int32)))) (S 0 (Int32.toNatClampNeg (((4 : Int32) * x3) + (1 : Int32)))) S))))))) := rfl
noncomputable def f_X7_eventAfter (x1 : Int32) (S : St) : Option Int32 := (f_X7_eventAfter_5 1000 x1 (36000 : Int32) (0 : Int32) S)
set_option maxHeartbeats 4000000 in
set_option maxRecDepth 100000 in
theorem L_X7_eventAfter_98 {E : zEnv} {Γ : zG} (a : Nat → Nat) (C : zC E Γ cX7_eventAfter RX7 7 rm_X7_eventAfter wsX7_eventAfter) {res : Int32} {S : St} (R : zRi E Γ cX7_eventAfter 7 .int (wModel E a S) res) (k5 : Int32 → Int32 → Int32 → St → Option Int32) (hk5 : ∀ (x1 : Int32) (x2 : Int32) (x3 : Int32), k5 x1 x2 x3 S = some res → Zt E Γ 7 0 0 (wModel E a S) [(0, .ref (a 0)), (1, .int x1), (2, .int x2), (3, .int x3)] 5 []) (x1 : Int32) (x3 : Int32) (y0 : Int32) (h : f_X7_eventAfter_98 k5 x1 x3 y0 S = some res) : Zt E Γ 7 0 0 (wModel E a S) [(0, .ref (a 0)), (1, .int x1), (3, .int x3)] 98 [.int y0] := by
  unfold f_X7_eventAfter_98 at h
  refine z_istore_n C [(2, .int y0), (0, .ref (a 0)), (1, .int x1), (3, .int x3)] rfl (by decide) rfl dX7_eventAfter_98 ?_
  refine z_iinc C [(3, .int (x3 + (1 : Int32))), (2, .int y0), (0, .ref (a 0)), (1, .int x1)] 3 rfl (by first | rfl | decide) (by decide) rfl dX7_eventAfter_99 ?_
  refine z_goto C 5 (by decide) dX7_eventAfter_102 ?_
  refine Zt_l [(0, .ref (a 0)), (1, .int x1), (2, .int y0), (3, .int (x3 + (1 : Int32)))] [2, 3, 1, 0] rfl ?_
  exact hk5 x1 y0 (x3 + (1 : Int32)) h

set_option maxHeartbeats 4000000 in
set_option maxRecDepth 100000 in
theorem L_X7_eventAfter_97 {E : zEnv} {Γ : zG} (a : Nat → Nat) (C : zC E Γ cX7_eventAfter RX7 7 rm_X7_eventAfter wsX7_eventAfter) {res : Int32} {S : St} (R : zRi E Γ cX7_eventAfter 7 .int (wModel E a S) res) (k5 : Int32 → Int32 → Int32 → St → Option Int32) (hk5 : ∀ (x1 : Int32) (x2 : Int32) (x3 : Int32), k5 x1 x2 x3 S = some res → Zt E Γ 7 0 0 (wModel E a S) [(0, .ref (a 0)), (1, .int x1), (2, .int x2), (3, .int x3)] 5 []) (x1 : Int32) (x2 : Int32) (x3 : Int32) (h : f_X7_eventAfter_97 k5 x1 x2 x3 S = some res) : Zt E Γ 7 0 0 (wModel E a S) [(0, .ref (a 0)), (1, .int x1), (2, .int x2), (3, .int x3)] 97 [] := by
  unfold f_X7_eventAfter_97 at h
  refine z_iload_n C 2 rfl rfl dX7_eventAfter_97 ?_
  refine Zt_l [(0, .ref (a 0)), (1, .int x1), (3, .int x3)] [0, 1, 3] rfl ?_
  exact L_X7_eventAfter_98 a C R k5 hk5 x1 x3 x2 h

set_option maxHeartbeats 4000000 in
set_option maxRecDepth 100000 in
theorem L_X7_eventAfter_79 {E : zEnv} {Γ : zG} (a : Nat → Nat) (C : zC E Γ cX7_eventAfter RX7 7 rm_X7_eventAfter wsX7_eventAfter) {res : Int32} {S : St} (R : zRi E Γ cX7_eventAfter 7 .int (wModel E a S) res) (k5 : Int32 → Int32 → Int32 → St → Option Int32) (hk5 : ∀ (x1 : Int32) (x2 : Int32) (x3 : Int32), k5 x1 x2 x3 S = some res → Zt E Γ 7 0 0 (wModel E a S) [(0, .ref (a 0)), (1, .int x1), (2, .int x2), (3, .int x3)] 5 []) (x1 : Int32) (x3 : Int32) (x5 : Int32) (y0 : Int32) (h : f_X7_eventAfter_79 k5 x1 x3 x5 y0 S = some res) : Zt E Γ 7 0 0 (wModel E a S) [(0, .ref (a 0)), (1, .int x1), (3, .int x3), (5, .int x5)] 79 [.int y0] := by
  unfold f_X7_eventAfter_79 at h
  refine z_istore_n C [(2, .int y0), (0, .ref (a 0)), (1, .int x1), (3, .int x3), (5, .int x5)] rfl (by decide) rfl dX7_eventAfter_79 ?_
  refine z_iload C 4 rfl dX7_eventAfter_80 ?_
  refine z_iload_n C 2 rfl rfl dX7_eventAfter_82 ?_
  refine z_icmp_le C 97 (by decide) h dX7_eventAfter_83 (fun hc h => ?_) (fun hc h => ?_)
  · refine Zt_l [(0, .ref (a 0)), (1, .int x1), (2, .int y0), (3, .int x3)] [1, 2, 0, 3] rfl ?_
    exact L_X7_eventAfter_97 a C R k5 hk5 x1 y0 x3 h
  · refine z_iload C 4 rfl dX7_eventAfter_86 ?_
    refine z_iload_n C 0 rfl rfl dX7_eventAfter_88 ?_
    refine z_icmp_ge C 97 (by decide) h dX7_eventAfter_89 (fun hc h => ?_) (fun hc h => ?_)
    · refine Zt_l [(0, .ref (a 0)), (1, .int x1), (2, .int y0), (3, .int x3)] [1, 2, 0, 3] rfl ?_
      exact L_X7_eventAfter_97 a C R k5 hk5 x1 y0 x3 h
    · refine z_iload C 4 rfl dX7_eventAfter_92 ?_
      refine z_goto C 98 (by decide) dX7_eventAfter_94 ?_
      refine Zt_l [(0, .ref (a 0)), (1, .int x1), (3, .int x3)] [1, 2, 3] rfl ?_
      exact L_X7_eventAfter_98 a C R k5 hk5 x1 x3 x5 h

set_option maxHeartbeats 4000000 in
set_option maxRecDepth 100000 in
theorem L_X7_eventAfter_65 {E : zEnv} {Γ : zG} (a : Nat → Nat) (C : zC E Γ cX7_eventAfter RX7 7 rm_X7_eventAfter wsX7_eventAfter) {res : Int32} {S : St} (R : zRi E Γ cX7_eventAfter 7 .int (wModel E a S) res) (k5 : Int32 → Int32 → Int32 → St → Option Int32) (hk5 : ∀ (x1 : Int32) (x2 : Int32) (x3 : Int32), k5 x1 x2 x3 S = some res → Zt E Γ 7 0 0 (wModel E a S) [(0, .ref (a 0)), (1, .int x1), (2, .int x2), (3, .int x3)] 5 []) (x1 : Int32) (x2 : Int32) (x3 : Int32) (x5 : Int32) (y0 : Int32) (h : f_X7_eventAfter_65 k5 x1 x2 x3 x5 y0 S = some res) : Zt E Γ 7 0 0 (wModel E a S) [(0, .ref (a 0)), (1, .int x1), (2, .int x2), (3, .int x3), (5, .int x5)] 65 [.int y0] := by
  unfold f_X7_eventAfter_65 at h
  refine z_istore C [(6, .int y0), (0, .ref (a 0)), (1, .int x1), (2, .int x2), (3, .int x3), (5, .int x5)] (by decide) rfl dX7_eventAfter_65 ?_
  refine z_iload C 0 rfl dX7_eventAfter_67 ?_
  refine z_iload_n C 3 rfl rfl dX7_eventAfter_69 ?_
  refine z_icmp_ge C 78 (by decide) h dX7_eventAfter_70 (fun hc h => ?_) (fun hc h => ?_)
  · refine z_iload_n C 3 rfl rfl dX7_eventAfter_78 ?_
    refine Zt_l [(0, .ref (a 0)), (1, .int x1), (3, .int x3), (5, .int x5)] [1, 2, 4, 5] rfl ?_
    exact L_X7_eventAfter_79 a C R k5 hk5 x1 x3 x5 x2 h
  · refine z_iload C 0 rfl dX7_eventAfter_73 ?_
    refine z_goto C 79 (by decide) dX7_eventAfter_75 ?_
    refine Zt_l [(0, .ref (a 0)), (1, .int x1), (3, .int x3), (5, .int x5)] [1, 2, 4, 5] rfl ?_
    exact L_X7_eventAfter_79 a C R k5 hk5 x1 x3 x5 y0 h

set_option maxHeartbeats 4000000 in
set_option maxRecDepth 100000 in
theorem L_X7_eventAfter_149 {E : zEnv} {Γ : zG} (a : Nat → Nat) (C : zC E Γ cX7_eventAfter RX7 7 rm_X7_eventAfter wsX7_eventAfter) {res : Int32} {S : St} (R : zRi E Γ cX7_eventAfter 7 .int (wModel E a S) res) (k107 : Int32 → Int32 → Int32 → St → Option Int32) (hk107 : ∀ (x1 : Int32) (x2 : Int32) (x3 : Int32), k107 x1 x2 x3 S = some res → Zt E Γ 7 0 0 (wModel E a S) [(0, .ref (a 0)), (1, .int x1), (2, .int x2), (3, .int x3)] 107 []) (x1 : Int32) (x3 : Int32) (y0 : Int32) (h : f_X7_eventAfter_149 k107 x1 x3 y0 S = some res) : Zt E Γ 7 0 0 (wModel E a S) [(0, .ref (a 0)), (1, .int x1), (3, .int x3)] 149 [.int y0] := by
  unfold f_X7_eventAfter_149 at h
  refine z_istore_n C [(2, .int y0), (0, .ref (a 0)), (1, .int x1), (3, .int x3)] rfl (by decide) rfl dX7_eventAfter_149 ?_
  refine z_iinc C [(3, .int (x3 + (1 : Int32))), (2, .int y0), (0, .ref (a 0)), (1, .int x1)] 3 rfl (by first | rfl | decide) (by decide) rfl dX7_eventAfter_150 ?_
  refine z_goto C 107 (by decide) dX7_eventAfter_153 ?_
  refine Zt_l [(0, .ref (a 0)), (1, .int x1), (2, .int y0), (3, .int (x3 + (1 : Int32)))] [2, 3, 1, 0] rfl ?_
  exact hk107 x1 y0 (x3 + (1 : Int32)) h

set_option maxHeartbeats 4000000 in
set_option maxRecDepth 100000 in
theorem L_X7_eventAfter_148 {E : zEnv} {Γ : zG} (a : Nat → Nat) (C : zC E Γ cX7_eventAfter RX7 7 rm_X7_eventAfter wsX7_eventAfter) {res : Int32} {S : St} (R : zRi E Γ cX7_eventAfter 7 .int (wModel E a S) res) (k107 : Int32 → Int32 → Int32 → St → Option Int32) (hk107 : ∀ (x1 : Int32) (x2 : Int32) (x3 : Int32), k107 x1 x2 x3 S = some res → Zt E Γ 7 0 0 (wModel E a S) [(0, .ref (a 0)), (1, .int x1), (2, .int x2), (3, .int x3)] 107 []) (x1 : Int32) (x2 : Int32) (x3 : Int32) (h : f_X7_eventAfter_148 k107 x1 x2 x3 S = some res) : Zt E Γ 7 0 0 (wModel E a S) [(0, .ref (a 0)), (1, .int x1), (2, .int x2), (3, .int x3)] 148 [] := by
  unfold f_X7_eventAfter_148 at h
  refine z_iload_n C 2 rfl rfl dX7_eventAfter_148 ?_
  refine Zt_l [(0, .ref (a 0)), (1, .int x1), (3, .int x3)] [0, 1, 3] rfl ?_
  exact L_X7_eventAfter_149 a C R k107 hk107 x1 x3 x2 h

set_option maxHeartbeats 4000000 in
set_option maxRecDepth 100000 in
theorem L_X7_eventAfter_107 {E : zEnv} {Γ : zG} (a : Nat → Nat) (C : zC E Γ cX7_eventAfter RX7 7 rm_X7_eventAfter wsX7_eventAfter) {res : Int32} {S : St} (R : zRi E Γ cX7_eventAfter 7 .int (wModel E a S) res) : ∀ (n : Nat) (x1 : Int32) (x2 : Int32) (x3 : Int32), f_X7_eventAfter_107 n x1 x2 x3 S = some res → Zt E Γ 7 0 0 (wModel E a S) [(0, .ref (a 0)), (1, .int x1), (2, .int x2), (3, .int x3)] 107 [] := by
  intro n
  induction n with
  | zero =>
    intro x1 x2 x3 h
    cases h
  | succ n ih =>
    intro x1 x2 x3 h
    rw [f_X7_eventAfter_107_s] at h
    refine z_iload_n C 3 rfl rfl dX7_eventAfter_107 ?_
    refine z_aload_n C 0 rfl rfl dX7_eventAfter_108 ?_
    refine z_get C 0 rfl (C := RX7) (T := TX7) (N := 38) (ci := 7) rfl inw_X7_eventAfter_X7 0 (by decide) (ref := "EldestAgeModel") (List.mem_of_getElem? (i := 2) rfl) rfl (v := .ref (a 1)) rfl dX7_eventAfter_109 ?_
    refine z_bipush C (v := (89 : Int32)) (by decide) dX7_eventAfter_112 ?_
    refine z_iald C (N := 368) (f := (S 0)) 1 rfl h dX7_eventAfter_114 (fun h => ?_)
    refine z_icmp_ge C 156 (by decide) h dX7_eventAfter_115 (fun hc h => ?_) (fun hc h => ?_)
    · refine z_iload_n C 2 rfl rfl dX7_eventAfter_156 ?_
      obtain rfl := Option.some.inj h
      exact R rfl 157 _ dX7_eventAfter_157
    · refine z_aload_n C 0 rfl rfl dX7_eventAfter_118 ?_
      refine z_get C 0 rfl (C := RX7) (T := TX7) (N := 38) (ci := 7) rfl inw_X7_eventAfter_X7 0 (by decide) (ref := "EldestAgeModel") (List.mem_of_getElem? (i := 2) rfl) rfl (v := .ref (a 1)) rfl dX7_eventAfter_119 ?_
      refine z_bipush C (v := (40 : Int32)) (by decide) dX7_eventAfter_122 ?_
      refine z_iconst C (v := (3 : Int32)) (by decide) dX7_eventAfter_124 ?_
      refine z_iload_n C 3 rfl rfl dX7_eventAfter_125 ?_
      refine z_imul C dX7_eventAfter_126 ?_
      refine z_iadd C dX7_eventAfter_127 ?_
      refine z_iald C (N := 368) (f := (S 0)) 1 rfl h dX7_eventAfter_128 (fun h => ?_)
      refine z_istore C [(4, .int (S 0 (Int32.toNatClampNeg ((40 : Int32) + ((3 : Int32) * x3))))), (0, .ref (a 0)), (1, .int x1), (2, .int x2), (3, .int x3)] (by decide) rfl dX7_eventAfter_129 ?_
      refine z_iload C 0 rfl dX7_eventAfter_131 ?_
      refine z_iload_n C 2 rfl rfl dX7_eventAfter_133 ?_
      refine z_icmp_le C 148 (by decide) h dX7_eventAfter_134 (fun hc h => ?_) (fun hc h => ?_)
      · refine Zt_l [(0, .ref (a 0)), (1, .int x1), (2, .int x2), (3, .int x3)] [1, 2, 3, 4] rfl ?_
        exact L_X7_eventAfter_148 a C R _ ih x1 x2 x3 h
      · refine z_iload C 0 rfl dX7_eventAfter_137 ?_
        refine z_iload_n C 3 rfl rfl dX7_eventAfter_139 ?_
        refine z_icmp_ge C 148 (by decide) h dX7_eventAfter_140 (fun hc h => ?_) (fun hc h => ?_)
        · refine Zt_l [(0, .ref (a 0)), (1, .int x1), (2, .int x2), (3, .int x3)] [1, 2, 3, 4] rfl ?_
          exact L_X7_eventAfter_148 a C R _ ih x1 x2 x3 h
        · refine z_iload C 0 rfl dX7_eventAfter_143 ?_
          refine z_goto C 149 (by decide) dX7_eventAfter_145 ?_
          refine Zt_l [(0, .ref (a 0)), (1, .int x1), (3, .int x3)] [1, 2, 4] rfl ?_
          exact L_X7_eventAfter_149 a C R _ ih x1 x3 (S 0 (Int32.toNatClampNeg ((40 : Int32) + ((3 : Int32) * x3)))) h

set_option maxHeartbeats 4000000 in
set_option maxRecDepth 100000 in
theorem L_X7_eventAfter_105 {E : zEnv} {Γ : zG} (a : Nat → Nat) (C : zC E Γ cX7_eventAfter RX7 7 rm_X7_eventAfter wsX7_eventAfter) {res : Int32} {S : St} (R : zRi E Γ cX7_eventAfter 7 .int (wModel E a S) res) (x1 : Int32) (x2 : Int32) (h : f_X7_eventAfter_105 x1 x2 S = some res) : Zt E Γ 7 0 0 (wModel E a S) [(0, .ref (a 0)), (1, .int x1), (2, .int x2)] 105 [] := by
  unfold f_X7_eventAfter_105 at h
  refine z_iconst C (v := (0 : Int32)) (by decide) dX7_eventAfter_105 ?_
  refine z_istore_n C [(3, .int (0 : Int32)), (0, .ref (a 0)), (1, .int x1), (2, .int x2)] rfl (by decide) rfl dX7_eventAfter_106 ?_
  refine Zt_l [(0, .ref (a 0)), (1, .int x1), (2, .int x2), (3, .int (0 : Int32))] [1, 2, 3, 0] rfl ?_
  exact L_X7_eventAfter_107 a C R 1000 x1 x2 (0 : Int32) h

set_option maxHeartbeats 4000000 in
set_option maxRecDepth 100000 in
theorem L_X7_eventAfter_5 {E : zEnv} {Γ : zG} (a : Nat → Nat) (C : zC E Γ cX7_eventAfter RX7 7 rm_X7_eventAfter wsX7_eventAfter) {res : Int32} {S : St} (R : zRi E Γ cX7_eventAfter 7 .int (wModel E a S) res) : ∀ (n : Nat) (x1 : Int32) (x2 : Int32) (x3 : Int32), f_X7_eventAfter_5 n x1 x2 x3 S = some res → Zt E Γ 7 0 0 (wModel E a S) [(0, .ref (a 0)), (1, .int x1), (2, .int x2), (3, .int x3)] 5 [] := by
  intro n
  induction n with
  | zero =>
    intro x1 x2 x3 h
    cases h
  | succ n ih =>
    intro x1 x2 x3 h
    rw [f_X7_eventAfter_5_s] at h
    refine z_iload_n C 3 rfl rfl dX7_eventAfter_5 ?_
    refine z_aload_n C 0 rfl rfl dX7_eventAfter_6 ?_
    obtain ⟨q1, e1, h⟩ := bd_e h
    refine z_callVi C (b := a 0) (As := []) (rest := [.int x3]) (c_X7_people E a S e1) rfl gX7_eventAfter_X7_people rfl rfl rfl 0 rfl (by decide +kernel) ⟨Nat.le_of_ble_eq_true rfl, Nat.le_of_ble_eq_true rfl⟩ [0, 1, 2, 3, 4, 5, 6, 7, 8, 9, 10, 11, 12, 13, 14, 15, 16] (wl_X7_eventAfter_0 E a S) (by decide) rfl (wModel E a S) (zrep_self (wl_X7_eventAfter_0 E a S)) 0 7 rfl rfl rfl (Nat.le_of_ble_eq_true rfl) dX7_eventAfter_7 ⟨Nat.zero_le _, Nat.zero_le _⟩ _ rfl ?_
    refine z_icmp_ge C 105 (by decide) h dX7_eventAfter_10 (fun hc h => ?_) (fun hc h => ?_)
    · refine Zt_l [(0, .ref (a 0)), (1, .int x1), (2, .int x2)] [0, 1, 2] rfl ?_
      exact L_X7_eventAfter_105 a C R x1 x2 h
    · refine z_aload_n C 0 rfl rfl dX7_eventAfter_13 ?_
      refine z_get C 0 rfl (C := RX7) (T := TX7) (N := 38) (ci := 7) rfl inw_X7_eventAfter_X7 0 (by decide) (ref := "EldestAgeModel") (List.mem_of_getElem? (i := 2) rfl) rfl (v := .ref (a 1)) rfl dX7_eventAfter_14 ?_
      refine z_iconst C (v := (4 : Int32)) (by decide) dX7_eventAfter_17 ?_
      refine z_iload_n C 3 rfl rfl dX7_eventAfter_18 ?_
      refine z_imul C dX7_eventAfter_19 ?_
      refine z_iconst C (v := (1 : Int32)) (by decide) dX7_eventAfter_20 ?_
      refine z_iadd C dX7_eventAfter_21 ?_
      refine z_iald C (N := 368) (f := (S 0)) 1 rfl h dX7_eventAfter_22 (fun h => ?_)
      refine z_istore C [(4, .int (S 0 (Int32.toNatClampNeg (((4 : Int32) * x3) + (1 : Int32))))), (0, .ref (a 0)), (1, .int x1), (2, .int x2), (3, .int x3)] (by decide) rfl dX7_eventAfter_23 ?_
      refine z_aload_n C 1 rfl rfl dX7_eventAfter_25 ?_
      refine z_get C 0 rfl (C := RX7) (T := TX7) (N := 38) (ci := 7) rfl inw_X7_eventAfter_X7 0 (by decide) (ref := "EldestAgeModel") (List.mem_of_getElem? (i := 2) rfl) rfl (v := .ref (a 1)) rfl dX7_eventAfter_26 ?_
      refine z_iconst C (v := (4 : Int32)) (by decide) dX7_eventAfter_29 ?_
      refine z_iload_n C 4 rfl rfl dX7_eventAfter_30 ?_
      refine z_imul C dX7_eventAfter_31 ?_
      refine z_iconst C (v := (3 : Int32)) (by decide) dX7_eventAfter_32 ?_
      refine z_iadd C dX7_eventAfter_33 ?_
      refine z_iald C (N := 368) (f := (S 0)) 1 rfl h dX7_eventAfter_34 (fun h => ?_)
      refine z_istore C [(5, .int (S 0 (Int32.toNatClampNeg (((4 : Int32) * x3) + (3 : Int32))))), (4, .int (S 0 (Int32.toNatClampNeg (((4 : Int32) * x3) + (1 : Int32))))), (0, .ref (a 0)), (1, .int x1), (2, .int x2), (3, .int x3)] (by decide) rfl dX7_eventAfter_35 ?_
      refine z_iload C 1 rfl dX7_eventAfter_37 ?_
      refine z_iload_n C 3 rfl rfl dX7_eventAfter_39 ?_
      refine z_icmp_le C 48 (by decide) h dX7_eventAfter_40 (fun hc h => ?_) (fun hc h => ?_)
      · refine z_iload C 1 rfl dX7_eventAfter_48 ?_
        refine z_sipush C (v := (360 : Int32)) (by decide) dX7_eventAfter_50 ?_
        refine z_iload_n C 3 rfl rfl dX7_eventAfter_53 ?_
        refine z_iload C 1 rfl dX7_eventAfter_54 ?_
        refine z_isub C dX7_eventAfter_56 ?_
        refine z_sipush C (v := (360 : Int32)) (by decide) dX7_eventAfter_57 ?_
        refine z_idiv C (by decide) dX7_eventAfter_60 ?_
        refine z_iconst C (v := (1 : Int32)) (by decide) dX7_eventAfter_61 ?_
        refine z_iadd C dX7_eventAfter_62 ?_
        refine z_imul C dX7_eventAfter_63 ?_
        refine z_iadd C dX7_eventAfter_64 ?_
        refine Zt_l [(0, .ref (a 0)), (1, .int x1), (2, .int x2), (3, .int x3), (5, .int (S 0 (Int32.toNatClampNeg (((4 : Int32) * x3) + (3 : Int32)))))] [2, 3, 4, 5, 0] rfl ?_
        exact L_X7_eventAfter_65 a C R _ ih x1 x2 x3 (S 0 (Int32.toNatClampNeg (((4 : Int32) * x3) + (3 : Int32)))) ((S 0 (Int32.toNatClampNeg (((4 : Int32) * x3) + (1 : Int32)))) + ((360 : Int32) * (((x1 - (S 0 (Int32.toNatClampNeg (((4 : Int32) * x3) + (1 : Int32))))) / (360 : Int32)) + (1 : Int32)))) h
      · refine z_iload C 1 rfl dX7_eventAfter_43 ?_
        refine z_goto C 65 (by decide) dX7_eventAfter_45 ?_
        refine Zt_l [(0, .ref (a 0)), (1, .int x1), (2, .int x2), (3, .int x3), (5, .int (S 0 (Int32.toNatClampNeg (((4 : Int32) * x3) + (3 : Int32)))))] [2, 3, 4, 5, 0] rfl ?_
        exact L_X7_eventAfter_65 a C R _ ih x1 x2 x3 (S 0 (Int32.toNatClampNeg (((4 : Int32) * x3) + (3 : Int32)))) (S 0 (Int32.toNatClampNeg (((4 : Int32) * x3) + (1 : Int32)))) h

set_option maxHeartbeats 4000000 in
set_option maxRecDepth 100000 in
theorem L_X7_eventAfter {E : zEnv} {Γ : zG} (a : Nat → Nat) (C : zC E Γ cX7_eventAfter RX7 7 rm_X7_eventAfter wsX7_eventAfter) {res : Int32} {S : St} (R : zRi E Γ cX7_eventAfter 7 .int (wModel E a S) res) (x1 : Int32) (h : f_X7_eventAfter x1 S = some res) : Zt E Γ 7 0 0 (wModel E a S) [(0, .ref (a 0)), (1, .int x1)] 0 [] := by
  unfold f_X7_eventAfter at h
  refine z_ldc C (v := (36000 : Int32)) (List.mem_of_getElem? (i := 1) rfl) dX7_eventAfter_0 ?_
  refine z_istore_n C [(2, .int (36000 : Int32)), (0, .ref (a 0)), (1, .int x1)] rfl (by decide) rfl dX7_eventAfter_2 ?_
  refine z_iconst C (v := (0 : Int32)) (by decide) dX7_eventAfter_3 ?_
  refine z_istore_n C [(3, .int (0 : Int32)), (2, .int (36000 : Int32)), (0, .ref (a 0)), (1, .int x1)] rfl (by decide) rfl dX7_eventAfter_4 ?_
  refine Zt_l [(0, .ref (a 0)), (1, .int x1), (2, .int (36000 : Int32)), (3, .int (0 : Int32))] [2, 3, 1, 0] rfl ?_
  exact L_X7_eventAfter_5 a C R 1000 x1 (36000 : Int32) (0 : Int32) h

theorem c_X7_eventAfter (E : zEnv) (a : Nat → Nat) (x1 : Int32) (S : St) {res : Int32} (h : f_X7_eventAfter x1 S = some res) : Kti E yX7_eventAfter wsX7_eventAfter rm_X7_eventAfter (wModel E a S) (wModel E a S) [.ref (a 0), .int x1] res :=
  z_enti (cc := cX7_eventAfter) (maxL := 7) (rt := .int) (by decide +kernel) rfl (Nat.le_of_ble_eq_true rfl) (fun Γ C R => L_X7_eventAfter a C R x1 h)

abbrev rm_X7_changes : Room := { frames := 5, cells := 0, slots := 0, locals := 117 }
theorem inw_X7_changes_X7 : ∀ w ∈ wsX70, w ∈ wsX7_changes := fun _ h => List.mem_cons_of_mem _ (List.mem_append_right _ h)
set_option maxHeartbeats 4000000 in
theorem wl_X7_changes_0 (E : zEnv) (a : Nat → Nat) (S : St) : ([0, 1, 2, 3, 4, 5, 6, 7, 8, 9, 10, 11, 12, 13, 14, 15, 16] : List Nat).map (fun i => (wModel E a S)[i]?) = (wModel E a S).map some := rfl
set_option maxHeartbeats 4000000 in
theorem wl_X7_changes_1 (E : zEnv) (a : Nat → Nat) (S U : St) : (wModel E a U).map (fun q => q.1) = (wModel E a S).map (fun q => q.1) := rfl
set_option maxHeartbeats 4000000 in
theorem wl_X7_changes_2 (E : zEnv) (a : Nat → Nat) (S U : St) : (wModel E a U) = zrep [0, 1, 2, 3, 4, 5, 6, 7, 8, 9, 10, 11, 12, 13, 14, 15, 16] (wModel E a U) (wModel E a S) := zrep_of (isR := []) 17 rfl [] rfl rfl rfl rfl (by decide +kernel) (by decide +kernel)
noncomputable def f_X7_changes_60 (x4 : Int32) (S : St) : Option (Int32 × St) := (if (36000 : Int32) ≤ x4 then (some ((-4 : Int32), S)) else (some (x4, S)))
noncomputable def f_X7_changes_31 (n : Nat) : Int32 → Int32 → Int32 → St → Option (Int32 × St) := Nat.rec (motive := fun _ => Int32 → Int32 → Int32 → St → Option (Int32 × St)) (fun _ _ _ _ => none) (fun _ ih => fun x1 x3 x4 S => (if (36000 : Int32) ≤ x4 then (f_X7_changes_60 x4 S) else ((f_X7_numberNow x1 x4 S).bind (fun q1 => (if q1.1 = x3 then ((f_X7_eventAfter x4 q1.2).bind (fun q2 => (ih x1 x3 q2 q1.2))) else (f_X7_changes_60 x4 q1.2)))))) n
theorem f_X7_changes_31_s (n : Nat) (x1 : Int32) (x3 : Int32) (x4 : Int32) (S : St) : f_X7_changes_31 (n + 1) x1 x3 x4 S = (if (36000 : Int32) ≤ x4 then (f_X7_changes_60 x4 S) else ((f_X7_numberNow x1 x4 S).bind (fun q1 => (if q1.1 = x3 then ((f_X7_eventAfter x4 q1.2).bind (fun q2 => ((f_X7_changes_31 n) x1 x3 q2 q1.2))) else (f_X7_changes_60 x4 q1.2))))) := rfl
noncomputable def f_X7_changes (x1 : Int32) (x2 : Int32) (S : St) : Option (Int32 × St) := ((f_X7_isHouse x1 S).bind (fun q3 => (if q3 = 0 then (some ((-1 : Int32), S)) else ((f_X7_isDay x2).bind (fun q4 => (if q4 = 0 then (some ((-1 : Int32), S)) else ((f_X7_numberNow x1 x2 S).bind (fun q5 => ((f_X7_eventAfter x2 q5.2).bind (fun q6 => (f_X7_changes_31 40000 x1 q5.1 q6 q5.2)))))))))))
set_option maxHeartbeats 4000000 in
set_option maxRecDepth 100000 in
theorem L_X7_changes_60 {E : zEnv} {Γ : zG} (a : Nat → Nat) (C : zC E Γ cX7_changes RX7 5 rm_X7_changes wsX7_changes) {res : (Int32 × St)} (R : zRi E Γ cX7_changes 5 .int (wModel E a res.2) res.1) (x4 : Int32) (S : St) (h : f_X7_changes_60 x4 S = some res) : Zt E Γ 5 0 0 (wModel E a S) [(4, .int x4)] 60 [] := by
  unfold f_X7_changes_60 at h
  refine z_iload C 0 rfl dX7_changes_60 ?_
  refine z_ldc C (v := (36000 : Int32)) (List.mem_of_getElem? (i := 1) rfl) dX7_changes_62 ?_
  refine z_icmp_ge C 72 (by decide) h dX7_changes_64 (fun hc h => ?_) (fun hc h => ?_)
  · refine z_bipush C (v := (-4 : Int32)) (by decide) dX7_changes_72 ?_
    obtain rfl := Option.some.inj h
    exact R rfl 74 _ dX7_changes_74
  · refine z_iload C 0 rfl dX7_changes_67 ?_
    refine z_goto C 74 (by decide) dX7_changes_69 ?_
    obtain rfl := Option.some.inj h
    exact R rfl 74 _ dX7_changes_74

set_option maxHeartbeats 4000000 in
set_option maxRecDepth 100000 in
theorem L_X7_changes_31 {E : zEnv} {Γ : zG} (a : Nat → Nat) (C : zC E Γ cX7_changes RX7 5 rm_X7_changes wsX7_changes) {res : (Int32 × St)} (R : zRi E Γ cX7_changes 5 .int (wModel E a res.2) res.1) : ∀ (n : Nat) (x1 : Int32) (x3 : Int32) (x4 : Int32) (S : St), f_X7_changes_31 n x1 x3 x4 S = some res → Zt E Γ 5 0 0 (wModel E a S) [(0, .ref (a 0)), (1, .int x1), (3, .int x3), (4, .int x4)] 31 [] := by
  intro n
  induction n with
  | zero =>
    intro x1 x3 x4 S h
    cases h
  | succ n ih =>
    intro x1 x3 x4 S h
    rw [f_X7_changes_31_s] at h
    refine z_iload C 3 rfl dX7_changes_31 ?_
    refine z_ldc C (v := (36000 : Int32)) (List.mem_of_getElem? (i := 1) rfl) dX7_changes_33 ?_
    refine z_icmp_ge C 60 (by decide) h dX7_changes_35 (fun hc h => ?_) (fun hc h => ?_)
    · refine Zt_l [(4, .int x4)] [3] rfl ?_
      exact L_X7_changes_60 a C R x4 S h
    · refine z_aload_n C 0 rfl rfl dX7_changes_38 ?_
      refine z_iload_n C 1 rfl rfl dX7_changes_39 ?_
      refine z_iload C 3 rfl dX7_changes_40 ?_
      obtain ⟨q1, e1, h⟩ := bd_e h
      refine z_callVi C (b := a 0) (As := [.int x1, .int x4]) (rest := []) (c_X7_numberNow E a x1 x4 S e1) rfl gX7_changes_X7_numberNow rfl rfl rfl 2 rfl (by decide +kernel) ⟨Nat.le_of_ble_eq_true rfl, Nat.le_of_ble_eq_true rfl⟩ [0, 1, 2, 3, 4, 5, 6, 7, 8, 9, 10, 11, 12, 13, 14, 15, 16] (wl_X7_changes_0 E a S) (by decide) (wl_X7_changes_1 E a _ _) (wModel E a q1.2) (wl_X7_changes_2 E a S q1.2) 0 7 rfl rfl rfl (Nat.le_of_ble_eq_true rfl) dX7_changes_42 ⟨Nat.zero_le _, Nat.zero_le _⟩ _ rfl ?_
      refine z_iload_n C 2 rfl rfl dX7_changes_45 ?_
      refine z_icmp_ne C 60 (by decide) h dX7_changes_46 (fun hc h => ?_) (fun hc h => ?_)
      · refine z_aload_n C 0 rfl rfl dX7_changes_49 ?_
        refine z_iload C 3 rfl dX7_changes_50 ?_
        obtain ⟨q2, e2, h⟩ := bd_e h
        refine z_callVi C (b := a 0) (As := [.int x4]) (rest := []) (c_X7_eventAfter E a x4 q1.2 e2) rfl gX7_changes_X7_eventAfter rfl rfl rfl 1 rfl (by decide +kernel) ⟨Nat.le_of_ble_eq_true rfl, Nat.le_of_ble_eq_true rfl⟩ [0, 1, 2, 3, 4, 5, 6, 7, 8, 9, 10, 11, 12, 13, 14, 15, 16] (wl_X7_changes_0 E a q1.2) (by decide) rfl (wModel E a q1.2) (zrep_self (wl_X7_changes_0 E a q1.2)) 0 7 rfl rfl rfl (Nat.le_of_ble_eq_true rfl) dX7_changes_52 ⟨Nat.zero_le _, Nat.zero_le _⟩ _ rfl ?_
        refine z_istore C [(4, .int q2), (0, .ref (a 0)), (1, .int x1), (3, .int x3)] (by decide) rfl dX7_changes_55 ?_
        refine z_goto C 31 (by decide) dX7_changes_57 ?_
        refine Zt_l [(0, .ref (a 0)), (1, .int x1), (3, .int x3), (4, .int q2)] [1, 2, 3, 0] rfl ?_
        exact ih x1 x3 q2 q1.2 h
      · refine Zt_l [(4, .int x4)] [3] rfl ?_
        exact L_X7_changes_60 a C R x4 q1.2 h

set_option maxHeartbeats 4000000 in
set_option maxRecDepth 100000 in
theorem L_X7_changes {E : zEnv} {Γ : zG} (a : Nat → Nat) (C : zC E Γ cX7_changes RX7 5 rm_X7_changes wsX7_changes) {res : (Int32 × St)} (R : zRi E Γ cX7_changes 5 .int (wModel E a res.2) res.1) (x1 : Int32) (x2 : Int32) (S : St) (h : f_X7_changes x1 x2 S = some res) : Zt E Γ 5 0 0 (wModel E a S) [(0, .ref (a 0)), (1, .int x1), (2, .int x2)] 0 [] := by
  unfold f_X7_changes at h
  refine z_aload_n C 0 rfl rfl dX7_changes_0 ?_
  refine z_iload_n C 1 rfl rfl dX7_changes_1 ?_
  obtain ⟨q3, e3, h⟩ := bd_e h
  refine z_callVi C (b := a 0) (As := [.int x1]) (rest := []) (c_X7_isHouse E a x1 S e3) rfl gX7_changes_X7_isHouse rfl rfl rfl 1 rfl (by decide +kernel) ⟨Nat.le_of_ble_eq_true rfl, Nat.le_of_ble_eq_true rfl⟩ [0, 1, 2, 3, 4, 5, 6, 7, 8, 9, 10, 11, 12, 13, 14, 15, 16] (wl_X7_changes_0 E a S) (by decide) rfl (wModel E a S) (zrep_self (wl_X7_changes_0 E a S)) 0 7 rfl rfl rfl (Nat.le_of_ble_eq_true rfl) dX7_changes_2 ⟨Nat.zero_le _, Nat.zero_le _⟩ _ rfl ?_
  refine z_if_eq C 15 (by decide) h dX7_changes_5 (fun hc h => ?_) (fun hc h => ?_)
  · refine z_iconst C (v := (-1 : Int32)) (by decide) dX7_changes_15 ?_
    obtain rfl := Option.some.inj h
    exact R rfl 16 _ dX7_changes_16
  · refine z_iload_n C 2 rfl rfl dX7_changes_8 ?_
    obtain ⟨q4, e4, h⟩ := bd_e h
    refine z_callSi C (rest := []) (c_X7_isDay E x2 e4) gX7_changes_X7_isDay rfl rfl rfl 1 rfl (by decide +kernel) ⟨Nat.le_of_ble_eq_true rfl, Nat.le_of_ble_eq_true rfl⟩ [] rfl (by decide) rfl (wModel E a S) rfl (Nat.le_of_ble_eq_true rfl) dX7_changes_9 ⟨Nat.zero_le _, Nat.zero_le _⟩ _ rfl ?_
    refine z_if_ne C 17 (by decide) h dX7_changes_12 (fun hc h => ?_) (fun hc h => ?_)
    · refine z_iconst C (v := (-1 : Int32)) (by decide) dX7_changes_15 ?_
      obtain rfl := Option.some.inj h
      exact R rfl 16 _ dX7_changes_16
    · refine z_aload_n C 0 rfl rfl dX7_changes_17 ?_
      refine z_iload_n C 1 rfl rfl dX7_changes_18 ?_
      refine z_iload_n C 2 rfl rfl dX7_changes_19 ?_
      obtain ⟨q5, e5, h⟩ := bd_e h
      refine z_callVi C (b := a 0) (As := [.int x1, .int x2]) (rest := []) (c_X7_numberNow E a x1 x2 S e5) rfl gX7_changes_X7_numberNow rfl rfl rfl 2 rfl (by decide +kernel) ⟨Nat.le_of_ble_eq_true rfl, Nat.le_of_ble_eq_true rfl⟩ [0, 1, 2, 3, 4, 5, 6, 7, 8, 9, 10, 11, 12, 13, 14, 15, 16] (wl_X7_changes_0 E a S) (by decide) (wl_X7_changes_1 E a _ _) (wModel E a q5.2) (wl_X7_changes_2 E a S q5.2) 0 7 rfl rfl rfl (Nat.le_of_ble_eq_true rfl) dX7_changes_20 ⟨Nat.zero_le _, Nat.zero_le _⟩ _ rfl ?_
      refine z_istore_n C [(3, .int q5.1), (0, .ref (a 0)), (1, .int x1), (2, .int x2)] rfl (by decide) rfl dX7_changes_23 ?_
      refine z_aload_n C 1 rfl rfl dX7_changes_24 ?_
      refine z_iload_n C 3 rfl rfl dX7_changes_25 ?_
      obtain ⟨q6, e6, h⟩ := bd_e h
      refine z_callVi C (b := a 0) (As := [.int x2]) (rest := []) (c_X7_eventAfter E a x2 q5.2 e6) rfl gX7_changes_X7_eventAfter rfl rfl rfl 1 rfl (by decide +kernel) ⟨Nat.le_of_ble_eq_true rfl, Nat.le_of_ble_eq_true rfl⟩ [0, 1, 2, 3, 4, 5, 6, 7, 8, 9, 10, 11, 12, 13, 14, 15, 16] (wl_X7_changes_0 E a q5.2) (by decide) rfl (wModel E a q5.2) (zrep_self (wl_X7_changes_0 E a q5.2)) 0 7 rfl rfl rfl (Nat.le_of_ble_eq_true rfl) dX7_changes_26 ⟨Nat.zero_le _, Nat.zero_le _⟩ _ rfl ?_
      refine z_istore C [(4, .int q6), (3, .int q5.1), (0, .ref (a 0)), (1, .int x1), (2, .int x2)] (by decide) rfl dX7_changes_29 ?_
      refine Zt_l [(0, .ref (a 0)), (1, .int x1), (3, .int q5.1), (4, .int q6)] [2, 3, 1, 0] rfl ?_
      exact L_X7_changes_31 a C R 40000 x1 q5.1 q6 q5.2 h

theorem c_X7_changes (E : zEnv) (a : Nat → Nat) (x1 : Int32) (x2 : Int32) (S : St) {res : (Int32 × St)} (h : f_X7_changes x1 x2 S = some res) : Kti E yX7_changes wsX7_changes rm_X7_changes (wModel E a S) (wModel E a res.2) [.ref (a 0), .int x1, .int x2] res.1 :=
  z_enti (cc := cX7_changes) (maxL := 5) (rt := .int) (by decide +kernel) rfl (Nat.le_of_ble_eq_true rfl) (fun Γ C R => L_X7_changes a C R x1 x2 S h)

abbrev rm_X7_descending : Room := { frames := 5, cells := 0, slots := 0, locals := 117 }
theorem inw_X7_descending_X7 : ∀ w ∈ wsX70, w ∈ wsX7_descending := fun _ h => List.mem_cons_of_mem _ (List.mem_append_right _ h)
set_option maxHeartbeats 4000000 in
theorem wl_X7_descending_0 (E : zEnv) (a : Nat → Nat) (S : St) : ([0, 1, 2, 3, 4, 5, 6, 7, 8, 9, 10, 11, 12, 13, 14, 15, 16] : List Nat).map (fun i => (wModel E a S)[i]?) = (wModel E a S).map some := rfl
set_option maxHeartbeats 4000000 in
theorem wl_X7_descending_1 (E : zEnv) (a : Nat → Nat) (S U : St) : (wModel E a U).map (fun q => q.1) = (wModel E a S).map (fun q => q.1) := rfl
set_option maxHeartbeats 4000000 in
theorem wl_X7_descending_2 (E : zEnv) (a : Nat → Nat) (S U : St) : (wModel E a U) = zrep [0, 1, 2, 3, 4, 5, 6, 7, 8, 9, 10, 11, 12, 13, 14, 15, 16] (wModel E a U) (wModel E a S) := zrep_of (isR := []) 17 rfl [] rfl rfl rfl rfl (by decide +kernel) (by decide +kernel)
noncomputable def f_X7_descending_109 (k25 : Int32 → Int32 → Int32 → Int32 → Int32 → St → Option (Int32 × St)) (k42 : Int32 → Int32 → Int32 → Int32 → Int32 → Int32 → Int32 → St → Option (Int32 × St)) (x1 : Int32) (x2 : Int32) (x3 : Int32) (x4 : Int32) (x5 : Int32) (x7 : Int32) (y0 : Int32) (S : St) : Option (Int32 × St) := (k42 x1 x2 x3 x4 x5 y0 (x7 + (1 : Int32)) S)
noncomputable def f_X7_descending_95 (k25 : Int32 → Int32 → Int32 → Int32 → Int32 → St → Option (Int32 × St)) (k42 : Int32 → Int32 → Int32 → Int32 → Int32 → Int32 → Int32 → St → Option (Int32 × St)) (x1 : Int32) (x2 : Int32) (x3 : Int32) (x5 : Int32) (x6 : Int32) (x7 : Int32) (x8 : Int32) (x9 : Int32) (y0 : Int32) (S : St) : Option (Int32 × St) := (if x9 = 0 then (f_X7_descending_109 k25 k42 x1 x2 x3 y0 x5 x7 x6 S) else (f_X7_descending_109 k25 k42 x1 x2 x3 y0 x5 x7 x8 S))
noncomputable def f_X7_descending_81 (k25 : Int32 → Int32 → Int32 → Int32 → Int32 → St → Option (Int32 × St)) (k42 : Int32 → Int32 → Int32 → Int32 → Int32 → Int32 → Int32 → St → Option (Int32 × St)) (x1 : Int32) (x2 : Int32) (x3 : Int32) (x4 : Int32) (x5 : Int32) (x6 : Int32) (x7 : Int32) (x8 : Int32) (y0 : Int32) (S : St) : Option (Int32 × St) := (if y0 = 0 then (f_X7_descending_95 k25 k42 x1 x2 x3 x5 x6 x7 x8 y0 x4 S) else (f_X7_descending_95 k25 k42 x1 x2 x3 x5 x6 x7 x8 y0 x7 S))
noncomputable def f_X7_descending_80 (k25 : Int32 → Int32 → Int32 → Int32 → Int32 → St → Option (Int32 × St)) (k42 : Int32 → Int32 → Int32 → Int32 → Int32 → Int32 → Int32 → St → Option (Int32 × St)) (x1 : Int32) (x2 : Int32) (x3 : Int32) (x4 : Int32) (x5 : Int32) (x6 : Int32) (x7 : Int32) (x8 : Int32) (S : St) : Option (Int32 × St) := (f_X7_descending_81 k25 k42 x1 x2 x3 x4 x5 x6 x7 x8 (0 : Int32) S)
noncomputable def f_X7_descending_117 (k25 : Int32 → Int32 → Int32 → Int32 → Int32 → St → Option (Int32 × St)) (x1 : Int32) (x2 : Int32) (x3 : Int32) (x4 : Int32) (x5 : Int32) (S : St) : Option (Int32 × St) := (k25 x1 x2 (x3 ||| ((1 : Int32) <<< (x4 &&& 31))) x4 (x5 + (1 : Int32)) S)
noncomputable def f_X7_descending_42 (k25 : Int32 → Int32 → Int32 → Int32 → Int32 → St → Option (Int32 × St)) (n : Nat) : Int32 → Int32 → Int32 → Int32 → Int32 → Int32 → Int32 → St → Option (Int32 × St) := Nat.rec (motive := fun _ => Int32 → Int32 → Int32 → Int32 → Int32 → Int32 → Int32 → St → Option (Int32 × St)) (fun _ _ _ _ _ _ _ _ => none) (fun _ ih => fun x1 x2 x3 x4 x5 x6 x7 S => (if (S 1 0) ≤ x7 then (f_X7_descending_117 k25 x1 x2 x3 x4 x5 S) else ((f_X7_numberNow x7 x1 S).bind (fun q1 => (if ((x3 >>> (x7 &&& 31)) &&& (1 : Int32)) = 0 then (if q1.1 ≤ x6 then (f_X7_descending_80 k25 ih x1 x2 x3 x4 x5 x6 x7 q1.1 q1.2) else (f_X7_descending_81 k25 ih x1 x2 x3 x4 x5 x6 x7 q1.1 (1 : Int32) q1.2)) else (f_X7_descending_80 k25 ih x1 x2 x3 x4 x5 x6 x7 q1.1 q1.2)))))) n
theorem f_X7_descending_42_s (k25 : Int32 → Int32 → Int32 → Int32 → Int32 → St → Option (Int32 × St)) (n : Nat) (x1 : Int32) (x2 : Int32) (x3 : Int32) (x4 : Int32) (x5 : Int32) (x6 : Int32) (x7 : Int32) (S : St) : f_X7_descending_42 k25 (n + 1) x1 x2 x3 x4 x5 x6 x7 S = (if (S 1 0) ≤ x7 then (f_X7_descending_117 k25 x1 x2 x3 x4 x5 S) else ((f_X7_numberNow x7 x1 S).bind (fun q1 => (if ((x3 >>> (x7 &&& 31)) &&& (1 : Int32)) = 0 then (if q1.1 ≤ x6 then (f_X7_descending_80 k25 (f_X7_descending_42 k25 n) x1 x2 x3 x4 x5 x6 x7 q1.1 q1.2) else (f_X7_descending_81 k25 (f_X7_descending_42 k25 n) x1 x2 x3 x4 x5 x6 x7 q1.1 (1 : Int32) q1.2)) else (f_X7_descending_80 k25 (f_X7_descending_42 k25 n) x1 x2 x3 x4 x5 x6 x7 q1.1 q1.2))))) := rfl
noncomputable def f_X7_descending_25 (n : Nat) : Int32 → Int32 → Int32 → Int32 → Int32 → St → Option (Int32 × St) := Nat.rec (motive := fun _ => Int32 → Int32 → Int32 → Int32 → Int32 → St → Option (Int32 × St)) (fun _ _ _ _ _ _ => none) (fun _ ih => fun x1 x2 x3 x4 x5 S => (if x2 < x5 then (some (x4, S)) else (f_X7_descending_42 ih 1000 x1 x2 x3 (-4 : Int32) x5 (-5 : Int32) (0 : Int32) S))) n
theorem f_X7_descending_25_s (n : Nat) (x1 : Int32) (x2 : Int32) (x3 : Int32) (x4 : Int32) (x5 : Int32) (S : St) : f_X7_descending_25 (n + 1) x1 x2 x3 x4 x5 S = (if x2 < x5 then (some (x4, S)) else (f_X7_descending_42 (f_X7_descending_25 n) 1000 x1 x2 x3 (-4 : Int32) x5 (-5 : Int32) (0 : Int32) S)) := rfl
noncomputable def f_X7_descending (x1 : Int32) (x2 : Int32) (S : St) : Option (Int32 × St) := ((f_X7_isDay x1).bind (fun q2 => (if q2 = 0 then (some ((-1 : Int32), S)) else ((f_X7_isHouse x2 S).bind (fun q3 => (if q3 = 0 then (some ((-1 : Int32), S)) else (f_X7_descending_25 1000 x1 x2 (0 : Int32) (0 : Int32) (0 : Int32) S)))))))
set_option maxHeartbeats 4000000 in
set_option maxRecDepth 100000 in
theorem L_X7_descending_109 {E : zEnv} {Γ : zG} (a : Nat → Nat) (C : zC E Γ cX7_descending RX7 10 rm_X7_descending wsX7_descending) {res : (Int32 × St)} (R : zRi E Γ cX7_descending 10 .int (wModel E a res.2) res.1) (k25 : Int32 → Int32 → Int32 → Int32 → Int32 → St → Option (Int32 × St)) (hk25 : ∀ (x1 : Int32) (x2 : Int32) (x3 : Int32) (x4 : Int32) (x5 : Int32) (S : St), k25 x1 x2 x3 x4 x5 S = some res → Zt E Γ 10 0 0 (wModel E a S) [(0, .ref (a 0)), (1, .int x1), (2, .int x2), (3, .int x3), (4, .int x4), (5, .int x5)] 25 []) (k42 : Int32 → Int32 → Int32 → Int32 → Int32 → Int32 → Int32 → St → Option (Int32 × St)) (hk42 : ∀ (x1 : Int32) (x2 : Int32) (x3 : Int32) (x4 : Int32) (x5 : Int32) (x6 : Int32) (x7 : Int32) (S : St), k42 x1 x2 x3 x4 x5 x6 x7 S = some res → Zt E Γ 10 0 0 (wModel E a S) [(0, .ref (a 0)), (1, .int x1), (2, .int x2), (3, .int x3), (4, .int x4), (5, .int x5), (6, .int x6), (7, .int x7)] 42 []) (x1 : Int32) (x2 : Int32) (x3 : Int32) (x4 : Int32) (x5 : Int32) (x7 : Int32) (y0 : Int32) (S : St) (h : f_X7_descending_109 k25 k42 x1 x2 x3 x4 x5 x7 y0 S = some res) : Zt E Γ 10 0 0 (wModel E a S) [(0, .ref (a 0)), (1, .int x1), (2, .int x2), (3, .int x3), (4, .int x4), (5, .int x5), (7, .int x7)] 109 [.int y0] := by
  unfold f_X7_descending_109 at h
  refine z_istore C [(6, .int y0), (0, .ref (a 0)), (1, .int x1), (2, .int x2), (3, .int x3), (4, .int x4), (5, .int x5), (7, .int x7)] (by decide) rfl dX7_descending_109 ?_
  refine z_iinc C [(7, .int (x7 + (1 : Int32))), (6, .int y0), (0, .ref (a 0)), (1, .int x1), (2, .int x2), (3, .int x3), (4, .int x4), (5, .int x5)] 7 rfl (by first | rfl | decide) (by decide) rfl dX7_descending_111 ?_
  refine z_goto C 42 (by decide) dX7_descending_114 ?_
  refine Zt_l [(0, .ref (a 0)), (1, .int x1), (2, .int x2), (3, .int x3), (4, .int x4), (5, .int x5), (6, .int y0), (7, .int (x7 + (1 : Int32)))] [2, 3, 4, 5, 6, 7, 1, 0] rfl ?_
  exact hk42 x1 x2 x3 x4 x5 y0 (x7 + (1 : Int32)) S h

set_option maxHeartbeats 4000000 in
set_option maxRecDepth 100000 in
theorem L_X7_descending_95 {E : zEnv} {Γ : zG} (a : Nat → Nat) (C : zC E Γ cX7_descending RX7 10 rm_X7_descending wsX7_descending) {res : (Int32 × St)} (R : zRi E Γ cX7_descending 10 .int (wModel E a res.2) res.1) (k25 : Int32 → Int32 → Int32 → Int32 → Int32 → St → Option (Int32 × St)) (hk25 : ∀ (x1 : Int32) (x2 : Int32) (x3 : Int32) (x4 : Int32) (x5 : Int32) (S : St), k25 x1 x2 x3 x4 x5 S = some res → Zt E Γ 10 0 0 (wModel E a S) [(0, .ref (a 0)), (1, .int x1), (2, .int x2), (3, .int x3), (4, .int x4), (5, .int x5)] 25 []) (k42 : Int32 → Int32 → Int32 → Int32 → Int32 → Int32 → Int32 → St → Option (Int32 × St)) (hk42 : ∀ (x1 : Int32) (x2 : Int32) (x3 : Int32) (x4 : Int32) (x5 : Int32) (x6 : Int32) (x7 : Int32) (S : St), k42 x1 x2 x3 x4 x5 x6 x7 S = some res → Zt E Γ 10 0 0 (wModel E a S) [(0, .ref (a 0)), (1, .int x1), (2, .int x2), (3, .int x3), (4, .int x4), (5, .int x5), (6, .int x6), (7, .int x7)] 42 []) (x1 : Int32) (x2 : Int32) (x3 : Int32) (x5 : Int32) (x6 : Int32) (x7 : Int32) (x8 : Int32) (x9 : Int32) (y0 : Int32) (S : St) (h : f_X7_descending_95 k25 k42 x1 x2 x3 x5 x6 x7 x8 x9 y0 S = some res) : Zt E Γ 10 0 0 (wModel E a S) [(0, .ref (a 0)), (1, .int x1), (2, .int x2), (3, .int x3), (5, .int x5), (6, .int x6), (7, .int x7), (8, .int x8), (9, .int x9)] 95 [.int y0] := by
  unfold f_X7_descending_95 at h
  refine z_istore C [(4, .int y0), (0, .ref (a 0)), (1, .int x1), (2, .int x2), (3, .int x3), (5, .int x5), (6, .int x6), (7, .int x7), (8, .int x8), (9, .int x9)] (by decide) rfl dX7_descending_95 ?_
  refine z_iload C 9 rfl dX7_descending_97 ?_
  refine z_if_eq C 107 (by decide) h dX7_descending_99 (fun hc h => ?_) (fun hc h => ?_)
  · refine z_iload C 6 rfl dX7_descending_107 ?_
    refine Zt_l [(0, .ref (a 0)), (1, .int x1), (2, .int x2), (3, .int x3), (4, .int y0), (5, .int x5), (7, .int x7)] [1, 2, 3, 4, 0, 5, 7] rfl ?_
    exact L_X7_descending_109 a C R k25 hk25 k42 hk42 x1 x2 x3 y0 x5 x7 x6 S h
  · refine z_iload C 8 rfl dX7_descending_102 ?_
    refine z_goto C 109 (by decide) dX7_descending_104 ?_
    refine Zt_l [(0, .ref (a 0)), (1, .int x1), (2, .int x2), (3, .int x3), (4, .int y0), (5, .int x5), (7, .int x7)] [1, 2, 3, 4, 0, 5, 7] rfl ?_
    exact L_X7_descending_109 a C R k25 hk25 k42 hk42 x1 x2 x3 y0 x5 x7 x8 S h

set_option maxHeartbeats 4000000 in
set_option maxRecDepth 100000 in
theorem L_X7_descending_81 {E : zEnv} {Γ : zG} (a : Nat → Nat) (C : zC E Γ cX7_descending RX7 10 rm_X7_descending wsX7_descending) {res : (Int32 × St)} (R : zRi E Γ cX7_descending 10 .int (wModel E a res.2) res.1) (k25 : Int32 → Int32 → Int32 → Int32 → Int32 → St → Option (Int32 × St)) (hk25 : ∀ (x1 : Int32) (x2 : Int32) (x3 : Int32) (x4 : Int32) (x5 : Int32) (S : St), k25 x1 x2 x3 x4 x5 S = some res → Zt E Γ 10 0 0 (wModel E a S) [(0, .ref (a 0)), (1, .int x1), (2, .int x2), (3, .int x3), (4, .int x4), (5, .int x5)] 25 []) (k42 : Int32 → Int32 → Int32 → Int32 → Int32 → Int32 → Int32 → St → Option (Int32 × St)) (hk42 : ∀ (x1 : Int32) (x2 : Int32) (x3 : Int32) (x4 : Int32) (x5 : Int32) (x6 : Int32) (x7 : Int32) (S : St), k42 x1 x2 x3 x4 x5 x6 x7 S = some res → Zt E Γ 10 0 0 (wModel E a S) [(0, .ref (a 0)), (1, .int x1), (2, .int x2), (3, .int x3), (4, .int x4), (5, .int x5), (6, .int x6), (7, .int x7)] 42 []) (x1 : Int32) (x2 : Int32) (x3 : Int32) (x4 : Int32) (x5 : Int32) (x6 : Int32) (x7 : Int32) (x8 : Int32) (y0 : Int32) (S : St) (h : f_X7_descending_81 k25 k42 x1 x2 x3 x4 x5 x6 x7 x8 y0 S = some res) : Zt E Γ 10 0 0 (wModel E a S) [(0, .ref (a 0)), (1, .int x1), (2, .int x2), (3, .int x3), (4, .int x4), (5, .int x5), (6, .int x6), (7, .int x7), (8, .int x8)] 81 [.int y0] := by
  unfold f_X7_descending_81 at h
  refine z_istore C [(9, .int y0), (0, .ref (a 0)), (1, .int x1), (2, .int x2), (3, .int x3), (4, .int x4), (5, .int x5), (6, .int x6), (7, .int x7), (8, .int x8)] (by decide) rfl dX7_descending_81 ?_
  refine z_iload C 0 rfl dX7_descending_83 ?_
  refine z_if_eq C 93 (by decide) h dX7_descending_85 (fun hc h => ?_) (fun hc h => ?_)
  · refine z_iload C 5 rfl dX7_descending_93 ?_
    refine Zt_l [(0, .ref (a 0)), (1, .int x1), (2, .int x2), (3, .int x3), (5, .int x5), (6, .int x6), (7, .int x7), (8, .int x8), (9, .int y0)] [1, 2, 3, 4, 6, 7, 8, 9, 0] rfl ?_
    exact L_X7_descending_95 a C R k25 hk25 k42 hk42 x1 x2 x3 x5 x6 x7 x8 y0 x4 S h
  · refine z_iload C 8 rfl dX7_descending_88 ?_
    refine z_goto C 95 (by decide) dX7_descending_90 ?_
    refine Zt_l [(0, .ref (a 0)), (1, .int x1), (2, .int x2), (3, .int x3), (5, .int x5), (6, .int x6), (7, .int x7), (8, .int x8), (9, .int y0)] [1, 2, 3, 4, 6, 7, 8, 9, 0] rfl ?_
    exact L_X7_descending_95 a C R k25 hk25 k42 hk42 x1 x2 x3 x5 x6 x7 x8 y0 x7 S h

set_option maxHeartbeats 4000000 in
set_option maxRecDepth 100000 in
theorem L_X7_descending_80 {E : zEnv} {Γ : zG} (a : Nat → Nat) (C : zC E Γ cX7_descending RX7 10 rm_X7_descending wsX7_descending) {res : (Int32 × St)} (R : zRi E Γ cX7_descending 10 .int (wModel E a res.2) res.1) (k25 : Int32 → Int32 → Int32 → Int32 → Int32 → St → Option (Int32 × St)) (hk25 : ∀ (x1 : Int32) (x2 : Int32) (x3 : Int32) (x4 : Int32) (x5 : Int32) (S : St), k25 x1 x2 x3 x4 x5 S = some res → Zt E Γ 10 0 0 (wModel E a S) [(0, .ref (a 0)), (1, .int x1), (2, .int x2), (3, .int x3), (4, .int x4), (5, .int x5)] 25 []) (k42 : Int32 → Int32 → Int32 → Int32 → Int32 → Int32 → Int32 → St → Option (Int32 × St)) (hk42 : ∀ (x1 : Int32) (x2 : Int32) (x3 : Int32) (x4 : Int32) (x5 : Int32) (x6 : Int32) (x7 : Int32) (S : St), k42 x1 x2 x3 x4 x5 x6 x7 S = some res → Zt E Γ 10 0 0 (wModel E a S) [(0, .ref (a 0)), (1, .int x1), (2, .int x2), (3, .int x3), (4, .int x4), (5, .int x5), (6, .int x6), (7, .int x7)] 42 []) (x1 : Int32) (x2 : Int32) (x3 : Int32) (x4 : Int32) (x5 : Int32) (x6 : Int32) (x7 : Int32) (x8 : Int32) (S : St) (h : f_X7_descending_80 k25 k42 x1 x2 x3 x4 x5 x6 x7 x8 S = some res) : Zt E Γ 10 0 0 (wModel E a S) [(0, .ref (a 0)), (1, .int x1), (2, .int x2), (3, .int x3), (4, .int x4), (5, .int x5), (6, .int x6), (7, .int x7), (8, .int x8)] 80 [] := by
  unfold f_X7_descending_80 at h
  refine z_iconst C (v := (0 : Int32)) (by decide) dX7_descending_80 ?_
  exact L_X7_descending_81 a C R k25 hk25 k42 hk42 x1 x2 x3 x4 x5 x6 x7 x8 (0 : Int32) S h

set_option maxHeartbeats 4000000 in
set_option maxRecDepth 100000 in
theorem L_X7_descending_117 {E : zEnv} {Γ : zG} (a : Nat → Nat) (C : zC E Γ cX7_descending RX7 10 rm_X7_descending wsX7_descending) {res : (Int32 × St)} (R : zRi E Γ cX7_descending 10 .int (wModel E a res.2) res.1) (k25 : Int32 → Int32 → Int32 → Int32 → Int32 → St → Option (Int32 × St)) (hk25 : ∀ (x1 : Int32) (x2 : Int32) (x3 : Int32) (x4 : Int32) (x5 : Int32) (S : St), k25 x1 x2 x3 x4 x5 S = some res → Zt E Γ 10 0 0 (wModel E a S) [(0, .ref (a 0)), (1, .int x1), (2, .int x2), (3, .int x3), (4, .int x4), (5, .int x5)] 25 []) (x1 : Int32) (x2 : Int32) (x3 : Int32) (x4 : Int32) (x5 : Int32) (S : St) (h : f_X7_descending_117 k25 x1 x2 x3 x4 x5 S = some res) : Zt E Γ 10 0 0 (wModel E a S) [(0, .ref (a 0)), (1, .int x1), (2, .int x2), (3, .int x3), (4, .int x4), (5, .int x5)] 117 [] := by
  unfold f_X7_descending_117 at h
  refine z_iload_n C 3 rfl rfl dX7_descending_117 ?_
  refine z_iconst C (v := (1 : Int32)) (by decide) dX7_descending_118 ?_
  refine z_iload C 4 rfl dX7_descending_119 ?_
  refine z_ishl C dX7_descending_121 ?_
  refine z_ior C dX7_descending_122 ?_
  refine z_istore_n C [(3, .int (x3 ||| ((1 : Int32) <<< (x4 &&& 31)))), (0, .ref (a 0)), (1, .int x1), (2, .int x2), (4, .int x4), (5, .int x5)] rfl (by decide) rfl dX7_descending_123 ?_
  refine z_iinc C [(5, .int (x5 + (1 : Int32))), (3, .int (x3 ||| ((1 : Int32) <<< (x4 &&& 31)))), (0, .ref (a 0)), (1, .int x1), (2, .int x2), (4, .int x4)] 5 rfl (by first | rfl | decide) (by decide) rfl dX7_descending_124 ?_
  refine z_goto C 25 (by decide) dX7_descending_127 ?_
  refine Zt_l [(0, .ref (a 0)), (1, .int x1), (2, .int x2), (3, .int (x3 ||| ((1 : Int32) <<< (x4 &&& 31)))), (4, .int x4), (5, .int (x5 + (1 : Int32)))] [2, 3, 4, 1, 5, 0] rfl ?_
  exact hk25 x1 x2 (x3 ||| ((1 : Int32) <<< (x4 &&& 31))) x4 (x5 + (1 : Int32)) S h

set_option maxHeartbeats 4000000 in
set_option maxRecDepth 100000 in
theorem L_X7_descending_42 {E : zEnv} {Γ : zG} (a : Nat → Nat) (C : zC E Γ cX7_descending RX7 10 rm_X7_descending wsX7_descending) {res : (Int32 × St)} (R : zRi E Γ cX7_descending 10 .int (wModel E a res.2) res.1) (k25 : Int32 → Int32 → Int32 → Int32 → Int32 → St → Option (Int32 × St)) (hk25 : ∀ (x1 : Int32) (x2 : Int32) (x3 : Int32) (x4 : Int32) (x5 : Int32) (S : St), k25 x1 x2 x3 x4 x5 S = some res → Zt E Γ 10 0 0 (wModel E a S) [(0, .ref (a 0)), (1, .int x1), (2, .int x2), (3, .int x3), (4, .int x4), (5, .int x5)] 25 []) : ∀ (n : Nat) (x1 : Int32) (x2 : Int32) (x3 : Int32) (x4 : Int32) (x5 : Int32) (x6 : Int32) (x7 : Int32) (S : St), f_X7_descending_42 k25 n x1 x2 x3 x4 x5 x6 x7 S = some res → Zt E Γ 10 0 0 (wModel E a S) [(0, .ref (a 0)), (1, .int x1), (2, .int x2), (3, .int x3), (4, .int x4), (5, .int x5), (6, .int x6), (7, .int x7)] 42 [] := by
  intro n
  induction n with
  | zero =>
    intro x1 x2 x3 x4 x5 x6 x7 S h
    cases h
  | succ n ih =>
    intro x1 x2 x3 x4 x5 x6 x7 S h
    rw [f_X7_descending_42_s] at h
    refine z_iload C 7 rfl dX7_descending_42 ?_
    refine z_aload_n C 0 rfl rfl dX7_descending_44 ?_
    refine z_get C 0 rfl (C := RX7) (T := TX7) (N := 38) (ci := 7) rfl inw_X7_descending_X7 1 (by decide) (ref := "EldestAgeModel") (List.mem_of_getElem? (i := 1) rfl) rfl (v := .int (S 1 0)) rfl dX7_descending_45 ?_
    refine z_icmp_ge C 117 (by decide) h dX7_descending_48 (fun hc h => ?_) (fun hc h => ?_)
    · refine Zt_l [(0, .ref (a 0)), (1, .int x1), (2, .int x2), (3, .int x3), (4, .int x4), (5, .int x5)] [0, 1, 2, 3, 4, 5] rfl ?_
      exact L_X7_descending_117 a C R k25 hk25 x1 x2 x3 x4 x5 S h
    · refine z_aload_n C 0 rfl rfl dX7_descending_51 ?_
      refine z_iload C 7 rfl dX7_descending_52 ?_
      refine z_iload_n C 1 rfl rfl dX7_descending_54 ?_
      obtain ⟨q1, e1, h⟩ := bd_e h
      refine z_callVi C (b := a 0) (As := [.int x7, .int x1]) (rest := []) (c_X7_numberNow E a x7 x1 S e1) rfl gX7_descending_X7_numberNow rfl rfl rfl 2 rfl (by decide +kernel) ⟨Nat.le_of_ble_eq_true rfl, Nat.le_of_ble_eq_true rfl⟩ [0, 1, 2, 3, 4, 5, 6, 7, 8, 9, 10, 11, 12, 13, 14, 15, 16] (wl_X7_descending_0 E a S) (by decide) (wl_X7_descending_1 E a _ _) (wModel E a q1.2) (wl_X7_descending_2 E a S q1.2) 0 7 rfl rfl rfl (Nat.le_of_ble_eq_true rfl) dX7_descending_55 ⟨Nat.zero_le _, Nat.zero_le _⟩ _ rfl ?_
      refine z_istore C [(8, .int q1.1), (0, .ref (a 0)), (1, .int x1), (2, .int x2), (3, .int x3), (4, .int x4), (5, .int x5), (6, .int x6), (7, .int x7)] (by decide) rfl dX7_descending_58 ?_
      refine z_iload_n C 4 rfl rfl dX7_descending_60 ?_
      refine z_iload C 8 rfl dX7_descending_61 ?_
      refine z_ishr C dX7_descending_63 ?_
      refine z_iconst C (v := (1 : Int32)) (by decide) dX7_descending_64 ?_
      refine z_iand C dX7_descending_65 ?_
      refine z_if_ne C 80 (by decide) h dX7_descending_66 (fun hc h => ?_) (fun hc h => ?_)
      · refine z_iload C 0 rfl dX7_descending_69 ?_
        refine z_iload C 7 rfl dX7_descending_71 ?_
        refine z_icmp_le C 80 (by decide) h dX7_descending_73 (fun hc h => ?_) (fun hc h => ?_)
        · refine Zt_l [(0, .ref (a 0)), (1, .int x1), (2, .int x2), (3, .int x3), (4, .int x4), (5, .int x5), (6, .int x6), (7, .int x7), (8, .int q1.1)] [1, 2, 3, 4, 5, 6, 7, 8, 0] rfl ?_
          exact L_X7_descending_80 a C R k25 hk25 _ ih x1 x2 x3 x4 x5 x6 x7 q1.1 q1.2 h
        · refine z_iconst C (v := (1 : Int32)) (by decide) dX7_descending_76 ?_
          refine z_goto C 81 (by decide) dX7_descending_77 ?_
          refine Zt_l [(0, .ref (a 0)), (1, .int x1), (2, .int x2), (3, .int x3), (4, .int x4), (5, .int x5), (6, .int x6), (7, .int x7), (8, .int q1.1)] [1, 2, 3, 4, 5, 6, 7, 8, 0] rfl ?_
          exact L_X7_descending_81 a C R k25 hk25 _ ih x1 x2 x3 x4 x5 x6 x7 q1.1 (1 : Int32) q1.2 h
      · refine Zt_l [(0, .ref (a 0)), (1, .int x1), (2, .int x2), (3, .int x3), (4, .int x4), (5, .int x5), (6, .int x6), (7, .int x7), (8, .int q1.1)] [1, 2, 3, 4, 5, 6, 7, 8, 0] rfl ?_
        exact L_X7_descending_80 a C R k25 hk25 _ ih x1 x2 x3 x4 x5 x6 x7 q1.1 q1.2 h

set_option maxHeartbeats 4000000 in
set_option maxRecDepth 100000 in
theorem L_X7_descending_25 {E : zEnv} {Γ : zG} (a : Nat → Nat) (C : zC E Γ cX7_descending RX7 10 rm_X7_descending wsX7_descending) {res : (Int32 × St)} (R : zRi E Γ cX7_descending 10 .int (wModel E a res.2) res.1) : ∀ (n : Nat) (x1 : Int32) (x2 : Int32) (x3 : Int32) (x4 : Int32) (x5 : Int32) (S : St), f_X7_descending_25 n x1 x2 x3 x4 x5 S = some res → Zt E Γ 10 0 0 (wModel E a S) [(0, .ref (a 0)), (1, .int x1), (2, .int x2), (3, .int x3), (4, .int x4), (5, .int x5)] 25 [] := by
  intro n
  induction n with
  | zero =>
    intro x1 x2 x3 x4 x5 S h
    cases h
  | succ n ih =>
    intro x1 x2 x3 x4 x5 S h
    rw [f_X7_descending_25_s] at h
    refine z_iload C 5 rfl dX7_descending_25 ?_
    refine z_iload_n C 2 rfl rfl dX7_descending_27 ?_
    refine z_icmp_gt C 130 (by decide) h dX7_descending_28 (fun hc h => ?_) (fun hc h => ?_)
    · refine z_iload C 4 rfl dX7_descending_130 ?_
      obtain rfl := Option.some.inj h
      exact R rfl 132 _ dX7_descending_132
    · refine z_bipush C (v := (-4 : Int32)) (by decide) dX7_descending_31 ?_
      refine z_istore C [(4, .int (-4 : Int32)), (0, .ref (a 0)), (1, .int x1), (2, .int x2), (3, .int x3), (5, .int x5)] (by decide) rfl dX7_descending_33 ?_
      refine z_bipush C (v := (-5 : Int32)) (by decide) dX7_descending_35 ?_
      refine z_istore C [(6, .int (-5 : Int32)), (4, .int (-4 : Int32)), (0, .ref (a 0)), (1, .int x1), (2, .int x2), (3, .int x3), (5, .int x5)] (by decide) rfl dX7_descending_37 ?_
      refine z_iconst C (v := (0 : Int32)) (by decide) dX7_descending_39 ?_
      refine z_istore C [(7, .int (0 : Int32)), (6, .int (-5 : Int32)), (4, .int (-4 : Int32)), (0, .ref (a 0)), (1, .int x1), (2, .int x2), (3, .int x3), (5, .int x5)] (by decide) rfl dX7_descending_40 ?_
      refine Zt_l [(0, .ref (a 0)), (1, .int x1), (2, .int x2), (3, .int x3), (4, .int (-4 : Int32)), (5, .int x5), (6, .int (-5 : Int32)), (7, .int (0 : Int32))] [3, 4, 5, 6, 2, 7, 1, 0] rfl ?_
      exact L_X7_descending_42 a C R _ ih 1000 x1 x2 x3 (-4 : Int32) x5 (-5 : Int32) (0 : Int32) S h

set_option maxHeartbeats 4000000 in
set_option maxRecDepth 100000 in
theorem L_X7_descending {E : zEnv} {Γ : zG} (a : Nat → Nat) (C : zC E Γ cX7_descending RX7 10 rm_X7_descending wsX7_descending) {res : (Int32 × St)} (R : zRi E Γ cX7_descending 10 .int (wModel E a res.2) res.1) (x1 : Int32) (x2 : Int32) (S : St) (h : f_X7_descending x1 x2 S = some res) : Zt E Γ 10 0 0 (wModel E a S) [(0, .ref (a 0)), (1, .int x1), (2, .int x2)] 0 [] := by
  unfold f_X7_descending at h
  refine z_iload_n C 1 rfl rfl dX7_descending_0 ?_
  obtain ⟨q2, e2, h⟩ := bd_e h
  refine z_callSi C (rest := []) (c_X7_isDay E x1 e2) gX7_descending_X7_isDay rfl rfl rfl 1 rfl (by decide +kernel) ⟨Nat.le_of_ble_eq_true rfl, Nat.le_of_ble_eq_true rfl⟩ [] rfl (by decide) rfl (wModel E a S) rfl (Nat.le_of_ble_eq_true rfl) dX7_descending_1 ⟨Nat.zero_le _, Nat.zero_le _⟩ _ rfl ?_
  refine z_if_eq C 15 (by decide) h dX7_descending_4 (fun hc h => ?_) (fun hc h => ?_)
  · refine z_iconst C (v := (-1 : Int32)) (by decide) dX7_descending_15 ?_
    obtain rfl := Option.some.inj h
    exact R rfl 16 _ dX7_descending_16
  · refine z_aload_n C 0 rfl rfl dX7_descending_7 ?_
    refine z_iload_n C 2 rfl rfl dX7_descending_8 ?_
    obtain ⟨q3, e3, h⟩ := bd_e h
    refine z_callVi C (b := a 0) (As := [.int x2]) (rest := []) (c_X7_isHouse E a x2 S e3) rfl gX7_descending_X7_isHouse rfl rfl rfl 1 rfl (by decide +kernel) ⟨Nat.le_of_ble_eq_true rfl, Nat.le_of_ble_eq_true rfl⟩ [0, 1, 2, 3, 4, 5, 6, 7, 8, 9, 10, 11, 12, 13, 14, 15, 16] (wl_X7_descending_0 E a S) (by decide) rfl (wModel E a S) (zrep_self (wl_X7_descending_0 E a S)) 0 7 rfl rfl rfl (Nat.le_of_ble_eq_true rfl) dX7_descending_9 ⟨Nat.zero_le _, Nat.zero_le _⟩ _ rfl ?_
    refine z_if_ne C 17 (by decide) h dX7_descending_12 (fun hc h => ?_) (fun hc h => ?_)
    · refine z_iconst C (v := (-1 : Int32)) (by decide) dX7_descending_15 ?_
      obtain rfl := Option.some.inj h
      exact R rfl 16 _ dX7_descending_16
    · refine z_iconst C (v := (0 : Int32)) (by decide) dX7_descending_17 ?_
      refine z_istore_n C [(3, .int (0 : Int32)), (0, .ref (a 0)), (1, .int x1), (2, .int x2)] rfl (by decide) rfl dX7_descending_18 ?_
      refine z_iconst C (v := (0 : Int32)) (by decide) dX7_descending_19 ?_
      refine z_istore C [(4, .int (0 : Int32)), (3, .int (0 : Int32)), (0, .ref (a 0)), (1, .int x1), (2, .int x2)] (by decide) rfl dX7_descending_20 ?_
      refine z_iconst C (v := (0 : Int32)) (by decide) dX7_descending_22 ?_
      refine z_istore C [(5, .int (0 : Int32)), (4, .int (0 : Int32)), (3, .int (0 : Int32)), (0, .ref (a 0)), (1, .int x1), (2, .int x2)] (by decide) rfl dX7_descending_23 ?_
      refine Zt_l [(0, .ref (a 0)), (1, .int x1), (2, .int x2), (3, .int (0 : Int32)), (4, .int (0 : Int32)), (5, .int (0 : Int32))] [3, 4, 5, 2, 1, 0] rfl ?_
      exact L_X7_descending_25 a C R 1000 x1 x2 (0 : Int32) (0 : Int32) (0 : Int32) S h

theorem c_X7_descending (E : zEnv) (a : Nat → Nat) (x1 : Int32) (x2 : Int32) (S : St) {res : (Int32 × St)} (h : f_X7_descending x1 x2 S = some res) : Kti E yX7_descending wsX7_descending rm_X7_descending (wModel E a S) (wModel E a res.2) [.ref (a 0), .int x1, .int x2] res.1 :=
  z_enti (cc := cX7_descending) (maxL := 10) (rt := .int) (by decide +kernel) rfl (Nat.le_of_ble_eq_true rfl) (fun Γ C R => L_X7_descending a C R x1 x2 S h)

abbrev rm_X7_sumOf : Room := { frames := 4, cells := 0, slots := 0, locals := 95 }
theorem inw_X7_sumOf_X7 : ∀ w ∈ wsX70, w ∈ wsX7_sumOf := fun _ h => List.mem_cons_of_mem _ (List.mem_append_right _ h)
set_option maxHeartbeats 4000000 in
theorem wl_X7_sumOf_0 (E : zEnv) (a : Nat → Nat) (S : St) : ([0, 1, 2, 3, 4, 5, 6, 7, 8, 9, 10, 11, 12, 13, 14, 15, 16] : List Nat).map (fun i => (wModel E a S)[i]?) = (wModel E a S).map some := rfl
set_option maxHeartbeats 4000000 in
theorem wl_X7_sumOf_1 (E : zEnv) (a : Nat → Nat) (S U : St) : (wModel E a U).map (fun q => q.1) = (wModel E a S).map (fun q => q.1) := rfl
set_option maxHeartbeats 4000000 in
theorem wl_X7_sumOf_2 (E : zEnv) (a : Nat → Nat) (S U : St) : (wModel E a U) = zrep [0, 1, 2, 3, 4, 5, 6, 7, 8, 9, 10, 11, 12, 13, 14, 15, 16] (wModel E a U) (wModel E a S) := zrep_of (isR := []) 17 rfl [] rfl rfl rfl rfl (by decide +kernel) (by decide +kernel)
noncomputable def f_X7_sumOf_41 (k6 : Int32 → Int32 → Int32 → Int32 → Int32 → St → Option (Int32 × St)) (x1 : Int32) (x2 : Int32) (x3 : Int32) (x5 : Int32) (y0 : Int32) (y1 : Int32) (S : St) : Option (Int32 × St) := (k6 x1 x2 x3 (y0 + y1) (x5 + (1 : Int32)) S)
noncomputable def f_X7_sumOf_6 (n : Nat) : Int32 → Int32 → Int32 → Int32 → Int32 → St → Option (Int32 × St) := Nat.rec (motive := fun _ => Int32 → Int32 → Int32 → Int32 → Int32 → St → Option (Int32 × St)) (fun _ _ _ _ _ _ => none) (fun _ ih => fun x1 x2 x3 x4 x5 S => (if (S 1 0) ≤ x5 then (some (x4, S)) else ((f_X7_numberOf x1 x5 x2 x3 S).bind (fun q1 => (if q1.1 = (-4 : Int32) then (f_X7_sumOf_41 ih x1 x2 x3 x5 x4 (0 : Int32) q1.2) else (f_X7_sumOf_41 ih x1 x2 x3 x5 x4 q1.1 q1.2)))))) n
theorem f_X7_sumOf_6_s (n : Nat) (x1 : Int32) (x2 : Int32) (x3 : Int32) (x4 : Int32) (x5 : Int32) (S : St) : f_X7_sumOf_6 (n + 1) x1 x2 x3 x4 x5 S = (if (S 1 0) ≤ x5 then (some (x4, S)) else ((f_X7_numberOf x1 x5 x2 x3 S).bind (fun q1 => (if q1.1 = (-4 : Int32) then (f_X7_sumOf_41 (f_X7_sumOf_6 n) x1 x2 x3 x5 x4 (0 : Int32) q1.2) else (f_X7_sumOf_41 (f_X7_sumOf_6 n) x1 x2 x3 x5 x4 q1.1 q1.2))))) := rfl
noncomputable def f_X7_sumOf (x1 : Int32) (x2 : Int32) (x3 : Int32) (S : St) : Option (Int32 × St) := (f_X7_sumOf_6 1000 x1 x2 x3 (0 : Int32) (0 : Int32) S)
set_option maxHeartbeats 4000000 in
set_option maxRecDepth 100000 in
theorem L_X7_sumOf_41 {E : zEnv} {Γ : zG} (a : Nat → Nat) (C : zC E Γ cX7_sumOf RX7 7 rm_X7_sumOf wsX7_sumOf) {res : (Int32 × St)} (R : zRi E Γ cX7_sumOf 7 .int (wModel E a res.2) res.1) (k6 : Int32 → Int32 → Int32 → Int32 → Int32 → St → Option (Int32 × St)) (hk6 : ∀ (x1 : Int32) (x2 : Int32) (x3 : Int32) (x4 : Int32) (x5 : Int32) (S : St), k6 x1 x2 x3 x4 x5 S = some res → Zt E Γ 7 0 0 (wModel E a S) [(0, .ref (a 0)), (1, .int x1), (2, .int x2), (3, .int x3), (4, .int x4), (5, .int x5)] 6 []) (x1 : Int32) (x2 : Int32) (x3 : Int32) (x5 : Int32) (y0 : Int32) (y1 : Int32) (S : St) (h : f_X7_sumOf_41 k6 x1 x2 x3 x5 y0 y1 S = some res) : Zt E Γ 7 0 0 (wModel E a S) [(0, .ref (a 0)), (1, .int x1), (2, .int x2), (3, .int x3), (5, .int x5)] 41 [.int y1, .int y0] := by
  unfold f_X7_sumOf_41 at h
  refine z_iadd C dX7_sumOf_41 ?_
  refine z_istore C [(4, .int (y0 + y1)), (0, .ref (a 0)), (1, .int x1), (2, .int x2), (3, .int x3), (5, .int x5)] (by decide) rfl dX7_sumOf_42 ?_
  refine z_iinc C [(5, .int (x5 + (1 : Int32))), (4, .int (y0 + y1)), (0, .ref (a 0)), (1, .int x1), (2, .int x2), (3, .int x3)] 5 rfl (by first | rfl | decide) (by decide) rfl dX7_sumOf_44 ?_
  refine z_goto C 6 (by decide) dX7_sumOf_47 ?_
  refine Zt_l [(0, .ref (a 0)), (1, .int x1), (2, .int x2), (3, .int x3), (4, .int (y0 + y1)), (5, .int (x5 + (1 : Int32)))] [2, 3, 4, 5, 1, 0] rfl ?_
  exact hk6 x1 x2 x3 (y0 + y1) (x5 + (1 : Int32)) S h

set_option maxHeartbeats 4000000 in
set_option maxRecDepth 100000 in
theorem L_X7_sumOf_6 {E : zEnv} {Γ : zG} (a : Nat → Nat) (C : zC E Γ cX7_sumOf RX7 7 rm_X7_sumOf wsX7_sumOf) {res : (Int32 × St)} (R : zRi E Γ cX7_sumOf 7 .int (wModel E a res.2) res.1) : ∀ (n : Nat) (x1 : Int32) (x2 : Int32) (x3 : Int32) (x4 : Int32) (x5 : Int32) (S : St), f_X7_sumOf_6 n x1 x2 x3 x4 x5 S = some res → Zt E Γ 7 0 0 (wModel E a S) [(0, .ref (a 0)), (1, .int x1), (2, .int x2), (3, .int x3), (4, .int x4), (5, .int x5)] 6 [] := by
  intro n
  induction n with
  | zero =>
    intro x1 x2 x3 x4 x5 S h
    cases h
  | succ n ih =>
    intro x1 x2 x3 x4 x5 S h
    rw [f_X7_sumOf_6_s] at h
    refine z_iload C 5 rfl dX7_sumOf_6 ?_
    refine z_aload_n C 0 rfl rfl dX7_sumOf_8 ?_
    refine z_get C 0 rfl (C := RX7) (T := TX7) (N := 38) (ci := 7) rfl inw_X7_sumOf_X7 1 (by decide) (ref := "EldestAgeModel") (List.mem_of_getElem? (i := 1) rfl) rfl (v := .int (S 1 0)) rfl dX7_sumOf_9 ?_
    refine z_icmp_ge C 50 (by decide) h dX7_sumOf_12 (fun hc h => ?_) (fun hc h => ?_)
    · refine z_iload C 4 rfl dX7_sumOf_50 ?_
      obtain rfl := Option.some.inj h
      exact R rfl 52 _ dX7_sumOf_52
    · refine z_aload_n C 0 rfl rfl dX7_sumOf_15 ?_
      refine z_iload_n C 1 rfl rfl dX7_sumOf_16 ?_
      refine z_iload C 5 rfl dX7_sumOf_17 ?_
      refine z_iload_n C 2 rfl rfl dX7_sumOf_19 ?_
      refine z_iload_n C 3 rfl rfl dX7_sumOf_20 ?_
      obtain ⟨q1, e1, h⟩ := bd_e h
      refine z_callVi C (b := a 0) (As := [.int x1, .int x5, .int x2, .int x3]) (rest := []) (c_X7_numberOf E a x1 x5 x2 x3 S e1) rfl gX7_sumOf_X7_numberOf rfl rfl rfl 4 rfl (by decide +kernel) ⟨Nat.le_of_ble_eq_true rfl, Nat.le_of_ble_eq_true rfl⟩ [0, 1, 2, 3, 4, 5, 6, 7, 8, 9, 10, 11, 12, 13, 14, 15, 16] (wl_X7_sumOf_0 E a S) (by decide) (wl_X7_sumOf_1 E a _ _) (wModel E a q1.2) (wl_X7_sumOf_2 E a S q1.2) 0 7 rfl rfl rfl (Nat.le_of_ble_eq_true rfl) dX7_sumOf_21 ⟨Nat.zero_le _, Nat.zero_le _⟩ _ rfl ?_
      refine z_istore C [(6, .int q1.1), (0, .ref (a 0)), (1, .int x1), (2, .int x2), (3, .int x3), (4, .int x4), (5, .int x5)] (by decide) rfl dX7_sumOf_24 ?_
      refine z_iload C 5 rfl dX7_sumOf_26 ?_
      refine z_iload C 0 rfl dX7_sumOf_28 ?_
      refine z_bipush C (v := (-4 : Int32)) (by decide) dX7_sumOf_30 ?_
      refine z_icmp_ne C 39 (by decide) h dX7_sumOf_32 (fun hc h => ?_) (fun hc h => ?_)
      · refine z_iconst C (v := (0 : Int32)) (by decide) dX7_sumOf_35 ?_
        refine z_goto C 41 (by decide) dX7_sumOf_36 ?_
        refine Zt_l [(0, .ref (a 0)), (1, .int x1), (2, .int x2), (3, .int x3), (5, .int x5)] [1, 2, 3, 4, 6] rfl ?_
        exact L_X7_sumOf_41 a C R _ ih x1 x2 x3 x5 x4 (0 : Int32) q1.2 h
      · refine z_iload C 0 rfl dX7_sumOf_39 ?_
        refine Zt_l [(0, .ref (a 0)), (1, .int x1), (2, .int x2), (3, .int x3), (5, .int x5)] [1, 2, 3, 4, 6] rfl ?_
        exact L_X7_sumOf_41 a C R _ ih x1 x2 x3 x5 x4 q1.1 q1.2 h

set_option maxHeartbeats 4000000 in
set_option maxRecDepth 100000 in
theorem L_X7_sumOf {E : zEnv} {Γ : zG} (a : Nat → Nat) (C : zC E Γ cX7_sumOf RX7 7 rm_X7_sumOf wsX7_sumOf) {res : (Int32 × St)} (R : zRi E Γ cX7_sumOf 7 .int (wModel E a res.2) res.1) (x1 : Int32) (x2 : Int32) (x3 : Int32) (S : St) (h : f_X7_sumOf x1 x2 x3 S = some res) : Zt E Γ 7 0 0 (wModel E a S) [(0, .ref (a 0)), (1, .int x1), (2, .int x2), (3, .int x3)] 0 [] := by
  unfold f_X7_sumOf at h
  refine z_iconst C (v := (0 : Int32)) (by decide) dX7_sumOf_0 ?_
  refine z_istore C [(4, .int (0 : Int32)), (0, .ref (a 0)), (1, .int x1), (2, .int x2), (3, .int x3)] (by decide) rfl dX7_sumOf_1 ?_
  refine z_iconst C (v := (0 : Int32)) (by decide) dX7_sumOf_3 ?_
  refine z_istore C [(5, .int (0 : Int32)), (4, .int (0 : Int32)), (0, .ref (a 0)), (1, .int x1), (2, .int x2), (3, .int x3)] (by decide) rfl dX7_sumOf_4 ?_
  refine Zt_l [(0, .ref (a 0)), (1, .int x1), (2, .int x2), (3, .int x3), (4, .int (0 : Int32)), (5, .int (0 : Int32))] [2, 3, 4, 5, 1, 0] rfl ?_
  exact L_X7_sumOf_6 a C R 1000 x1 x2 x3 (0 : Int32) (0 : Int32) S h

theorem c_X7_sumOf (E : zEnv) (a : Nat → Nat) (x1 : Int32) (x2 : Int32) (x3 : Int32) (S : St) {res : (Int32 × St)} (h : f_X7_sumOf x1 x2 x3 S = some res) : Kti E yX7_sumOf wsX7_sumOf rm_X7_sumOf (wModel E a S) (wModel E a res.2) [.ref (a 0), .int x1, .int x2, .int x3] res.1 :=
  z_enti (cc := cX7_sumOf) (maxL := 7) (rt := .int) (by decide +kernel) rfl (Nat.le_of_ble_eq_true rfl) (fun Γ C R => L_X7_sumOf a C R x1 x2 x3 S h)

abbrev rm_X7_all : Room := { frames := 5, cells := 0, slots := 0, locals := 121 }
theorem inw_X7_all_X7 : ∀ w ∈ wsX70, w ∈ wsX7_all := fun _ h => List.mem_cons_of_mem _ (List.mem_append_right _ h)
set_option maxHeartbeats 4000000 in
theorem wl_X7_all_0 (E : zEnv) (a : Nat → Nat) (S : St) : ([0, 1, 2, 3, 4, 5, 6, 7, 8, 9, 10, 11, 12, 13, 14, 15, 16] : List Nat).map (fun i => (wModel E a S)[i]?) = (wModel E a S).map some := rfl
set_option maxHeartbeats 4000000 in
theorem wl_X7_all_1 (E : zEnv) (a : Nat → Nat) (S U : St) : (wModel E a U).map (fun q => q.1) = (wModel E a S).map (fun q => q.1) := rfl
set_option maxHeartbeats 4000000 in
theorem wl_X7_all_2 (E : zEnv) (a : Nat → Nat) (S U : St) : (wModel E a U) = zrep [0, 1, 2, 3, 4, 5, 6, 7, 8, 9, 10, 11, 12, 13, 14, 15, 16] (wModel E a U) (wModel E a S) := zrep_of (isR := []) 17 rfl [] rfl rfl rfl rfl (by decide +kernel) (by decide +kernel)
noncomputable def f_X7_all (x1 : Int32) (x2 : Int32) (S : St) : Option (Int32 × St) := ((f_X7_isDay x1).bind (fun q1 => (if q1 = 0 then (some ((-1 : Int32), S)) else ((f_X7_in (Int32.toInt64 x2) (0 : Int64) (3 : Int64)).bind (fun q2 => (if q2 = 0 then (some ((-1 : Int32), S)) else ((f_X7_sumOf (0 : Int32) x1 x2 S).bind (fun q3 => (some (q3.1, q3.2))))))))))
set_option maxHeartbeats 4000000 in
set_option maxRecDepth 100000 in
theorem L_X7_all {E : zEnv} {Γ : zG} (a : Nat → Nat) (C : zC E Γ cX7_all RX7 3 rm_X7_all wsX7_all) {res : (Int32 × St)} (R : zRi E Γ cX7_all 3 .int (wModel E a res.2) res.1) (x1 : Int32) (x2 : Int32) (S : St) (h : f_X7_all x1 x2 S = some res) : Zt E Γ 3 0 0 (wModel E a S) [(0, .ref (a 0)), (1, .int x1), (2, .int x2)] 0 [] := by
  unfold f_X7_all at h
  refine z_iload_n C 1 rfl rfl dX7_all_0 ?_
  obtain ⟨q1, e1, h⟩ := bd_e h
  refine z_callSi C (rest := []) (c_X7_isDay E x1 e1) gX7_all_X7_isDay rfl rfl rfl 1 rfl (by decide +kernel) ⟨Nat.le_of_ble_eq_true rfl, Nat.le_of_ble_eq_true rfl⟩ [] rfl (by decide) rfl (wModel E a S) rfl (Nat.le_of_ble_eq_true rfl) dX7_all_1 ⟨Nat.zero_le _, Nat.zero_le _⟩ _ rfl ?_
  refine z_if_eq C 29 (by decide) h dX7_all_4 (fun hc h => ?_) (fun hc h => ?_)
  · refine z_iconst C (v := (-1 : Int32)) (by decide) dX7_all_29 ?_
    obtain rfl := Option.some.inj h
    exact R rfl 30 _ dX7_all_30
  · refine z_iload_n C 2 rfl rfl dX7_all_7 ?_
    refine z_i2l C dX7_all_8 ?_
    refine z_lconst C (v := (0 : Int64)) (by decide) dX7_all_9 ?_
    refine z_ldc2 C (v := (3 : Int64)) (List.mem_of_getElem? (i := 1) rfl) dX7_all_10 ?_
    obtain ⟨q2, e2, h⟩ := bd_e h
    refine z_callSi C (rest := []) (c_X7_in E (Int32.toInt64 x2) (0 : Int64) (3 : Int64) e2) gX7_all_X7_in rfl rfl rfl 3 rfl (by decide +kernel) ⟨Nat.le_of_ble_eq_true rfl, Nat.le_of_ble_eq_true rfl⟩ [] rfl (by decide) rfl (wModel E a S) rfl (Nat.le_of_ble_eq_true rfl) dX7_all_13 ⟨Nat.zero_le _, Nat.zero_le _⟩ _ rfl ?_
    refine z_if_eq C 29 (by decide) h dX7_all_16 (fun hc h => ?_) (fun hc h => ?_)
    · refine z_iconst C (v := (-1 : Int32)) (by decide) dX7_all_29 ?_
      obtain rfl := Option.some.inj h
      exact R rfl 30 _ dX7_all_30
    · refine z_aload_n C 0 rfl rfl dX7_all_19 ?_
      refine z_iconst C (v := (0 : Int32)) (by decide) dX7_all_20 ?_
      refine z_iload_n C 1 rfl rfl dX7_all_21 ?_
      refine z_iload_n C 2 rfl rfl dX7_all_22 ?_
      obtain ⟨q3, e3, h⟩ := bd_e h
      refine z_callVi C (b := a 0) (As := [.int (0 : Int32), .int x1, .int x2]) (rest := []) (c_X7_sumOf E a (0 : Int32) x1 x2 S e3) rfl gX7_all_X7_sumOf rfl rfl rfl 3 rfl (by decide +kernel) ⟨Nat.le_of_ble_eq_true rfl, Nat.le_of_ble_eq_true rfl⟩ [0, 1, 2, 3, 4, 5, 6, 7, 8, 9, 10, 11, 12, 13, 14, 15, 16] (wl_X7_all_0 E a S) (by decide) (wl_X7_all_1 E a _ _) (wModel E a q3.2) (wl_X7_all_2 E a S q3.2) 0 7 rfl rfl rfl (Nat.le_of_ble_eq_true rfl) dX7_all_23 ⟨Nat.zero_le _, Nat.zero_le _⟩ _ rfl ?_
      refine z_goto C 30 (by decide) dX7_all_26 ?_
      obtain rfl := Option.some.inj h
      exact R rfl 30 _ dX7_all_30

theorem c_X7_all (E : zEnv) (a : Nat → Nat) (x1 : Int32) (x2 : Int32) (S : St) {res : (Int32 × St)} (h : f_X7_all x1 x2 S = some res) : Kti E yX7_all wsX7_all rm_X7_all (wModel E a S) (wModel E a res.2) [.ref (a 0), .int x1, .int x2] res.1 :=
  z_enti (cc := cX7_all) (maxL := 3) (rt := .int) (by decide +kernel) rfl (Nat.le_of_ble_eq_true rfl) (fun Γ C R => L_X7_all a C R x1 x2 S h)

abbrev rm_X7_letter : Room := { frames := 6, cells := 0, slots := 0, locals := 142 }
theorem inw_X7_letter_X7 : ∀ w ∈ wsX70, w ∈ wsX7_letter := fun _ h => List.mem_cons_of_mem _ (List.mem_append_right _ h)
set_option maxHeartbeats 4000000 in
theorem wl_X7_letter_0 (E : zEnv) (a : Nat → Nat) (S : St) : ([0, 1, 2, 3, 4, 5, 6, 7, 8, 9, 10, 11, 12, 13, 14, 15, 16] : List Nat).map (fun i => (wModel E a S)[i]?) = (wModel E a S).map some := rfl
set_option maxHeartbeats 4000000 in
theorem wl_X7_letter_1 (E : zEnv) (a : Nat → Nat) (S U : St) : (wModel E a U).map (fun q => q.1) = (wModel E a S).map (fun q => q.1) := rfl
set_option maxHeartbeats 4000000 in
theorem wl_X7_letter_2 (E : zEnv) (a : Nat → Nat) (S U : St) : (wModel E a U) = zrep [0, 1, 2, 3, 4, 5, 6, 7, 8, 9, 10, 11, 12, 13, 14, 15, 16] (wModel E a U) (wModel E a S) := zrep_of (isR := []) 17 rfl [] rfl rfl rfl rfl (by decide +kernel) (by decide +kernel)
noncomputable def f_X7_letter (x1 : Int32) (x2 : Int32) (x3 : Int32) (x4 : Int32) (S : St) : Option (Int32 × St) := ((f_X7_in (Int32.toInt64 x1) (0 : Int64) (999 : Int64)).bind (fun q1 => (if q1 = 0 then (some ((-1 : Int32), S)) else ((f_X7_isDay x2).bind (fun q2 => (if q2 = 0 then (some ((-1 : Int32), S)) else ((f_X7_isDay x3).bind (fun q3 => (if q3 = 0 then (some ((-1 : Int32), S)) else ((f_X7_in (Int32.toInt64 x4) (0 : Int64) (2 : Int64)).bind (fun q4 => (if q4 = 0 then (some ((-1 : Int32), S)) else ((f_X7_with x1 x2 S).bind (fun q5 => ((f_X7_with x1 x3 q5.2).bind (fun q6 => (if x4 = 0 then (some (q5.1, q6.2)) else (if x4 = (1 : Int32) then (some (q6.1, q6.2)) else (some ((q5.1 &&& (q6.1 ^^^ (-1 : Int32))), q6.2))))))))))))))))))))
set_option maxHeartbeats 4000000 in
set_option maxRecDepth 100000 in
theorem L_X7_letter {E : zEnv} {Γ : zG} (a : Nat → Nat) (C : zC E Γ cX7_letter RX7 7 rm_X7_letter wsX7_letter) {res : (Int32 × St)} (R : zRi E Γ cX7_letter 7 .int (wModel E a res.2) res.1) (x1 : Int32) (x2 : Int32) (x3 : Int32) (x4 : Int32) (S : St) (h : f_X7_letter x1 x2 x3 x4 S = some res) : Zt E Γ 7 0 0 (wModel E a S) [(0, .ref (a 0)), (1, .int x1), (2, .int x2), (3, .int x3), (4, .int x4)] 0 [] := by
  unfold f_X7_letter at h
  refine z_iload_n C 1 rfl rfl dX7_letter_0 ?_
  refine z_i2l C dX7_letter_1 ?_
  refine z_lconst C (v := (0 : Int64)) (by decide) dX7_letter_2 ?_
  refine z_ldc2 C (v := (999 : Int64)) (List.mem_of_getElem? (i := 1) rfl) dX7_letter_3 ?_
  obtain ⟨q1, e1, h⟩ := bd_e h
  refine z_callSi C (rest := []) (c_X7_in E (Int32.toInt64 x1) (0 : Int64) (999 : Int64) e1) gX7_letter_X7_in rfl rfl rfl 3 rfl (by decide +kernel) ⟨Nat.le_of_ble_eq_true rfl, Nat.le_of_ble_eq_true rfl⟩ [] rfl (by decide) rfl (wModel E a S) rfl (Nat.le_of_ble_eq_true rfl) dX7_letter_6 ⟨Nat.zero_le _, Nat.zero_le _⟩ _ rfl ?_
  refine z_if_eq C 39 (by decide) h dX7_letter_9 (fun hc h => ?_) (fun hc h => ?_)
  · refine z_iconst C (v := (-1 : Int32)) (by decide) dX7_letter_39 ?_
    obtain rfl := Option.some.inj h
    exact R rfl 40 _ dX7_letter_40
  · refine z_iload_n C 2 rfl rfl dX7_letter_12 ?_
    obtain ⟨q2, e2, h⟩ := bd_e h
    refine z_callSi C (rest := []) (c_X7_isDay E x2 e2) gX7_letter_X7_isDay rfl rfl rfl 1 rfl (by decide +kernel) ⟨Nat.le_of_ble_eq_true rfl, Nat.le_of_ble_eq_true rfl⟩ [] rfl (by decide) rfl (wModel E a S) rfl (Nat.le_of_ble_eq_true rfl) dX7_letter_13 ⟨Nat.zero_le _, Nat.zero_le _⟩ _ rfl ?_
    refine z_if_eq C 39 (by decide) h dX7_letter_16 (fun hc h => ?_) (fun hc h => ?_)
    · refine z_iconst C (v := (-1 : Int32)) (by decide) dX7_letter_39 ?_
      obtain rfl := Option.some.inj h
      exact R rfl 40 _ dX7_letter_40
    · refine z_iload_n C 3 rfl rfl dX7_letter_19 ?_
      obtain ⟨q3, e3, h⟩ := bd_e h
      refine z_callSi C (rest := []) (c_X7_isDay E x3 e3) gX7_letter_X7_isDay rfl rfl rfl 1 rfl (by decide +kernel) ⟨Nat.le_of_ble_eq_true rfl, Nat.le_of_ble_eq_true rfl⟩ [] rfl (by decide) rfl (wModel E a S) rfl (Nat.le_of_ble_eq_true rfl) dX7_letter_20 ⟨Nat.zero_le _, Nat.zero_le _⟩ _ rfl ?_
      refine z_if_eq C 39 (by decide) h dX7_letter_23 (fun hc h => ?_) (fun hc h => ?_)
      · refine z_iconst C (v := (-1 : Int32)) (by decide) dX7_letter_39 ?_
        obtain rfl := Option.some.inj h
        exact R rfl 40 _ dX7_letter_40
      · refine z_iload C 4 rfl dX7_letter_26 ?_
        refine z_i2l C dX7_letter_28 ?_
        refine z_lconst C (v := (0 : Int64)) (by decide) dX7_letter_29 ?_
        refine z_ldc2 C (v := (2 : Int64)) (List.mem_of_getElem? (i := 2) rfl) dX7_letter_30 ?_
        obtain ⟨q4, e4, h⟩ := bd_e h
        refine z_callSi C (rest := []) (c_X7_in E (Int32.toInt64 x4) (0 : Int64) (2 : Int64) e4) gX7_letter_X7_in rfl rfl rfl 3 rfl (by decide +kernel) ⟨Nat.le_of_ble_eq_true rfl, Nat.le_of_ble_eq_true rfl⟩ [] rfl (by decide) rfl (wModel E a S) rfl (Nat.le_of_ble_eq_true rfl) dX7_letter_33 ⟨Nat.zero_le _, Nat.zero_le _⟩ _ rfl ?_
        refine z_if_ne C 41 (by decide) h dX7_letter_36 (fun hc h => ?_) (fun hc h => ?_)
        · refine z_iconst C (v := (-1 : Int32)) (by decide) dX7_letter_39 ?_
          obtain rfl := Option.some.inj h
          exact R rfl 40 _ dX7_letter_40
        · refine z_aload_n C 0 rfl rfl dX7_letter_41 ?_
          refine z_iload_n C 1 rfl rfl dX7_letter_42 ?_
          refine z_iload_n C 2 rfl rfl dX7_letter_43 ?_
          obtain ⟨q5, e5, h⟩ := bd_e h
          refine z_callVi C (b := a 0) (As := [.int x1, .int x2]) (rest := []) (c_X7_with E a x1 x2 S e5) rfl gX7_letter_X7_with rfl rfl rfl 2 rfl (by decide +kernel) ⟨Nat.le_of_ble_eq_true rfl, Nat.le_of_ble_eq_true rfl⟩ [0, 1, 2, 3, 4, 5, 6, 7, 8, 9, 10, 11, 12, 13, 14, 15, 16] (wl_X7_letter_0 E a S) (by decide) (wl_X7_letter_1 E a _ _) (wModel E a q5.2) (wl_X7_letter_2 E a S q5.2) 0 7 rfl rfl rfl (Nat.le_of_ble_eq_true rfl) dX7_letter_44 ⟨Nat.zero_le _, Nat.zero_le _⟩ _ rfl ?_
          refine z_istore C [(5, .int q5.1), (0, .ref (a 0)), (1, .int x1), (2, .int x2), (3, .int x3), (4, .int x4)] (by decide) rfl dX7_letter_47 ?_
          refine z_aload_n C 1 rfl rfl dX7_letter_49 ?_
          refine z_iload_n C 2 rfl rfl dX7_letter_50 ?_
          refine z_iload_n C 4 rfl rfl dX7_letter_51 ?_
          obtain ⟨q6, e6, h⟩ := bd_e h
          refine z_callVi C (b := a 0) (As := [.int x1, .int x3]) (rest := []) (c_X7_with E a x1 x3 q5.2 e6) rfl gX7_letter_X7_with rfl rfl rfl 2 rfl (by decide +kernel) ⟨Nat.le_of_ble_eq_true rfl, Nat.le_of_ble_eq_true rfl⟩ [0, 1, 2, 3, 4, 5, 6, 7, 8, 9, 10, 11, 12, 13, 14, 15, 16] (wl_X7_letter_0 E a q5.2) (by decide) (wl_X7_letter_1 E a _ _) (wModel E a q6.2) (wl_X7_letter_2 E a q5.2 q6.2) 0 7 rfl rfl rfl (Nat.le_of_ble_eq_true rfl) dX7_letter_52 ⟨Nat.zero_le _, Nat.zero_le _⟩ _ rfl ?_
          refine z_istore C [(6, .int q6.1), (5, .int q5.1), (0, .ref (a 0)), (1, .int x1), (2, .int x2), (3, .int x3), (4, .int x4)] (by decide) rfl dX7_letter_55 ?_
          refine z_iload C 6 rfl dX7_letter_57 ?_
          refine z_if_ne C 67 (by decide) h dX7_letter_59 (fun hc h => ?_) (fun hc h => ?_)
          · refine z_iload C 1 rfl dX7_letter_62 ?_
            refine z_goto C 85 (by decide) dX7_letter_64 ?_
            obtain rfl := Option.some.inj h
            exact R rfl 85 _ dX7_letter_85
          · refine z_iload C 6 rfl dX7_letter_67 ?_
            refine z_iconst C (v := (1 : Int32)) (by decide) dX7_letter_69 ?_
            refine z_icmp_ne C 78 (by decide) h dX7_letter_70 (fun hc h => ?_) (fun hc h => ?_)
            · refine z_iload C 0 rfl dX7_letter_73 ?_
              refine z_goto C 85 (by decide) dX7_letter_75 ?_
              obtain rfl := Option.some.inj h
              exact R rfl 85 _ dX7_letter_85
            · refine z_iload C 1 rfl dX7_letter_78 ?_
              refine z_iload C 0 rfl dX7_letter_80 ?_
              refine z_iconst C (v := (-1 : Int32)) (by decide) dX7_letter_82 ?_
              refine z_ixor C dX7_letter_83 ?_
              refine z_iand C dX7_letter_84 ?_
              obtain rfl := Option.some.inj h
              exact R rfl 85 _ dX7_letter_85

theorem c_X7_letter (E : zEnv) (a : Nat → Nat) (x1 : Int32) (x2 : Int32) (x3 : Int32) (x4 : Int32) (S : St) {res : (Int32 × St)} (h : f_X7_letter x1 x2 x3 x4 S = some res) : Kti E yX7_letter wsX7_letter rm_X7_letter (wModel E a S) (wModel E a res.2) [.ref (a 0), .int x1, .int x2, .int x3, .int x4] res.1 :=
  z_enti (cc := cX7_letter) (maxL := 7) (rt := .int) (by decide +kernel) rfl (Nat.le_of_ble_eq_true rfl) (fun Γ C R => L_X7_letter a C R x1 x2 x3 x4 S h)

abbrev rm_X7_round : Room := { frames := 5, cells := 0, slots := 0, locals := 117 }
theorem inw_X7_round_X7 : ∀ w ∈ wsX70, w ∈ wsX7_round := fun _ h => List.mem_cons_of_mem _ (List.mem_append_right _ h)
set_option maxHeartbeats 4000000 in
theorem wl_X7_round_0 (E : zEnv) (a : Nat → Nat) (S : St) : ([0, 1, 2, 3, 4, 5, 6, 7, 8, 9, 10, 11, 12, 13, 14, 15, 16] : List Nat).map (fun i => (wModel E a S)[i]?) = (wModel E a S).map some := rfl
set_option maxHeartbeats 4000000 in
theorem wl_X7_round_1 (E : zEnv) (a : Nat → Nat) (S U : St) : (wModel E a U).map (fun q => q.1) = (wModel E a S).map (fun q => q.1) := rfl
set_option maxHeartbeats 4000000 in
theorem wl_X7_round_2 (E : zEnv) (a : Nat → Nat) (S U : St) : (wModel E a U) = zrep [0, 1, 2, 3, 4, 5, 6, 7, 8, 9, 10, 11, 12, 13, 14, 15, 16] (wModel E a U) (wModel E a S) := zrep_of (isR := []) 17 rfl [] rfl rfl rfl rfl (by decide +kernel) (by decide +kernel)
noncomputable def f_X7_round_123 (k30 : Int32 → Int32 → Int32 → Int32 → Int32 → St → Option (Int32 × St)) (k47 : Int32 → Int32 → Int32 → Int32 → Int32 → Int32 → Int32 → St → Option (Int32 × St)) (x1 : Int32) (x2 : Int32) (x3 : Int32) (x4 : Int32) (x5 : Int32) (x7 : Int32) (y0 : Int32) (S : St) : Option (Int32 × St) := (k47 x1 x2 x3 x4 x5 y0 (x7 + (1 : Int32)) S)
noncomputable def f_X7_round_107 (k30 : Int32 → Int32 → Int32 → Int32 → Int32 → St → Option (Int32 × St)) (k47 : Int32 → Int32 → Int32 → Int32 → Int32 → Int32 → Int32 → St → Option (Int32 × St)) (x1 : Int32) (x2 : Int32) (x3 : Int32) (x5 : Int32) (x6 : Int32) (x7 : Int32) (x8 : Int32) (y0 : Int32) (S : St) : Option (Int32 × St) := (if x8 ≤ x6 then (f_X7_round_123 k30 k47 x1 x2 x3 y0 x5 x7 x6 S) else (f_X7_round_123 k30 k47 x1 x2 x3 y0 x5 x7 x8 S))
noncomputable def f_X7_round_91 (k30 : Int32 → Int32 → Int32 → Int32 → Int32 → St → Option (Int32 × St)) (k47 : Int32 → Int32 → Int32 → Int32 → Int32 → Int32 → Int32 → St → Option (Int32 × St)) (x1 : Int32) (x2 : Int32) (x3 : Int32) (x4 : Int32) (x5 : Int32) (x6 : Int32) (x7 : Int32) (y0 : Int32) (S : St) : Option (Int32 × St) := (if y0 ≤ x6 then (f_X7_round_107 k30 k47 x1 x2 x3 x5 x6 x7 y0 x4 S) else (f_X7_round_107 k30 k47 x1 x2 x3 x5 x6 x7 y0 x7 S))
noncomputable def f_X7_round_131 (k30 : Int32 → Int32 → Int32 → Int32 → Int32 → St → Option (Int32 × St)) (x1 : Int32) (x2 : Int32) (x3 : Int32) (x4 : Int32) (x5 : Int32) (S : St) : Option (Int32 × St) := (if x4 = (-4 : Int32) then (some ((-4 : Int32), S)) else (k30 x1 x2 (x3 ||| ((1 : Int32) <<< (x4 &&& 31))) x4 (x5 + (1 : Int32)) S))
noncomputable def f_X7_round_47 (k30 : Int32 → Int32 → Int32 → Int32 → Int32 → St → Option (Int32 × St)) (n : Nat) : Int32 → Int32 → Int32 → Int32 → Int32 → Int32 → Int32 → St → Option (Int32 × St) := Nat.rec (motive := fun _ => Int32 → Int32 → Int32 → Int32 → Int32 → Int32 → Int32 → St → Option (Int32 × St)) (fun _ _ _ _ _ _ _ _ => none) (fun _ ih => fun x1 x2 x3 x4 x5 x6 x7 S => (if (S 1 0) ≤ x7 then (f_X7_round_131 k30 x1 x2 x3 x4 x5 S) else ((f_X7_isDay (x1 + x5)).bind (fun q1 => (if q1 = 0 then (f_X7_round_131 k30 x1 x2 x3 x4 x5 S) else (if ((x3 >>> (x7 &&& 31)) &&& (1 : Int32)) = (1 : Int32) then (f_X7_round_91 k30 ih x1 x2 x3 x4 x5 x6 x7 (-4 : Int32) S) else ((f_X7_numberNow x7 (x1 + x5) S).bind (fun q2 => (f_X7_round_91 k30 ih x1 x2 x3 x4 x5 x6 x7 q2.1 q2.2))))))))) n
theorem f_X7_round_47_s (k30 : Int32 → Int32 → Int32 → Int32 → Int32 → St → Option (Int32 × St)) (n : Nat) (x1 : Int32) (x2 : Int32) (x3 : Int32) (x4 : Int32) (x5 : Int32) (x6 : Int32) (x7 : Int32) (S : St) : f_X7_round_47 k30 (n + 1) x1 x2 x3 x4 x5 x6 x7 S = (if (S 1 0) ≤ x7 then (f_X7_round_131 k30 x1 x2 x3 x4 x5 S) else ((f_X7_isDay (x1 + x5)).bind (fun q1 => (if q1 = 0 then (f_X7_round_131 k30 x1 x2 x3 x4 x5 S) else (if ((x3 >>> (x7 &&& 31)) &&& (1 : Int32)) = (1 : Int32) then (f_X7_round_91 k30 (f_X7_round_47 k30 n) x1 x2 x3 x4 x5 x6 x7 (-4 : Int32) S) else ((f_X7_numberNow x7 (x1 + x5) S).bind (fun q2 => (f_X7_round_91 k30 (f_X7_round_47 k30 n) x1 x2 x3 x4 x5 x6 x7 q2.1 q2.2)))))))) := rfl
noncomputable def f_X7_round_30 (n : Nat) : Int32 → Int32 → Int32 → Int32 → Int32 → St → Option (Int32 × St) := Nat.rec (motive := fun _ => Int32 → Int32 → Int32 → Int32 → Int32 → St → Option (Int32 × St)) (fun _ _ _ _ _ _ => none) (fun _ ih => fun x1 x2 x3 x4 x5 S => (if x2 < x5 then (some (x4, S)) else (f_X7_round_47 ih 1000 x1 x2 x3 (-4 : Int32) x5 (-4 : Int32) (0 : Int32) S))) n
theorem f_X7_round_30_s (n : Nat) (x1 : Int32) (x2 : Int32) (x3 : Int32) (x4 : Int32) (x5 : Int32) (S : St) : f_X7_round_30 (n + 1) x1 x2 x3 x4 x5 S = (if x2 < x5 then (some (x4, S)) else (f_X7_round_47 (f_X7_round_30 n) 1000 x1 x2 x3 (-4 : Int32) x5 (-4 : Int32) (0 : Int32) S)) := rfl
noncomputable def f_X7_round (x1 : Int32) (x2 : Int32) (S : St) : Option (Int32 × St) := ((f_X7_isDay x1).bind (fun q3 => (if q3 = 0 then (some ((-1 : Int32), S)) else ((f_X7_in (Int32.toInt64 x2) (0 : Int64) (7 : Int64)).bind (fun q4 => (if q4 = 0 then (some ((-1 : Int32), S)) else (f_X7_round_30 1000 x1 x2 (0 : Int32) (-4 : Int32) (0 : Int32) S)))))))
set_option maxHeartbeats 4000000 in
set_option maxRecDepth 100000 in
theorem L_X7_round_123 {E : zEnv} {Γ : zG} (a : Nat → Nat) (C : zC E Γ cX7_round RX7 9 rm_X7_round wsX7_round) {res : (Int32 × St)} (R : zRi E Γ cX7_round 9 .int (wModel E a res.2) res.1) (k30 : Int32 → Int32 → Int32 → Int32 → Int32 → St → Option (Int32 × St)) (hk30 : ∀ (x1 : Int32) (x2 : Int32) (x3 : Int32) (x4 : Int32) (x5 : Int32) (S : St), k30 x1 x2 x3 x4 x5 S = some res → Zt E Γ 9 0 0 (wModel E a S) [(0, .ref (a 0)), (1, .int x1), (2, .int x2), (3, .int x3), (4, .int x4), (5, .int x5)] 30 []) (k47 : Int32 → Int32 → Int32 → Int32 → Int32 → Int32 → Int32 → St → Option (Int32 × St)) (hk47 : ∀ (x1 : Int32) (x2 : Int32) (x3 : Int32) (x4 : Int32) (x5 : Int32) (x6 : Int32) (x7 : Int32) (S : St), k47 x1 x2 x3 x4 x5 x6 x7 S = some res → Zt E Γ 9 0 0 (wModel E a S) [(0, .ref (a 0)), (1, .int x1), (2, .int x2), (3, .int x3), (4, .int x4), (5, .int x5), (6, .int x6), (7, .int x7)] 47 []) (x1 : Int32) (x2 : Int32) (x3 : Int32) (x4 : Int32) (x5 : Int32) (x7 : Int32) (y0 : Int32) (S : St) (h : f_X7_round_123 k30 k47 x1 x2 x3 x4 x5 x7 y0 S = some res) : Zt E Γ 9 0 0 (wModel E a S) [(0, .ref (a 0)), (1, .int x1), (2, .int x2), (3, .int x3), (4, .int x4), (5, .int x5), (7, .int x7)] 123 [.int y0] := by
  unfold f_X7_round_123 at h
  refine z_istore C [(6, .int y0), (0, .ref (a 0)), (1, .int x1), (2, .int x2), (3, .int x3), (4, .int x4), (5, .int x5), (7, .int x7)] (by decide) rfl dX7_round_123 ?_
  refine z_iinc C [(7, .int (x7 + (1 : Int32))), (6, .int y0), (0, .ref (a 0)), (1, .int x1), (2, .int x2), (3, .int x3), (4, .int x4), (5, .int x5)] 7 rfl (by first | rfl | decide) (by decide) rfl dX7_round_125 ?_
  refine z_goto C 47 (by decide) dX7_round_128 ?_
  refine Zt_l [(0, .ref (a 0)), (1, .int x1), (2, .int x2), (3, .int x3), (4, .int x4), (5, .int x5), (6, .int y0), (7, .int (x7 + (1 : Int32)))] [2, 3, 4, 5, 6, 7, 1, 0] rfl ?_
  exact hk47 x1 x2 x3 x4 x5 y0 (x7 + (1 : Int32)) S h

set_option maxHeartbeats 4000000 in
set_option maxRecDepth 100000 in
theorem L_X7_round_107 {E : zEnv} {Γ : zG} (a : Nat → Nat) (C : zC E Γ cX7_round RX7 9 rm_X7_round wsX7_round) {res : (Int32 × St)} (R : zRi E Γ cX7_round 9 .int (wModel E a res.2) res.1) (k30 : Int32 → Int32 → Int32 → Int32 → Int32 → St → Option (Int32 × St)) (hk30 : ∀ (x1 : Int32) (x2 : Int32) (x3 : Int32) (x4 : Int32) (x5 : Int32) (S : St), k30 x1 x2 x3 x4 x5 S = some res → Zt E Γ 9 0 0 (wModel E a S) [(0, .ref (a 0)), (1, .int x1), (2, .int x2), (3, .int x3), (4, .int x4), (5, .int x5)] 30 []) (k47 : Int32 → Int32 → Int32 → Int32 → Int32 → Int32 → Int32 → St → Option (Int32 × St)) (hk47 : ∀ (x1 : Int32) (x2 : Int32) (x3 : Int32) (x4 : Int32) (x5 : Int32) (x6 : Int32) (x7 : Int32) (S : St), k47 x1 x2 x3 x4 x5 x6 x7 S = some res → Zt E Γ 9 0 0 (wModel E a S) [(0, .ref (a 0)), (1, .int x1), (2, .int x2), (3, .int x3), (4, .int x4), (5, .int x5), (6, .int x6), (7, .int x7)] 47 []) (x1 : Int32) (x2 : Int32) (x3 : Int32) (x5 : Int32) (x6 : Int32) (x7 : Int32) (x8 : Int32) (y0 : Int32) (S : St) (h : f_X7_round_107 k30 k47 x1 x2 x3 x5 x6 x7 x8 y0 S = some res) : Zt E Γ 9 0 0 (wModel E a S) [(0, .ref (a 0)), (1, .int x1), (2, .int x2), (3, .int x3), (5, .int x5), (6, .int x6), (7, .int x7), (8, .int x8)] 107 [.int y0] := by
  unfold f_X7_round_107 at h
  refine z_istore C [(4, .int y0), (0, .ref (a 0)), (1, .int x1), (2, .int x2), (3, .int x3), (5, .int x5), (6, .int x6), (7, .int x7), (8, .int x8)] (by decide) rfl dX7_round_107 ?_
  refine z_iload C 8 rfl dX7_round_109 ?_
  refine z_iload C 6 rfl dX7_round_111 ?_
  refine z_icmp_le C 121 (by decide) h dX7_round_113 (fun hc h => ?_) (fun hc h => ?_)
  · refine z_iload C 6 rfl dX7_round_121 ?_
    refine Zt_l [(0, .ref (a 0)), (1, .int x1), (2, .int x2), (3, .int x3), (4, .int y0), (5, .int x5), (7, .int x7)] [1, 2, 3, 4, 0, 5, 7] rfl ?_
    exact L_X7_round_123 a C R k30 hk30 k47 hk47 x1 x2 x3 y0 x5 x7 x6 S h
  · refine z_iload C 8 rfl dX7_round_116 ?_
    refine z_goto C 123 (by decide) dX7_round_118 ?_
    refine Zt_l [(0, .ref (a 0)), (1, .int x1), (2, .int x2), (3, .int x3), (4, .int y0), (5, .int x5), (7, .int x7)] [1, 2, 3, 4, 0, 5, 7] rfl ?_
    exact L_X7_round_123 a C R k30 hk30 k47 hk47 x1 x2 x3 y0 x5 x7 x8 S h

set_option maxHeartbeats 4000000 in
set_option maxRecDepth 100000 in
theorem L_X7_round_91 {E : zEnv} {Γ : zG} (a : Nat → Nat) (C : zC E Γ cX7_round RX7 9 rm_X7_round wsX7_round) {res : (Int32 × St)} (R : zRi E Γ cX7_round 9 .int (wModel E a res.2) res.1) (k30 : Int32 → Int32 → Int32 → Int32 → Int32 → St → Option (Int32 × St)) (hk30 : ∀ (x1 : Int32) (x2 : Int32) (x3 : Int32) (x4 : Int32) (x5 : Int32) (S : St), k30 x1 x2 x3 x4 x5 S = some res → Zt E Γ 9 0 0 (wModel E a S) [(0, .ref (a 0)), (1, .int x1), (2, .int x2), (3, .int x3), (4, .int x4), (5, .int x5)] 30 []) (k47 : Int32 → Int32 → Int32 → Int32 → Int32 → Int32 → Int32 → St → Option (Int32 × St)) (hk47 : ∀ (x1 : Int32) (x2 : Int32) (x3 : Int32) (x4 : Int32) (x5 : Int32) (x6 : Int32) (x7 : Int32) (S : St), k47 x1 x2 x3 x4 x5 x6 x7 S = some res → Zt E Γ 9 0 0 (wModel E a S) [(0, .ref (a 0)), (1, .int x1), (2, .int x2), (3, .int x3), (4, .int x4), (5, .int x5), (6, .int x6), (7, .int x7)] 47 []) (x1 : Int32) (x2 : Int32) (x3 : Int32) (x4 : Int32) (x5 : Int32) (x6 : Int32) (x7 : Int32) (y0 : Int32) (S : St) (h : f_X7_round_91 k30 k47 x1 x2 x3 x4 x5 x6 x7 y0 S = some res) : Zt E Γ 9 0 0 (wModel E a S) [(0, .ref (a 0)), (1, .int x1), (2, .int x2), (3, .int x3), (4, .int x4), (5, .int x5), (6, .int x6), (7, .int x7)] 91 [.int y0] := by
  unfold f_X7_round_91 at h
  refine z_istore C [(8, .int y0), (0, .ref (a 0)), (1, .int x1), (2, .int x2), (3, .int x3), (4, .int x4), (5, .int x5), (6, .int x6), (7, .int x7)] (by decide) rfl dX7_round_91 ?_
  refine z_iload C 0 rfl dX7_round_93 ?_
  refine z_iload C 7 rfl dX7_round_95 ?_
  refine z_icmp_le C 105 (by decide) h dX7_round_97 (fun hc h => ?_) (fun hc h => ?_)
  · refine z_iload C 5 rfl dX7_round_105 ?_
    refine Zt_l [(0, .ref (a 0)), (1, .int x1), (2, .int x2), (3, .int x3), (5, .int x5), (6, .int x6), (7, .int x7), (8, .int y0)] [1, 2, 3, 4, 6, 7, 8, 0] rfl ?_
    exact L_X7_round_107 a C R k30 hk30 k47 hk47 x1 x2 x3 x5 x6 x7 y0 x4 S h
  · refine z_iload C 8 rfl dX7_round_100 ?_
    refine z_goto C 107 (by decide) dX7_round_102 ?_
    refine Zt_l [(0, .ref (a 0)), (1, .int x1), (2, .int x2), (3, .int x3), (5, .int x5), (6, .int x6), (7, .int x7), (8, .int y0)] [1, 2, 3, 4, 6, 7, 8, 0] rfl ?_
    exact L_X7_round_107 a C R k30 hk30 k47 hk47 x1 x2 x3 x5 x6 x7 y0 x7 S h

set_option maxHeartbeats 4000000 in
set_option maxRecDepth 100000 in
theorem L_X7_round_131 {E : zEnv} {Γ : zG} (a : Nat → Nat) (C : zC E Γ cX7_round RX7 9 rm_X7_round wsX7_round) {res : (Int32 × St)} (R : zRi E Γ cX7_round 9 .int (wModel E a res.2) res.1) (k30 : Int32 → Int32 → Int32 → Int32 → Int32 → St → Option (Int32 × St)) (hk30 : ∀ (x1 : Int32) (x2 : Int32) (x3 : Int32) (x4 : Int32) (x5 : Int32) (S : St), k30 x1 x2 x3 x4 x5 S = some res → Zt E Γ 9 0 0 (wModel E a S) [(0, .ref (a 0)), (1, .int x1), (2, .int x2), (3, .int x3), (4, .int x4), (5, .int x5)] 30 []) (x1 : Int32) (x2 : Int32) (x3 : Int32) (x4 : Int32) (x5 : Int32) (S : St) (h : f_X7_round_131 k30 x1 x2 x3 x4 x5 S = some res) : Zt E Γ 9 0 0 (wModel E a S) [(0, .ref (a 0)), (1, .int x1), (2, .int x2), (3, .int x3), (4, .int x4), (5, .int x5)] 131 [] := by
  unfold f_X7_round_131 at h
  refine z_iload C 4 rfl dX7_round_131 ?_
  refine z_bipush C (v := (-4 : Int32)) (by decide) dX7_round_133 ?_
  refine z_icmp_ne C 141 (by decide) h dX7_round_135 (fun hc h => ?_) (fun hc h => ?_)
  · refine z_bipush C (v := (-4 : Int32)) (by decide) dX7_round_138 ?_
    obtain rfl := Option.some.inj h
    exact R rfl 140 _ dX7_round_140
  · refine z_iload_n C 3 rfl rfl dX7_round_141 ?_
    refine z_iconst C (v := (1 : Int32)) (by decide) dX7_round_142 ?_
    refine z_iload C 4 rfl dX7_round_143 ?_
    refine z_ishl C dX7_round_145 ?_
    refine z_ior C dX7_round_146 ?_
    refine z_istore_n C [(3, .int (x3 ||| ((1 : Int32) <<< (x4 &&& 31)))), (0, .ref (a 0)), (1, .int x1), (2, .int x2), (4, .int x4), (5, .int x5)] rfl (by decide) rfl dX7_round_147 ?_
    refine z_iinc C [(5, .int (x5 + (1 : Int32))), (3, .int (x3 ||| ((1 : Int32) <<< (x4 &&& 31)))), (0, .ref (a 0)), (1, .int x1), (2, .int x2), (4, .int x4)] 5 rfl (by first | rfl | decide) (by decide) rfl dX7_round_148 ?_
    refine z_goto C 30 (by decide) dX7_round_151 ?_
    refine Zt_l [(0, .ref (a 0)), (1, .int x1), (2, .int x2), (3, .int (x3 ||| ((1 : Int32) <<< (x4 &&& 31)))), (4, .int x4), (5, .int (x5 + (1 : Int32)))] [2, 3, 4, 1, 5, 0] rfl ?_
    exact hk30 x1 x2 (x3 ||| ((1 : Int32) <<< (x4 &&& 31))) x4 (x5 + (1 : Int32)) S h

set_option maxHeartbeats 4000000 in
set_option maxRecDepth 100000 in
theorem L_X7_round_47 {E : zEnv} {Γ : zG} (a : Nat → Nat) (C : zC E Γ cX7_round RX7 9 rm_X7_round wsX7_round) {res : (Int32 × St)} (R : zRi E Γ cX7_round 9 .int (wModel E a res.2) res.1) (k30 : Int32 → Int32 → Int32 → Int32 → Int32 → St → Option (Int32 × St)) (hk30 : ∀ (x1 : Int32) (x2 : Int32) (x3 : Int32) (x4 : Int32) (x5 : Int32) (S : St), k30 x1 x2 x3 x4 x5 S = some res → Zt E Γ 9 0 0 (wModel E a S) [(0, .ref (a 0)), (1, .int x1), (2, .int x2), (3, .int x3), (4, .int x4), (5, .int x5)] 30 []) : ∀ (n : Nat) (x1 : Int32) (x2 : Int32) (x3 : Int32) (x4 : Int32) (x5 : Int32) (x6 : Int32) (x7 : Int32) (S : St), f_X7_round_47 k30 n x1 x2 x3 x4 x5 x6 x7 S = some res → Zt E Γ 9 0 0 (wModel E a S) [(0, .ref (a 0)), (1, .int x1), (2, .int x2), (3, .int x3), (4, .int x4), (5, .int x5), (6, .int x6), (7, .int x7)] 47 [] := by
  intro n
  induction n with
  | zero =>
    intro x1 x2 x3 x4 x5 x6 x7 S h
    cases h
  | succ n ih =>
    intro x1 x2 x3 x4 x5 x6 x7 S h
    rw [f_X7_round_47_s] at h
    refine z_iload C 7 rfl dX7_round_47 ?_
    refine z_aload_n C 0 rfl rfl dX7_round_49 ?_
    refine z_get C 0 rfl (C := RX7) (T := TX7) (N := 38) (ci := 7) rfl inw_X7_round_X7 1 (by decide) (ref := "EldestAgeModel") (List.mem_of_getElem? (i := 2) rfl) rfl (v := .int (S 1 0)) rfl dX7_round_50 ?_
    refine z_icmp_ge C 131 (by decide) h dX7_round_53 (fun hc h => ?_) (fun hc h => ?_)
    · refine Zt_l [(0, .ref (a 0)), (1, .int x1), (2, .int x2), (3, .int x3), (4, .int x4), (5, .int x5)] [0, 1, 2, 3, 4, 5] rfl ?_
      exact L_X7_round_131 a C R k30 hk30 x1 x2 x3 x4 x5 S h
    · refine z_iload_n C 1 rfl rfl dX7_round_56 ?_
      refine z_iload C 5 rfl dX7_round_57 ?_
      refine z_iadd C dX7_round_59 ?_
      obtain ⟨q1, e1, h⟩ := bd_e h
      refine z_callSi C (rest := []) (c_X7_isDay E (x1 + x5) e1) gX7_round_X7_isDay rfl rfl rfl 1 rfl (by decide +kernel) ⟨Nat.le_of_ble_eq_true rfl, Nat.le_of_ble_eq_true rfl⟩ [] rfl (by decide) rfl (wModel E a S) rfl (Nat.le_of_ble_eq_true rfl) dX7_round_60 ⟨Nat.zero_le _, Nat.zero_le _⟩ _ rfl ?_
      refine z_if_eq C 131 (by decide) h dX7_round_63 (fun hc h => ?_) (fun hc h => ?_)
      · refine Zt_l [(0, .ref (a 0)), (1, .int x1), (2, .int x2), (3, .int x3), (4, .int x4), (5, .int x5)] [0, 1, 2, 3, 4, 5] rfl ?_
        exact L_X7_round_131 a C R k30 hk30 x1 x2 x3 x4 x5 S h
      · refine z_iload_n C 3 rfl rfl dX7_round_66 ?_
        refine z_iload C 7 rfl dX7_round_67 ?_
        refine z_ishr C dX7_round_69 ?_
        refine z_iconst C (v := (1 : Int32)) (by decide) dX7_round_70 ?_
        refine z_iand C dX7_round_71 ?_
        refine z_iconst C (v := (1 : Int32)) (by decide) dX7_round_72 ?_
        refine z_icmp_ne C 81 (by decide) h dX7_round_73 (fun hc h => ?_) (fun hc h => ?_)
        · refine z_bipush C (v := (-4 : Int32)) (by decide) dX7_round_76 ?_
          refine z_goto C 91 (by decide) dX7_round_78 ?_
          exact L_X7_round_91 a C R k30 hk30 _ ih x1 x2 x3 x4 x5 x6 x7 (-4 : Int32) S h
        · refine z_aload_n C 0 rfl rfl dX7_round_81 ?_
          refine z_iload C 7 rfl dX7_round_82 ?_
          refine z_iload_n C 1 rfl rfl dX7_round_84 ?_
          refine z_iload C 5 rfl dX7_round_85 ?_
          refine z_iadd C dX7_round_87 ?_
          obtain ⟨q2, e2, h⟩ := bd_e h
          refine z_callVi C (b := a 0) (As := [.int x7, .int (x1 + x5)]) (rest := []) (c_X7_numberNow E a x7 (x1 + x5) S e2) rfl gX7_round_X7_numberNow rfl rfl rfl 2 rfl (by decide +kernel) ⟨Nat.le_of_ble_eq_true rfl, Nat.le_of_ble_eq_true rfl⟩ [0, 1, 2, 3, 4, 5, 6, 7, 8, 9, 10, 11, 12, 13, 14, 15, 16] (wl_X7_round_0 E a S) (by decide) (wl_X7_round_1 E a _ _) (wModel E a q2.2) (wl_X7_round_2 E a S q2.2) 0 7 rfl rfl rfl (Nat.le_of_ble_eq_true rfl) dX7_round_88 ⟨Nat.zero_le _, Nat.zero_le _⟩ _ rfl ?_
          exact L_X7_round_91 a C R k30 hk30 _ ih x1 x2 x3 x4 x5 x6 x7 q2.1 q2.2 h

set_option maxHeartbeats 4000000 in
set_option maxRecDepth 100000 in
theorem L_X7_round_30 {E : zEnv} {Γ : zG} (a : Nat → Nat) (C : zC E Γ cX7_round RX7 9 rm_X7_round wsX7_round) {res : (Int32 × St)} (R : zRi E Γ cX7_round 9 .int (wModel E a res.2) res.1) : ∀ (n : Nat) (x1 : Int32) (x2 : Int32) (x3 : Int32) (x4 : Int32) (x5 : Int32) (S : St), f_X7_round_30 n x1 x2 x3 x4 x5 S = some res → Zt E Γ 9 0 0 (wModel E a S) [(0, .ref (a 0)), (1, .int x1), (2, .int x2), (3, .int x3), (4, .int x4), (5, .int x5)] 30 [] := by
  intro n
  induction n with
  | zero =>
    intro x1 x2 x3 x4 x5 S h
    cases h
  | succ n ih =>
    intro x1 x2 x3 x4 x5 S h
    rw [f_X7_round_30_s] at h
    refine z_iload C 5 rfl dX7_round_30 ?_
    refine z_iload_n C 2 rfl rfl dX7_round_32 ?_
    refine z_icmp_gt C 154 (by decide) h dX7_round_33 (fun hc h => ?_) (fun hc h => ?_)
    · refine z_iload C 4 rfl dX7_round_154 ?_
      obtain rfl := Option.some.inj h
      exact R rfl 156 _ dX7_round_156
    · refine z_bipush C (v := (-4 : Int32)) (by decide) dX7_round_36 ?_
      refine z_istore C [(4, .int (-4 : Int32)), (0, .ref (a 0)), (1, .int x1), (2, .int x2), (3, .int x3), (5, .int x5)] (by decide) rfl dX7_round_38 ?_
      refine z_bipush C (v := (-4 : Int32)) (by decide) dX7_round_40 ?_
      refine z_istore C [(6, .int (-4 : Int32)), (4, .int (-4 : Int32)), (0, .ref (a 0)), (1, .int x1), (2, .int x2), (3, .int x3), (5, .int x5)] (by decide) rfl dX7_round_42 ?_
      refine z_iconst C (v := (0 : Int32)) (by decide) dX7_round_44 ?_
      refine z_istore C [(7, .int (0 : Int32)), (6, .int (-4 : Int32)), (4, .int (-4 : Int32)), (0, .ref (a 0)), (1, .int x1), (2, .int x2), (3, .int x3), (5, .int x5)] (by decide) rfl dX7_round_45 ?_
      refine Zt_l [(0, .ref (a 0)), (1, .int x1), (2, .int x2), (3, .int x3), (4, .int (-4 : Int32)), (5, .int x5), (6, .int (-4 : Int32)), (7, .int (0 : Int32))] [3, 4, 5, 6, 2, 7, 1, 0] rfl ?_
      exact L_X7_round_47 a C R _ ih 1000 x1 x2 x3 (-4 : Int32) x5 (-4 : Int32) (0 : Int32) S h

set_option maxHeartbeats 4000000 in
set_option maxRecDepth 100000 in
theorem L_X7_round {E : zEnv} {Γ : zG} (a : Nat → Nat) (C : zC E Γ cX7_round RX7 9 rm_X7_round wsX7_round) {res : (Int32 × St)} (R : zRi E Γ cX7_round 9 .int (wModel E a res.2) res.1) (x1 : Int32) (x2 : Int32) (S : St) (h : f_X7_round x1 x2 S = some res) : Zt E Γ 9 0 0 (wModel E a S) [(0, .ref (a 0)), (1, .int x1), (2, .int x2)] 0 [] := by
  unfold f_X7_round at h
  refine z_iload_n C 1 rfl rfl dX7_round_0 ?_
  obtain ⟨q3, e3, h⟩ := bd_e h
  refine z_callSi C (rest := []) (c_X7_isDay E x1 e3) gX7_round_X7_isDay rfl rfl rfl 1 rfl (by decide +kernel) ⟨Nat.le_of_ble_eq_true rfl, Nat.le_of_ble_eq_true rfl⟩ [] rfl (by decide) rfl (wModel E a S) rfl (Nat.le_of_ble_eq_true rfl) dX7_round_1 ⟨Nat.zero_le _, Nat.zero_le _⟩ _ rfl ?_
  refine z_if_eq C 19 (by decide) h dX7_round_4 (fun hc h => ?_) (fun hc h => ?_)
  · refine z_iconst C (v := (-1 : Int32)) (by decide) dX7_round_19 ?_
    obtain rfl := Option.some.inj h
    exact R rfl 20 _ dX7_round_20
  · refine z_iload_n C 2 rfl rfl dX7_round_7 ?_
    refine z_i2l C dX7_round_8 ?_
    refine z_lconst C (v := (0 : Int64)) (by decide) dX7_round_9 ?_
    refine z_ldc2 C (v := (7 : Int64)) (List.mem_of_getElem? (i := 1) rfl) dX7_round_10 ?_
    obtain ⟨q4, e4, h⟩ := bd_e h
    refine z_callSi C (rest := []) (c_X7_in E (Int32.toInt64 x2) (0 : Int64) (7 : Int64) e4) gX7_round_X7_in rfl rfl rfl 3 rfl (by decide +kernel) ⟨Nat.le_of_ble_eq_true rfl, Nat.le_of_ble_eq_true rfl⟩ [] rfl (by decide) rfl (wModel E a S) rfl (Nat.le_of_ble_eq_true rfl) dX7_round_13 ⟨Nat.zero_le _, Nat.zero_le _⟩ _ rfl ?_
    refine z_if_ne C 21 (by decide) h dX7_round_16 (fun hc h => ?_) (fun hc h => ?_)
    · refine z_iconst C (v := (-1 : Int32)) (by decide) dX7_round_19 ?_
      obtain rfl := Option.some.inj h
      exact R rfl 20 _ dX7_round_20
    · refine z_iconst C (v := (0 : Int32)) (by decide) dX7_round_21 ?_
      refine z_istore_n C [(3, .int (0 : Int32)), (0, .ref (a 0)), (1, .int x1), (2, .int x2)] rfl (by decide) rfl dX7_round_22 ?_
      refine z_bipush C (v := (-4 : Int32)) (by decide) dX7_round_23 ?_
      refine z_istore C [(4, .int (-4 : Int32)), (3, .int (0 : Int32)), (0, .ref (a 0)), (1, .int x1), (2, .int x2)] (by decide) rfl dX7_round_25 ?_
      refine z_iconst C (v := (0 : Int32)) (by decide) dX7_round_27 ?_
      refine z_istore C [(5, .int (0 : Int32)), (4, .int (-4 : Int32)), (3, .int (0 : Int32)), (0, .ref (a 0)), (1, .int x1), (2, .int x2)] (by decide) rfl dX7_round_28 ?_
      refine Zt_l [(0, .ref (a 0)), (1, .int x1), (2, .int x2), (3, .int (0 : Int32)), (4, .int (-4 : Int32)), (5, .int (0 : Int32))] [3, 4, 5, 2, 1, 0] rfl ?_
      exact L_X7_round_30 a C R 1000 x1 x2 (0 : Int32) (-4 : Int32) (0 : Int32) S h

theorem c_X7_round (E : zEnv) (a : Nat → Nat) (x1 : Int32) (x2 : Int32) (S : St) {res : (Int32 × St)} (h : f_X7_round x1 x2 S = some res) : Kti E yX7_round wsX7_round rm_X7_round (wModel E a S) (wModel E a res.2) [.ref (a 0), .int x1, .int x2] res.1 :=
  z_enti (cc := cX7_round) (maxL := 9) (rt := .int) (by decide +kernel) rfl (Nat.le_of_ble_eq_true rfl) (fun Γ C R => L_X7_round a C R x1 x2 S h)

abbrev rm_X7_want : Room := { frames := 2, cells := 0, slots := 0, locals := 46 }
theorem inw_X7_want_X7 : ∀ w ∈ wsX70, w ∈ wsX7_want := fun _ h => List.mem_cons_of_mem _ (List.mem_append_right _ h)
set_option maxHeartbeats 4000000 in
theorem wl_X7_want_0 (E : zEnv) (a : Nat → Nat) (S : St) : ([0, 1, 2, 3, 4, 5, 6, 7, 8, 9, 10, 11, 12, 13, 14, 15, 16] : List Nat).map (fun i => (wModel E a S)[i]?) = (wModel E a S).map some := rfl
set_option maxHeartbeats 4000000 in
theorem wl_X7_want_1 (E : zEnv) (a : Nat → Nat) (S U : St) : (wModel E a U).map (fun q => q.1) = (wModel E a S).map (fun q => q.1) := rfl
set_option maxHeartbeats 4000000 in
theorem wl_X7_want_2 (E : zEnv) (a : Nat → Nat) (S : St) (f : Nat → Int32) : (wModel E a (st 23 f S)) = (wModel E a S).set 6 (a 6, .inl (zI E, 8, .inl f)) := rfl
set_option maxHeartbeats 4000000 in
theorem wl_X7_want_3 (E : zEnv) (a : Nat → Nat) (S : St) (v : Int32) : (wModel E a (st 24 (fun _ => v) S)) = (wModel E a S).set 0 (a 0, .inr (7, List.set [.ref (a 1), .int (S 1 0), .ref (a 2), .int (S 3 0), .int (S 4 0), .int (S 5 0), .int (S 6 0), .int (S 7 0), .ref (a 3), .int (S 9 0), .int (S 10 0), .int (S 11 0), .int (S 12 0), .int (S 13 0), .int (S 14 0), .int (S 15 0), .int (S 16 0), .ref (a 4), .ref (a 5), .int (S 19 0), .int (S 20 0), .int (S 21 0), .int (S 22 0), .ref (a 6), .int (S 24 0), .ref (a 7), .int (S 26 0), .ref (a 8), .ref (a 9), .ref (a 10), .ref (a 11), .ref (a 12), .int (S 32 0), .ref (a 13), .ref (a 14), .ref (a 15), .ref (a 16), .int (S 37 0)] 24 (.int v))) := rfl
noncomputable def f_X7_want (x1 : Int32) (x2 : Int32) (S : St) : Option (Int32 × St) := ((f_X7_isHouse x1 S).bind (fun q1 => (if q1 = 0 then (some ((-1 : Int32), S)) else ((f_X7_in (Int32.toInt64 x2) (0 : Int64) (999 : Int64)).bind (fun q2 => (if q2 = 0 then (some ((-1 : Int32), S)) else (if (S 24 0) = (4 : Int32) then (some ((-3 : Int32), S)) else (ix ((2 : Int32) * (S 24 0)) 8 (ix (((2 : Int32) * (S 24 0)) + (1 : Int32)) 8 (some (((S 24 0) + (1 : Int32)), (st 24 (fun _ => ((S 24 0) + (1 : Int32))) (st 23 (upd (upd (S 23) (Int32.toNatClampNeg ((2 : Int32) * (S 24 0))) x1) (Int32.toNatClampNeg (((2 : Int32) * (S 24 0)) + (1 : Int32))) x2) (st 23 (upd (S 23) (Int32.toNatClampNeg ((2 : Int32) * (S 24 0))) x1) S))))))))))))))
set_option maxHeartbeats 4000000 in
set_option maxRecDepth 100000 in
theorem L_X7_want {E : zEnv} {Γ : zG} (a : Nat → Nat) (C : zC E Γ cX7_want RX7 3 rm_X7_want wsX7_want) {res : (Int32 × St)} (R : zRi E Γ cX7_want 3 .int (wModel E a res.2) res.1) (x1 : Int32) (x2 : Int32) (S : St) (h : f_X7_want x1 x2 S = some res) : Zt E Γ 3 0 0 (wModel E a S) [(0, .ref (a 0)), (1, .int x1), (2, .int x2)] 0 [] := by
  unfold f_X7_want at h
  refine z_aload_n C 0 rfl rfl dX7_want_0 ?_
  refine z_iload_n C 1 rfl rfl dX7_want_1 ?_
  obtain ⟨q1, e1, h⟩ := bd_e h
  refine z_callVi C (b := a 0) (As := [.int x1]) (rest := []) (c_X7_isHouse E a x1 S e1) rfl gX7_want_X7_isHouse rfl rfl rfl 1 rfl (by decide +kernel) ⟨Nat.le_of_ble_eq_true rfl, Nat.le_of_ble_eq_true rfl⟩ [0, 1, 2, 3, 4, 5, 6, 7, 8, 9, 10, 11, 12, 13, 14, 15, 16] (wl_X7_want_0 E a S) (by decide) rfl (wModel E a S) (zrep_self (wl_X7_want_0 E a S)) 0 7 rfl rfl rfl (Nat.le_of_ble_eq_true rfl) dX7_want_2 ⟨Nat.zero_le _, Nat.zero_le _⟩ _ rfl ?_
  refine z_if_eq C 20 (by decide) h dX7_want_5 (fun hc h => ?_) (fun hc h => ?_)
  · refine z_iconst C (v := (-1 : Int32)) (by decide) dX7_want_20 ?_
    obtain rfl := Option.some.inj h
    exact R rfl 21 _ dX7_want_21
  · refine z_iload_n C 2 rfl rfl dX7_want_8 ?_
    refine z_i2l C dX7_want_9 ?_
    refine z_lconst C (v := (0 : Int64)) (by decide) dX7_want_10 ?_
    refine z_ldc2 C (v := (999 : Int64)) (List.mem_of_getElem? (i := 1) rfl) dX7_want_11 ?_
    obtain ⟨q2, e2, h⟩ := bd_e h
    refine z_callSi C (rest := []) (c_X7_in E (Int32.toInt64 x2) (0 : Int64) (999 : Int64) e2) gX7_want_X7_in rfl rfl rfl 3 rfl (by decide +kernel) ⟨Nat.le_of_ble_eq_true rfl, Nat.le_of_ble_eq_true rfl⟩ [] rfl (by decide) rfl (wModel E a S) rfl (Nat.le_of_ble_eq_true rfl) dX7_want_14 ⟨Nat.zero_le _, Nat.zero_le _⟩ _ rfl ?_
    refine z_if_ne C 22 (by decide) h dX7_want_17 (fun hc h => ?_) (fun hc h => ?_)
    · refine z_iconst C (v := (-1 : Int32)) (by decide) dX7_want_20 ?_
      obtain rfl := Option.some.inj h
      exact R rfl 21 _ dX7_want_21
    · refine z_aload_n C 0 rfl rfl dX7_want_22 ?_
      refine z_get C 0 rfl (C := RX7) (T := TX7) (N := 38) (ci := 7) rfl inw_X7_want_X7 24 (by decide) (ref := "EldestAgeModel") (List.mem_of_getElem? (i := 2) rfl) rfl (v := .int (S 24 0)) rfl dX7_want_23 ?_
      refine z_iconst C (v := (4 : Int32)) (by decide) dX7_want_26 ?_
      refine z_icmp_ne C 33 (by decide) h dX7_want_27 (fun hc h => ?_) (fun hc h => ?_)
      · refine z_bipush C (v := (-3 : Int32)) (by decide) dX7_want_30 ?_
        obtain rfl := Option.some.inj h
        exact R rfl 32 _ dX7_want_32
      · refine z_aload_n C 0 rfl rfl dX7_want_33 ?_
        refine z_get C 0 rfl (C := RX7) (T := TX7) (N := 38) (ci := 7) rfl inw_X7_want_X7 23 (by decide) (ref := "EldestAgeModel") (List.mem_of_getElem? (i := 3) rfl) rfl (v := .ref (a 6)) rfl dX7_want_34 ?_
        refine z_iconst C (v := (2 : Int32)) (by decide) dX7_want_37 ?_
        refine z_aload_n C 0 rfl rfl dX7_want_38 ?_
        refine z_get C 0 rfl (C := RX7) (T := TX7) (N := 38) (ci := 7) rfl inw_X7_want_X7 24 (by decide) (ref := "EldestAgeModel") (List.mem_of_getElem? (i := 2) rfl) rfl (v := .int (S 24 0)) rfl dX7_want_39 ?_
        refine z_imul C dX7_want_42 ?_
        refine z_iload_n C 1 rfl rfl dX7_want_43 ?_
        refine z_iast C (N := 8) (f := (S 23)) 6 rfl h (wModel E a (st 23 (upd (S 23) (Int32.toNatClampNeg ((2 : Int32) * (S 24 0))) x1) S)) (wl_X7_want_2 E a S (upd (S 23) (Int32.toNatClampNeg ((2 : Int32) * (S 24 0))) x1)) dX7_want_44 (fun h => ?_)
        refine z_aload_n C 0 rfl rfl dX7_want_45 ?_
        refine z_get C 0 rfl (C := RX7) (T := TX7) (N := 38) (ci := 7) rfl inw_X7_want_X7 23 (by decide) (ref := "EldestAgeModel") (List.mem_of_getElem? (i := 3) rfl) rfl (v := .ref (a 6)) rfl dX7_want_46 ?_
        refine z_iconst C (v := (2 : Int32)) (by decide) dX7_want_49 ?_
        refine z_aload_n C 0 rfl rfl dX7_want_50 ?_
        refine z_get C 0 rfl (C := RX7) (T := TX7) (N := 38) (ci := 7) rfl inw_X7_want_X7 24 (by decide) (ref := "EldestAgeModel") (List.mem_of_getElem? (i := 2) rfl) rfl (v := .int (S 24 0)) rfl dX7_want_51 ?_
        refine z_imul C dX7_want_54 ?_
        refine z_iconst C (v := (1 : Int32)) (by decide) dX7_want_55 ?_
        refine z_iadd C dX7_want_56 ?_
        refine z_iload_n C 2 rfl rfl dX7_want_57 ?_
        refine z_iast C (N := 8) (f := (upd (S 23) (Int32.toNatClampNeg ((2 : Int32) * (S 24 0))) x1)) 6 rfl h (wModel E a (st 23 (upd (upd (S 23) (Int32.toNatClampNeg ((2 : Int32) * (S 24 0))) x1) (Int32.toNatClampNeg (((2 : Int32) * (S 24 0)) + (1 : Int32))) x2) (st 23 (upd (S 23) (Int32.toNatClampNeg ((2 : Int32) * (S 24 0))) x1) S))) (wl_X7_want_2 E a (st 23 (upd (S 23) (Int32.toNatClampNeg ((2 : Int32) * (S 24 0))) x1) S) (upd (upd (S 23) (Int32.toNatClampNeg ((2 : Int32) * (S 24 0))) x1) (Int32.toNatClampNeg (((2 : Int32) * (S 24 0)) + (1 : Int32))) x2)) dX7_want_58 (fun h => ?_)
        refine z_aload_n C 0 rfl rfl dX7_want_59 ?_
        refine z_dup C rfl dX7_want_60 ?_
        refine z_get C 0 rfl (C := RX7) (T := TX7) (N := 38) (ci := 7) rfl inw_X7_want_X7 24 (by decide) (ref := "EldestAgeModel") (List.mem_of_getElem? (i := 2) rfl) rfl (v := .int (S 24 0)) rfl dX7_want_61 ?_
        refine z_iconst C (v := (1 : Int32)) (by decide) dX7_want_64 ?_
        refine z_iadd C dX7_want_65 ?_
        refine z_put C 0 rfl (C := RX7) (T := TX7) (N := 38) (ci := 7) rfl inw_X7_want_X7 tyX7 tyX7_ok nmX7 24 (by decide) (ref := "EldestAgeModel") (List.mem_of_getElem? (i := 2) rfl) rfl rfl (ty := .int) (v := .int ((S 24 0) + (1 : Int32))) (by decide +kernel) rfl rfl (Nat.le_of_ble_eq_true rfl) (wModel E a (st 24 (fun _ => ((S 24 0) + (1 : Int32))) (st 23 (upd (upd (S 23) (Int32.toNatClampNeg ((2 : Int32) * (S 24 0))) x1) (Int32.toNatClampNeg (((2 : Int32) * (S 24 0)) + (1 : Int32))) x2) (st 23 (upd (S 23) (Int32.toNatClampNeg ((2 : Int32) * (S 24 0))) x1) S)))) (wl_X7_want_3 E a (st 23 (upd (upd (S 23) (Int32.toNatClampNeg ((2 : Int32) * (S 24 0))) x1) (Int32.toNatClampNeg (((2 : Int32) * (S 24 0)) + (1 : Int32))) x2) (st 23 (upd (S 23) (Int32.toNatClampNeg ((2 : Int32) * (S 24 0))) x1) S)) ((S 24 0) + (1 : Int32))) dX7_want_66 ?_
        refine z_aload_n C 0 rfl rfl dX7_want_69 ?_
        refine z_get C 0 rfl (C := RX7) (T := TX7) (N := 38) (ci := 7) rfl inw_X7_want_X7 24 (by decide) (ref := "EldestAgeModel") (List.mem_of_getElem? (i := 2) rfl) rfl (v := .int ((S 24 0) + (1 : Int32))) rfl dX7_want_70 ?_
        obtain rfl := Option.some.inj h
        exact R rfl 73 _ dX7_want_73

theorem c_X7_want (E : zEnv) (a : Nat → Nat) (x1 : Int32) (x2 : Int32) (S : St) {res : (Int32 × St)} (h : f_X7_want x1 x2 S = some res) : Kti E yX7_want wsX7_want rm_X7_want (wModel E a S) (wModel E a res.2) [.ref (a 0), .int x1, .int x2] res.1 :=
  z_enti (cc := cX7_want) (maxL := 3) (rt := .int) (by decide +kernel) rfl (Nat.le_of_ble_eq_true rfl) (fun Γ C R => L_X7_want a C R x1 x2 S h)

abbrev rm_X7_content : Room := { frames := 0, cells := 0, slots := 0, locals := 0 }
theorem inw_X7_content_X7 : ∀ w ∈ wsX70, w ∈ wsX7_content := fun _ h => List.mem_cons_of_mem _ (List.mem_append_right _ h)
set_option maxHeartbeats 4000000 in
theorem wl_X7_content_0 (E : zEnv) (a : Nat → Nat) (S : St) (v : Int32) : (wModel E a (st 24 (fun _ => v) S)) = (wModel E a S).set 0 (a 0, .inr (7, List.set [.ref (a 1), .int (S 1 0), .ref (a 2), .int (S 3 0), .int (S 4 0), .int (S 5 0), .int (S 6 0), .int (S 7 0), .ref (a 3), .int (S 9 0), .int (S 10 0), .int (S 11 0), .int (S 12 0), .int (S 13 0), .int (S 14 0), .int (S 15 0), .int (S 16 0), .ref (a 4), .ref (a 5), .int (S 19 0), .int (S 20 0), .int (S 21 0), .int (S 22 0), .ref (a 6), .int (S 24 0), .ref (a 7), .int (S 26 0), .ref (a 8), .ref (a 9), .ref (a 10), .ref (a 11), .ref (a 12), .int (S 32 0), .ref (a 13), .ref (a 14), .ref (a 15), .ref (a 16), .int (S 37 0)] 24 (.int v))) := rfl
noncomputable def f_X7_content (S : St) : Option (Int32 × St) := (some ((S 24 0), (st 24 (fun _ => (0 : Int32)) S)))
set_option maxHeartbeats 4000000 in
set_option maxRecDepth 100000 in
theorem L_X7_content {E : zEnv} {Γ : zG} (a : Nat → Nat) (C : zC E Γ cX7_content RX7 2 rm_X7_content wsX7_content) {res : (Int32 × St)} (R : zRi E Γ cX7_content 2 .int (wModel E a res.2) res.1) (S : St) (h : f_X7_content S = some res) : Zt E Γ 2 0 0 (wModel E a S) [(0, .ref (a 0))] 0 [] := by
  unfold f_X7_content at h
  refine z_aload_n C 0 rfl rfl dX7_content_0 ?_
  refine z_get C 0 rfl (C := RX7) (T := TX7) (N := 38) (ci := 7) rfl inw_X7_content_X7 24 (by decide) (ref := "EldestAgeModel") (List.mem_of_getElem? (i := 1) rfl) rfl (v := .int (S 24 0)) rfl dX7_content_1 ?_
  refine z_istore_n C [(1, .int (S 24 0)), (0, .ref (a 0))] rfl (by decide) rfl dX7_content_4 ?_
  refine z_aload_n C 1 rfl rfl dX7_content_5 ?_
  refine z_iconst C (v := (0 : Int32)) (by decide) dX7_content_6 ?_
  refine z_put C 0 rfl (C := RX7) (T := TX7) (N := 38) (ci := 7) rfl inw_X7_content_X7 tyX7 tyX7_ok nmX7 24 (by decide) (ref := "EldestAgeModel") (List.mem_of_getElem? (i := 1) rfl) rfl rfl (ty := .int) (v := .int (0 : Int32)) (by decide +kernel) rfl rfl (Nat.le_of_ble_eq_true rfl) (wModel E a (st 24 (fun _ => (0 : Int32)) S)) (wl_X7_content_0 E a S (0 : Int32)) dX7_content_7 ?_
  refine z_iload_n C 0 rfl rfl dX7_content_10 ?_
  obtain rfl := Option.some.inj h
  exact R rfl 11 _ dX7_content_11

theorem c_X7_content (E : zEnv) (a : Nat → Nat) (S : St) {res : (Int32 × St)} (h : f_X7_content S = some res) : Kti E yX7_content wsX7_content rm_X7_content (wModel E a S) (wModel E a res.2) [.ref (a 0)] res.1 :=
  z_enti (cc := cX7_content) (maxL := 2) (rt := .int) (by decide +kernel) rfl (Nat.le_of_ble_eq_true rfl) (fun Γ C R => L_X7_content a C R S h)

abbrev rm_X7_layNumbers : Room := { frames := 2, cells := 0, slots := 0, locals := 47 }
theorem inw_X7_layNumbers_X7 : ∀ w ∈ wsX70, w ∈ wsX7_layNumbers := fun _ h => List.mem_cons_of_mem _ (List.mem_append_right _ h)
set_option maxHeartbeats 4000000 in
theorem wl_X7_layNumbers_0 (E : zEnv) (a : Nat → Nat) (S : St) : ([0, 1, 2, 3, 4, 5, 6, 7, 8, 9, 10, 11, 12, 13, 14, 15, 16] : List Nat).map (fun i => (wModel E a S)[i]?) = (wModel E a S).map some := rfl
set_option maxHeartbeats 4000000 in
theorem wl_X7_layNumbers_1 (E : zEnv) (a : Nat → Nat) (S U : St) : (wModel E a U).map (fun q => q.1) = (wModel E a S).map (fun q => q.1) := rfl
set_option maxHeartbeats 4000000 in
theorem wl_X7_layNumbers_2 (E : zEnv) (a : Nat → Nat) (S : St) (f : Nat → Int32) : (wModel E a (st 30 f S)) = (wModel E a S).set 11 (a 11, .inl (zI E, 8, .inl f)) := rfl
set_option maxHeartbeats 4000000 in
theorem wl_X7_layNumbers_3 (E : zEnv) (a : Nat → Nat) (S U : St) : (wModel E a U) = zrep [0, 1, 2, 3, 4, 5, 6, 7, 8, 9, 10, 11, 12, 13, 14, 15, 16] (wModel E a U) (wModel E a S) := zrep_of (isR := []) 17 rfl [] rfl rfl rfl rfl (by decide +kernel) (by decide +kernel)
noncomputable def f_X7_layNumbers_41 (k2 : Int32 → Int32 → St → Option St) (k16 : Int32 → Int32 → Int32 → St → Option St) (x1 : Int32) (x2 : Int32) (x3 : Int32) (S : St) : Option St := (k16 x1 x2 (x3 + (1 : Int32)) S)
noncomputable def f_X7_layNumbers_47 (k2 : Int32 → Int32 → St → Option St) (x1 : Int32) (x2 : Int32) (S : St) : Option St := (ix (91 : Int32) 368 ((f_X7_toldBy (S 0 (Int32.toNatClampNeg (91 : Int32))) S).bind (fun q1 => (ix x2 8 (k2 x1 (x2 + (1 : Int32)) (st 30 (upd (S 30) (Int32.toNatClampNeg x2) q1) S))))))
noncomputable def f_X7_layNumbers_16 (k2 : Int32 → Int32 → St → Option St) (n : Nat) : Int32 → Int32 → Int32 → St → Option St := Nat.rec (motive := fun _ => Int32 → Int32 → Int32 → St → Option St) (fun _ _ _ _ => none) (fun _ ih => fun x1 x2 x3 S => ((f_X7_people S).bind (fun q2 => (if q2 ≤ x3 then (f_X7_layNumbers_47 k2 x1 x2 S) else (ix x3 10 (if (S 27 (Int32.toNatClampNeg x3)) = x2 then ((f_X7_tellsOf (0 : Int32) x3 x1 S).bind (fun q3 => (f_X7_layNumbers_41 k2 ih x1 x2 x3 q3))) else (f_X7_layNumbers_41 k2 ih x1 x2 x3 S))))))) n
theorem f_X7_layNumbers_16_s (k2 : Int32 → Int32 → St → Option St) (n : Nat) (x1 : Int32) (x2 : Int32) (x3 : Int32) (S : St) : f_X7_layNumbers_16 k2 (n + 1) x1 x2 x3 S = ((f_X7_people S).bind (fun q2 => (if q2 ≤ x3 then (f_X7_layNumbers_47 k2 x1 x2 S) else (ix x3 10 (if (S 27 (Int32.toNatClampNeg x3)) = x2 then ((f_X7_tellsOf (0 : Int32) x3 x1 S).bind (fun q3 => (f_X7_layNumbers_41 k2 (f_X7_layNumbers_16 k2 n) x1 x2 x3 q3))) else (f_X7_layNumbers_41 k2 (f_X7_layNumbers_16 k2 n) x1 x2 x3 S)))))) := rfl
noncomputable def f_X7_layNumbers_2 (n : Nat) : Int32 → Int32 → St → Option St := Nat.rec (motive := fun _ => Int32 → Int32 → St → Option St) (fun _ _ _ => none) (fun _ ih => fun x1 x2 S => (if (S 1 0) ≤ x2 then (some S) else ((f_X7_empties S).bind (fun q4 => (f_X7_layNumbers_16 ih 1000 x1 x2 (0 : Int32) q4))))) n
theorem f_X7_layNumbers_2_s (n : Nat) (x1 : Int32) (x2 : Int32) (S : St) : f_X7_layNumbers_2 (n + 1) x1 x2 S = (if (S 1 0) ≤ x2 then (some S) else ((f_X7_empties S).bind (fun q4 => (f_X7_layNumbers_16 (f_X7_layNumbers_2 n) 1000 x1 x2 (0 : Int32) q4)))) := rfl
noncomputable def f_X7_layNumbers (x1 : Int32) (S : St) : Option St := (f_X7_layNumbers_2 1000 x1 (0 : Int32) S)
set_option maxHeartbeats 4000000 in
set_option maxRecDepth 100000 in
theorem L_X7_layNumbers_41 {E : zEnv} {Γ : zG} (a : Nat → Nat) (C : zC E Γ cX7_layNumbers RX7 4 rm_X7_layNumbers wsX7_layNumbers) {res : St} (R : zRv E Γ cX7_layNumbers 4 (wModel E a res)) (k2 : Int32 → Int32 → St → Option St) (hk2 : ∀ (x1 : Int32) (x2 : Int32) (S : St), k2 x1 x2 S = some res → Zt E Γ 4 0 0 (wModel E a S) [(0, .ref (a 0)), (1, .int x1), (2, .int x2)] 2 []) (k16 : Int32 → Int32 → Int32 → St → Option St) (hk16 : ∀ (x1 : Int32) (x2 : Int32) (x3 : Int32) (S : St), k16 x1 x2 x3 S = some res → Zt E Γ 4 0 0 (wModel E a S) [(0, .ref (a 0)), (1, .int x1), (2, .int x2), (3, .int x3)] 16 []) (x1 : Int32) (x2 : Int32) (x3 : Int32) (S : St) (h : f_X7_layNumbers_41 k2 k16 x1 x2 x3 S = some res) : Zt E Γ 4 0 0 (wModel E a S) [(0, .ref (a 0)), (1, .int x1), (2, .int x2), (3, .int x3)] 41 [] := by
  unfold f_X7_layNumbers_41 at h
  refine z_iinc C [(3, .int (x3 + (1 : Int32))), (0, .ref (a 0)), (1, .int x1), (2, .int x2)] 3 rfl (by first | rfl | decide) (by decide) rfl dX7_layNumbers_41 ?_
  refine z_goto C 16 (by decide) dX7_layNumbers_44 ?_
  refine Zt_l [(0, .ref (a 0)), (1, .int x1), (2, .int x2), (3, .int (x3 + (1 : Int32)))] [1, 2, 3, 0] rfl ?_
  exact hk16 x1 x2 (x3 + (1 : Int32)) S h

set_option maxHeartbeats 4000000 in
set_option maxRecDepth 100000 in
theorem L_X7_layNumbers_47 {E : zEnv} {Γ : zG} (a : Nat → Nat) (C : zC E Γ cX7_layNumbers RX7 4 rm_X7_layNumbers wsX7_layNumbers) {res : St} (R : zRv E Γ cX7_layNumbers 4 (wModel E a res)) (k2 : Int32 → Int32 → St → Option St) (hk2 : ∀ (x1 : Int32) (x2 : Int32) (S : St), k2 x1 x2 S = some res → Zt E Γ 4 0 0 (wModel E a S) [(0, .ref (a 0)), (1, .int x1), (2, .int x2)] 2 []) (x1 : Int32) (x2 : Int32) (S : St) (h : f_X7_layNumbers_47 k2 x1 x2 S = some res) : Zt E Γ 4 0 0 (wModel E a S) [(0, .ref (a 0)), (1, .int x1), (2, .int x2)] 47 [] := by
  unfold f_X7_layNumbers_47 at h
  refine z_aload_n C 0 rfl rfl dX7_layNumbers_47 ?_
  refine z_get C 0 rfl (C := RX7) (T := TX7) (N := 38) (ci := 7) rfl inw_X7_layNumbers_X7 30 (by decide) (ref := "EldestAgeModel") (List.mem_of_getElem? (i := 3) rfl) rfl (v := .ref (a 11)) rfl dX7_layNumbers_48 ?_
  refine z_iload_n C 2 rfl rfl dX7_layNumbers_51 ?_
  refine z_aload_n C 0 rfl rfl dX7_layNumbers_52 ?_
  refine z_aload_n C 0 rfl rfl dX7_layNumbers_53 ?_
  refine z_get C 0 rfl (C := RX7) (T := TX7) (N := 38) (ci := 7) rfl inw_X7_layNumbers_X7 0 (by decide) (ref := "EldestAgeModel") (List.mem_of_getElem? (i := 4) rfl) rfl (v := .ref (a 1)) rfl dX7_layNumbers_54 ?_
  refine z_bipush C (v := (91 : Int32)) (by decide) dX7_layNumbers_57 ?_
  refine z_iald C (N := 368) (f := (S 0)) 1 rfl h dX7_layNumbers_59 (fun h => ?_)
  obtain ⟨q1, e1, h⟩ := bd_e h
  refine z_callVi C (b := a 0) (As := [.int (S 0 (Int32.toNatClampNeg (91 : Int32)))]) (rest := [.int x2, .ref (a 11)]) (c_X7_toldBy E a (S 0 (Int32.toNatClampNeg (91 : Int32))) S e1) rfl gX7_layNumbers_X7_toldBy rfl rfl rfl 1 rfl (by decide +kernel) ⟨Nat.le_of_ble_eq_true rfl, Nat.le_of_ble_eq_true rfl⟩ [0, 1, 2, 3, 4, 5, 6, 7, 8, 9, 10, 11, 12, 13, 14, 15, 16] (wl_X7_layNumbers_0 E a S) (by decide) rfl (wModel E a S) (zrep_self (wl_X7_layNumbers_0 E a S)) 0 7 rfl rfl rfl (Nat.le_of_ble_eq_true rfl) dX7_layNumbers_60 ⟨Nat.zero_le _, Nat.zero_le _⟩ _ rfl ?_
  refine z_iast C (N := 8) (f := (S 30)) 11 rfl h (wModel E a (st 30 (upd (S 30) (Int32.toNatClampNeg x2) q1) S)) (wl_X7_layNumbers_2 E a S (upd (S 30) (Int32.toNatClampNeg x2) q1)) dX7_layNumbers_63 (fun h => ?_)
  refine z_iinc C [(2, .int (x2 + (1 : Int32))), (0, .ref (a 0)), (1, .int x1)] 2 rfl (by first | rfl | decide) (by decide) rfl dX7_layNumbers_64 ?_
  refine z_goto C 2 (by decide) dX7_layNumbers_67 ?_
  refine Zt_l [(0, .ref (a 0)), (1, .int x1), (2, .int (x2 + (1 : Int32)))] [1, 2, 0] rfl ?_
  exact hk2 x1 (x2 + (1 : Int32)) (st 30 (upd (S 30) (Int32.toNatClampNeg x2) q1) S) h

set_option maxHeartbeats 4000000 in
set_option maxRecDepth 100000 in
theorem L_X7_layNumbers_16 {E : zEnv} {Γ : zG} (a : Nat → Nat) (C : zC E Γ cX7_layNumbers RX7 4 rm_X7_layNumbers wsX7_layNumbers) {res : St} (R : zRv E Γ cX7_layNumbers 4 (wModel E a res)) (k2 : Int32 → Int32 → St → Option St) (hk2 : ∀ (x1 : Int32) (x2 : Int32) (S : St), k2 x1 x2 S = some res → Zt E Γ 4 0 0 (wModel E a S) [(0, .ref (a 0)), (1, .int x1), (2, .int x2)] 2 []) : ∀ (n : Nat) (x1 : Int32) (x2 : Int32) (x3 : Int32) (S : St), f_X7_layNumbers_16 k2 n x1 x2 x3 S = some res → Zt E Γ 4 0 0 (wModel E a S) [(0, .ref (a 0)), (1, .int x1), (2, .int x2), (3, .int x3)] 16 [] := by
  intro n
  induction n with
  | zero =>
    intro x1 x2 x3 S h
    cases h
  | succ n ih =>
    intro x1 x2 x3 S h
    rw [f_X7_layNumbers_16_s] at h
    refine z_iload_n C 3 rfl rfl dX7_layNumbers_16 ?_
    refine z_aload_n C 0 rfl rfl dX7_layNumbers_17 ?_
    obtain ⟨q2, e2, h⟩ := bd_e h
    refine z_callVi C (b := a 0) (As := []) (rest := [.int x3]) (c_X7_people E a S e2) rfl gX7_layNumbers_X7_people rfl rfl rfl 0 rfl (by decide +kernel) ⟨Nat.le_of_ble_eq_true rfl, Nat.le_of_ble_eq_true rfl⟩ [0, 1, 2, 3, 4, 5, 6, 7, 8, 9, 10, 11, 12, 13, 14, 15, 16] (wl_X7_layNumbers_0 E a S) (by decide) rfl (wModel E a S) (zrep_self (wl_X7_layNumbers_0 E a S)) 0 7 rfl rfl rfl (Nat.le_of_ble_eq_true rfl) dX7_layNumbers_18 ⟨Nat.zero_le _, Nat.zero_le _⟩ _ rfl ?_
    refine z_icmp_ge C 47 (by decide) h dX7_layNumbers_21 (fun hc h => ?_) (fun hc h => ?_)
    · refine Zt_l [(0, .ref (a 0)), (1, .int x1), (2, .int x2)] [0, 1, 2] rfl ?_
      exact L_X7_layNumbers_47 a C R k2 hk2 x1 x2 S h
    · refine z_aload_n C 0 rfl rfl dX7_layNumbers_24 ?_
      refine z_get C 0 rfl (C := RX7) (T := TX7) (N := 38) (ci := 7) rfl inw_X7_layNumbers_X7 27 (by decide) (ref := "EldestAgeModel") (List.mem_of_getElem? (i := 2) rfl) rfl (v := .ref (a 8)) rfl dX7_layNumbers_25 ?_
      refine z_iload_n C 3 rfl rfl dX7_layNumbers_28 ?_
      refine z_iald C (N := 10) (f := (S 27)) 8 rfl h dX7_layNumbers_29 (fun h => ?_)
      refine z_iload_n C 2 rfl rfl dX7_layNumbers_30 ?_
      refine z_icmp_ne C 41 (by decide) h dX7_layNumbers_31 (fun hc h => ?_) (fun hc h => ?_)
      · refine z_aload_n C 0 rfl rfl dX7_layNumbers_34 ?_
        refine z_iconst C (v := (0 : Int32)) (by decide) dX7_layNumbers_35 ?_
        refine z_iload_n C 3 rfl rfl dX7_layNumbers_36 ?_
        refine z_iload_n C 1 rfl rfl dX7_layNumbers_37 ?_
        obtain ⟨q3, e3, h⟩ := bd_e h
        refine z_callVv C (b := a 0) (As := [.int (0 : Int32), .int x3, .int x1]) (rest := []) (c_X7_tellsOf E a (0 : Int32) x3 x1 S e3) rfl gX7_layNumbers_X7_tellsOf rfl rfl rfl 3 rfl (by decide +kernel) ⟨Nat.le_of_ble_eq_true rfl, Nat.le_of_ble_eq_true rfl⟩ [0, 1, 2, 3, 4, 5, 6, 7, 8, 9, 10, 11, 12, 13, 14, 15, 16] (wl_X7_layNumbers_0 E a S) (by decide) (wl_X7_layNumbers_1 E a _ _) (wModel E a q3) (wl_X7_layNumbers_3 E a S q3) 0 7 rfl rfl rfl (Nat.le_of_ble_eq_true rfl) dX7_layNumbers_38 ⟨Nat.zero_le _, Nat.zero_le _⟩ _ rfl ?_
        exact L_X7_layNumbers_41 a C R k2 hk2 _ ih x1 x2 x3 q3 h
      · exact L_X7_layNumbers_41 a C R k2 hk2 _ ih x1 x2 x3 S h

set_option maxHeartbeats 4000000 in
set_option maxRecDepth 100000 in
theorem L_X7_layNumbers_2 {E : zEnv} {Γ : zG} (a : Nat → Nat) (C : zC E Γ cX7_layNumbers RX7 4 rm_X7_layNumbers wsX7_layNumbers) {res : St} (R : zRv E Γ cX7_layNumbers 4 (wModel E a res)) : ∀ (n : Nat) (x1 : Int32) (x2 : Int32) (S : St), f_X7_layNumbers_2 n x1 x2 S = some res → Zt E Γ 4 0 0 (wModel E a S) [(0, .ref (a 0)), (1, .int x1), (2, .int x2)] 2 [] := by
  intro n
  induction n with
  | zero =>
    intro x1 x2 S h
    cases h
  | succ n ih =>
    intro x1 x2 S h
    rw [f_X7_layNumbers_2_s] at h
    refine z_iload_n C 2 rfl rfl dX7_layNumbers_2 ?_
    refine z_aload_n C 0 rfl rfl dX7_layNumbers_3 ?_
    refine z_get C 0 rfl (C := RX7) (T := TX7) (N := 38) (ci := 7) rfl inw_X7_layNumbers_X7 1 (by decide) (ref := "EldestAgeModel") (List.mem_of_getElem? (i := 1) rfl) rfl (v := .int (S 1 0)) rfl dX7_layNumbers_4 ?_
    refine z_icmp_ge C 70 (by decide) h dX7_layNumbers_7 (fun hc h => ?_) (fun hc h => ?_)
    · obtain rfl := Option.some.inj h
      exact R 70 _ dX7_layNumbers_70
    · refine z_aload_n C 0 rfl rfl dX7_layNumbers_10 ?_
      obtain ⟨q4, e4, h⟩ := bd_e h
      refine z_callVv C (b := a 0) (As := []) (rest := []) (c_X7_empties E a S e4) rfl gX7_layNumbers_X7_empties rfl rfl rfl 0 rfl (by decide +kernel) ⟨Nat.le_of_ble_eq_true rfl, Nat.le_of_ble_eq_true rfl⟩ [0, 1, 2, 3, 4, 5, 6, 7, 8, 9, 10, 11, 12, 13, 14, 15, 16] (wl_X7_layNumbers_0 E a S) (by decide) (wl_X7_layNumbers_1 E a _ _) (wModel E a q4) (wl_X7_layNumbers_3 E a S q4) 0 7 rfl rfl rfl (Nat.le_of_ble_eq_true rfl) dX7_layNumbers_11 ⟨Nat.zero_le _, Nat.zero_le _⟩ _ rfl ?_
      refine z_iconst C (v := (0 : Int32)) (by decide) dX7_layNumbers_14 ?_
      refine z_istore_n C [(3, .int (0 : Int32)), (0, .ref (a 0)), (1, .int x1), (2, .int x2)] rfl (by decide) rfl dX7_layNumbers_15 ?_
      refine Zt_l [(0, .ref (a 0)), (1, .int x1), (2, .int x2), (3, .int (0 : Int32))] [1, 2, 3, 0] rfl ?_
      exact L_X7_layNumbers_16 a C R _ ih 1000 x1 x2 (0 : Int32) q4 h

set_option maxHeartbeats 4000000 in
set_option maxRecDepth 100000 in
theorem L_X7_layNumbers {E : zEnv} {Γ : zG} (a : Nat → Nat) (C : zC E Γ cX7_layNumbers RX7 4 rm_X7_layNumbers wsX7_layNumbers) {res : St} (R : zRv E Γ cX7_layNumbers 4 (wModel E a res)) (x1 : Int32) (S : St) (h : f_X7_layNumbers x1 S = some res) : Zt E Γ 4 0 0 (wModel E a S) [(0, .ref (a 0)), (1, .int x1)] 0 [] := by
  unfold f_X7_layNumbers at h
  refine z_iconst C (v := (0 : Int32)) (by decide) dX7_layNumbers_0 ?_
  refine z_istore_n C [(2, .int (0 : Int32)), (0, .ref (a 0)), (1, .int x1)] rfl (by decide) rfl dX7_layNumbers_1 ?_
  refine Zt_l [(0, .ref (a 0)), (1, .int x1), (2, .int (0 : Int32))] [1, 2, 0] rfl ?_
  exact L_X7_layNumbers_2 a C R 1000 x1 (0 : Int32) S h

theorem c_X7_layNumbers (E : zEnv) (a : Nat → Nat) (x1 : Int32) (S : St) {res : St} (h : f_X7_layNumbers x1 S = some res) : Ktv E yX7_layNumbers wsX7_layNumbers rm_X7_layNumbers (wModel E a S) (wModel E a res) [.ref (a 0), .int x1] :=
  z_entv (cc := cX7_layNumbers) (maxL := 4) (by decide +kernel) rfl (Nat.le_of_ble_eq_true rfl) (fun Γ C R => L_X7_layNumbers a C R x1 S h)

abbrev rm_X7_isAsWanted : Room := { frames := 0, cells := 0, slots := 0, locals := 0 }
theorem inw_X7_isAsWanted_X7 : ∀ w ∈ wsX70, w ∈ wsX7_isAsWanted := fun _ h => List.mem_cons_of_mem _ (List.mem_append_right _ h)
noncomputable def f_X7_isAsWanted_47 (k4 : Int32 → Int32 → Int32 → St → Option Int32) (x1 : Int32) (x3 : Int32) (y0 : Int32) (S : St) : Option Int32 := (k4 x1 y0 (x3 + (1 : Int32)) S)
noncomputable def f_X7_isAsWanted_46 (k4 : Int32 → Int32 → Int32 → St → Option Int32) (x1 : Int32) (x3 : Int32) (S : St) : Option Int32 := (f_X7_isAsWanted_47 k4 x1 x3 (0 : Int32) S)
noncomputable def f_X7_isAsWanted_132 (k56 : Int32 → Int32 → Int32 → St → Option Int32) (x1 : Int32) (x3 : Int32) (y0 : Int32) (S : St) : Option Int32 := (k56 x1 y0 (x3 + (1 : Int32)) S)
noncomputable def f_X7_isAsWanted_127 (k56 : Int32 → Int32 → Int32 → St → Option Int32) (x1 : Int32) (x3 : Int32) (S : St) : Option Int32 := (f_X7_isAsWanted_132 k56 x1 x3 (1 : Int32) S)
noncomputable def f_X7_isAsWanted_131 (k56 : Int32 → Int32 → Int32 → St → Option Int32) (x1 : Int32) (x3 : Int32) (S : St) : Option Int32 := (f_X7_isAsWanted_132 k56 x1 x3 (0 : Int32) S)
noncomputable def f_X7_isAsWanted_56 (n : Nat) : Int32 → Int32 → Int32 → St → Option Int32 := Nat.rec (motive := fun _ => Int32 → Int32 → Int32 → St → Option Int32) (fun _ _ _ _ => none) (fun _ ih => fun x1 x2 x3 S => (if (64 : Int32) ≤ x3 then (zb x2 (some x2)) else (if x1 = 0 then (zb x2 (some x2)) else (if x2 = 0 then (f_X7_isAsWanted_131 ih x1 x3 S) else (if (zrem x3 (8 : Int32)) ≤ (x3 / (8 : Int32)) then (f_X7_isAsWanted_127 ih x1 x3 S) else (if (S 1 0) ≤ (zrem x3 (8 : Int32)) then (f_X7_isAsWanted_127 ih x1 x3 S) else (ix (x3 / (8 : Int32)) 8 (if (S 30 (Int32.toNatClampNeg (x3 / (8 : Int32)))) = (-4 : Int32) then (f_X7_isAsWanted_127 ih x1 x3 S) else (ix (x3 / (8 : Int32)) 8 (ix (zrem x3 (8 : Int32)) 8 (if (S 30 (Int32.toNatClampNeg (x3 / (8 : Int32)))) = (S 30 (Int32.toNatClampNeg (zrem x3 (8 : Int32)))) then (f_X7_isAsWanted_131 ih x1 x3 S) else (f_X7_isAsWanted_127 ih x1 x3 S)))))))))))) n
theorem f_X7_isAsWanted_56_s (n : Nat) (x1 : Int32) (x2 : Int32) (x3 : Int32) (S : St) : f_X7_isAsWanted_56 (n + 1) x1 x2 x3 S = (if (64 : Int32) ≤ x3 then (zb x2 (some x2)) else (if x1 = 0 then (zb x2 (some x2)) else (if x2 = 0 then (f_X7_isAsWanted_131 (f_X7_isAsWanted_56 n) x1 x3 S) else (if (zrem x3 (8 : Int32)) ≤ (x3 / (8 : Int32)) then (f_X7_isAsWanted_127 (f_X7_isAsWanted_56 n) x1 x3 S) else (if (S 1 0) ≤ (zrem x3 (8 : Int32)) then (f_X7_isAsWanted_127 (f_X7_isAsWanted_56 n) x1 x3 S) else (ix (x3 / (8 : Int32)) 8 (if (S 30 (Int32.toNatClampNeg (x3 / (8 : Int32)))) = (-4 : Int32) then (f_X7_isAsWanted_127 (f_X7_isAsWanted_56 n) x1 x3 S) else (ix (x3 / (8 : Int32)) 8 (ix (zrem x3 (8 : Int32)) 8 (if (S 30 (Int32.toNatClampNeg (x3 / (8 : Int32)))) = (S 30 (Int32.toNatClampNeg (zrem x3 (8 : Int32)))) then (f_X7_isAsWanted_131 (f_X7_isAsWanted_56 n) x1 x3 S) else (f_X7_isAsWanted_127 (f_X7_isAsWanted_56 n) x1 x3 S))))))))))) := rfl
noncomputable def f_X7_isAsWanted_54 (x1 : Int32) (x2 : Int32) (S : St) : Option Int32 := (f_X7_isAsWanted_56 1000 x1 x2 (0 : Int32) S)
noncomputable def f_X7_isAsWanted_4 (n : Nat) : Int32 → Int32 → Int32 → St → Option Int32 := Nat.rec (motive := fun _ => Int32 → Int32 → Int32 → St → Option Int32) (fun _ _ _ _ => none) (fun _ ih => fun x1 x2 x3 S => (if (S 24 0) ≤ x3 then (f_X7_isAsWanted_54 x1 x2 S) else (if x2 = 0 then (f_X7_isAsWanted_46 ih x1 x3 S) else (ix ((2 : Int32) * x3) 8 (ix (S 23 (Int32.toNatClampNeg ((2 : Int32) * x3))) 8 (ix (((2 : Int32) * x3) + (1 : Int32)) 8 (if (S 30 (Int32.toNatClampNeg (S 23 (Int32.toNatClampNeg ((2 : Int32) * x3))))) = (S 23 (Int32.toNatClampNeg (((2 : Int32) * x3) + (1 : Int32)))) then (f_X7_isAsWanted_47 ih x1 x3 (1 : Int32) S) else (f_X7_isAsWanted_46 ih x1 x3 S)))))))) n
theorem f_X7_isAsWanted_4_s (n : Nat) (x1 : Int32) (x2 : Int32) (x3 : Int32) (S : St) : f_X7_isAsWanted_4 (n + 1) x1 x2 x3 S = (if (S 24 0) ≤ x3 then (f_X7_isAsWanted_54 x1 x2 S) else (if x2 = 0 then (f_X7_isAsWanted_46 (f_X7_isAsWanted_4 n) x1 x3 S) else (ix ((2 : Int32) * x3) 8 (ix (S 23 (Int32.toNatClampNeg ((2 : Int32) * x3))) 8 (ix (((2 : Int32) * x3) + (1 : Int32)) 8 (if (S 30 (Int32.toNatClampNeg (S 23 (Int32.toNatClampNeg ((2 : Int32) * x3))))) = (S 23 (Int32.toNatClampNeg (((2 : Int32) * x3) + (1 : Int32)))) then (f_X7_isAsWanted_47 (f_X7_isAsWanted_4 n) x1 x3 (1 : Int32) S) else (f_X7_isAsWanted_46 (f_X7_isAsWanted_4 n) x1 x3 S))))))) := rfl
noncomputable def f_X7_isAsWanted (x1 : Int32) (S : St) : Option Int32 := (f_X7_isAsWanted_4 1000 x1 (1 : Int32) (0 : Int32) S)
set_option maxHeartbeats 4000000 in
set_option maxRecDepth 100000 in
theorem L_X7_isAsWanted_47 {E : zEnv} {Γ : zG} (a : Nat → Nat) (C : zC E Γ cX7_isAsWanted RX7 6 rm_X7_isAsWanted wsX7_isAsWanted) {res : Int32} {S : St} (R : zRi E Γ cX7_isAsWanted 6 .boolean (wModel E a S) res) (k4 : Int32 → Int32 → Int32 → St → Option Int32) (hk4 : ∀ (x1 : Int32) (x2 : Int32) (x3 : Int32), k4 x1 x2 x3 S = some res → Zt E Γ 6 0 0 (wModel E a S) [(0, .ref (a 0)), (1, .int x1), (2, .int x2), (3, .int x3)] 4 []) (x1 : Int32) (x3 : Int32) (y0 : Int32) (h : f_X7_isAsWanted_47 k4 x1 x3 y0 S = some res) : Zt E Γ 6 0 0 (wModel E a S) [(0, .ref (a 0)), (1, .int x1), (3, .int x3)] 47 [.int y0] := by
  unfold f_X7_isAsWanted_47 at h
  refine z_istore_n C [(2, .int y0), (0, .ref (a 0)), (1, .int x1), (3, .int x3)] rfl (by decide) rfl dX7_isAsWanted_47 ?_
  refine z_iinc C [(3, .int (x3 + (1 : Int32))), (2, .int y0), (0, .ref (a 0)), (1, .int x1)] 3 rfl (by first | rfl | decide) (by decide) rfl dX7_isAsWanted_48 ?_
  refine z_goto C 4 (by decide) dX7_isAsWanted_51 ?_
  refine Zt_l [(0, .ref (a 0)), (1, .int x1), (2, .int y0), (3, .int (x3 + (1 : Int32)))] [2, 3, 1, 0] rfl ?_
  exact hk4 x1 y0 (x3 + (1 : Int32)) h

set_option maxHeartbeats 4000000 in
set_option maxRecDepth 100000 in
theorem L_X7_isAsWanted_46 {E : zEnv} {Γ : zG} (a : Nat → Nat) (C : zC E Γ cX7_isAsWanted RX7 6 rm_X7_isAsWanted wsX7_isAsWanted) {res : Int32} {S : St} (R : zRi E Γ cX7_isAsWanted 6 .boolean (wModel E a S) res) (k4 : Int32 → Int32 → Int32 → St → Option Int32) (hk4 : ∀ (x1 : Int32) (x2 : Int32) (x3 : Int32), k4 x1 x2 x3 S = some res → Zt E Γ 6 0 0 (wModel E a S) [(0, .ref (a 0)), (1, .int x1), (2, .int x2), (3, .int x3)] 4 []) (x1 : Int32) (x3 : Int32) (h : f_X7_isAsWanted_46 k4 x1 x3 S = some res) : Zt E Γ 6 0 0 (wModel E a S) [(0, .ref (a 0)), (1, .int x1), (3, .int x3)] 46 [] := by
  unfold f_X7_isAsWanted_46 at h
  refine z_iconst C (v := (0 : Int32)) (by decide) dX7_isAsWanted_46 ?_
  exact L_X7_isAsWanted_47 a C R k4 hk4 x1 x3 (0 : Int32) h

set_option maxHeartbeats 4000000 in
set_option maxRecDepth 100000 in
theorem L_X7_isAsWanted_132 {E : zEnv} {Γ : zG} (a : Nat → Nat) (C : zC E Γ cX7_isAsWanted RX7 6 rm_X7_isAsWanted wsX7_isAsWanted) {res : Int32} {S : St} (R : zRi E Γ cX7_isAsWanted 6 .boolean (wModel E a S) res) (k56 : Int32 → Int32 → Int32 → St → Option Int32) (hk56 : ∀ (x1 : Int32) (x2 : Int32) (x3 : Int32), k56 x1 x2 x3 S = some res → Zt E Γ 6 0 0 (wModel E a S) [(0, .ref (a 0)), (1, .int x1), (2, .int x2), (3, .int x3)] 56 []) (x1 : Int32) (x3 : Int32) (y0 : Int32) (h : f_X7_isAsWanted_132 k56 x1 x3 y0 S = some res) : Zt E Γ 6 0 0 (wModel E a S) [(0, .ref (a 0)), (1, .int x1), (3, .int x3)] 132 [.int y0] := by
  unfold f_X7_isAsWanted_132 at h
  refine z_istore_n C [(2, .int y0), (0, .ref (a 0)), (1, .int x1), (3, .int x3)] rfl (by decide) rfl dX7_isAsWanted_132 ?_
  refine z_iinc C [(3, .int (x3 + (1 : Int32))), (2, .int y0), (0, .ref (a 0)), (1, .int x1)] 3 rfl (by first | rfl | decide) (by decide) rfl dX7_isAsWanted_133 ?_
  refine z_goto C 56 (by decide) dX7_isAsWanted_136 ?_
  refine Zt_l [(0, .ref (a 0)), (1, .int x1), (2, .int y0), (3, .int (x3 + (1 : Int32)))] [2, 3, 1, 0] rfl ?_
  exact hk56 x1 y0 (x3 + (1 : Int32)) h

set_option maxHeartbeats 4000000 in
set_option maxRecDepth 100000 in
theorem L_X7_isAsWanted_127 {E : zEnv} {Γ : zG} (a : Nat → Nat) (C : zC E Γ cX7_isAsWanted RX7 6 rm_X7_isAsWanted wsX7_isAsWanted) {res : Int32} {S : St} (R : zRi E Γ cX7_isAsWanted 6 .boolean (wModel E a S) res) (k56 : Int32 → Int32 → Int32 → St → Option Int32) (hk56 : ∀ (x1 : Int32) (x2 : Int32) (x3 : Int32), k56 x1 x2 x3 S = some res → Zt E Γ 6 0 0 (wModel E a S) [(0, .ref (a 0)), (1, .int x1), (2, .int x2), (3, .int x3)] 56 []) (x1 : Int32) (x3 : Int32) (h : f_X7_isAsWanted_127 k56 x1 x3 S = some res) : Zt E Γ 6 0 0 (wModel E a S) [(0, .ref (a 0)), (1, .int x1), (3, .int x3)] 127 [] := by
  unfold f_X7_isAsWanted_127 at h
  refine z_iconst C (v := (1 : Int32)) (by decide) dX7_isAsWanted_127 ?_
  refine z_goto C 132 (by decide) dX7_isAsWanted_128 ?_
  exact L_X7_isAsWanted_132 a C R k56 hk56 x1 x3 (1 : Int32) h

set_option maxHeartbeats 4000000 in
set_option maxRecDepth 100000 in
theorem L_X7_isAsWanted_131 {E : zEnv} {Γ : zG} (a : Nat → Nat) (C : zC E Γ cX7_isAsWanted RX7 6 rm_X7_isAsWanted wsX7_isAsWanted) {res : Int32} {S : St} (R : zRi E Γ cX7_isAsWanted 6 .boolean (wModel E a S) res) (k56 : Int32 → Int32 → Int32 → St → Option Int32) (hk56 : ∀ (x1 : Int32) (x2 : Int32) (x3 : Int32), k56 x1 x2 x3 S = some res → Zt E Γ 6 0 0 (wModel E a S) [(0, .ref (a 0)), (1, .int x1), (2, .int x2), (3, .int x3)] 56 []) (x1 : Int32) (x3 : Int32) (h : f_X7_isAsWanted_131 k56 x1 x3 S = some res) : Zt E Γ 6 0 0 (wModel E a S) [(0, .ref (a 0)), (1, .int x1), (3, .int x3)] 131 [] := by
  unfold f_X7_isAsWanted_131 at h
  refine z_iconst C (v := (0 : Int32)) (by decide) dX7_isAsWanted_131 ?_
  exact L_X7_isAsWanted_132 a C R k56 hk56 x1 x3 (0 : Int32) h

set_option maxHeartbeats 4000000 in
set_option maxRecDepth 100000 in
theorem L_X7_isAsWanted_56 {E : zEnv} {Γ : zG} (a : Nat → Nat) (C : zC E Γ cX7_isAsWanted RX7 6 rm_X7_isAsWanted wsX7_isAsWanted) {res : Int32} {S : St} (R : zRi E Γ cX7_isAsWanted 6 .boolean (wModel E a S) res) : ∀ (n : Nat) (x1 : Int32) (x2 : Int32) (x3 : Int32), f_X7_isAsWanted_56 n x1 x2 x3 S = some res → Zt E Γ 6 0 0 (wModel E a S) [(0, .ref (a 0)), (1, .int x1), (2, .int x2), (3, .int x3)] 56 [] := by
  intro n
  induction n with
  | zero =>
    intro x1 x2 x3 h
    cases h
  | succ n ih =>
    intro x1 x2 x3 h
    rw [f_X7_isAsWanted_56_s] at h
    refine z_iload_n C 3 rfl rfl dX7_isAsWanted_56 ?_
    refine z_bipush C (v := (64 : Int32)) (by decide) dX7_isAsWanted_57 ?_
    refine z_icmp_ge C 139 (by decide) h dX7_isAsWanted_59 (fun hc h => ?_) (fun hc h => ?_)
    · refine z_iload_n C 2 rfl rfl dX7_isAsWanted_139 ?_
      have hz := zb_n (zb_e h).1
      replace h := (zb_e h).2
      obtain rfl := Option.some.inj h
      exact R hz 140 _ dX7_isAsWanted_140
    · refine z_iload_n C 1 rfl rfl dX7_isAsWanted_62 ?_
      refine z_if_eq C 139 (by decide) h dX7_isAsWanted_63 (fun hc h => ?_) (fun hc h => ?_)
      · refine z_iload_n C 2 rfl rfl dX7_isAsWanted_139 ?_
        have hz := zb_n (zb_e h).1
        replace h := (zb_e h).2
        obtain rfl := Option.some.inj h
        exact R hz 140 _ dX7_isAsWanted_140
      · refine z_iload_n C 3 rfl rfl dX7_isAsWanted_66 ?_
        refine z_bipush C (v := (8 : Int32)) (by decide) dX7_isAsWanted_67 ?_
        refine z_idiv C (by decide) dX7_isAsWanted_69 ?_
        refine z_istore C [(4, .int (x3 / (8 : Int32))), (0, .ref (a 0)), (1, .int x1), (2, .int x2), (3, .int x3)] (by decide) rfl dX7_isAsWanted_70 ?_
        refine z_iload_n C 4 rfl rfl dX7_isAsWanted_72 ?_
        refine z_bipush C (v := (8 : Int32)) (by decide) dX7_isAsWanted_73 ?_
        refine z_irem C (by decide) dX7_isAsWanted_75 ?_
        refine z_istore C [(5, .int (zrem x3 (8 : Int32))), (4, .int (x3 / (8 : Int32))), (0, .ref (a 0)), (1, .int x1), (2, .int x2), (3, .int x3)] (by decide) rfl dX7_isAsWanted_76 ?_
        refine z_iload_n C 4 rfl rfl dX7_isAsWanted_78 ?_
        refine z_if_eq C 131 (by decide) h dX7_isAsWanted_79 (fun hc h => ?_) (fun hc h => ?_)
        · refine Zt_l [(0, .ref (a 0)), (1, .int x1), (3, .int x3)] [2, 3, 5] rfl ?_
          exact L_X7_isAsWanted_131 a C R _ ih x1 x3 h
        · refine z_iload C 1 rfl dX7_isAsWanted_82 ?_
          refine z_iload C 0 rfl dX7_isAsWanted_84 ?_
          refine z_icmp_ge C 127 (by decide) h dX7_isAsWanted_86 (fun hc h => ?_) (fun hc h => ?_)
          · refine Zt_l [(0, .ref (a 0)), (1, .int x1), (3, .int x3)] [2, 3, 5] rfl ?_
            exact L_X7_isAsWanted_127 a C R _ ih x1 x3 h
          · refine z_iload C 0 rfl dX7_isAsWanted_89 ?_
            refine z_aload_n C 2 rfl rfl dX7_isAsWanted_91 ?_
            refine z_get C 0 rfl (C := RX7) (T := TX7) (N := 38) (ci := 7) rfl inw_X7_isAsWanted_X7 1 (by decide) (ref := "EldestAgeModel") (List.mem_of_getElem? (i := 4) rfl) rfl (v := .int (S 1 0)) rfl dX7_isAsWanted_92 ?_
            refine z_icmp_ge C 127 (by decide) h dX7_isAsWanted_95 (fun hc h => ?_) (fun hc h => ?_)
            · refine Zt_l [(0, .ref (a 0)), (1, .int x1), (3, .int x3)] [2, 3, 5] rfl ?_
              exact L_X7_isAsWanted_127 a C R _ ih x1 x3 h
            · refine z_aload_n C 2 rfl rfl dX7_isAsWanted_98 ?_
              refine z_get C 0 rfl (C := RX7) (T := TX7) (N := 38) (ci := 7) rfl inw_X7_isAsWanted_X7 30 (by decide) (ref := "EldestAgeModel") (List.mem_of_getElem? (i := 2) rfl) rfl (v := .ref (a 11)) rfl dX7_isAsWanted_99 ?_
              refine z_iload C 1 rfl dX7_isAsWanted_102 ?_
              refine z_iald C (N := 8) (f := (S 30)) 11 rfl h dX7_isAsWanted_104 (fun h => ?_)
              refine z_bipush C (v := (-4 : Int32)) (by decide) dX7_isAsWanted_105 ?_
              refine z_icmp_eq C 127 (by decide) h dX7_isAsWanted_107 (fun hc h => ?_) (fun hc h => ?_)
              · refine Zt_l [(0, .ref (a 0)), (1, .int x1), (3, .int x3)] [2, 3, 5] rfl ?_
                exact L_X7_isAsWanted_127 a C R _ ih x1 x3 h
              · refine z_aload_n C 2 rfl rfl dX7_isAsWanted_110 ?_
                refine z_get C 0 rfl (C := RX7) (T := TX7) (N := 38) (ci := 7) rfl inw_X7_isAsWanted_X7 30 (by decide) (ref := "EldestAgeModel") (List.mem_of_getElem? (i := 2) rfl) rfl (v := .ref (a 11)) rfl dX7_isAsWanted_111 ?_
                refine z_iload C 1 rfl dX7_isAsWanted_114 ?_
                refine z_iald C (N := 8) (f := (S 30)) 11 rfl h dX7_isAsWanted_116 (fun h => ?_)
                refine z_aload_n C 2 rfl rfl dX7_isAsWanted_117 ?_
                refine z_get C 0 rfl (C := RX7) (T := TX7) (N := 38) (ci := 7) rfl inw_X7_isAsWanted_X7 30 (by decide) (ref := "EldestAgeModel") (List.mem_of_getElem? (i := 2) rfl) rfl (v := .ref (a 11)) rfl dX7_isAsWanted_118 ?_
                refine z_iload C 0 rfl dX7_isAsWanted_121 ?_
                refine z_iald C (N := 8) (f := (S 30)) 11 rfl h dX7_isAsWanted_123 (fun h => ?_)
                refine z_icmp_eq C 131 (by decide) h dX7_isAsWanted_124 (fun hc h => ?_) (fun hc h => ?_)
                · refine Zt_l [(0, .ref (a 0)), (1, .int x1), (3, .int x3)] [2, 3, 5] rfl ?_
                  exact L_X7_isAsWanted_131 a C R _ ih x1 x3 h
                · refine Zt_l [(0, .ref (a 0)), (1, .int x1), (3, .int x3)] [2, 3, 5] rfl ?_
                  exact L_X7_isAsWanted_127 a C R _ ih x1 x3 h

set_option maxHeartbeats 4000000 in
set_option maxRecDepth 100000 in
theorem L_X7_isAsWanted_54 {E : zEnv} {Γ : zG} (a : Nat → Nat) (C : zC E Γ cX7_isAsWanted RX7 6 rm_X7_isAsWanted wsX7_isAsWanted) {res : Int32} {S : St} (R : zRi E Γ cX7_isAsWanted 6 .boolean (wModel E a S) res) (x1 : Int32) (x2 : Int32) (h : f_X7_isAsWanted_54 x1 x2 S = some res) : Zt E Γ 6 0 0 (wModel E a S) [(0, .ref (a 0)), (1, .int x1), (2, .int x2)] 54 [] := by
  unfold f_X7_isAsWanted_54 at h
  refine z_iconst C (v := (0 : Int32)) (by decide) dX7_isAsWanted_54 ?_
  refine z_istore_n C [(3, .int (0 : Int32)), (0, .ref (a 0)), (1, .int x1), (2, .int x2)] rfl (by decide) rfl dX7_isAsWanted_55 ?_
  refine Zt_l [(0, .ref (a 0)), (1, .int x1), (2, .int x2), (3, .int (0 : Int32))] [1, 2, 3, 0] rfl ?_
  exact L_X7_isAsWanted_56 a C R 1000 x1 x2 (0 : Int32) h

set_option maxHeartbeats 4000000 in
set_option maxRecDepth 100000 in
theorem L_X7_isAsWanted_4 {E : zEnv} {Γ : zG} (a : Nat → Nat) (C : zC E Γ cX7_isAsWanted RX7 6 rm_X7_isAsWanted wsX7_isAsWanted) {res : Int32} {S : St} (R : zRi E Γ cX7_isAsWanted 6 .boolean (wModel E a S) res) : ∀ (n : Nat) (x1 : Int32) (x2 : Int32) (x3 : Int32), f_X7_isAsWanted_4 n x1 x2 x3 S = some res → Zt E Γ 6 0 0 (wModel E a S) [(0, .ref (a 0)), (1, .int x1), (2, .int x2), (3, .int x3)] 4 [] := by
  intro n
  induction n with
  | zero =>
    intro x1 x2 x3 h
    cases h
  | succ n ih =>
    intro x1 x2 x3 h
    rw [f_X7_isAsWanted_4_s] at h
    refine z_iload_n C 3 rfl rfl dX7_isAsWanted_4 ?_
    refine z_aload_n C 0 rfl rfl dX7_isAsWanted_5 ?_
    refine z_get C 0 rfl (C := RX7) (T := TX7) (N := 38) (ci := 7) rfl inw_X7_isAsWanted_X7 24 (by decide) (ref := "EldestAgeModel") (List.mem_of_getElem? (i := 1) rfl) rfl (v := .int (S 24 0)) rfl dX7_isAsWanted_6 ?_
    refine z_icmp_ge C 54 (by decide) h dX7_isAsWanted_9 (fun hc h => ?_) (fun hc h => ?_)
    · refine Zt_l [(0, .ref (a 0)), (1, .int x1), (2, .int x2)] [0, 1, 2] rfl ?_
      exact L_X7_isAsWanted_54 a C R x1 x2 h
    · refine z_iload_n C 2 rfl rfl dX7_isAsWanted_12 ?_
      refine z_if_eq C 46 (by decide) h dX7_isAsWanted_13 (fun hc h => ?_) (fun hc h => ?_)
      · refine Zt_l [(0, .ref (a 0)), (1, .int x1), (3, .int x3)] [0, 1, 3] rfl ?_
        exact L_X7_isAsWanted_46 a C R _ ih x1 x3 h
      · refine z_aload_n C 0 rfl rfl dX7_isAsWanted_16 ?_
        refine z_get C 0 rfl (C := RX7) (T := TX7) (N := 38) (ci := 7) rfl inw_X7_isAsWanted_X7 30 (by decide) (ref := "EldestAgeModel") (List.mem_of_getElem? (i := 2) rfl) rfl (v := .ref (a 11)) rfl dX7_isAsWanted_17 ?_
        refine z_aload_n C 0 rfl rfl dX7_isAsWanted_20 ?_
        refine z_get C 0 rfl (C := RX7) (T := TX7) (N := 38) (ci := 7) rfl inw_X7_isAsWanted_X7 23 (by decide) (ref := "EldestAgeModel") (List.mem_of_getElem? (i := 3) rfl) rfl (v := .ref (a 6)) rfl dX7_isAsWanted_21 ?_
        refine z_iconst C (v := (2 : Int32)) (by decide) dX7_isAsWanted_24 ?_
        refine z_iload_n C 3 rfl rfl dX7_isAsWanted_25 ?_
        refine z_imul C dX7_isAsWanted_26 ?_
        refine z_iald C (N := 8) (f := (S 23)) 6 rfl h dX7_isAsWanted_27 (fun h => ?_)
        refine z_iald C (N := 8) (f := (S 30)) 11 rfl h dX7_isAsWanted_28 (fun h => ?_)
        refine z_aload_n C 0 rfl rfl dX7_isAsWanted_29 ?_
        refine z_get C 0 rfl (C := RX7) (T := TX7) (N := 38) (ci := 7) rfl inw_X7_isAsWanted_X7 23 (by decide) (ref := "EldestAgeModel") (List.mem_of_getElem? (i := 3) rfl) rfl (v := .ref (a 6)) rfl dX7_isAsWanted_30 ?_
        refine z_iconst C (v := (2 : Int32)) (by decide) dX7_isAsWanted_33 ?_
        refine z_iload_n C 3 rfl rfl dX7_isAsWanted_34 ?_
        refine z_imul C dX7_isAsWanted_35 ?_
        refine z_iconst C (v := (1 : Int32)) (by decide) dX7_isAsWanted_36 ?_
        refine z_iadd C dX7_isAsWanted_37 ?_
        refine z_iald C (N := 8) (f := (S 23)) 6 rfl h dX7_isAsWanted_38 (fun h => ?_)
        refine z_icmp_ne C 46 (by decide) h dX7_isAsWanted_39 (fun hc h => ?_) (fun hc h => ?_)
        · refine z_iconst C (v := (1 : Int32)) (by decide) dX7_isAsWanted_42 ?_
          refine z_goto C 47 (by decide) dX7_isAsWanted_43 ?_
          refine Zt_l [(0, .ref (a 0)), (1, .int x1), (3, .int x3)] [0, 1, 3] rfl ?_
          exact L_X7_isAsWanted_47 a C R _ ih x1 x3 (1 : Int32) h
        · refine Zt_l [(0, .ref (a 0)), (1, .int x1), (3, .int x3)] [0, 1, 3] rfl ?_
          exact L_X7_isAsWanted_46 a C R _ ih x1 x3 h

set_option maxHeartbeats 4000000 in
set_option maxRecDepth 100000 in
theorem L_X7_isAsWanted {E : zEnv} {Γ : zG} (a : Nat → Nat) (C : zC E Γ cX7_isAsWanted RX7 6 rm_X7_isAsWanted wsX7_isAsWanted) {res : Int32} {S : St} (R : zRi E Γ cX7_isAsWanted 6 .boolean (wModel E a S) res) (x1 : Int32) (h : f_X7_isAsWanted x1 S = some res) : Zt E Γ 6 0 0 (wModel E a S) [(0, .ref (a 0)), (1, .int x1)] 0 [] := by
  unfold f_X7_isAsWanted at h
  refine z_iconst C (v := (1 : Int32)) (by decide) dX7_isAsWanted_0 ?_
  refine z_istore_n C [(2, .int (1 : Int32)), (0, .ref (a 0)), (1, .int x1)] rfl (by decide) rfl dX7_isAsWanted_1 ?_
  refine z_iconst C (v := (0 : Int32)) (by decide) dX7_isAsWanted_2 ?_
  refine z_istore_n C [(3, .int (0 : Int32)), (2, .int (1 : Int32)), (0, .ref (a 0)), (1, .int x1)] rfl (by decide) rfl dX7_isAsWanted_3 ?_
  refine Zt_l [(0, .ref (a 0)), (1, .int x1), (2, .int (1 : Int32)), (3, .int (0 : Int32))] [2, 3, 1, 0] rfl ?_
  exact L_X7_isAsWanted_4 a C R 1000 x1 (1 : Int32) (0 : Int32) h

theorem c_X7_isAsWanted (E : zEnv) (a : Nat → Nat) (x1 : Int32) (S : St) {res : Int32} (h : f_X7_isAsWanted x1 S = some res) : Kti E yX7_isAsWanted wsX7_isAsWanted rm_X7_isAsWanted (wModel E a S) (wModel E a S) [.ref (a 0), .int x1] res :=
  z_enti (cc := cX7_isAsWanted) (maxL := 6) (rt := .boolean) (by decide +kernel) rfl (Nat.le_of_ble_eq_true rfl) (fun Γ C R => L_X7_isAsWanted a C R x1 h)
