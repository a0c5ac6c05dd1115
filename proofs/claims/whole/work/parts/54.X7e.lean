abbrev rm_X7_born : Room := { frames := 6, cells := 0, slots := 0, locals := 138 }
theorem inw_X7_born_X7 : ∀ w ∈ wsX70, w ∈ wsX7_born := fun _ h => List.mem_cons_of_mem _ (List.mem_append_right _ h)
set_option maxHeartbeats 4000000 in
theorem wl_X7_born_0 (E : zEnv) (a : Nat → Nat) (S : St) : ([0, 1, 2, 3, 4, 5, 6, 7, 8, 9, 10, 11, 12, 13, 14, 15, 16] : List Nat).map (fun i => (wModel E a S)[i]?) = (wModel E a S).map some := rfl
set_option maxHeartbeats 4000000 in
theorem wl_X7_born_1 (E : zEnv) (a : Nat → Nat) (S U : St) : (wModel E a U).map (fun q => q.1) = (wModel E a S).map (fun q => q.1) := rfl
set_option maxHeartbeats 4000000 in
theorem wl_X7_born_2 (E : zEnv) (a : Nat → Nat) (S U : St) : (wModel E a U) = zrep [0, 1, 2, 3, 4, 5, 6, 7, 8, 9, 10, 11, 12, 13, 14, 15, 16] (wModel E a U) (wModel E a S) := zrep_of (isR := []) 17 rfl [] rfl rfl rfl rfl (by decide +kernel) (by decide +kernel)
set_option maxHeartbeats 4000000 in
theorem wl_X7_born_3 (E : zEnv) (a : Nat → Nat) (S : St) (f : Nat → Int32) : (wModel E a (st 0 f S)) = (wModel E a S).set 1 (a 1, .inl (zI E, 368, .inl f)) := rfl
noncomputable def f_X7_born_140 (k59 : Int32 → Int32 → Int32 → Int32 → Int32 → Int32 → Int32 → Int32 → St → Option (Int32 × St)) (x1 : Int32) (x2 : Int32) (x3 : Int32) (x4 : Int32) (x5 : Int32) (x6 : Int32) (x7 : Int32) (x8 : Int32) (S : St) : Option (Int32 × St) := (k59 x1 x2 x3 x4 x5 x6 x7 (x8 + (1 : Int32)) S)
noncomputable def f_X7_born_131 (k59 : Int32 → Int32 → Int32 → Int32 → Int32 → Int32 → Int32 → Int32 → St → Option (Int32 × St)) (x1 : Int32) (x2 : Int32) (x3 : Int32) (x4 : Int32) (x5 : Int32) (x8 : Int32) (y0 : Int32) (S : St) : Option (Int32 × St) := (f_X7_born_140 k59 x1 x2 x3 x4 (x5 + (1 : Int32)) y0 x8 x8 S)
noncomputable def f_X7_born_110 (k59 : Int32 → Int32 → Int32 → Int32 → Int32 → Int32 → Int32 → Int32 → St → Option (Int32 × St)) (x1 : Int32) (x2 : Int32) (x3 : Int32) (x4 : Int32) (x5 : Int32) (x6 : Int32) (x7 : Int32) (x8 : Int32) (S : St) : Option (Int32 × St) := ((f_X7_firstLie S).bind (fun q1 => (if q1.1 = (-4 : Int32) then (if x5 = 0 then (f_X7_born_131 k59 x1 x2 x3 x4 x5 x8 x8 q1.2) else (f_X7_born_131 k59 x1 x2 x3 x4 x5 x8 x6 q1.2)) else (f_X7_born_140 k59 x1 x2 x3 x4 x5 x6 x7 x8 q1.2))))
noncomputable def f_X7_born_146 (x1 : Int32) (x2 : Int32) (x3 : Int32) (x5 : Int32) (x6 : Int32) (x7 : Int32) (S : St) : Option (Int32 × St) := (ix (((4 : Int32) * x1) + (1 : Int32)) 368 (if x2 = 0 then (some (x5, (st 0 (upd (S 0) (Int32.toNatClampNeg (((4 : Int32) * x1) + (1 : Int32))) x3) S))) else (if x2 = (1 : Int32) then (some (x6, (st 0 (upd (S 0) (Int32.toNatClampNeg (((4 : Int32) * x1) + (1 : Int32))) x3) S))) else (some (x7, (st 0 (upd (S 0) (Int32.toNatClampNeg (((4 : Int32) * x1) + (1 : Int32))) x3) S))))))
noncomputable def f_X7_born_59 (n : Nat) : Int32 → Int32 → Int32 → Int32 → Int32 → Int32 → Int32 → Int32 → St → Option (Int32 × St) := Nat.rec (motive := fun _ => Int32 → Int32 → Int32 → Int32 → Int32 → Int32 → Int32 → Int32 → St → Option (Int32 × St)) (fun _ _ _ _ _ _ _ _ _ => none) (fun _ ih => fun x1 x2 x3 x4 x5 x6 x7 x8 S => (if (100 : Int32) ≤ x8 then (f_X7_born_146 x1 x2 x3 x5 x6 x7 S) else (ix (((4 : Int32) * x1) + (1 : Int32)) 368 (if x4 = (-4 : Int32) then (f_X7_born_110 ih x1 x2 x3 x4 x5 x6 x7 x8 (st 0 (upd (S 0) (Int32.toNatClampNeg (((4 : Int32) * x1) + (1 : Int32))) (((360 : Int32) * x8) + (zrem x3 (360 : Int32)))) S)) else (ix (((4 : Int32) * x1) + (1 : Int32)) 368 (if x4 ≤ ((upd (S 0) (Int32.toNatClampNeg (((4 : Int32) * x1) + (1 : Int32))) (((360 : Int32) * x8) + (zrem x3 (360 : Int32)))) (Int32.toNatClampNeg (((4 : Int32) * x1) + (1 : Int32)))) then (f_X7_born_140 ih x1 x2 x3 x4 x5 x6 x7 x8 (st 0 (upd (S 0) (Int32.toNatClampNeg (((4 : Int32) * x1) + (1 : Int32))) (((360 : Int32) * x8) + (zrem x3 (360 : Int32)))) S)) else (f_X7_born_110 ih x1 x2 x3 x4 x5 x6 x7 x8 (st 0 (upd (S 0) (Int32.toNatClampNeg (((4 : Int32) * x1) + (1 : Int32))) (((360 : Int32) * x8) + (zrem x3 (360 : Int32)))) S)))))))) n
theorem f_X7_born_59_s (n : Nat) (x1 : Int32) (x2 : Int32) (x3 : Int32) (x4 : Int32) (x5 : Int32) (x6 : Int32) (x7 : Int32) (x8 : Int32) (S : St) : f_X7_born_59 (n + 1) x1 x2 x3 x4 x5 x6 x7 x8 S = (if (100 : Int32) ≤ x8 then (f_X7_born_146 x1 x2 x3 x5 x6 x7 S) else (ix (((4 : Int32) * x1) + (1 : Int32)) 368 (if x4 = (-4 : Int32) then (f_X7_born_110 (f_X7_born_59 n) x1 x2 x3 x4 x5 x6 x7 x8 (st 0 (upd (S 0) (Int32.toNatClampNeg (((4 : Int32) * x1) + (1 : Int32))) (((360 : Int32) * x8) + (zrem x3 (360 : Int32)))) S)) else (ix (((4 : Int32) * x1) + (1 : Int32)) 368 (if x4 ≤ ((upd (S 0) (Int32.toNatClampNeg (((4 : Int32) * x1) + (1 : Int32))) (((360 : Int32) * x8) + (zrem x3 (360 : Int32)))) (Int32.toNatClampNeg (((4 : Int32) * x1) + (1 : Int32)))) then (f_X7_born_140 (f_X7_born_59 n) x1 x2 x3 x4 x5 x6 x7 x8 (st 0 (upd (S 0) (Int32.toNatClampNeg (((4 : Int32) * x1) + (1 : Int32))) (((360 : Int32) * x8) + (zrem x3 (360 : Int32)))) S)) else (f_X7_born_110 (f_X7_born_59 n) x1 x2 x3 x4 x5 x6 x7 x8 (st 0 (upd (S 0) (Int32.toNatClampNeg (((4 : Int32) * x1) + (1 : Int32))) (((360 : Int32) * x8) + (zrem x3 (360 : Int32)))) S))))))) := rfl
noncomputable def f_X7_born (x1 : Int32) (x2 : Int32) (S : St) : Option (Int32 × St) := ((f_X7_isOne x1 S).bind (fun q2 => (if q2 = 0 then (some ((-1 : Int32), S)) else ((f_X7_in (Int32.toInt64 x2) (0 : Int64) (2 : Int64)).bind (fun q3 => (if q3 = 0 then (some ((-1 : Int32), S)) else (ix (((4 : Int32) * x1) + (1 : Int32)) 368 (ix (((4 : Int32) * x1) + (3 : Int32)) 368 (f_X7_born_59 1000 x1 x2 (S 0 (Int32.toNatClampNeg (((4 : Int32) * x1) + (1 : Int32)))) (S 0 (Int32.toNatClampNeg (((4 : Int32) * x1) + (3 : Int32)))) (0 : Int32) (-4 : Int32) (-4 : Int32) (0 : Int32) S)))))))))
set_option maxHeartbeats 4000000 in
set_option maxRecDepth 100000 in
theorem L_X7_born_140 {E : zEnv} {Γ : zG} (a : Nat → Nat) (C : zC E Γ cX7_born RX7 9 rm_X7_born wsX7_born) {res : (Int32 × St)} (R : zRi E Γ cX7_born 9 .int (wModel E a res.2) res.1) (k59 : Int32 → Int32 → Int32 → Int32 → Int32 → Int32 → Int32 → Int32 → St → Option (Int32 × St)) (hk59 : ∀ (x1 : Int32) (x2 : Int32) (x3 : Int32) (x4 : Int32) (x5 : Int32) (x6 : Int32) (x7 : Int32) (x8 : Int32) (S : St), k59 x1 x2 x3 x4 x5 x6 x7 x8 S = some res → Zt E Γ 9 0 0 (wModel E a S) [(0, .ref (a 0)), (1, .int x1), (2, .int x2), (3, .int x3), (4, .int x4), (5, .int x5), (6, .int x6), (7, .int x7), (8, .int x8)] 59 []) (x1 : Int32) (x2 : Int32) (x3 : Int32) (x4 : Int32) (x5 : Int32) (x6 : Int32) (x7 : Int32) (x8 : Int32) (S : St) (h : f_X7_born_140 k59 x1 x2 x3 x4 x5 x6 x7 x8 S = some res) : Zt E Γ 9 0 0 (wModel E a S) [(0, .ref (a 0)), (1, .int x1), (2, .int x2), (3, .int x3), (4, .int x4), (5, .int x5), (6, .int x6), (7, .int x7), (8, .int x8)] 140 [] := by
  unfold f_X7_born_140 at h
  refine z_iinc C [(8, .int (x8 + (1 : Int32))), (0, .ref (a 0)), (1, .int x1), (2, .int x2), (3, .int x3), (4, .int x4), (5, .int x5), (6, .int x6), (7, .int x7)] 8 rfl (by first | rfl | decide) (by decide) rfl dX7_born_140 ?_
  refine z_goto C 59 (by decide) dX7_born_143 ?_
  refine Zt_l [(0, .ref (a 0)), (1, .int x1), (2, .int x2), (3, .int x3), (4, .int x4), (5, .int x5), (6, .int x6), (7, .int x7), (8, .int (x8 + (1 : Int32)))] [1, 2, 3, 4, 5, 6, 7, 8, 0] rfl ?_
  exact hk59 x1 x2 x3 x4 x5 x6 x7 (x8 + (1 : Int32)) S h

set_option maxHeartbeats 4000000 in
set_option maxRecDepth 100000 in
theorem L_X7_born_131 {E : zEnv} {Γ : zG} (a : Nat → Nat) (C : zC E Γ cX7_born RX7 9 rm_X7_born wsX7_born) {res : (Int32 × St)} (R : zRi E Γ cX7_born 9 .int (wModel E a res.2) res.1) (k59 : Int32 → Int32 → Int32 → Int32 → Int32 → Int32 → Int32 → Int32 → St → Option (Int32 × St)) (hk59 : ∀ (x1 : Int32) (x2 : Int32) (x3 : Int32) (x4 : Int32) (x5 : Int32) (x6 : Int32) (x7 : Int32) (x8 : Int32) (S : St), k59 x1 x2 x3 x4 x5 x6 x7 x8 S = some res → Zt E Γ 9 0 0 (wModel E a S) [(0, .ref (a 0)), (1, .int x1), (2, .int x2), (3, .int x3), (4, .int x4), (5, .int x5), (6, .int x6), (7, .int x7), (8, .int x8)] 59 []) (x1 : Int32) (x2 : Int32) (x3 : Int32) (x4 : Int32) (x5 : Int32) (x8 : Int32) (y0 : Int32) (S : St) (h : f_X7_born_131 k59 x1 x2 x3 x4 x5 x8 y0 S = some res) : Zt E Γ 9 0 0 (wModel E a S) [(0, .ref (a 0)), (1, .int x1), (2, .int x2), (3, .int x3), (4, .int x4), (5, .int x5), (8, .int x8)] 131 [.int y0] := by
  unfold f_X7_born_131 at h
  refine z_istore C [(6, .int y0), (0, .ref (a 0)), (1, .int x1), (2, .int x2), (3, .int x3), (4, .int x4), (5, .int x5), (8, .int x8)] (by decide) rfl dX7_born_131 ?_
  refine z_iload C 7 rfl dX7_born_133 ?_
  refine z_istore C [(7, .int x8), (6, .int y0), (0, .ref (a 0)), (1, .int x1), (2, .int x2), (3, .int x3), (4, .int x4), (5, .int x5), (8, .int x8)] (by decide) rfl dX7_born_135 ?_
  refine z_iinc C [(5, .int (x5 + (1 : Int32))), (7, .int x8), (6, .int y0), (0, .ref (a 0)), (1, .int x1), (2, .int x2), (3, .int x3), (4, .int x4), (8, .int x8)] 7 rfl (by first | rfl | decide) (by decide) rfl dX7_born_137 ?_
  refine Zt_l [(0, .ref (a 0)), (1, .int x1), (2, .int x2), (3, .int x3), (4, .int x4), (5, .int (x5 + (1 : Int32))), (6, .int y0), (7, .int x8), (8, .int x8)] [3, 4, 5, 6, 7, 0, 2, 1, 8] rfl ?_
  exact L_X7_born_140 a C R k59 hk59 x1 x2 x3 x4 (x5 + (1 : Int32)) y0 x8 x8 S h

set_option maxHeartbeats 4000000 in
set_option maxRecDepth 100000 in
theorem L_X7_born_110 {E : zEnv} {Γ : zG} (a : Nat → Nat) (C : zC E Γ cX7_born RX7 9 rm_X7_born wsX7_born) {res : (Int32 × St)} (R : zRi E Γ cX7_born 9 .int (wModel E a res.2) res.1) (k59 : Int32 → Int32 → Int32 → Int32 → Int32 → Int32 → Int32 → Int32 → St → Option (Int32 × St)) (hk59 : ∀ (x1 : Int32) (x2 : Int32) (x3 : Int32) (x4 : Int32) (x5 : Int32) (x6 : Int32) (x7 : Int32) (x8 : Int32) (S : St), k59 x1 x2 x3 x4 x5 x6 x7 x8 S = some res → Zt E Γ 9 0 0 (wModel E a S) [(0, .ref (a 0)), (1, .int x1), (2, .int x2), (3, .int x3), (4, .int x4), (5, .int x5), (6, .int x6), (7, .int x7), (8, .int x8)] 59 []) (x1 : Int32) (x2 : Int32) (x3 : Int32) (x4 : Int32) (x5 : Int32) (x6 : Int32) (x7 : Int32) (x8 : Int32) (S : St) (h : f_X7_born_110 k59 x1 x2 x3 x4 x5 x6 x7 x8 S = some res) : Zt E Γ 9 0 0 (wModel E a S) [(0, .ref (a 0)), (1, .int x1), (2, .int x2), (3, .int x3), (4, .int x4), (5, .int x5), (6, .int x6), (7, .int x7), (8, .int x8)] 110 [] := by
  unfold f_X7_born_110 at h
  refine z_aload_n C 0 rfl rfl dX7_born_110 ?_
  obtain ⟨q1, e1, h⟩ := bd_e h
  refine z_callVi C (b := a 0) (As := []) (rest := []) (c_X7_firstLie E a S e1) rfl gX7_born_X7_firstLie rfl rfl rfl 0 rfl (by decide +kernel) ⟨Nat.le_of_ble_eq_true rfl, Nat.le_of_ble_eq_true rfl⟩ [0, 1, 2, 3, 4, 5, 6, 7, 8, 9, 10, 11, 12, 13, 14, 15, 16] (wl_X7_born_0 E a S) (by decide) (wl_X7_born_1 E a _ _) (wModel E a q1.2) (wl_X7_born_2 E a S q1.2) 0 7 rfl rfl rfl (Nat.le_of_ble_eq_true rfl) dX7_born_111 ⟨Nat.zero_le _, Nat.zero_le _⟩ _ rfl ?_
  refine z_bipush C (v := (-4 : Int32)) (by decide) dX7_born_114 ?_
  refine z_icmp_ne C 140 (by decide) h dX7_born_116 (fun hc h => ?_) (fun hc h => ?_)
  · refine z_iload C 5 rfl dX7_born_119 ?_
    refine z_if_ne C 129 (by decide) h dX7_born_121 (fun hc h => ?_) (fun hc h => ?_)
    · refine z_iload C 8 rfl dX7_born_124 ?_
      refine z_goto C 131 (by decide) dX7_born_126 ?_
      refine Zt_l [(0, .ref (a 0)), (1, .int x1), (2, .int x2), (3, .int x3), (4, .int x4), (5, .int x5), (8, .int x8)] [0, 1, 2, 3, 4, 5, 8] rfl ?_
      exact L_X7_born_131 a C R k59 hk59 x1 x2 x3 x4 x5 x8 x8 q1.2 h
    · refine z_iload C 6 rfl dX7_born_129 ?_
      refine Zt_l [(0, .ref (a 0)), (1, .int x1), (2, .int x2), (3, .int x3), (4, .int x4), (5, .int x5), (8, .int x8)] [0, 1, 2, 3, 4, 5, 8] rfl ?_
      exact L_X7_born_131 a C R k59 hk59 x1 x2 x3 x4 x5 x8 x6 q1.2 h
  · exact L_X7_born_140 a C R k59 hk59 x1 x2 x3 x4 x5 x6 x7 x8 q1.2 h

set_option maxHeartbeats 4000000 in
set_option maxRecDepth 100000 in
theorem L_X7_born_146 {E : zEnv} {Γ : zG} (a : Nat → Nat) (C : zC E Γ cX7_born RX7 9 rm_X7_born wsX7_born) {res : (Int32 × St)} (R : zRi E Γ cX7_born 9 .int (wModel E a res.2) res.1) (x1 : Int32) (x2 : Int32) (x3 : Int32) (x5 : Int32) (x6 : Int32) (x7 : Int32) (S : St) (h : f_X7_born_146 x1 x2 x3 x5 x6 x7 S = some res) : Zt E Γ 9 0 0 (wModel E a S) [(0, .ref (a 0)), (1, .int x1), (2, .int x2), (3, .int x3), (5, .int x5), (6, .int x6), (7, .int x7)] 146 [] := by
  unfold f_X7_born_146 at h
  refine z_aload_n C 0 rfl rfl dX7_born_146 ?_
  refine z_get C 0 rfl (C := RX7) (T := TX7) (N := 38) (ci := 7) rfl inw_X7_born_X7 0 (by decide) (ref := "EldestAgeModel") (List.mem_of_getElem? (i := 2) rfl) rfl (v := .ref (a 1)) rfl dX7_born_147 ?_
  refine z_iconst C (v := (4 : Int32)) (by decide) dX7_born_150 ?_
  refine z_iload_n C 1 rfl rfl dX7_born_151 ?_
  refine z_imul C dX7_born_152 ?_
  refine z_iconst C (v := (1 : Int32)) (by decide) dX7_born_153 ?_
  refine z_iadd C dX7_born_154 ?_
  refine z_iload_n C 3 rfl rfl dX7_born_155 ?_
  refine z_iast C (N := 368) (f := (S 0)) 1 rfl h (wModel E a (st 0 (upd (S 0) (Int32.toNatClampNeg (((4 : Int32) * x1) + (1 : Int32))) x3) S)) (wl_X7_born_3 E a S (upd (S 0) (Int32.toNatClampNeg (((4 : Int32) * x1) + (1 : Int32))) x3)) dX7_born_156 (fun h => ?_)
  refine z_iload_n C 2 rfl rfl dX7_born_157 ?_
  refine z_if_ne C 166 (by decide) h dX7_born_158 (fun hc h => ?_) (fun hc h => ?_)
  · refine z_iload C 4 rfl dX7_born_161 ?_
    refine z_goto C 178 (by decide) dX7_born_163 ?_
    obtain rfl := Option.some.inj h
    exact R rfl 178 _ dX7_born_178
  · refine z_iload_n C 2 rfl rfl dX7_born_166 ?_
    refine z_iconst C (v := (1 : Int32)) (by decide) dX7_born_167 ?_
    refine z_icmp_ne C 176 (by decide) h dX7_born_168 (fun hc h => ?_) (fun hc h => ?_)
    · refine z_iload C 5 rfl dX7_born_171 ?_
      refine z_goto C 178 (by decide) dX7_born_173 ?_
      obtain rfl := Option.some.inj h
      exact R rfl 178 _ dX7_born_178
    · refine z_iload C 6 rfl dX7_born_176 ?_
      obtain rfl := Option.some.inj h
      exact R rfl 178 _ dX7_born_178

set_option maxHeartbeats 4000000 in
set_option maxRecDepth 100000 in
theorem L_X7_born_59 {E : zEnv} {Γ : zG} (a : Nat → Nat) (C : zC E Γ cX7_born RX7 9 rm_X7_born wsX7_born) {res : (Int32 × St)} (R : zRi E Γ cX7_born 9 .int (wModel E a res.2) res.1) : ∀ (n : Nat) (x1 : Int32) (x2 : Int32) (x3 : Int32) (x4 : Int32) (x5 : Int32) (x6 : Int32) (x7 : Int32) (x8 : Int32) (S : St), f_X7_born_59 n x1 x2 x3 x4 x5 x6 x7 x8 S = some res → Zt E Γ 9 0 0 (wModel E a S) [(0, .ref (a 0)), (1, .int x1), (2, .int x2), (3, .int x3), (4, .int x4), (5, .int x5), (6, .int x6), (7, .int x7), (8, .int x8)] 59 [] := by
  intro n
  induction n with
  | zero =>
    intro x1 x2 x3 x4 x5 x6 x7 x8 S h
    cases h
  | succ n ih =>
    intro x1 x2 x3 x4 x5 x6 x7 x8 S h
    rw [f_X7_born_59_s] at h
    refine z_iload C 8 rfl dX7_born_59 ?_
    refine z_bipush C (v := (100 : Int32)) (by decide) dX7_born_61 ?_
    refine z_icmp_ge C 146 (by decide) h dX7_born_63 (fun hc h => ?_) (fun hc h => ?_)
    · refine Zt_l [(0, .ref (a 0)), (1, .int x1), (2, .int x2), (3, .int x3), (5, .int x5), (6, .int x6), (7, .int x7)] [0, 1, 2, 3, 5, 6, 7] rfl ?_
      exact L_X7_born_146 a C R x1 x2 x3 x5 x6 x7 S h
    · refine z_aload_n C 0 rfl rfl dX7_born_66 ?_
      refine z_get C 0 rfl (C := RX7) (T := TX7) (N := 38) (ci := 7) rfl inw_X7_born_X7 0 (by decide) (ref := "EldestAgeModel") (List.mem_of_getElem? (i := 2) rfl) rfl (v := .ref (a 1)) rfl dX7_born_67 ?_
      refine z_iconst C (v := (4 : Int32)) (by decide) dX7_born_70 ?_
      refine z_iload_n C 1 rfl rfl dX7_born_71 ?_
      refine z_imul C dX7_born_72 ?_
      refine z_iconst C (v := (1 : Int32)) (by decide) dX7_born_73 ?_
      refine z_iadd C dX7_born_74 ?_
      refine z_sipush C (v := (360 : Int32)) (by decide) dX7_born_75 ?_
      refine z_iload C 8 rfl dX7_born_78 ?_
      refine z_imul C dX7_born_80 ?_
      refine z_iload_n C 3 rfl rfl dX7_born_81 ?_
      refine z_sipush C (v := (360 : Int32)) (by decide) dX7_born_82 ?_
      refine z_irem C (by decide) dX7_born_85 ?_
      refine z_iadd C dX7_born_86 ?_
      refine z_iast C (N := 368) (f := (S 0)) 1 rfl h (wModel E a (st 0 (upd (S 0) (Int32.toNatClampNeg (((4 : Int32) * x1) + (1 : Int32))) (((360 : Int32) * x8) + (zrem x3 (360 : Int32)))) S)) (wl_X7_born_3 E a S (upd (S 0) (Int32.toNatClampNeg (((4 : Int32) * x1) + (1 : Int32))) (((360 : Int32) * x8) + (zrem x3 (360 : Int32))))) dX7_born_87 (fun h => ?_)
      refine z_iload C 4 rfl dX7_born_88 ?_
      refine z_bipush C (v := (-4 : Int32)) (by decide) dX7_born_90 ?_
      refine z_icmp_eq C 110 (by decide) h dX7_born_92 (fun hc h => ?_) (fun hc h => ?_)
      · exact L_X7_born_110 a C R _ ih x1 x2 x3 x4 x5 x6 x7 x8 (st 0 (upd (S 0) (Int32.toNatClampNeg (((4 : Int32) * x1) + (1 : Int32))) (((360 : Int32) * x8) + (zrem x3 (360 : Int32)))) S) h
      · refine z_aload_n C 0 rfl rfl dX7_born_95 ?_
        refine z_get C 0 rfl (C := RX7) (T := TX7) (N := 38) (ci := 7) rfl inw_X7_born_X7 0 (by decide) (ref := "EldestAgeModel") (List.mem_of_getElem? (i := 2) rfl) rfl (v := .ref (a 1)) rfl dX7_born_96 ?_
        refine z_iconst C (v := (4 : Int32)) (by decide) dX7_born_99 ?_
        refine z_iload_n C 1 rfl rfl dX7_born_100 ?_
        refine z_imul C dX7_born_101 ?_
        refine z_iconst C (v := (1 : Int32)) (by decide) dX7_born_102 ?_
        refine z_iadd C dX7_born_103 ?_
        refine z_iald C (N := 368) (f := (upd (S 0) (Int32.toNatClampNeg (((4 : Int32) * x1) + (1 : Int32))) (((360 : Int32) * x8) + (zrem x3 (360 : Int32))))) 1 rfl h dX7_born_104 (fun h => ?_)
        refine z_iload C 4 rfl dX7_born_105 ?_
        refine z_icmp_ge C 140 (by decide) h dX7_born_107 (fun hc h => ?_) (fun hc h => ?_)
        · exact L_X7_born_140 a C R _ ih x1 x2 x3 x4 x5 x6 x7 x8 (st 0 (upd (S 0) (Int32.toNatClampNeg (((4 : Int32) * x1) + (1 : Int32))) (((360 : Int32) * x8) + (zrem x3 (360 : Int32)))) S) h
        · exact L_X7_born_110 a C R _ ih x1 x2 x3 x4 x5 x6 x7 x8 (st 0 (upd (S 0) (Int32.toNatClampNeg (((4 : Int32) * x1) + (1 : Int32))) (((360 : Int32) * x8) + (zrem x3 (360 : Int32)))) S) h

set_option maxHeartbeats 4000000 in
set_option maxRecDepth 100000 in
theorem L_X7_born {E : zEnv} {Γ : zG} (a : Nat → Nat) (C : zC E Γ cX7_born RX7 9 rm_X7_born wsX7_born) {res : (Int32 × St)} (R : zRi E Γ cX7_born 9 .int (wModel E a res.2) res.1) (x1 : Int32) (x2 : Int32) (S : St) (h : f_X7_born x1 x2 S = some res) : Zt E Γ 9 0 0 (wModel E a S) [(0, .ref (a 0)), (1, .int x1), (2, .int x2)] 0 [] := by
  unfold f_X7_born at h
  refine z_aload_n C 0 rfl rfl dX7_born_0 ?_
  refine z_iload_n C 1 rfl rfl dX7_born_1 ?_
  obtain ⟨q2, e2, h⟩ := bd_e h
  refine z_callVi C (b := a 0) (As := [.int x1]) (rest := []) (c_X7_isOne E a x1 S e2) rfl gX7_born_X7_isOne rfl rfl rfl 1 rfl (by decide +kernel) ⟨Nat.le_of_ble_eq_true rfl, Nat.le_of_ble_eq_true rfl⟩ [0, 1, 2, 3, 4, 5, 6, 7, 8, 9, 10, 11, 12, 13, 14, 15, 16] (wl_X7_born_0 E a S) (by decide) rfl (wModel E a S) (zrep_self (wl_X7_born_0 E a S)) 0 7 rfl rfl rfl (Nat.le_of_ble_eq_true rfl) dX7_born_2 ⟨Nat.zero_le _, Nat.zero_le _⟩ _ rfl ?_
  refine z_if_eq C 20 (by decide) h dX7_born_5 (fun hc h => ?_) (fun hc h => ?_)
  · refine z_iconst C (v := (-1 : Int32)) (by decide) dX7_born_20 ?_
    obtain rfl := Option.some.inj h
    exact R rfl 21 _ dX7_born_21
  · refine z_iload_n C 2 rfl rfl dX7_born_8 ?_
    refine z_i2l C dX7_born_9 ?_
    refine z_lconst C (v := (0 : Int64)) (by decide) dX7_born_10 ?_
    refine z_ldc2 C (v := (2 : Int64)) (List.mem_of_getElem? (i := 1) rfl) dX7_born_11 ?_
    obtain ⟨q3, e3, h⟩ := bd_e h
    refine z_callSi C (rest := []) (c_X7_in E (Int32.toInt64 x2) (0 : Int64) (2 : Int64) e3) gX7_born_X7_in rfl rfl rfl 3 rfl (by decide +kernel) ⟨Nat.le_of_ble_eq_true rfl, Nat.le_of_ble_eq_true rfl⟩ [] rfl (by decide) rfl (wModel E a S) rfl (Nat.le_of_ble_eq_true rfl) dX7_born_14 ⟨Nat.zero_le _, Nat.zero_le _⟩ _ rfl ?_
    refine z_if_ne C 22 (by decide) h dX7_born_17 (fun hc h => ?_) (fun hc h => ?_)
    · refine z_iconst C (v := (-1 : Int32)) (by decide) dX7_born_20 ?_
      obtain rfl := Option.some.inj h
      exact R rfl 21 _ dX7_born_21
    · refine z_aload_n C 0 rfl rfl dX7_born_22 ?_
      refine z_get C 0 rfl (C := RX7) (T := TX7) (N := 38) (ci := 7) rfl inw_X7_born_X7 0 (by decide) (ref := "EldestAgeModel") (List.mem_of_getElem? (i := 2) rfl) rfl (v := .ref (a 1)) rfl dX7_born_23 ?_
      refine z_iconst C (v := (4 : Int32)) (by decide) dX7_born_26 ?_
      refine z_iload_n C 1 rfl rfl dX7_born_27 ?_
      refine z_imul C dX7_born_28 ?_
      refine z_iconst C (v := (1 : Int32)) (by decide) dX7_born_29 ?_
      refine z_iadd C dX7_born_30 ?_
      refine z_iald C (N := 368) (f := (S 0)) 1 rfl h dX7_born_31 (fun h => ?_)
      refine z_istore_n C [(3, .int (S 0 (Int32.toNatClampNeg (((4 : Int32) * x1) + (1 : Int32))))), (0, .ref (a 0)), (1, .int x1), (2, .int x2)] rfl (by decide) rfl dX7_born_32 ?_
      refine z_aload_n C 1 rfl rfl dX7_born_33 ?_
      refine z_get C 0 rfl (C := RX7) (T := TX7) (N := 38) (ci := 7) rfl inw_X7_born_X7 0 (by decide) (ref := "EldestAgeModel") (List.mem_of_getElem? (i := 2) rfl) rfl (v := .ref (a 1)) rfl dX7_born_34 ?_
      refine z_iconst C (v := (4 : Int32)) (by decide) dX7_born_37 ?_
      refine z_iload_n C 2 rfl rfl dX7_born_38 ?_
      refine z_imul C dX7_born_39 ?_
      refine z_iconst C (v := (3 : Int32)) (by decide) dX7_born_40 ?_
      refine z_iadd C dX7_born_41 ?_
      refine z_iald C (N := 368) (f := (S 0)) 1 rfl h dX7_born_42 (fun h => ?_)
      refine z_istore C [(4, .int (S 0 (Int32.toNatClampNeg (((4 : Int32) * x1) + (3 : Int32))))), (3, .int (S 0 (Int32.toNatClampNeg (((4 : Int32) * x1) + (1 : Int32))))), (0, .ref (a 0)), (1, .int x1), (2, .int x2)] (by decide) rfl dX7_born_43 ?_
      refine z_iconst C (v := (0 : Int32)) (by decide) dX7_born_45 ?_
      refine z_istore C [(5, .int (0 : Int32)), (4, .int (S 0 (Int32.toNatClampNeg (((4 : Int32) * x1) + (3 : Int32))))), (3, .int (S 0 (Int32.toNatClampNeg (((4 : Int32) * x1) + (1 : Int32))))), (0, .ref (a 0)), (1, .int x1), (2, .int x2)] (by decide) rfl dX7_born_46 ?_
      refine z_bipush C (v := (-4 : Int32)) (by decide) dX7_born_48 ?_
      refine z_istore C [(6, .int (-4 : Int32)), (5, .int (0 : Int32)), (4, .int (S 0 (Int32.toNatClampNeg (((4 : Int32) * x1) + (3 : Int32))))), (3, .int (S 0 (Int32.toNatClampNeg (((4 : Int32) * x1) + (1 : Int32))))), (0, .ref (a 0)), (1, .int x1), (2, .int x2)] (by decide) rfl dX7_born_50 ?_
      refine z_bipush C (v := (-4 : Int32)) (by decide) dX7_born_52 ?_
      refine z_istore C [(7, .int (-4 : Int32)), (6, .int (-4 : Int32)), (5, .int (0 : Int32)), (4, .int (S 0 (Int32.toNatClampNeg (((4 : Int32) * x1) + (3 : Int32))))), (3, .int (S 0 (Int32.toNatClampNeg (((4 : Int32) * x1) + (1 : Int32))))), (0, .ref (a 0)), (1, .int x1), (2, .int x2)] (by decide) rfl dX7_born_54 ?_
      refine z_iconst C (v := (0 : Int32)) (by decide) dX7_born_56 ?_
      refine z_istore C [(8, .int (0 : Int32)), (7, .int (-4 : Int32)), (6, .int (-4 : Int32)), (5, .int (0 : Int32)), (4, .int (S 0 (Int32.toNatClampNeg (((4 : Int32) * x1) + (3 : Int32))))), (3, .int (S 0 (Int32.toNatClampNeg (((4 : Int32) * x1) + (1 : Int32))))), (0, .ref (a 0)), (1, .int x1), (2, .int x2)] (by decide) rfl dX7_born_57 ?_
      refine Zt_l [(0, .ref (a 0)), (1, .int x1), (2, .int x2), (3, .int (S 0 (Int32.toNatClampNeg (((4 : Int32) * x1) + (1 : Int32))))), (4, .int (S 0 (Int32.toNatClampNeg (((4 : Int32) * x1) + (3 : Int32))))), (5, .int (0 : Int32)), (6, .int (-4 : Int32)), (7, .int (-4 : Int32)), (8, .int (0 : Int32))] [6, 7, 8, 5, 4, 3, 2, 1, 0] rfl ?_
      exact L_X7_born_59 a C R 1000 x1 x2 (S 0 (Int32.toNatClampNeg (((4 : Int32) * x1) + (1 : Int32)))) (S 0 (Int32.toNatClampNeg (((4 : Int32) * x1) + (3 : Int32)))) (0 : Int32) (-4 : Int32) (-4 : Int32) (0 : Int32) S h

theorem c_X7_born (E : zEnv) (a : Nat → Nat) (x1 : Int32) (x2 : Int32) (S : St) {res : (Int32 × St)} (h : f_X7_born x1 x2 S = some res) : Kti E yX7_born wsX7_born rm_X7_born (wModel E a S) (wModel E a res.2) [.ref (a 0), .int x1, .int x2] res.1 :=
  z_enti (cc := cX7_born) (maxL := 9) (rt := .int) (by decide +kernel) rfl (Nat.le_of_ble_eq_true rfl) (fun Γ C R => L_X7_born a C R x1 x2 S h)

abbrev rm_X7_copies : Room := { frames := 0, cells := 0, slots := 0, locals := 0 }
theorem inw_X7_copies_X7 : ∀ w ∈ wsX70, w ∈ wsX7_copies := fun _ h => List.mem_cons_of_mem _ (List.mem_append_right _ h)
set_option maxHeartbeats 4000000 in
theorem wl_X7_copies_0 (E : zEnv) (a : Nat → Nat) (S : St) (f : Nat → Int32) : (wModel E a (st 0 f S)) = (wModel E a S).set 1 (a 1, .inl (zI E, 368, .inl f)) := rfl
noncomputable def f_X7_copies_2 (n : Nat) : Int32 → Int32 → Int32 → St → Option St := Nat.rec (motive := fun _ => Int32 → Int32 → Int32 → St → Option St) (fun _ _ _ _ => none) (fun _ ih => fun x1 x2 x3 S => (if (92 : Int32) ≤ x3 then (some S) else (ix (x1 + x3) 368 (ix (x2 + x3) 368 (ih x1 x2 (x3 + (1 : Int32)) (st 0 (upd (S 0) (Int32.toNatClampNeg (x2 + x3)) (S 0 (Int32.toNatClampNeg (x1 + x3)))) S)))))) n
theorem f_X7_copies_2_s (n : Nat) (x1 : Int32) (x2 : Int32) (x3 : Int32) (S : St) : f_X7_copies_2 (n + 1) x1 x2 x3 S = (if (92 : Int32) ≤ x3 then (some S) else (ix (x1 + x3) 368 (ix (x2 + x3) 368 ((f_X7_copies_2 n) x1 x2 (x3 + (1 : Int32)) (st 0 (upd (S 0) (Int32.toNatClampNeg (x2 + x3)) (S 0 (Int32.toNatClampNeg (x1 + x3)))) S))))) := rfl
noncomputable def f_X7_copies (x1 : Int32) (x2 : Int32) (S : St) : Option St := (f_X7_copies_2 1000 x1 x2 (0 : Int32) S)
set_option maxHeartbeats 4000000 in
set_option maxRecDepth 100000 in
theorem L_X7_copies_2 {E : zEnv} {Γ : zG} (a : Nat → Nat) (C : zC E Γ cX7_copies RX7 4 rm_X7_copies wsX7_copies) {res : St} (R : zRv E Γ cX7_copies 4 (wModel E a res)) : ∀ (n : Nat) (x1 : Int32) (x2 : Int32) (x3 : Int32) (S : St), f_X7_copies_2 n x1 x2 x3 S = some res → Zt E Γ 4 0 0 (wModel E a S) [(0, .ref (a 0)), (1, .int x1), (2, .int x2), (3, .int x3)] 2 [] := by
  intro n
  induction n with
  | zero =>
    intro x1 x2 x3 S h
    cases h
  | succ n ih =>
    intro x1 x2 x3 S h
    rw [f_X7_copies_2_s] at h
    refine z_iload_n C 3 rfl rfl dX7_copies_2 ?_
    refine z_bipush C (v := (92 : Int32)) (by decide) dX7_copies_3 ?_
    refine z_icmp_ge C 30 (by decide) h dX7_copies_5 (fun hc h => ?_) (fun hc h => ?_)
    · obtain rfl := Option.some.inj h
      exact R 30 _ dX7_copies_30
    · refine z_aload_n C 0 rfl rfl dX7_copies_8 ?_
      refine z_get C 0 rfl (C := RX7) (T := TX7) (N := 38) (ci := 7) rfl inw_X7_copies_X7 0 (by decide) (ref := "EldestAgeModel") (List.mem_of_getElem? (i := 1) rfl) rfl (v := .ref (a 1)) rfl dX7_copies_9 ?_
      refine z_iload_n C 2 rfl rfl dX7_copies_12 ?_
      refine z_iload_n C 3 rfl rfl dX7_copies_13 ?_
      refine z_iadd C dX7_copies_14 ?_
      refine z_aload_n C 0 rfl rfl dX7_copies_15 ?_
      refine z_get C 0 rfl (C := RX7) (T := TX7) (N := 38) (ci := 7) rfl inw_X7_copies_X7 0 (by decide) (ref := "EldestAgeModel") (List.mem_of_getElem? (i := 1) rfl) rfl (v := .ref (a 1)) rfl dX7_copies_16 ?_
      refine z_iload_n C 1 rfl rfl dX7_copies_19 ?_
      refine z_iload_n C 3 rfl rfl dX7_copies_20 ?_
      refine z_iadd C dX7_copies_21 ?_
      refine z_iald C (N := 368) (f := (S 0)) 1 rfl h dX7_copies_22 (fun h => ?_)
      refine z_iast C (N := 368) (f := (S 0)) 1 rfl h (wModel E a (st 0 (upd (S 0) (Int32.toNatClampNeg (x2 + x3)) (S 0 (Int32.toNatClampNeg (x1 + x3)))) S)) (wl_X7_copies_0 E a S (upd (S 0) (Int32.toNatClampNeg (x2 + x3)) (S 0 (Int32.toNatClampNeg (x1 + x3))))) dX7_copies_23 (fun h => ?_)
      refine z_iinc C [(3, .int (x3 + (1 : Int32))), (0, .ref (a 0)), (1, .int x1), (2, .int x2)] 3 rfl (by first | rfl | decide) (by decide) rfl dX7_copies_24 ?_
      refine z_goto C 2 (by decide) dX7_copies_27 ?_
      refine Zt_l [(0, .ref (a 0)), (1, .int x1), (2, .int x2), (3, .int (x3 + (1 : Int32)))] [1, 2, 3, 0] rfl ?_
      exact ih x1 x2 (x3 + (1 : Int32)) (st 0 (upd (S 0) (Int32.toNatClampNeg (x2 + x3)) (S 0 (Int32.toNatClampNeg (x1 + x3)))) S) h

set_option maxHeartbeats 4000000 in
set_option maxRecDepth 100000 in
theorem L_X7_copies {E : zEnv} {Γ : zG} (a : Nat → Nat) (C : zC E Γ cX7_copies RX7 4 rm_X7_copies wsX7_copies) {res : St} (R : zRv E Γ cX7_copies 4 (wModel E a res)) (x1 : Int32) (x2 : Int32) (S : St) (h : f_X7_copies x1 x2 S = some res) : Zt E Γ 4 0 0 (wModel E a S) [(0, .ref (a 0)), (1, .int x1), (2, .int x2)] 0 [] := by
  unfold f_X7_copies at h
  refine z_iconst C (v := (0 : Int32)) (by decide) dX7_copies_0 ?_
  refine z_istore_n C [(3, .int (0 : Int32)), (0, .ref (a 0)), (1, .int x1), (2, .int x2)] rfl (by decide) rfl dX7_copies_1 ?_
  refine Zt_l [(0, .ref (a 0)), (1, .int x1), (2, .int x2), (3, .int (0 : Int32))] [1, 2, 3, 0] rfl ?_
  exact L_X7_copies_2 a C R 1000 x1 x2 (0 : Int32) S h

theorem c_X7_copies (E : zEnv) (a : Nat → Nat) (x1 : Int32) (x2 : Int32) (S : St) {res : St} (h : f_X7_copies x1 x2 S = some res) : Ktv E yX7_copies wsX7_copies rm_X7_copies (wModel E a S) (wModel E a res) [.ref (a 0), .int x1, .int x2] :=
  z_entv (cc := cX7_copies) (maxL := 4) (by decide +kernel) rfl (Nat.le_of_ble_eq_true rfl) (fun Γ C R => L_X7_copies a C R x1 x2 S h)

abbrev rm_X7_later : Room := { frames := 5, cells := 0, slots := 0, locals := 121 }
theorem inw_X7_later_X7 : ∀ w ∈ wsX70, w ∈ wsX7_later := fun _ h => List.mem_cons_of_mem _ (List.mem_append_right _ h)
set_option maxHeartbeats 4000000 in
theorem wl_X7_later_0 (E : zEnv) (a : Nat → Nat) (S : St) (f : Nat → Int32) : (wModel E a (st 0 f S)) = (wModel E a S).set 1 (a 1, .inl (zI E, 368, .inl f)) := rfl
set_option maxHeartbeats 4000000 in
theorem wl_X7_later_1 (E : zEnv) (a : Nat → Nat) (S : St) : ([0, 1, 2, 3, 4, 5, 6, 7, 8, 9, 10, 11, 12, 13, 14, 15, 16] : List Nat).map (fun i => (wModel E a S)[i]?) = (wModel E a S).map some := rfl
set_option maxHeartbeats 4000000 in
theorem wl_X7_later_2 (E : zEnv) (a : Nat → Nat) (S U : St) : (wModel E a U).map (fun q => q.1) = (wModel E a S).map (fun q => q.1) := rfl
set_option maxHeartbeats 4000000 in
theorem wl_X7_later_3 (E : zEnv) (a : Nat → Nat) (S U : St) : (wModel E a U) = zrep [0, 1, 2, 3, 4, 5, 6, 7, 8, 9, 10, 11, 12, 13, 14, 15, 16] (wModel E a U) (wModel E a S) := zrep_of (isR := []) 17 rfl [] rfl rfl rfl rfl (by decide +kernel) (by decide +kernel)
noncomputable def f_X7_later_208 (k53 : Int32 → Int32 → Int32 → Int32 → Int32 → Int32 → St → Option (Int32 × St)) (k89 : Int32 → Int32 → Int32 → Int32 → Int32 → Int32 → Int32 → St → Option (Int32 × St)) (x2 : Int32) (x3 : Int32) (x4 : Int32) (x5 : Int32) (x6 : Int32) (x7 : Int32) (x8 : Int32) (S : St) : Option (Int32 × St) := (k89 x2 x3 x4 x5 x6 x7 (x8 + (1 : Int32)) S)
noncomputable def f_X7_later_207 (k53 : Int32 → Int32 → Int32 → Int32 → Int32 → Int32 → St → Option (Int32 × St)) (k89 : Int32 → Int32 → Int32 → Int32 → Int32 → Int32 → Int32 → St → Option (Int32 × St)) (x2 : Int32) (x3 : Int32) (x4 : Int32) (x5 : Int32) (x6 : Int32) (x7 : Int32) (x8 : Int32) (y1 : Int32) (y2 : Int32) (S : St) : Option (Int32 × St) := (ix y1 368 (f_X7_later_208 k53 k89 x2 x3 x4 x5 x6 x7 x8 (st 0 (upd (S 0) (Int32.toNatClampNeg y1) y2) S)))
noncomputable def f_X7_later_166 (k53 : Int32 → Int32 → Int32 → Int32 → Int32 → Int32 → St → Option (Int32 × St)) (k89 : Int32 → Int32 → Int32 → Int32 → Int32 → Int32 → Int32 → St → Option (Int32 × St)) (x2 : Int32) (x3 : Int32) (x4 : Int32) (x5 : Int32) (x6 : Int32) (x7 : Int32) (x8 : Int32) (y0 : Int32) (S : St) : Option (Int32 × St) := (if y0 = 0 then (ix (((276 : Int32) + ((4 : Int32) * x8)) + (3 : Int32)) 368 (f_X7_later_207 k53 k89 x2 x3 x4 x5 x6 x7 x8 (((276 : Int32) + ((4 : Int32) * x8)) + (3 : Int32)) (S 0 (Int32.toNatClampNeg (((276 : Int32) + ((4 : Int32) * x8)) + (3 : Int32)))) S)) else (f_X7_later_207 k53 k89 x2 x3 x4 x5 x6 x7 x8 (((276 : Int32) + ((4 : Int32) * x8)) + (3 : Int32)) x6 S))
noncomputable def f_X7_later_214 (k53 : Int32 → Int32 → Int32 → Int32 → Int32 → Int32 → St → Option (Int32 × St)) (x2 : Int32) (x3 : Int32) (x4 : Int32) (x5 : Int32) (x6 : Int32) (x7 : Int32) (S : St) : Option (Int32 × St) := (k53 x2 x3 x4 x5 x6 (x7 + (1 : Int32)) S)
noncomputable def f_X7_later_89 (k53 : Int32 → Int32 → Int32 → Int32 → Int32 → Int32 → St → Option (Int32 × St)) (n : Nat) : Int32 → Int32 → Int32 → Int32 → Int32 → Int32 → Int32 → St → Option (Int32 × St) := Nat.rec (motive := fun _ => Int32 → Int32 → Int32 → Int32 → Int32 → Int32 → Int32 → St → Option (Int32 × St)) (fun _ _ _ _ _ _ _ _ => none) (fun _ ih => fun x2 x3 x4 x5 x6 x7 x8 S => ((f_X7_people S).bind (fun q1 => (if q1 ≤ x8 then (f_X7_later_214 k53 x2 x3 x4 x5 x6 x7 S) else ((f_X7_isAlive (276 : Int32) x8 x6 S).bind (fun q2 => (if q2 = 0 then (f_X7_later_208 k53 ih x2 x3 x4 x5 x6 x7 x8 S) else (ix (((276 : Int32) + ((4 : Int32) * x8)) + (1 : Int32)) 368 (if ((x6 - (S 0 (Int32.toNatClampNeg (((276 : Int32) + ((4 : Int32) * x8)) + (1 : Int32))))) / (360 : Int32)) ≤ (zrem ((((x5 * (1103515245 : Int32)) + (12345 : Int32)) >>> ((16 : Int32) &&& 31)) &&& (32767 : Int32)) (100 : Int32)) then (f_X7_later_166 k53 ih x2 x3 x4 ((x5 * (1103515245 : Int32)) + (12345 : Int32)) x6 x7 x8 (0 : Int32) S) else (f_X7_later_166 k53 ih x2 x3 x4 ((x5 * (1103515245 : Int32)) + (12345 : Int32)) x6 x7 x8 (1 : Int32) S)))))))))) n
theorem f_X7_later_89_s (k53 : Int32 → Int32 → Int32 → Int32 → Int32 → Int32 → St → Option (Int32 × St)) (n : Nat) (x2 : Int32) (x3 : Int32) (x4 : Int32) (x5 : Int32) (x6 : Int32) (x7 : Int32) (x8 : Int32) (S : St) : f_X7_later_89 k53 (n + 1) x2 x3 x4 x5 x6 x7 x8 S = ((f_X7_people S).bind (fun q1 => (if q1 ≤ x8 then (f_X7_later_214 k53 x2 x3 x4 x5 x6 x7 S) else ((f_X7_isAlive (276 : Int32) x8 x6 S).bind (fun q2 => (if q2 = 0 then (f_X7_later_208 k53 (f_X7_later_89 k53 n) x2 x3 x4 x5 x6 x7 x8 S) else (ix (((276 : Int32) + ((4 : Int32) * x8)) + (1 : Int32)) 368 (if ((x6 - (S 0 (Int32.toNatClampNeg (((276 : Int32) + ((4 : Int32) * x8)) + (1 : Int32))))) / (360 : Int32)) ≤ (zrem ((((x5 * (1103515245 : Int32)) + (12345 : Int32)) >>> ((16 : Int32) &&& 31)) &&& (32767 : Int32)) (100 : Int32)) then (f_X7_later_166 k53 (f_X7_later_89 k53 n) x2 x3 x4 ((x5 * (1103515245 : Int32)) + (12345 : Int32)) x6 x7 x8 (0 : Int32) S) else (f_X7_later_166 k53 (f_X7_later_89 k53 n) x2 x3 x4 ((x5 * (1103515245 : Int32)) + (12345 : Int32)) x6 x7 x8 (1 : Int32) S))))))))) := rfl
noncomputable def f_X7_later_256 (k226 : Int32 → Int32 → Int32 → Int32 → St → Option (Int32 × St)) (x4 : Int32) (x6 : Int32) (x8 : Int32) (y0 : Int32) (y1 : Int32) (S : St) : Option (Int32 × St) := (k226 x4 x6 (y0 + y1) (x8 + (1 : Int32)) S)
noncomputable def f_X7_later_265 (x4 : Int32) (x6 : Int32) (x7 : Int32) (S : St) : Option (Int32 × St) := (if x4 = 0 then (some (x7, S)) else (ix (91 : Int32) 368 ((f_X7_sumOf (276 : Int32) x6 (S 0 (Int32.toNatClampNeg (91 : Int32))) S).bind (fun q3 => (some (q3.1, q3.2))))))
noncomputable def f_X7_later_226 (n : Nat) : Int32 → Int32 → Int32 → Int32 → St → Option (Int32 × St) := Nat.rec (motive := fun _ => Int32 → Int32 → Int32 → Int32 → St → Option (Int32 × St)) (fun _ _ _ _ _ => none) (fun _ ih => fun x4 x6 x7 x8 S => ((f_X7_people S).bind (fun q4 => (if q4 ≤ x8 then (f_X7_later_265 x4 x6 x7 S) else ((f_X7_isAlive (276 : Int32) x8 x6 S).bind (fun q5 => (if q5 = 0 then (f_X7_later_256 ih x4 x6 x8 x7 (0 : Int32) S) else (f_X7_later_256 ih x4 x6 x8 x7 (1 : Int32) S)))))))) n
theorem f_X7_later_226_s (n : Nat) (x4 : Int32) (x6 : Int32) (x7 : Int32) (x8 : Int32) (S : St) : f_X7_later_226 (n + 1) x4 x6 x7 x8 S = ((f_X7_people S).bind (fun q4 => (if q4 ≤ x8 then (f_X7_later_265 x4 x6 x7 S) else ((f_X7_isAlive (276 : Int32) x8 x6 S).bind (fun q5 => (if q5 = 0 then (f_X7_later_256 (f_X7_later_226 n) x4 x6 x8 x7 (0 : Int32) S) else (f_X7_later_256 (f_X7_later_226 n) x4 x6 x8 x7 (1 : Int32) S))))))) := rfl
noncomputable def f_X7_later_220 (x4 : Int32) (x6 : Int32) (S : St) : Option (Int32 × St) := (f_X7_later_226 1000 x4 x6 (0 : Int32) (0 : Int32) S)
noncomputable def f_X7_later_53 (n : Nat) : Int32 → Int32 → Int32 → Int32 → Int32 → Int32 → St → Option (Int32 × St) := Nat.rec (motive := fun _ => Int32 → Int32 → Int32 → Int32 → Int32 → Int32 → St → Option (Int32 × St)) (fun _ _ _ _ _ _ _ => none) (fun _ ih => fun x2 x3 x4 x5 x6 x7 S => (if ((x2 / (360 : Int32)) + x3) ≤ x7 then (f_X7_later_220 x4 x6 S) else (if (100 : Int32) ≤ x7 then (f_X7_later_220 x4 x6 S) else (f_X7_later_89 ih 1000 x2 x3 x4 x5 ((((360 : Int32) * x7) + (360 : Int32)) - (1 : Int32)) x7 (0 : Int32) S)))) n
theorem f_X7_later_53_s (n : Nat) (x2 : Int32) (x3 : Int32) (x4 : Int32) (x5 : Int32) (x6 : Int32) (x7 : Int32) (S : St) : f_X7_later_53 (n + 1) x2 x3 x4 x5 x6 x7 S = (if ((x2 / (360 : Int32)) + x3) ≤ x7 then (f_X7_later_220 x4 x6 S) else (if (100 : Int32) ≤ x7 then (f_X7_later_220 x4 x6 S) else (f_X7_later_89 (f_X7_later_53 n) 1000 x2 x3 x4 x5 ((((360 : Int32) * x7) + (360 : Int32)) - (1 : Int32)) x7 (0 : Int32) S))) := rfl
noncomputable def f_X7_later (x1 : Int32) (x2 : Int32) (x3 : Int32) (x4 : Int32) (S : St) : Option (Int32 × St) := ((f_X7_isDay x2).bind (fun q6 => (if q6 = 0 then (some ((-1 : Int32), S)) else ((f_X7_in (Int32.toInt64 x3) (1 : Int64) (40 : Int64)).bind (fun q7 => (if q7 = 0 then (some ((-1 : Int32), S)) else ((f_X7_in (Int32.toInt64 x4) (0 : Int64) (1 : Int64)).bind (fun q8 => (if q8 = 0 then (some ((-1 : Int32), S)) else ((f_X7_copies (0 : Int32) (276 : Int32) S).bind (fun q9 => (f_X7_later_53 1000 x2 x3 x4 x1 x2 (x2 / (360 : Int32)) q9))))))))))))
set_option maxHeartbeats 4000000 in
set_option maxRecDepth 100000 in
theorem L_X7_later_208 {E : zEnv} {Γ : zG} (a : Nat → Nat) (C : zC E Γ cX7_later RX7 10 rm_X7_later wsX7_later) {res : (Int32 × St)} (R : zRi E Γ cX7_later 10 .int (wModel E a res.2) res.1) (k53 : Int32 → Int32 → Int32 → Int32 → Int32 → Int32 → St → Option (Int32 × St)) (hk53 : ∀ (x2 : Int32) (x3 : Int32) (x4 : Int32) (x5 : Int32) (x6 : Int32) (x7 : Int32) (S : St), k53 x2 x3 x4 x5 x6 x7 S = some res → Zt E Γ 10 0 0 (wModel E a S) [(0, .ref (a 0)), (2, .int x2), (3, .int x3), (4, .int x4), (5, .int x5), (6, .int x6), (7, .int x7)] 53 []) (k89 : Int32 → Int32 → Int32 → Int32 → Int32 → Int32 → Int32 → St → Option (Int32 × St)) (hk89 : ∀ (x2 : Int32) (x3 : Int32) (x4 : Int32) (x5 : Int32) (x6 : Int32) (x7 : Int32) (x8 : Int32) (S : St), k89 x2 x3 x4 x5 x6 x7 x8 S = some res → Zt E Γ 10 0 0 (wModel E a S) [(0, .ref (a 0)), (2, .int x2), (3, .int x3), (4, .int x4), (5, .int x5), (6, .int x6), (7, .int x7), (8, .int x8)] 89 []) (x2 : Int32) (x3 : Int32) (x4 : Int32) (x5 : Int32) (x6 : Int32) (x7 : Int32) (x8 : Int32) (S : St) (h : f_X7_later_208 k53 k89 x2 x3 x4 x5 x6 x7 x8 S = some res) : Zt E Γ 10 0 0 (wModel E a S) [(0, .ref (a 0)), (2, .int x2), (3, .int x3), (4, .int x4), (5, .int x5), (6, .int x6), (7, .int x7), (8, .int x8)] 208 [] := by
  unfold f_X7_later_208 at h
  refine z_iinc C [(8, .int (x8 + (1 : Int32))), (0, .ref (a 0)), (2, .int x2), (3, .int x3), (4, .int x4), (5, .int x5), (6, .int x6), (7, .int x7)] 7 rfl (by first | rfl | decide) (by decide) rfl dX7_later_208 ?_
  refine z_goto C 89 (by decide) dX7_later_211 ?_
  refine Zt_l [(0, .ref (a 0)), (2, .int x2), (3, .int x3), (4, .int x4), (5, .int x5), (6, .int x6), (7, .int x7), (8, .int (x8 + (1 : Int32)))] [1, 2, 3, 4, 5, 6, 7, 0] rfl ?_
  exact hk89 x2 x3 x4 x5 x6 x7 (x8 + (1 : Int32)) S h

set_option maxHeartbeats 4000000 in
set_option maxRecDepth 100000 in
theorem L_X7_later_207 {E : zEnv} {Γ : zG} (a : Nat → Nat) (C : zC E Γ cX7_later RX7 10 rm_X7_later wsX7_later) {res : (Int32 × St)} (R : zRi E Γ cX7_later 10 .int (wModel E a res.2) res.1) (k53 : Int32 → Int32 → Int32 → Int32 → Int32 → Int32 → St → Option (Int32 × St)) (hk53 : ∀ (x2 : Int32) (x3 : Int32) (x4 : Int32) (x5 : Int32) (x6 : Int32) (x7 : Int32) (S : St), k53 x2 x3 x4 x5 x6 x7 S = some res → Zt E Γ 10 0 0 (wModel E a S) [(0, .ref (a 0)), (2, .int x2), (3, .int x3), (4, .int x4), (5, .int x5), (6, .int x6), (7, .int x7)] 53 []) (k89 : Int32 → Int32 → Int32 → Int32 → Int32 → Int32 → Int32 → St → Option (Int32 × St)) (hk89 : ∀ (x2 : Int32) (x3 : Int32) (x4 : Int32) (x5 : Int32) (x6 : Int32) (x7 : Int32) (x8 : Int32) (S : St), k89 x2 x3 x4 x5 x6 x7 x8 S = some res → Zt E Γ 10 0 0 (wModel E a S) [(0, .ref (a 0)), (2, .int x2), (3, .int x3), (4, .int x4), (5, .int x5), (6, .int x6), (7, .int x7), (8, .int x8)] 89 []) (x2 : Int32) (x3 : Int32) (x4 : Int32) (x5 : Int32) (x6 : Int32) (x7 : Int32) (x8 : Int32) (y1 : Int32) (y2 : Int32) (S : St) (h : f_X7_later_207 k53 k89 x2 x3 x4 x5 x6 x7 x8 y1 y2 S = some res) : Zt E Γ 10 0 0 (wModel E a S) [(0, .ref (a 0)), (2, .int x2), (3, .int x3), (4, .int x4), (5, .int x5), (6, .int x6), (7, .int x7), (8, .int x8)] 207 [.int y2, .int y1, .ref (a 1)] := by
  unfold f_X7_later_207 at h
  refine z_iast C (N := 368) (f := (S 0)) 1 rfl h (wModel E a (st 0 (upd (S 0) (Int32.toNatClampNeg y1) y2) S)) (wl_X7_later_0 E a S (upd (S 0) (Int32.toNatClampNeg y1) y2)) dX7_later_207 (fun h => ?_)
  exact L_X7_later_208 a C R k53 hk53 k89 hk89 x2 x3 x4 x5 x6 x7 x8 (st 0 (upd (S 0) (Int32.toNatClampNeg y1) y2) S) h

set_option maxHeartbeats 4000000 in
set_option maxRecDepth 100000 in
theorem L_X7_later_166 {E : zEnv} {Γ : zG} (a : Nat → Nat) (C : zC E Γ cX7_later RX7 10 rm_X7_later wsX7_later) {res : (Int32 × St)} (R : zRi E Γ cX7_later 10 .int (wModel E a res.2) res.1) (k53 : Int32 → Int32 → Int32 → Int32 → Int32 → Int32 → St → Option (Int32 × St)) (hk53 : ∀ (x2 : Int32) (x3 : Int32) (x4 : Int32) (x5 : Int32) (x6 : Int32) (x7 : Int32) (S : St), k53 x2 x3 x4 x5 x6 x7 S = some res → Zt E Γ 10 0 0 (wModel E a S) [(0, .ref (a 0)), (2, .int x2), (3, .int x3), (4, .int x4), (5, .int x5), (6, .int x6), (7, .int x7)] 53 []) (k89 : Int32 → Int32 → Int32 → Int32 → Int32 → Int32 → Int32 → St → Option (Int32 × St)) (hk89 : ∀ (x2 : Int32) (x3 : Int32) (x4 : Int32) (x5 : Int32) (x6 : Int32) (x7 : Int32) (x8 : Int32) (S : St), k89 x2 x3 x4 x5 x6 x7 x8 S = some res → Zt E Γ 10 0 0 (wModel E a S) [(0, .ref (a 0)), (2, .int x2), (3, .int x3), (4, .int x4), (5, .int x5), (6, .int x6), (7, .int x7), (8, .int x8)] 89 []) (x2 : Int32) (x3 : Int32) (x4 : Int32) (x5 : Int32) (x6 : Int32) (x7 : Int32) (x8 : Int32) (y0 : Int32) (S : St) (h : f_X7_later_166 k53 k89 x2 x3 x4 x5 x6 x7 x8 y0 S = some res) : Zt E Γ 10 0 0 (wModel E a S) [(0, .ref (a 0)), (2, .int x2), (3, .int x3), (4, .int x4), (5, .int x5), (6, .int x6), (7, .int x7), (8, .int x8)] 166 [.int y0] := by
  unfold f_X7_later_166 at h
  refine z_istore C [(9, .int y0), (0, .ref (a 0)), (2, .int x2), (3, .int x3), (4, .int x4), (5, .int x5), (6, .int x6), (7, .int x7), (8, .int x8)] (by decide) rfl dX7_later_166 ?_
  refine z_aload_n C 1 rfl rfl dX7_later_168 ?_
  refine z_get C 0 rfl (C := RX7) (T := TX7) (N := 38) (ci := 7) rfl inw_X7_later_X7 0 (by decide) (ref := "EldestAgeModel") (List.mem_of_getElem? (i := 3) rfl) rfl (v := .ref (a 1)) rfl dX7_later_169 ?_
  refine z_sipush C (v := (276 : Int32)) (by decide) dX7_later_172 ?_
  refine z_iconst C (v := (4 : Int32)) (by decide) dX7_later_175 ?_
  refine z_iload C 8 rfl dX7_later_176 ?_
  refine z_imul C dX7_later_178 ?_
  refine z_iadd C dX7_later_179 ?_
  refine z_iconst C (v := (3 : Int32)) (by decide) dX7_later_180 ?_
  refine z_iadd C dX7_later_181 ?_
  refine z_iload C 0 rfl dX7_later_182 ?_
  refine z_if_eq C 192 (by decide) h dX7_later_184 (fun hc h => ?_) (fun hc h => ?_)
  · refine z_aload_n C 1 rfl rfl dX7_later_192 ?_
    refine z_get C 0 rfl (C := RX7) (T := TX7) (N := 38) (ci := 7) rfl inw_X7_later_X7 0 (by decide) (ref := "EldestAgeModel") (List.mem_of_getElem? (i := 3) rfl) rfl (v := .ref (a 1)) rfl dX7_later_193 ?_
    refine z_sipush C (v := (276 : Int32)) (by decide) dX7_later_196 ?_
    refine z_iconst C (v := (4 : Int32)) (by decide) dX7_later_199 ?_
    refine z_iload C 8 rfl dX7_later_200 ?_
    refine z_imul C dX7_later_202 ?_
    refine z_iadd C dX7_later_203 ?_
    refine z_iconst C (v := (3 : Int32)) (by decide) dX7_later_204 ?_
    refine z_iadd C dX7_later_205 ?_
    refine z_iald C (N := 368) (f := (S 0)) 1 rfl h dX7_later_206 (fun h => ?_)
    refine Zt_l [(0, .ref (a 0)), (2, .int x2), (3, .int x3), (4, .int x4), (5, .int x5), (6, .int x6), (7, .int x7), (8, .int x8)] [1, 2, 3, 4, 5, 6, 7, 8] rfl ?_
    exact L_X7_later_207 a C R k53 hk53 k89 hk89 x2 x3 x4 x5 x6 x7 x8 (((276 : Int32) + ((4 : Int32) * x8)) + (3 : Int32)) (S 0 (Int32.toNatClampNeg (((276 : Int32) + ((4 : Int32) * x8)) + (3 : Int32)))) S h
  · refine z_iload C 6 rfl dX7_later_187 ?_
    refine z_goto C 207 (by decide) dX7_later_189 ?_
    refine Zt_l [(0, .ref (a 0)), (2, .int x2), (3, .int x3), (4, .int x4), (5, .int x5), (6, .int x6), (7, .int x7), (8, .int x8)] [1, 2, 3, 4, 5, 6, 7, 8] rfl ?_
    exact L_X7_later_207 a C R k53 hk53 k89 hk89 x2 x3 x4 x5 x6 x7 x8 (((276 : Int32) + ((4 : Int32) * x8)) + (3 : Int32)) x6 S h

set_option maxHeartbeats 4000000 in
set_option maxRecDepth 100000 in
theorem L_X7_later_214 {E : zEnv} {Γ : zG} (a : Nat → Nat) (C : zC E Γ cX7_later RX7 10 rm_X7_later wsX7_later) {res : (Int32 × St)} (R : zRi E Γ cX7_later 10 .int (wModel E a res.2) res.1) (k53 : Int32 → Int32 → Int32 → Int32 → Int32 → Int32 → St → Option (Int32 × St)) (hk53 : ∀ (x2 : Int32) (x3 : Int32) (x4 : Int32) (x5 : Int32) (x6 : Int32) (x7 : Int32) (S : St), k53 x2 x3 x4 x5 x6 x7 S = some res → Zt E Γ 10 0 0 (wModel E a S) [(0, .ref (a 0)), (2, .int x2), (3, .int x3), (4, .int x4), (5, .int x5), (6, .int x6), (7, .int x7)] 53 []) (x2 : Int32) (x3 : Int32) (x4 : Int32) (x5 : Int32) (x6 : Int32) (x7 : Int32) (S : St) (h : f_X7_later_214 k53 x2 x3 x4 x5 x6 x7 S = some res) : Zt E Γ 10 0 0 (wModel E a S) [(0, .ref (a 0)), (2, .int x2), (3, .int x3), (4, .int x4), (5, .int x5), (6, .int x6), (7, .int x7)] 214 [] := by
  unfold f_X7_later_214 at h
  refine z_iinc C [(7, .int (x7 + (1 : Int32))), (0, .ref (a 0)), (2, .int x2), (3, .int x3), (4, .int x4), (5, .int x5), (6, .int x6)] 6 rfl (by first | rfl | decide) (by decide) rfl dX7_later_214 ?_
  refine z_goto C 53 (by decide) dX7_later_217 ?_
  refine Zt_l [(0, .ref (a 0)), (2, .int x2), (3, .int x3), (4, .int x4), (5, .int x5), (6, .int x6), (7, .int (x7 + (1 : Int32)))] [1, 2, 3, 4, 5, 6, 0] rfl ?_
  exact hk53 x2 x3 x4 x5 x6 (x7 + (1 : Int32)) S h

set_option maxHeartbeats 4000000 in
set_option maxRecDepth 100000 in
theorem L_X7_later_89 {E : zEnv} {Γ : zG} (a : Nat → Nat) (C : zC E Γ cX7_later RX7 10 rm_X7_later wsX7_later) {res : (Int32 × St)} (R : zRi E Γ cX7_later 10 .int (wModel E a res.2) res.1) (k53 : Int32 → Int32 → Int32 → Int32 → Int32 → Int32 → St → Option (Int32 × St)) (hk53 : ∀ (x2 : Int32) (x3 : Int32) (x4 : Int32) (x5 : Int32) (x6 : Int32) (x7 : Int32) (S : St), k53 x2 x3 x4 x5 x6 x7 S = some res → Zt E Γ 10 0 0 (wModel E a S) [(0, .ref (a 0)), (2, .int x2), (3, .int x3), (4, .int x4), (5, .int x5), (6, .int x6), (7, .int x7)] 53 []) : ∀ (n : Nat) (x2 : Int32) (x3 : Int32) (x4 : Int32) (x5 : Int32) (x6 : Int32) (x7 : Int32) (x8 : Int32) (S : St), f_X7_later_89 k53 n x2 x3 x4 x5 x6 x7 x8 S = some res → Zt E Γ 10 0 0 (wModel E a S) [(0, .ref (a 0)), (2, .int x2), (3, .int x3), (4, .int x4), (5, .int x5), (6, .int x6), (7, .int x7), (8, .int x8)] 89 [] := by
  intro n
  induction n with
  | zero =>
    intro x2 x3 x4 x5 x6 x7 x8 S h
    cases h
  | succ n ih =>
    intro x2 x3 x4 x5 x6 x7 x8 S h
    rw [f_X7_later_89_s] at h
    refine z_iload C 7 rfl dX7_later_89 ?_
    refine z_aload_n C 0 rfl rfl dX7_later_91 ?_
    obtain ⟨q1, e1, h⟩ := bd_e h
    refine z_callVi C (b := a 0) (As := []) (rest := [.int x8]) (c_X7_people E a S e1) rfl gX7_later_X7_people rfl rfl rfl 0 rfl (by decide +kernel) ⟨Nat.le_of_ble_eq_true rfl, Nat.le_of_ble_eq_true rfl⟩ [0, 1, 2, 3, 4, 5, 6, 7, 8, 9, 10, 11, 12, 13, 14, 15, 16] (wl_X7_later_1 E a S) (by decide) rfl (wModel E a S) (zrep_self (wl_X7_later_1 E a S)) 0 7 rfl rfl rfl (Nat.le_of_ble_eq_true rfl) dX7_later_92 ⟨Nat.zero_le _, Nat.zero_le _⟩ _ rfl ?_
    refine z_icmp_ge C 214 (by decide) h dX7_later_95 (fun hc h => ?_) (fun hc h => ?_)
    · refine Zt_l [(0, .ref (a 0)), (2, .int x2), (3, .int x3), (4, .int x4), (5, .int x5), (6, .int x6), (7, .int x7)] [0, 1, 2, 3, 4, 5, 6] rfl ?_
      exact L_X7_later_214 a C R k53 hk53 x2 x3 x4 x5 x6 x7 S h
    · refine z_aload_n C 0 rfl rfl dX7_later_98 ?_
      refine z_sipush C (v := (276 : Int32)) (by decide) dX7_later_99 ?_
      refine z_iload C 7 rfl dX7_later_102 ?_
      refine z_iload C 5 rfl dX7_later_104 ?_
      obtain ⟨q2, e2, h⟩ := bd_e h
      refine z_callVi C (b := a 0) (As := [.int (276 : Int32), .int x8, .int x6]) (rest := []) (c_X7_isAlive E a (276 : Int32) x8 x6 S e2) rfl gX7_later_X7_isAlive rfl rfl rfl 3 rfl (by decide +kernel) ⟨Nat.le_of_ble_eq_true rfl, Nat.le_of_ble_eq_true rfl⟩ [0, 1, 2, 3, 4, 5, 6, 7, 8, 9, 10, 11, 12, 13, 14, 15, 16] (wl_X7_later_1 E a S) (by decide) rfl (wModel E a S) (zrep_self (wl_X7_later_1 E a S)) 0 7 rfl rfl rfl (Nat.le_of_ble_eq_true rfl) dX7_later_106 ⟨Nat.zero_le _, Nat.zero_le _⟩ _ rfl ?_
      refine z_if_eq C 208 (by decide) h dX7_later_109 (fun hc h => ?_) (fun hc h => ?_)
      · exact L_X7_later_208 a C R k53 hk53 _ ih x2 x3 x4 x5 x6 x7 x8 S h
      · refine z_iload C 4 rfl dX7_later_112 ?_
        refine z_ldc_w C (v := (1103515245 : Int32)) (List.mem_of_getElem? (i := 2) rfl) dX7_later_114 ?_
        refine z_imul C dX7_later_117 ?_
        refine z_sipush C (v := (12345 : Int32)) (by decide) dX7_later_118 ?_
        refine z_iadd C dX7_later_121 ?_
        refine z_istore C [(5, .int ((x5 * (1103515245 : Int32)) + (12345 : Int32))), (0, .ref (a 0)), (2, .int x2), (3, .int x3), (4, .int x4), (6, .int x6), (7, .int x7), (8, .int x8)] (by decide) rfl dX7_later_122 ?_
        refine z_iload C 0 rfl dX7_later_124 ?_
        refine z_bipush C (v := (16 : Int32)) (by decide) dX7_later_126 ?_
        refine z_ishr C dX7_later_128 ?_
        refine z_sipush C (v := (32767 : Int32)) (by decide) dX7_later_129 ?_
        refine z_iand C dX7_later_132 ?_
        refine z_bipush C (v := (100 : Int32)) (by decide) dX7_later_133 ?_
        refine z_irem C (by decide) dX7_later_135 ?_
        refine z_iload C 5 rfl dX7_later_136 ?_
        refine z_aload_n C 1 rfl rfl dX7_later_138 ?_
        refine z_get C 0 rfl (C := RX7) (T := TX7) (N := 38) (ci := 7) rfl inw_X7_later_X7 0 (by decide) (ref := "EldestAgeModel") (List.mem_of_getElem? (i := 3) rfl) rfl (v := .ref (a 1)) rfl dX7_later_139 ?_
        refine z_sipush C (v := (276 : Int32)) (by decide) dX7_later_142 ?_
        refine z_iconst C (v := (4 : Int32)) (by decide) dX7_later_145 ?_
        refine z_iload C 7 rfl dX7_later_146 ?_
        refine z_imul C dX7_later_148 ?_
        refine z_iadd C dX7_later_149 ?_
        refine z_iconst C (v := (1 : Int32)) (by decide) dX7_later_150 ?_
        refine z_iadd C dX7_later_151 ?_
        refine z_iald C (N := 368) (f := (S 0)) 1 rfl h dX7_later_152 (fun h => ?_)
        refine z_isub C dX7_later_153 ?_
        refine z_sipush C (v := (360 : Int32)) (by decide) dX7_later_154 ?_
        refine z_idiv C (by decide) dX7_later_157 ?_
        refine z_icmp_ge C 165 (by decide) h dX7_later_158 (fun hc h => ?_) (fun hc h => ?_)
        · refine z_iconst C (v := (0 : Int32)) (by decide) dX7_later_165 ?_
          refine Zt_l [(0, .ref (a 0)), (2, .int x2), (3, .int x3), (4, .int x4), (5, .int ((x5 * (1103515245 : Int32)) + (12345 : Int32))), (6, .int x6), (7, .int x7), (8, .int x8)] [1, 2, 3, 4, 0, 5, 6, 7] rfl ?_
          exact L_X7_later_166 a C R k53 hk53 _ ih x2 x3 x4 ((x5 * (1103515245 : Int32)) + (12345 : Int32)) x6 x7 x8 (0 : Int32) S h
        · refine z_iconst C (v := (1 : Int32)) (by decide) dX7_later_161 ?_
          refine z_goto C 166 (by decide) dX7_later_162 ?_
          refine Zt_l [(0, .ref (a 0)), (2, .int x2), (3, .int x3), (4, .int x4), (5, .int ((x5 * (1103515245 : Int32)) + (12345 : Int32))), (6, .int x6), (7, .int x7), (8, .int x8)] [1, 2, 3, 4, 0, 5, 6, 7] rfl ?_
          exact L_X7_later_166 a C R k53 hk53 _ ih x2 x3 x4 ((x5 * (1103515245 : Int32)) + (12345 : Int32)) x6 x7 x8 (1 : Int32) S h

set_option maxHeartbeats 4000000 in
set_option maxRecDepth 100000 in
theorem L_X7_later_256 {E : zEnv} {Γ : zG} (a : Nat → Nat) (C : zC E Γ cX7_later RX7 10 rm_X7_later wsX7_later) {res : (Int32 × St)} (R : zRi E Γ cX7_later 10 .int (wModel E a res.2) res.1) (k226 : Int32 → Int32 → Int32 → Int32 → St → Option (Int32 × St)) (hk226 : ∀ (x4 : Int32) (x6 : Int32) (x7 : Int32) (x8 : Int32) (S : St), k226 x4 x6 x7 x8 S = some res → Zt E Γ 10 0 0 (wModel E a S) [(0, .ref (a 0)), (4, .int x4), (6, .int x6), (7, .int x7), (8, .int x8)] 226 []) (x4 : Int32) (x6 : Int32) (x8 : Int32) (y0 : Int32) (y1 : Int32) (S : St) (h : f_X7_later_256 k226 x4 x6 x8 y0 y1 S = some res) : Zt E Γ 10 0 0 (wModel E a S) [(0, .ref (a 0)), (4, .int x4), (6, .int x6), (8, .int x8)] 256 [.int y1, .int y0] := by
  unfold f_X7_later_256 at h
  refine z_iadd C dX7_later_256 ?_
  refine z_istore C [(7, .int (y0 + y1)), (0, .ref (a 0)), (4, .int x4), (6, .int x6), (8, .int x8)] (by decide) rfl dX7_later_257 ?_
  refine z_iinc C [(8, .int (x8 + (1 : Int32))), (7, .int (y0 + y1)), (0, .ref (a 0)), (4, .int x4), (6, .int x6)] 4 rfl (by first | rfl | decide) (by decide) rfl dX7_later_259 ?_
  refine z_goto C 226 (by decide) dX7_later_262 ?_
  refine Zt_l [(0, .ref (a 0)), (4, .int x4), (6, .int x6), (7, .int (y0 + y1)), (8, .int (x8 + (1 : Int32)))] [2, 3, 4, 1, 0] rfl ?_
  exact hk226 x4 x6 (y0 + y1) (x8 + (1 : Int32)) S h

set_option maxHeartbeats 4000000 in
set_option maxRecDepth 100000 in
theorem L_X7_later_265 {E : zEnv} {Γ : zG} (a : Nat → Nat) (C : zC E Γ cX7_later RX7 10 rm_X7_later wsX7_later) {res : (Int32 × St)} (R : zRi E Γ cX7_later 10 .int (wModel E a res.2) res.1) (x4 : Int32) (x6 : Int32) (x7 : Int32) (S : St) (h : f_X7_later_265 x4 x6 x7 S = some res) : Zt E Γ 10 0 0 (wModel E a S) [(0, .ref (a 0)), (4, .int x4), (6, .int x6), (7, .int x7)] 265 [] := by
  unfold f_X7_later_265 at h
  refine z_iload C 1 rfl dX7_later_265 ?_
  refine z_if_ne C 275 (by decide) h dX7_later_267 (fun hc h => ?_) (fun hc h => ?_)
  · refine z_iload C 3 rfl dX7_later_270 ?_
    refine z_goto C 291 (by decide) dX7_later_272 ?_
    obtain rfl := Option.some.inj h
    exact R rfl 291 _ dX7_later_291
  · refine z_aload_n C 0 rfl rfl dX7_later_275 ?_
    refine z_sipush C (v := (276 : Int32)) (by decide) dX7_later_276 ?_
    refine z_iload C 2 rfl dX7_later_279 ?_
    refine z_aload_n C 0 rfl rfl dX7_later_281 ?_
    refine z_get C 0 rfl (C := RX7) (T := TX7) (N := 38) (ci := 7) rfl inw_X7_later_X7 0 (by decide) (ref := "EldestAgeModel") (List.mem_of_getElem? (i := 3) rfl) rfl (v := .ref (a 1)) rfl dX7_later_282 ?_
    refine z_bipush C (v := (91 : Int32)) (by decide) dX7_later_285 ?_
    refine z_iald C (N := 368) (f := (S 0)) 1 rfl h dX7_later_287 (fun h => ?_)
    obtain ⟨q3, e3, h⟩ := bd_e h
    refine z_callVi C (b := a 0) (As := [.int (276 : Int32), .int x6, .int (S 0 (Int32.toNatClampNeg (91 : Int32)))]) (rest := []) (c_X7_sumOf E a (276 : Int32) x6 (S 0 (Int32.toNatClampNeg (91 : Int32))) S e3) rfl gX7_later_X7_sumOf rfl rfl rfl 3 rfl (by decide +kernel) ⟨Nat.le_of_ble_eq_true rfl, Nat.le_of_ble_eq_true rfl⟩ [0, 1, 2, 3, 4, 5, 6, 7, 8, 9, 10, 11, 12, 13, 14, 15, 16] (wl_X7_later_1 E a S) (by decide) (wl_X7_later_2 E a _ _) (wModel E a q3.2) (wl_X7_later_3 E a S q3.2) 0 7 rfl rfl rfl (Nat.le_of_ble_eq_true rfl) dX7_later_288 ⟨Nat.zero_le _, Nat.zero_le _⟩ _ rfl ?_
    obtain rfl := Option.some.inj h
    exact R rfl 291 _ dX7_later_291

set_option maxHeartbeats 4000000 in
set_option maxRecDepth 100000 in
theorem L_X7_later_226 {E : zEnv} {Γ : zG} (a : Nat → Nat) (C : zC E Γ cX7_later RX7 10 rm_X7_later wsX7_later) {res : (Int32 × St)} (R : zRi E Γ cX7_later 10 .int (wModel E a res.2) res.1) : ∀ (n : Nat) (x4 : Int32) (x6 : Int32) (x7 : Int32) (x8 : Int32) (S : St), f_X7_later_226 n x4 x6 x7 x8 S = some res → Zt E Γ 10 0 0 (wModel E a S) [(0, .ref (a 0)), (4, .int x4), (6, .int x6), (7, .int x7), (8, .int x8)] 226 [] := by
  intro n
  induction n with
  | zero =>
    intro x4 x6 x7 x8 S h
    cases h
  | succ n ih =>
    intro x4 x6 x7 x8 S h
    rw [f_X7_later_226_s] at h
    refine z_iload C 4 rfl dX7_later_226 ?_
    refine z_aload_n C 0 rfl rfl dX7_later_228 ?_
    obtain ⟨q4, e4, h⟩ := bd_e h
    refine z_callVi C (b := a 0) (As := []) (rest := [.int x8]) (c_X7_people E a S e4) rfl gX7_later_X7_people rfl rfl rfl 0 rfl (by decide +kernel) ⟨Nat.le_of_ble_eq_true rfl, Nat.le_of_ble_eq_true rfl⟩ [0, 1, 2, 3, 4, 5, 6, 7, 8, 9, 10, 11, 12, 13, 14, 15, 16] (wl_X7_later_1 E a S) (by decide) rfl (wModel E a S) (zrep_self (wl_X7_later_1 E a S)) 0 7 rfl rfl rfl (Nat.le_of_ble_eq_true rfl) dX7_later_229 ⟨Nat.zero_le _, Nat.zero_le _⟩ _ rfl ?_
    refine z_icmp_ge C 265 (by decide) h dX7_later_232 (fun hc h => ?_) (fun hc h => ?_)
    · refine Zt_l [(0, .ref (a 0)), (4, .int x4), (6, .int x6), (7, .int x7)] [0, 1, 2, 3] rfl ?_
      exact L_X7_later_265 a C R x4 x6 x7 S h
    · refine z_iload C 3 rfl dX7_later_235 ?_
      refine z_aload_n C 0 rfl rfl dX7_later_237 ?_
      refine z_sipush C (v := (276 : Int32)) (by decide) dX7_later_238 ?_
      refine z_iload C 4 rfl dX7_later_241 ?_
      refine z_iload C 2 rfl dX7_later_243 ?_
      obtain ⟨q5, e5, h⟩ := bd_e h
      refine z_callVi C (b := a 0) (As := [.int (276 : Int32), .int x8, .int x6]) (rest := [.int x7]) (c_X7_isAlive E a (276 : Int32) x8 x6 S e5) rfl gX7_later_X7_isAlive rfl rfl rfl 3 rfl (by decide +kernel) ⟨Nat.le_of_ble_eq_true rfl, Nat.le_of_ble_eq_true rfl⟩ [0, 1, 2, 3, 4, 5, 6, 7, 8, 9, 10, 11, 12, 13, 14, 15, 16] (wl_X7_later_1 E a S) (by decide) rfl (wModel E a S) (zrep_self (wl_X7_later_1 E a S)) 0 7 rfl rfl rfl (Nat.le_of_ble_eq_true rfl) dX7_later_245 ⟨Nat.zero_le _, Nat.zero_le _⟩ _ rfl ?_
      refine z_if_eq C 255 (by decide) h dX7_later_248 (fun hc h => ?_) (fun hc h => ?_)
      · refine z_iconst C (v := (0 : Int32)) (by decide) dX7_later_255 ?_
        refine Zt_l [(0, .ref (a 0)), (4, .int x4), (6, .int x6), (8, .int x8)] [0, 1, 2, 4] rfl ?_
        exact L_X7_later_256 a C R _ ih x4 x6 x8 x7 (0 : Int32) S h
      · refine z_iconst C (v := (1 : Int32)) (by decide) dX7_later_251 ?_
        refine z_goto C 256 (by decide) dX7_later_252 ?_
        refine Zt_l [(0, .ref (a 0)), (4, .int x4), (6, .int x6), (8, .int x8)] [0, 1, 2, 4] rfl ?_
        exact L_X7_later_256 a C R _ ih x4 x6 x8 x7 (1 : Int32) S h

set_option maxHeartbeats 4000000 in
set_option maxRecDepth 100000 in
theorem L_X7_later_220 {E : zEnv} {Γ : zG} (a : Nat → Nat) (C : zC E Γ cX7_later RX7 10 rm_X7_later wsX7_later) {res : (Int32 × St)} (R : zRi E Γ cX7_later 10 .int (wModel E a res.2) res.1) (x4 : Int32) (x6 : Int32) (S : St) (h : f_X7_later_220 x4 x6 S = some res) : Zt E Γ 10 0 0 (wModel E a S) [(0, .ref (a 0)), (4, .int x4), (6, .int x6)] 220 [] := by
  unfold f_X7_later_220 at h
  refine z_iconst C (v := (0 : Int32)) (by decide) dX7_later_220 ?_
  refine z_istore C [(7, .int (0 : Int32)), (0, .ref (a 0)), (4, .int x4), (6, .int x6)] (by decide) rfl dX7_later_221 ?_
  refine z_iconst C (v := (0 : Int32)) (by decide) dX7_later_223 ?_
  refine z_istore C [(8, .int (0 : Int32)), (7, .int (0 : Int32)), (0, .ref (a 0)), (4, .int x4), (6, .int x6)] (by decide) rfl dX7_later_224 ?_
  refine Zt_l [(0, .ref (a 0)), (4, .int x4), (6, .int x6), (7, .int (0 : Int32)), (8, .int (0 : Int32))] [2, 3, 4, 1, 0] rfl ?_
  exact L_X7_later_226 a C R 1000 x4 x6 (0 : Int32) (0 : Int32) S h

set_option maxHeartbeats 4000000 in
set_option maxRecDepth 100000 in
theorem L_X7_later_53 {E : zEnv} {Γ : zG} (a : Nat → Nat) (C : zC E Γ cX7_later RX7 10 rm_X7_later wsX7_later) {res : (Int32 × St)} (R : zRi E Γ cX7_later 10 .int (wModel E a res.2) res.1) : ∀ (n : Nat) (x2 : Int32) (x3 : Int32) (x4 : Int32) (x5 : Int32) (x6 : Int32) (x7 : Int32) (S : St), f_X7_later_53 n x2 x3 x4 x5 x6 x7 S = some res → Zt E Γ 10 0 0 (wModel E a S) [(0, .ref (a 0)), (2, .int x2), (3, .int x3), (4, .int x4), (5, .int x5), (6, .int x6), (7, .int x7)] 53 [] := by
  intro n
  induction n with
  | zero =>
    intro x2 x3 x4 x5 x6 x7 S h
    cases h
  | succ n ih =>
    intro x2 x3 x4 x5 x6 x7 S h
    rw [f_X7_later_53_s] at h
    refine z_iload C 6 rfl dX7_later_53 ?_
    refine z_iload_n C 1 rfl rfl dX7_later_55 ?_
    refine z_sipush C (v := (360 : Int32)) (by decide) dX7_later_56 ?_
    refine z_idiv C (by decide) dX7_later_59 ?_
    refine z_iload_n C 2 rfl rfl dX7_later_60 ?_
    refine z_iadd C dX7_later_61 ?_
    refine z_icmp_ge C 220 (by decide) h dX7_later_62 (fun hc h => ?_) (fun hc h => ?_)
    · refine Zt_l [(0, .ref (a 0)), (4, .int x4), (6, .int x6)] [0, 3, 5] rfl ?_
      exact L_X7_later_220 a C R x4 x6 S h
    · refine z_iload C 6 rfl dX7_later_65 ?_
      refine z_bipush C (v := (100 : Int32)) (by decide) dX7_later_67 ?_
      refine z_icmp_ge C 220 (by decide) h dX7_later_69 (fun hc h => ?_) (fun hc h => ?_)
      · refine Zt_l [(0, .ref (a 0)), (4, .int x4), (6, .int x6)] [0, 3, 5] rfl ?_
        exact L_X7_later_220 a C R x4 x6 S h
      · refine z_sipush C (v := (360 : Int32)) (by decide) dX7_later_72 ?_
        refine z_iload C 6 rfl dX7_later_75 ?_
        refine z_imul C dX7_later_77 ?_
        refine z_sipush C (v := (360 : Int32)) (by decide) dX7_later_78 ?_
        refine z_iadd C dX7_later_81 ?_
        refine z_iconst C (v := (1 : Int32)) (by decide) dX7_later_82 ?_
        refine z_isub C dX7_later_83 ?_
        refine z_istore C [(6, .int ((((360 : Int32) * x7) + (360 : Int32)) - (1 : Int32))), (0, .ref (a 0)), (2, .int x2), (3, .int x3), (4, .int x4), (5, .int x5), (7, .int x7)] (by decide) rfl dX7_later_84 ?_
        refine z_iconst C (v := (0 : Int32)) (by decide) dX7_later_86 ?_
        refine z_istore C [(8, .int (0 : Int32)), (6, .int ((((360 : Int32) * x7) + (360 : Int32)) - (1 : Int32))), (0, .ref (a 0)), (2, .int x2), (3, .int x3), (4, .int x4), (5, .int x5), (7, .int x7)] (by decide) rfl dX7_later_87 ?_
        refine Zt_l [(0, .ref (a 0)), (2, .int x2), (3, .int x3), (4, .int x4), (5, .int x5), (6, .int ((((360 : Int32) * x7) + (360 : Int32)) - (1 : Int32))), (7, .int x7), (8, .int (0 : Int32))] [2, 3, 4, 5, 6, 1, 7, 0] rfl ?_
        exact L_X7_later_89 a C R _ ih 1000 x2 x3 x4 x5 ((((360 : Int32) * x7) + (360 : Int32)) - (1 : Int32)) x7 (0 : Int32) S h

set_option maxHeartbeats 4000000 in
set_option maxRecDepth 100000 in
theorem L_X7_later {E : zEnv} {Γ : zG} (a : Nat → Nat) (C : zC E Γ cX7_later RX7 10 rm_X7_later wsX7_later) {res : (Int32 × St)} (R : zRi E Γ cX7_later 10 .int (wModel E a res.2) res.1) (x1 : Int32) (x2 : Int32) (x3 : Int32) (x4 : Int32) (S : St) (h : f_X7_later x1 x2 x3 x4 S = some res) : Zt E Γ 10 0 0 (wModel E a S) [(0, .ref (a 0)), (1, .int x1), (2, .int x2), (3, .int x3), (4, .int x4)] 0 [] := by
  unfold f_X7_later at h
  refine z_iload_n C 2 rfl rfl dX7_later_0 ?_
  obtain ⟨q6, e6, h⟩ := bd_e h
  refine z_callSi C (rest := []) (c_X7_isDay E x2 e6) gX7_later_X7_isDay rfl rfl rfl 1 rfl (by decide +kernel) ⟨Nat.le_of_ble_eq_true rfl, Nat.le_of_ble_eq_true rfl⟩ [] rfl (by decide) rfl (wModel E a S) rfl (Nat.le_of_ble_eq_true rfl) dX7_later_1 ⟨Nat.zero_le _, Nat.zero_le _⟩ _ rfl ?_
  refine z_if_eq C 30 (by decide) h dX7_later_4 (fun hc h => ?_) (fun hc h => ?_)
  · refine z_iconst C (v := (-1 : Int32)) (by decide) dX7_later_30 ?_
    obtain rfl := Option.some.inj h
    exact R rfl 31 _ dX7_later_31
  · refine z_iload_n C 3 rfl rfl dX7_later_7 ?_
    refine z_i2l C dX7_later_8 ?_
    refine z_lconst C (v := (1 : Int64)) (by decide) dX7_later_9 ?_
    refine z_ldc2 C (v := (40 : Int64)) (List.mem_of_getElem? (i := 1) rfl) dX7_later_10 ?_
    obtain ⟨q7, e7, h⟩ := bd_e h
    refine z_callSi C (rest := []) (c_X7_in E (Int32.toInt64 x3) (1 : Int64) (40 : Int64) e7) gX7_later_X7_in rfl rfl rfl 3 rfl (by decide +kernel) ⟨Nat.le_of_ble_eq_true rfl, Nat.le_of_ble_eq_true rfl⟩ [] rfl (by decide) rfl (wModel E a S) rfl (Nat.le_of_ble_eq_true rfl) dX7_later_13 ⟨Nat.zero_le _, Nat.zero_le _⟩ _ rfl ?_
    refine z_if_eq C 30 (by decide) h dX7_later_16 (fun hc h => ?_) (fun hc h => ?_)
    · refine z_iconst C (v := (-1 : Int32)) (by decide) dX7_later_30 ?_
      obtain rfl := Option.some.inj h
      exact R rfl 31 _ dX7_later_31
    · refine z_iload C 4 rfl dX7_later_19 ?_
      refine z_i2l C dX7_later_21 ?_
      refine z_lconst C (v := (0 : Int64)) (by decide) dX7_later_22 ?_
      refine z_lconst C (v := (1 : Int64)) (by decide) dX7_later_23 ?_
      obtain ⟨q8, e8, h⟩ := bd_e h
      refine z_callSi C (rest := []) (c_X7_in E (Int32.toInt64 x4) (0 : Int64) (1 : Int64) e8) gX7_later_X7_in rfl rfl rfl 3 rfl (by decide +kernel) ⟨Nat.le_of_ble_eq_true rfl, Nat.le_of_ble_eq_true rfl⟩ [] rfl (by decide) rfl (wModel E a S) rfl (Nat.le_of_ble_eq_true rfl) dX7_later_24 ⟨Nat.zero_le _, Nat.zero_le _⟩ _ rfl ?_
      refine z_if_ne C 32 (by decide) h dX7_later_27 (fun hc h => ?_) (fun hc h => ?_)
      · refine z_iconst C (v := (-1 : Int32)) (by decide) dX7_later_30 ?_
        obtain rfl := Option.some.inj h
        exact R rfl 31 _ dX7_later_31
      · refine z_aload_n C 0 rfl rfl dX7_later_32 ?_
        refine z_iconst C (v := (0 : Int32)) (by decide) dX7_later_33 ?_
        refine z_sipush C (v := (276 : Int32)) (by decide) dX7_later_34 ?_
        obtain ⟨q9, e9, h⟩ := bd_e h
        refine z_callVv C (b := a 0) (As := [.int (0 : Int32), .int (276 : Int32)]) (rest := []) (c_X7_copies E a (0 : Int32) (276 : Int32) S e9) rfl gX7_later_X7_copies rfl rfl rfl 2 rfl (by decide +kernel) ⟨Nat.le_of_ble_eq_true rfl, Nat.le_of_ble_eq_true rfl⟩ [0, 1, 2, 3, 4, 5, 6, 7, 8, 9, 10, 11, 12, 13, 14, 15, 16] (wl_X7_later_1 E a S) (by decide) (wl_X7_later_2 E a _ _) (wModel E a q9) (wl_X7_later_3 E a S q9) 0 7 rfl rfl rfl (Nat.le_of_ble_eq_true rfl) dX7_later_37 ⟨Nat.zero_le _, Nat.zero_le _⟩ _ rfl ?_
        refine z_iload_n C 1 rfl rfl dX7_later_40 ?_
        refine z_istore C [(5, .int x1), (0, .ref (a 0)), (1, .int x1), (2, .int x2), (3, .int x3), (4, .int x4)] (by decide) rfl dX7_later_41 ?_
        refine z_iload_n C 3 rfl rfl dX7_later_43 ?_
        refine z_istore C [(6, .int x2), (5, .int x1), (0, .ref (a 0)), (1, .int x1), (2, .int x2), (3, .int x3), (4, .int x4)] (by decide) rfl dX7_later_44 ?_
        refine z_iload_n C 4 rfl rfl dX7_later_46 ?_
        refine z_sipush C (v := (360 : Int32)) (by decide) dX7_later_47 ?_
        refine z_idiv C (by decide) dX7_later_50 ?_
        refine z_istore C [(7, .int (x2 / (360 : Int32))), (6, .int x2), (5, .int x1), (0, .ref (a 0)), (1, .int x1), (2, .int x2), (3, .int x3), (4, .int x4)] (by decide) rfl dX7_later_51 ?_
        refine Zt_l [(0, .ref (a 0)), (2, .int x2), (3, .int x3), (4, .int x4), (5, .int x1), (6, .int x2), (7, .int (x2 / (360 : Int32)))] [3, 5, 6, 7, 2, 1, 0] rfl ?_
        exact L_X7_later_53 a C R 1000 x2 x3 x4 x1 x2 (x2 / (360 : Int32)) q9 h

theorem c_X7_later (E : zEnv) (a : Nat → Nat) (x1 : Int32) (x2 : Int32) (x3 : Int32) (x4 : Int32) (S : St) {res : (Int32 × St)} (h : f_X7_later x1 x2 x3 x4 S = some res) : Kti E yX7_later wsX7_later rm_X7_later (wModel E a S) (wModel E a res.2) [.ref (a 0), .int x1, .int x2, .int x3, .int x4] res.1 :=
  z_enti (cc := cX7_later) (maxL := 10) (rt := .int) (by decide +kernel) rfl (Nat.le_of_ble_eq_true rfl) (fun Γ C R => L_X7_later a C R x1 x2 x3 x4 S h)

abbrev rm_X7_keep : Room := { frames := 1, cells := 0, slots := 0, locals := 25 }
theorem inw_X7_keep_X7 : ∀ w ∈ wsX70, w ∈ wsX7_keep := fun _ h => List.mem_cons_of_mem _ (List.mem_append_right _ h)
set_option maxHeartbeats 4000000 in
theorem wl_X7_keep_0 (E : zEnv) (a : Nat → Nat) (S : St) (f : Nat → Int32) : (wModel E a (st 33 f S)) = (wModel E a S).set 13 (a 13, .inl (zZ E, 2, .inl f)) := rfl
set_option maxHeartbeats 4000000 in
theorem wl_X7_keep_1 (E : zEnv) (a : Nat → Nat) (S : St) : ([0, 1, 2, 3, 4, 5, 6, 7, 8, 9, 10, 11, 12, 13, 14, 15, 16] : List Nat).map (fun i => (wModel E a S)[i]?) = (wModel E a S).map some := rfl
set_option maxHeartbeats 4000000 in
theorem wl_X7_keep_2 (E : zEnv) (a : Nat → Nat) (S U : St) : (wModel E a U).map (fun q => q.1) = (wModel E a S).map (fun q => q.1) := rfl
set_option maxHeartbeats 4000000 in
theorem wl_X7_keep_3 (E : zEnv) (a : Nat → Nat) (S U : St) : (wModel E a U) = zrep [0, 1, 2, 3, 4, 5, 6, 7, 8, 9, 10, 11, 12, 13, 14, 15, 16] (wModel E a U) (wModel E a S) := zrep_of (isR := []) 17 rfl [] rfl rfl rfl rfl (by decide +kernel) (by decide +kernel)
noncomputable def f_X7_keep_37 (x1 : Int32) (y0 : Int32) (S : St) : Option (Int32 × St) := (ix x1 2 (some (y0, (st 33 (upd (S 33) (Int32.toNatClampNeg x1) (vp_nar .boolean (1 : Int32))) S))))
noncomputable def f_X7_keep (x1 : Int32) (S : St) : Option (Int32 × St) := ((f_X7_in (Int32.toInt64 x1) (0 : Int64) (1 : Int64)).bind (fun q1 => (if q1 = 0 then (some ((-1 : Int32), S)) else ((f_X7_copies (0 : Int32) ((92 : Int32) * (x1 + (1 : Int32))) S).bind (fun q2 => (ix x1 2 (if (q2 33 (Int32.toNatClampNeg x1)) = 0 then (f_X7_keep_37 x1 (0 : Int32) q2) else (f_X7_keep_37 x1 (1 : Int32) q2))))))))
set_option maxHeartbeats 4000000 in
set_option maxRecDepth 100000 in
theorem L_X7_keep_37 {E : zEnv} {Γ : zG} (a : Nat → Nat) (C : zC E Γ cX7_keep RX7 3 rm_X7_keep wsX7_keep) {res : (Int32 × St)} (R : zRi E Γ cX7_keep 3 .int (wModel E a res.2) res.1) (x1 : Int32) (y0 : Int32) (S : St) (h : f_X7_keep_37 x1 y0 S = some res) : Zt E Γ 3 0 0 (wModel E a S) [(0, .ref (a 0)), (1, .int x1)] 37 [.int y0] := by
  unfold f_X7_keep_37 at h
  refine z_istore_n C [(2, .int y0), (0, .ref (a 0)), (1, .int x1)] rfl (by decide) rfl dX7_keep_37 ?_
  refine z_aload_n C 1 rfl rfl dX7_keep_38 ?_
  refine z_get C 0 rfl (C := RX7) (T := TX7) (N := 38) (ci := 7) rfl inw_X7_keep_X7 33 (by decide) (ref := "EldestAgeModel") (List.mem_of_getElem? (i := 1) rfl) rfl (v := .ref (a 13)) rfl dX7_keep_39 ?_
  refine z_iload_n C 2 rfl rfl dX7_keep_42 ?_
  refine z_iconst C (v := (1 : Int32)) (by decide) dX7_keep_43 ?_
  refine z_zast C (N := 2) (f := (S 33)) 13 rfl h (wModel E a (st 33 (upd (S 33) (Int32.toNatClampNeg x1) (vp_nar .boolean (1 : Int32))) S)) (wl_X7_keep_0 E a S (upd (S 33) (Int32.toNatClampNeg x1) (vp_nar .boolean (1 : Int32)))) dX7_keep_44 (fun h => ?_)
  refine z_iload_n C 0 rfl rfl dX7_keep_45 ?_
  obtain rfl := Option.some.inj h
  exact R rfl 46 _ dX7_keep_46

set_option maxHeartbeats 4000000 in
set_option maxRecDepth 100000 in
theorem L_X7_keep {E : zEnv} {Γ : zG} (a : Nat → Nat) (C : zC E Γ cX7_keep RX7 3 rm_X7_keep wsX7_keep) {res : (Int32 × St)} (R : zRi E Γ cX7_keep 3 .int (wModel E a res.2) res.1) (x1 : Int32) (S : St) (h : f_X7_keep x1 S = some res) : Zt E Γ 3 0 0 (wModel E a S) [(0, .ref (a 0)), (1, .int x1)] 0 [] := by
  unfold f_X7_keep at h
  refine z_iload_n C 1 rfl rfl dX7_keep_0 ?_
  refine z_i2l C dX7_keep_1 ?_
  refine z_lconst C (v := (0 : Int64)) (by decide) dX7_keep_2 ?_
  refine z_lconst C (v := (1 : Int64)) (by decide) dX7_keep_3 ?_
  obtain ⟨q1, e1, h⟩ := bd_e h
  refine z_callSi C (rest := []) (c_X7_in E (Int32.toInt64 x1) (0 : Int64) (1 : Int64) e1) gX7_keep_X7_in rfl rfl rfl 3 rfl (by decide +kernel) ⟨Nat.le_of_ble_eq_true rfl, Nat.le_of_ble_eq_true rfl⟩ [] rfl (by decide) rfl (wModel E a S) rfl (Nat.le_of_ble_eq_true rfl) dX7_keep_4 ⟨Nat.zero_le _, Nat.zero_le _⟩ _ rfl ?_
  refine z_if_ne C 12 (by decide) h dX7_keep_7 (fun hc h => ?_) (fun hc h => ?_)
  · refine z_iconst C (v := (-1 : Int32)) (by decide) dX7_keep_10 ?_
    obtain rfl := Option.some.inj h
    exact R rfl 11 _ dX7_keep_11
  · refine z_aload_n C 0 rfl rfl dX7_keep_12 ?_
    refine z_iconst C (v := (0 : Int32)) (by decide) dX7_keep_13 ?_
    refine z_bipush C (v := (92 : Int32)) (by decide) dX7_keep_14 ?_
    refine z_iload_n C 1 rfl rfl dX7_keep_16 ?_
    refine z_iconst C (v := (1 : Int32)) (by decide) dX7_keep_17 ?_
    refine z_iadd C dX7_keep_18 ?_
    refine z_imul C dX7_keep_19 ?_
    obtain ⟨q2, e2, h⟩ := bd_e h
    refine z_callVv C (b := a 0) (As := [.int (0 : Int32), .int ((92 : Int32) * (x1 + (1 : Int32)))]) (rest := []) (c_X7_copies E a (0 : Int32) ((92 : Int32) * (x1 + (1 : Int32))) S e2) rfl gX7_keep_X7_copies rfl rfl rfl 2 rfl (by decide +kernel) ⟨Nat.le_of_ble_eq_true rfl, Nat.le_of_ble_eq_true rfl⟩ [0, 1, 2, 3, 4, 5, 6, 7, 8, 9, 10, 11, 12, 13, 14, 15, 16] (wl_X7_keep_1 E a S) (by decide) (wl_X7_keep_2 E a _ _) (wModel E a q2) (wl_X7_keep_3 E a S q2) 0 7 rfl rfl rfl (Nat.le_of_ble_eq_true rfl) dX7_keep_20 ⟨Nat.zero_le _, Nat.zero_le _⟩ _ rfl ?_
    refine z_aload_n C 0 rfl rfl dX7_keep_23 ?_
    refine z_get C 0 rfl (C := RX7) (T := TX7) (N := 38) (ci := 7) rfl inw_X7_keep_X7 33 (by decide) (ref := "EldestAgeModel") (List.mem_of_getElem? (i := 1) rfl) rfl (v := .ref (a 13)) rfl dX7_keep_24 ?_
    refine z_iload_n C 1 rfl rfl dX7_keep_27 ?_
    refine z_zald C (N := 2) (f := (q2 33)) 13 rfl h dX7_keep_28 (fun h => ?_)
    refine z_if_eq C 36 (by decide) h dX7_keep_29 (fun hc h => ?_) (fun hc h => ?_)
    · refine z_iconst C (v := (0 : Int32)) (by decide) dX7_keep_36 ?_
      exact L_X7_keep_37 a C R x1 (0 : Int32) q2 h
    · refine z_iconst C (v := (1 : Int32)) (by decide) dX7_keep_32 ?_
      refine z_goto C 37 (by decide) dX7_keep_33 ?_
      exact L_X7_keep_37 a C R x1 (1 : Int32) q2 h

theorem c_X7_keep (E : zEnv) (a : Nat → Nat) (x1 : Int32) (S : St) {res : (Int32 × St)} (h : f_X7_keep x1 S = some res) : Kti E yX7_keep wsX7_keep rm_X7_keep (wModel E a S) (wModel E a res.2) [.ref (a 0), .int x1] res.1 :=
  z_enti (cc := cX7_keep) (maxL := 3) (rt := .int) (by decide +kernel) rfl (Nat.le_of_ble_eq_true rfl) (fun Γ C R => L_X7_keep a C R x1 S h)

abbrev rm_X7_back : Room := { frames := 1, cells := 0, slots := 0, locals := 25 }
theorem inw_X7_back_X7 : ∀ w ∈ wsX70, w ∈ wsX7_back := fun _ h => List.mem_cons_of_mem _ (List.mem_append_right _ h)
set_option maxHeartbeats 4000000 in
theorem wl_X7_back_0 (E : zEnv) (a : Nat → Nat) (S : St) : ([0, 1, 2, 3, 4, 5, 6, 7, 8, 9, 10, 11, 12, 13, 14, 15, 16] : List Nat).map (fun i => (wModel E a S)[i]?) = (wModel E a S).map some := rfl
set_option maxHeartbeats 4000000 in
theorem wl_X7_back_1 (E : zEnv) (a : Nat → Nat) (S U : St) : (wModel E a U).map (fun q => q.1) = (wModel E a S).map (fun q => q.1) := rfl
set_option maxHeartbeats 4000000 in
theorem wl_X7_back_2 (E : zEnv) (a : Nat → Nat) (S U : St) : (wModel E a U) = zrep [0, 1, 2, 3, 4, 5, 6, 7, 8, 9, 10, 11, 12, 13, 14, 15, 16] (wModel E a U) (wModel E a S) := zrep_of (isR := []) 17 rfl [] rfl rfl rfl rfl (by decide +kernel) (by decide +kernel)
noncomputable def f_X7_back (x1 : Int32) (S : St) : Option (Int32 × St) := ((f_X7_in (Int32.toInt64 x1) (0 : Int64) (1 : Int64)).bind (fun q1 => (if q1 = 0 then (some ((-1 : Int32), S)) else (ix x1 2 (if (S 33 (Int32.toNatClampNeg x1)) = 0 then (some ((-2 : Int32), S)) else ((f_X7_copies ((92 : Int32) * (x1 + (1 : Int32))) (0 : Int32) S).bind (fun q2 => ((f_X7_people q2).bind (fun q3 => (some (q3, q2)))))))))))
set_option maxHeartbeats 4000000 in
set_option maxRecDepth 100000 in
theorem L_X7_back {E : zEnv} {Γ : zG} (a : Nat → Nat) (C : zC E Γ cX7_back RX7 2 rm_X7_back wsX7_back) {res : (Int32 × St)} (R : zRi E Γ cX7_back 2 .int (wModel E a res.2) res.1) (x1 : Int32) (S : St) (h : f_X7_back x1 S = some res) : Zt E Γ 2 0 0 (wModel E a S) [(0, .ref (a 0)), (1, .int x1)] 0 [] := by
  unfold f_X7_back at h
  refine z_iload_n C 1 rfl rfl dX7_back_0 ?_
  refine z_i2l C dX7_back_1 ?_
  refine z_lconst C (v := (0 : Int64)) (by decide) dX7_back_2 ?_
  refine z_lconst C (v := (1 : Int64)) (by decide) dX7_back_3 ?_
  obtain ⟨q1, e1, h⟩ := bd_e h
  refine z_callSi C (rest := []) (c_X7_in E (Int32.toInt64 x1) (0 : Int64) (1 : Int64) e1) gX7_back_X7_in rfl rfl rfl 3 rfl (by decide +kernel) ⟨Nat.le_of_ble_eq_true rfl, Nat.le_of_ble_eq_true rfl⟩ [] rfl (by decide) rfl (wModel E a S) rfl (Nat.le_of_ble_eq_true rfl) dX7_back_4 ⟨Nat.zero_le _, Nat.zero_le _⟩ _ rfl ?_
  refine z_if_ne C 12 (by decide) h dX7_back_7 (fun hc h => ?_) (fun hc h => ?_)
  · refine z_iconst C (v := (-1 : Int32)) (by decide) dX7_back_10 ?_
    obtain rfl := Option.some.inj h
    exact R rfl 11 _ dX7_back_11
  · refine z_aload_n C 0 rfl rfl dX7_back_12 ?_
    refine z_get C 0 rfl (C := RX7) (T := TX7) (N := 38) (ci := 7) rfl inw_X7_back_X7 33 (by decide) (ref := "EldestAgeModel") (List.mem_of_getElem? (i := 1) rfl) rfl (v := .ref (a 13)) rfl dX7_back_13 ?_
    refine z_iload_n C 1 rfl rfl dX7_back_16 ?_
    refine z_zald C (N := 2) (f := (S 33)) 13 rfl h dX7_back_17 (fun h => ?_)
    refine z_if_ne C 24 (by decide) h dX7_back_18 (fun hc h => ?_) (fun hc h => ?_)
    · refine z_bipush C (v := (-2 : Int32)) (by decide) dX7_back_21 ?_
      obtain rfl := Option.some.inj h
      exact R rfl 23 _ dX7_back_23
    · refine z_aload_n C 0 rfl rfl dX7_back_24 ?_
      refine z_bipush C (v := (92 : Int32)) (by decide) dX7_back_25 ?_
      refine z_iload_n C 1 rfl rfl dX7_back_27 ?_
      refine z_iconst C (v := (1 : Int32)) (by decide) dX7_back_28 ?_
      refine z_iadd C dX7_back_29 ?_
      refine z_imul C dX7_back_30 ?_
      refine z_iconst C (v := (0 : Int32)) (by decide) dX7_back_31 ?_
      obtain ⟨q2, e2, h⟩ := bd_e h
      refine z_callVv C (b := a 0) (As := [.int ((92 : Int32) * (x1 + (1 : Int32))), .int (0 : Int32)]) (rest := []) (c_X7_copies E a ((92 : Int32) * (x1 + (1 : Int32))) (0 : Int32) S e2) rfl gX7_back_X7_copies rfl rfl rfl 2 rfl (by decide +kernel) ⟨Nat.le_of_ble_eq_true rfl, Nat.le_of_ble_eq_true rfl⟩ [0, 1, 2, 3, 4, 5, 6, 7, 8, 9, 10, 11, 12, 13, 14, 15, 16] (wl_X7_back_0 E a S) (by decide) (wl_X7_back_1 E a _ _) (wModel E a q2) (wl_X7_back_2 E a S q2) 0 7 rfl rfl rfl (Nat.le_of_ble_eq_true rfl) dX7_back_32 ⟨Nat.zero_le _, Nat.zero_le _⟩ _ rfl ?_
      refine z_aload_n C 0 rfl rfl dX7_back_35 ?_
      obtain ⟨q3, e3, h⟩ := bd_e h
      refine z_callVi C (b := a 0) (As := []) (rest := []) (c_X7_people E a q2 e3) rfl gX7_back_X7_people rfl rfl rfl 0 rfl (by decide +kernel) ⟨Nat.le_of_ble_eq_true rfl, Nat.le_of_ble_eq_true rfl⟩ [0, 1, 2, 3, 4, 5, 6, 7, 8, 9, 10, 11, 12, 13, 14, 15, 16] (wl_X7_back_0 E a q2) (by decide) rfl (wModel E a q2) (zrep_self (wl_X7_back_0 E a q2)) 0 7 rfl rfl rfl (Nat.le_of_ble_eq_true rfl) dX7_back_36 ⟨Nat.zero_le _, Nat.zero_le _⟩ _ rfl ?_
      obtain rfl := Option.some.inj h
      exact R rfl 39 _ dX7_back_39

theorem c_X7_back (E : zEnv) (a : Nat → Nat) (x1 : Int32) (S : St) {res : (Int32 × St)} (h : f_X7_back x1 S = some res) : Kti E yX7_back wsX7_back rm_X7_back (wModel E a S) (wModel E a res.2) [.ref (a 0), .int x1] res.1 :=
  z_enti (cc := cX7_back) (maxL := 2) (rt := .int) (by decide +kernel) rfl (Nat.le_of_ble_eq_true rfl) (fun Γ C R => L_X7_back a C R x1 S h)

abbrev rm_X7_sheet : Room := { frames := 1, cells := 0, slots := 0, locals := 25 }
theorem inw_X7_sheet_X7 : ∀ w ∈ wsX70, w ∈ wsX7_sheet := fun _ h => List.mem_cons_of_mem _ (List.mem_append_right _ h)
set_option maxHeartbeats 4000000 in
theorem wl_X7_sheet_0 (E : zEnv) (a : Nat → Nat) (S : St) (f : Nat → Int32) : (wModel E a (st 36 f S)) = (wModel E a S).set 16 (a 16, .inl (zI E, 160, .inl f)) := rfl
set_option maxHeartbeats 4000000 in
theorem wl_X7_sheet_1 (E : zEnv) (a : Nat → Nat) (S : St) (f : Nat → Int32) : (wModel E a (st 34 f S)) = (wModel E a S).set 14 (a 14, .inl (zI E, 4, .inl f)) := rfl
set_option maxHeartbeats 4000000 in
theorem wl_X7_sheet_2 (E : zEnv) (a : Nat → Nat) (S : St) (f : Nat → Int32) : (wModel E a (st 35 f S)) = (wModel E a S).set 15 (a 15, .inl (zI E, 4, .inl f)) := rfl
noncomputable def f_X7_sheet_56 (n : Nat) : Int32 → Int32 → St → Option (Int32 × St) := Nat.rec (motive := fun _ => Int32 → Int32 → St → Option (Int32 × St)) (fun _ _ _ => none) (fun _ ih => fun x1 x4 S => (if (40 : Int32) ≤ x4 then (some ((1 : Int32), S)) else (ix (((40 : Int32) * x1) + x4) 160 (ih x1 (x4 + (1 : Int32)) (st 36 (upd (S 36) (Int32.toNatClampNeg (((40 : Int32) * x1) + x4)) (0 : Int32)) S))))) n
theorem f_X7_sheet_56_s (n : Nat) (x1 : Int32) (x4 : Int32) (S : St) : f_X7_sheet_56 (n + 1) x1 x4 S = (if (40 : Int32) ≤ x4 then (some ((1 : Int32), S)) else (ix (((40 : Int32) * x1) + x4) 160 ((f_X7_sheet_56 n) x1 (x4 + (1 : Int32)) (st 36 (upd (S 36) (Int32.toNatClampNeg (((40 : Int32) * x1) + x4)) (0 : Int32)) S)))) := rfl
noncomputable def f_X7_sheet (x1 : Int32) (x2 : Int32) (x3 : Int32) (S : St) : Option (Int32 × St) := ((f_X7_in (Int32.toInt64 x1) (0 : Int64) (3 : Int64)).bind (fun q1 => (if q1 = 0 then (some ((-1 : Int32), S)) else ((f_X7_in (Int32.toInt64 x2) (0 : Int64) (2 : Int64)).bind (fun q2 => (if q2 = 0 then (some ((-1 : Int32), S)) else (if x3 ≤ (40 : Int32) then (if 0 ≤ x3 then (ix x1 4 (ix x1 4 (f_X7_sheet_56 1000 x1 (0 : Int32) (st 35 (upd (S 35) (Int32.toNatClampNeg x1) x3) (st 34 (upd (S 34) (Int32.toNatClampNeg x1) x2) S))))) else (some ((-14 : Int32), S))) else (some ((-1 : Int32), S)))))))))
set_option maxHeartbeats 4000000 in
set_option maxRecDepth 100000 in
theorem L_X7_sheet_56 {E : zEnv} {Γ : zG} (a : Nat → Nat) (C : zC E Γ cX7_sheet RX7 5 rm_X7_sheet wsX7_sheet) {res : (Int32 × St)} (R : zRi E Γ cX7_sheet 5 .int (wModel E a res.2) res.1) : ∀ (n : Nat) (x1 : Int32) (x4 : Int32) (S : St), f_X7_sheet_56 n x1 x4 S = some res → Zt E Γ 5 0 0 (wModel E a S) [(0, .ref (a 0)), (1, .int x1), (4, .int x4)] 56 [] := by
  intro n
  induction n with
  | zero =>
    intro x1 x4 S h
    cases h
  | succ n ih =>
    intro x1 x4 S h
    rw [f_X7_sheet_56_s] at h
    refine z_iload C 2 rfl dX7_sheet_56 ?_
    refine z_bipush C (v := (40 : Int32)) (by decide) dX7_sheet_58 ?_
    refine z_icmp_ge C 82 (by decide) h dX7_sheet_60 (fun hc h => ?_) (fun hc h => ?_)
    · refine z_iconst C (v := (1 : Int32)) (by decide) dX7_sheet_82 ?_
      obtain rfl := Option.some.inj h
      exact R rfl 83 _ dX7_sheet_83
    · refine z_aload_n C 0 rfl rfl dX7_sheet_63 ?_
      refine z_get C 0 rfl (C := RX7) (T := TX7) (N := 38) (ci := 7) rfl inw_X7_sheet_X7 36 (by decide) (ref := "EldestAgeModel") (List.mem_of_getElem? (i := 5) rfl) rfl (v := .ref (a 16)) rfl dX7_sheet_64 ?_
      refine z_bipush C (v := (40 : Int32)) (by decide) dX7_sheet_67 ?_
      refine z_iload_n C 1 rfl rfl dX7_sheet_69 ?_
      refine z_imul C dX7_sheet_70 ?_
      refine z_iload C 2 rfl dX7_sheet_71 ?_
      refine z_iadd C dX7_sheet_73 ?_
      refine z_iconst C (v := (0 : Int32)) (by decide) dX7_sheet_74 ?_
      refine z_iast C (N := 160) (f := (S 36)) 16 rfl h (wModel E a (st 36 (upd (S 36) (Int32.toNatClampNeg (((40 : Int32) * x1) + x4)) (0 : Int32)) S)) (wl_X7_sheet_0 E a S (upd (S 36) (Int32.toNatClampNeg (((40 : Int32) * x1) + x4)) (0 : Int32))) dX7_sheet_75 (fun h => ?_)
      refine z_iinc C [(4, .int (x4 + (1 : Int32))), (0, .ref (a 0)), (1, .int x1)] 2 rfl (by first | rfl | decide) (by decide) rfl dX7_sheet_76 ?_
      refine z_goto C 56 (by decide) dX7_sheet_79 ?_
      refine Zt_l [(0, .ref (a 0)), (1, .int x1), (4, .int (x4 + (1 : Int32)))] [1, 2, 0] rfl ?_
      exact ih x1 (x4 + (1 : Int32)) (st 36 (upd (S 36) (Int32.toNatClampNeg (((40 : Int32) * x1) + x4)) (0 : Int32)) S) h

set_option maxHeartbeats 4000000 in
set_option maxRecDepth 100000 in
theorem L_X7_sheet {E : zEnv} {Γ : zG} (a : Nat → Nat) (C : zC E Γ cX7_sheet RX7 5 rm_X7_sheet wsX7_sheet) {res : (Int32 × St)} (R : zRi E Γ cX7_sheet 5 .int (wModel E a res.2) res.1) (x1 : Int32) (x2 : Int32) (x3 : Int32) (S : St) (h : f_X7_sheet x1 x2 x3 S = some res) : Zt E Γ 5 0 0 (wModel E a S) [(0, .ref (a 0)), (1, .int x1), (2, .int x2), (3, .int x3)] 0 [] := by
  unfold f_X7_sheet at h
  refine z_iload_n C 1 rfl rfl dX7_sheet_0 ?_
  refine z_i2l C dX7_sheet_1 ?_
  refine z_lconst C (v := (0 : Int64)) (by decide) dX7_sheet_2 ?_
  refine z_ldc2 C (v := (3 : Int64)) (List.mem_of_getElem? (i := 1) rfl) dX7_sheet_3 ?_
  obtain ⟨q1, e1, h⟩ := bd_e h
  refine z_callSi C (rest := []) (c_X7_in E (Int32.toInt64 x1) (0 : Int64) (3 : Int64) e1) gX7_sheet_X7_in rfl rfl rfl 3 rfl (by decide +kernel) ⟨Nat.le_of_ble_eq_true rfl, Nat.le_of_ble_eq_true rfl⟩ [] rfl (by decide) rfl (wModel E a S) rfl (Nat.le_of_ble_eq_true rfl) dX7_sheet_6 ⟨Nat.zero_le _, Nat.zero_le _⟩ _ rfl ?_
  refine z_if_eq C 30 (by decide) h dX7_sheet_9 (fun hc h => ?_) (fun hc h => ?_)
  · refine z_iconst C (v := (-1 : Int32)) (by decide) dX7_sheet_30 ?_
    obtain rfl := Option.some.inj h
    exact R rfl 31 _ dX7_sheet_31
  · refine z_iload_n C 2 rfl rfl dX7_sheet_12 ?_
    refine z_i2l C dX7_sheet_13 ?_
    refine z_lconst C (v := (0 : Int64)) (by decide) dX7_sheet_14 ?_
    refine z_ldc2 C (v := (2 : Int64)) (List.mem_of_getElem? (i := 2) rfl) dX7_sheet_15 ?_
    obtain ⟨q2, e2, h⟩ := bd_e h
    refine z_callSi C (rest := []) (c_X7_in E (Int32.toInt64 x2) (0 : Int64) (2 : Int64) e2) gX7_sheet_X7_in rfl rfl rfl 3 rfl (by decide +kernel) ⟨Nat.le_of_ble_eq_true rfl, Nat.le_of_ble_eq_true rfl⟩ [] rfl (by decide) rfl (wModel E a S) rfl (Nat.le_of_ble_eq_true rfl) dX7_sheet_18 ⟨Nat.zero_le _, Nat.zero_le _⟩ _ rfl ?_
    refine z_if_eq C 30 (by decide) h dX7_sheet_21 (fun hc h => ?_) (fun hc h => ?_)
    · refine z_iconst C (v := (-1 : Int32)) (by decide) dX7_sheet_30 ?_
      obtain rfl := Option.some.inj h
      exact R rfl 31 _ dX7_sheet_31
    · refine z_iload_n C 3 rfl rfl dX7_sheet_24 ?_
      refine z_bipush C (v := (40 : Int32)) (by decide) dX7_sheet_25 ?_
      refine z_icmp_le C 32 (by decide) h dX7_sheet_27 (fun hc h => ?_) (fun hc h => ?_)
      · refine z_iload_n C 3 rfl rfl dX7_sheet_32 ?_
        refine z_if_ge C 39 (by decide) h dX7_sheet_33 (fun hc h => ?_) (fun hc h => ?_)
        · refine z_aload_n C 0 rfl rfl dX7_sheet_39 ?_
          refine z_get C 0 rfl (C := RX7) (T := TX7) (N := 38) (ci := 7) rfl inw_X7_sheet_X7 34 (by decide) (ref := "EldestAgeModel") (List.mem_of_getElem? (i := 3) rfl) rfl (v := .ref (a 14)) rfl dX7_sheet_40 ?_
          refine z_iload_n C 1 rfl rfl dX7_sheet_43 ?_
          refine z_iload_n C 2 rfl rfl dX7_sheet_44 ?_
          refine z_iast C (N := 4) (f := (S 34)) 14 rfl h (wModel E a (st 34 (upd (S 34) (Int32.toNatClampNeg x1) x2) S)) (wl_X7_sheet_1 E a S (upd (S 34) (Int32.toNatClampNeg x1) x2)) dX7_sheet_45 (fun h => ?_)
          refine z_aload_n C 0 rfl rfl dX7_sheet_46 ?_
          refine z_get C 0 rfl (C := RX7) (T := TX7) (N := 38) (ci := 7) rfl inw_X7_sheet_X7 35 (by decide) (ref := "EldestAgeModel") (List.mem_of_getElem? (i := 4) rfl) rfl (v := .ref (a 15)) rfl dX7_sheet_47 ?_
          refine z_iload_n C 1 rfl rfl dX7_sheet_50 ?_
          refine z_iload_n C 3 rfl rfl dX7_sheet_51 ?_
          refine z_iast C (N := 4) (f := (S 35)) 15 rfl h (wModel E a (st 35 (upd (S 35) (Int32.toNatClampNeg x1) x3) (st 34 (upd (S 34) (Int32.toNatClampNeg x1) x2) S))) (wl_X7_sheet_2 E a (st 34 (upd (S 34) (Int32.toNatClampNeg x1) x2) S) (upd (S 35) (Int32.toNatClampNeg x1) x3)) dX7_sheet_52 (fun h => ?_)
          refine z_iconst C (v := (0 : Int32)) (by decide) dX7_sheet_53 ?_
          refine z_istore C [(4, .int (0 : Int32)), (0, .ref (a 0)), (1, .int x1), (2, .int x2), (3, .int x3)] (by decide) rfl dX7_sheet_54 ?_
          refine Zt_l [(0, .ref (a 0)), (1, .int x1), (4, .int (0 : Int32))] [1, 2, 0] rfl ?_
          exact L_X7_sheet_56 a C R 1000 x1 (0 : Int32) (st 35 (upd (S 35) (Int32.toNatClampNeg x1) x3) (st 34 (upd (S 34) (Int32.toNatClampNeg x1) x2) S)) h
        · refine z_bipush C (v := (-14 : Int32)) (by decide) dX7_sheet_36 ?_
          obtain rfl := Option.some.inj h
          exact R rfl 38 _ dX7_sheet_38
      · refine z_iconst C (v := (-1 : Int32)) (by decide) dX7_sheet_30 ?_
        obtain rfl := Option.some.inj h
        exact R rfl 31 _ dX7_sheet_31

theorem c_X7_sheet (E : zEnv) (a : Nat → Nat) (x1 : Int32) (x2 : Int32) (x3 : Int32) (S : St) {res : (Int32 × St)} (h : f_X7_sheet x1 x2 x3 S = some res) : Kti E yX7_sheet wsX7_sheet rm_X7_sheet (wModel E a S) (wModel E a res.2) [.ref (a 0), .int x1, .int x2, .int x3] res.1 :=
  z_enti (cc := cX7_sheet) (maxL := 5) (rt := .int) (by decide +kernel) rfl (Nat.le_of_ble_eq_true rfl) (fun Γ C R => L_X7_sheet a C R x1 x2 x3 S h)

abbrev rm_X7_lay : Room := { frames := 1, cells := 0, slots := 0, locals := 25 }
theorem inw_X7_lay_X7 : ∀ w ∈ wsX70, w ∈ wsX7_lay := fun _ h => List.mem_cons_of_mem _ (List.mem_append_right _ h)
set_option maxHeartbeats 4000000 in
theorem wl_X7_lay_0 (E : zEnv) (a : Nat → Nat) (S : St) (f : Nat → Int32) : (wModel E a (st 36 f S)) = (wModel E a S).set 16 (a 16, .inl (zI E, 160, .inl f)) := rfl
noncomputable def f_X7_lay_99 (y1 : Int32) (y2 : Int32) (S : St) : Option (Int32 × St) := (ix y1 160 (some ((1 : Int32), (st 36 (upd (S 36) (Int32.toNatClampNeg y1) y2) S))))
noncomputable def f_X7_lay (x1 : Int32) (x2 : Int32) (x3 : Int32) (S : St) : Option (Int32 × St) := ((f_X7_in (Int32.toInt64 x1) (0 : Int64) (3 : Int64)).bind (fun q1 => (if q1 = 0 then (some ((-1 : Int32), S)) else (ix x1 4 (if (S 34 (Int32.toNatClampNeg x1)) = (-4 : Int32) then (some ((-11 : Int32), S)) else (ix x1 4 ((f_X7_in (Int32.toInt64 x2) (0 : Int64) (Int32.toInt64 ((S 35 (Int32.toNatClampNeg x1)) - (1 : Int32)))).bind (fun q2 => (if q2 = 0 then (some ((-12 : Int32), S)) else (ix x1 4 (if (S 34 (Int32.toNatClampNeg x1)) = 0 then (f_X7_lay_99 (((40 : Int32) * x1) + x2) ((x3 <<< ((24 : Int32) &&& 31)) >>> ((24 : Int32) &&& 31)) S) else (ix x1 4 (if (S 34 (Int32.toNatClampNeg x1)) = (1 : Int32) then (f_X7_lay_99 (((40 : Int32) * x1) + x2) ((x3 <<< ((16 : Int32) &&& 31)) >>> ((16 : Int32) &&& 31)) S) else (f_X7_lay_99 (((40 : Int32) * x1) + x2) x3 S))))))))))))))
set_option maxHeartbeats 4000000 in
set_option maxRecDepth 100000 in
theorem L_X7_lay_99 {E : zEnv} {Γ : zG} (a : Nat → Nat) (C : zC E Γ cX7_lay RX7 4 rm_X7_lay wsX7_lay) {res : (Int32 × St)} (R : zRi E Γ cX7_lay 4 .int (wModel E a res.2) res.1) (y1 : Int32) (y2 : Int32) (S : St) (h : f_X7_lay_99 y1 y2 S = some res) : Zt E Γ 4 0 0 (wModel E a S) [] 99 [.int y2, .int y1, .ref (a 16)] := by
  unfold f_X7_lay_99 at h
  refine z_iast C (N := 160) (f := (S 36)) 16 rfl h (wModel E a (st 36 (upd (S 36) (Int32.toNatClampNeg y1) y2) S)) (wl_X7_lay_0 E a S (upd (S 36) (Int32.toNatClampNeg y1) y2)) dX7_lay_99 (fun h => ?_)
  refine z_iconst C (v := (1 : Int32)) (by decide) dX7_lay_100 ?_
  obtain rfl := Option.some.inj h
  exact R rfl 101 _ dX7_lay_101

set_option maxHeartbeats 4000000 in
set_option maxRecDepth 100000 in
theorem L_X7_lay {E : zEnv} {Γ : zG} (a : Nat → Nat) (C : zC E Γ cX7_lay RX7 4 rm_X7_lay wsX7_lay) {res : (Int32 × St)} (R : zRi E Γ cX7_lay 4 .int (wModel E a res.2) res.1) (x1 : Int32) (x2 : Int32) (x3 : Int32) (S : St) (h : f_X7_lay x1 x2 x3 S = some res) : Zt E Γ 4 0 0 (wModel E a S) [(0, .ref (a 0)), (1, .int x1), (2, .int x2), (3, .int x3)] 0 [] := by
  unfold f_X7_lay at h
  refine z_iload_n C 1 rfl rfl dX7_lay_0 ?_
  refine z_i2l C dX7_lay_1 ?_
  refine z_lconst C (v := (0 : Int64)) (by decide) dX7_lay_2 ?_
  refine z_ldc2 C (v := (3 : Int64)) (List.mem_of_getElem? (i := 1) rfl) dX7_lay_3 ?_
  obtain ⟨q1, e1, h⟩ := bd_e h
  refine z_callSi C (rest := []) (c_X7_in E (Int32.toInt64 x1) (0 : Int64) (3 : Int64) e1) gX7_lay_X7_in rfl rfl rfl 3 rfl (by decide +kernel) ⟨Nat.le_of_ble_eq_true rfl, Nat.le_of_ble_eq_true rfl⟩ [] rfl (by decide) rfl (wModel E a S) rfl (Nat.le_of_ble_eq_true rfl) dX7_lay_6 ⟨Nat.zero_le _, Nat.zero_le _⟩ _ rfl ?_
  refine z_if_ne C 14 (by decide) h dX7_lay_9 (fun hc h => ?_) (fun hc h => ?_)
  · refine z_iconst C (v := (-1 : Int32)) (by decide) dX7_lay_12 ?_
    obtain rfl := Option.some.inj h
    exact R rfl 13 _ dX7_lay_13
  · refine z_aload_n C 0 rfl rfl dX7_lay_14 ?_
    refine z_get C 0 rfl (C := RX7) (T := TX7) (N := 38) (ci := 7) rfl inw_X7_lay_X7 34 (by decide) (ref := "EldestAgeModel") (List.mem_of_getElem? (i := 2) rfl) rfl (v := .ref (a 14)) rfl dX7_lay_15 ?_
    refine z_iload_n C 1 rfl rfl dX7_lay_18 ?_
    refine z_iald C (N := 4) (f := (S 34)) 14 rfl h dX7_lay_19 (fun h => ?_)
    refine z_bipush C (v := (-4 : Int32)) (by decide) dX7_lay_20 ?_
    refine z_icmp_ne C 28 (by decide) h dX7_lay_22 (fun hc h => ?_) (fun hc h => ?_)
    · refine z_bipush C (v := (-11 : Int32)) (by decide) dX7_lay_25 ?_
      obtain rfl := Option.some.inj h
      exact R rfl 27 _ dX7_lay_27
    · refine z_iload_n C 2 rfl rfl dX7_lay_28 ?_
      refine z_i2l C dX7_lay_29 ?_
      refine z_lconst C (v := (0 : Int64)) (by decide) dX7_lay_30 ?_
      refine z_aload_n C 0 rfl rfl dX7_lay_31 ?_
      refine z_get C 0 rfl (C := RX7) (T := TX7) (N := 38) (ci := 7) rfl inw_X7_lay_X7 35 (by decide) (ref := "EldestAgeModel") (List.mem_of_getElem? (i := 3) rfl) rfl (v := .ref (a 15)) rfl dX7_lay_32 ?_
      refine z_iload_n C 1 rfl rfl dX7_lay_35 ?_
      refine z_iald C (N := 4) (f := (S 35)) 15 rfl h dX7_lay_36 (fun h => ?_)
      refine z_iconst C (v := (1 : Int32)) (by decide) dX7_lay_37 ?_
      refine z_isub C dX7_lay_38 ?_
      refine z_i2l C dX7_lay_39 ?_
      obtain ⟨q2, e2, h⟩ := bd_e h
      refine z_callSi C (rest := []) (c_X7_in E (Int32.toInt64 x2) (0 : Int64) (Int32.toInt64 ((S 35 (Int32.toNatClampNeg x1)) - (1 : Int32))) e2) gX7_lay_X7_in rfl rfl rfl 3 rfl (by decide +kernel) ⟨Nat.le_of_ble_eq_true rfl, Nat.le_of_ble_eq_true rfl⟩ [] rfl (by decide) rfl (wModel E a S) rfl (Nat.le_of_ble_eq_true rfl) dX7_lay_40 ⟨Nat.zero_le _, Nat.zero_le _⟩ _ rfl ?_
      refine z_if_ne C 49 (by decide) h dX7_lay_43 (fun hc h => ?_) (fun hc h => ?_)
      · refine z_bipush C (v := (-12 : Int32)) (by decide) dX7_lay_46 ?_
        obtain rfl := Option.some.inj h
        exact R rfl 48 _ dX7_lay_48
      · refine z_aload_n C 0 rfl rfl dX7_lay_49 ?_
        refine z_get C 0 rfl (C := RX7) (T := TX7) (N := 38) (ci := 7) rfl inw_X7_lay_X7 36 (by decide) (ref := "EldestAgeModel") (List.mem_of_getElem? (i := 4) rfl) rfl (v := .ref (a 16)) rfl dX7_lay_50 ?_
        refine z_bipush C (v := (40 : Int32)) (by decide) dX7_lay_53 ?_
        refine z_iload_n C 1 rfl rfl dX7_lay_55 ?_
        refine z_imul C dX7_lay_56 ?_
        refine z_iload_n C 2 rfl rfl dX7_lay_57 ?_
        refine z_iadd C dX7_lay_58 ?_
        refine z_aload_n C 0 rfl rfl dX7_lay_59 ?_
        refine z_get C 0 rfl (C := RX7) (T := TX7) (N := 38) (ci := 7) rfl inw_X7_lay_X7 34 (by decide) (ref := "EldestAgeModel") (List.mem_of_getElem? (i := 2) rfl) rfl (v := .ref (a 14)) rfl dX7_lay_60 ?_
        refine z_iload_n C 1 rfl rfl dX7_lay_63 ?_
        refine z_iald C (N := 4) (f := (S 34)) 14 rfl h dX7_lay_64 (fun h => ?_)
        refine z_if_ne C 78 (by decide) h dX7_lay_65 (fun hc h => ?_) (fun hc h => ?_)
        · refine z_iload_n C 3 rfl rfl dX7_lay_68 ?_
          refine z_bipush C (v := (24 : Int32)) (by decide) dX7_lay_69 ?_
          refine z_ishl C dX7_lay_71 ?_
          refine z_bipush C (v := (24 : Int32)) (by decide) dX7_lay_72 ?_
          refine z_ishr C dX7_lay_74 ?_
          refine z_goto C 99 (by decide) dX7_lay_75 ?_
          refine Zt_l [] [] rfl ?_
          exact L_X7_lay_99 a C R (((40 : Int32) * x1) + x2) ((x3 <<< ((24 : Int32) &&& 31)) >>> ((24 : Int32) &&& 31)) S h
        · refine z_aload_n C 0 rfl rfl dX7_lay_78 ?_
          refine z_get C 0 rfl (C := RX7) (T := TX7) (N := 38) (ci := 7) rfl inw_X7_lay_X7 34 (by decide) (ref := "EldestAgeModel") (List.mem_of_getElem? (i := 2) rfl) rfl (v := .ref (a 14)) rfl dX7_lay_79 ?_
          refine z_iload_n C 1 rfl rfl dX7_lay_82 ?_
          refine z_iald C (N := 4) (f := (S 34)) 14 rfl h dX7_lay_83 (fun h => ?_)
          refine z_iconst C (v := (1 : Int32)) (by decide) dX7_lay_84 ?_
          refine z_icmp_ne C 98 (by decide) h dX7_lay_85 (fun hc h => ?_) (fun hc h => ?_)
          · refine z_iload_n C 3 rfl rfl dX7_lay_88 ?_
            refine z_bipush C (v := (16 : Int32)) (by decide) dX7_lay_89 ?_
            refine z_ishl C dX7_lay_91 ?_
            refine z_bipush C (v := (16 : Int32)) (by decide) dX7_lay_92 ?_
            refine z_ishr C dX7_lay_94 ?_
            refine z_goto C 99 (by decide) dX7_lay_95 ?_
            refine Zt_l [] [] rfl ?_
            exact L_X7_lay_99 a C R (((40 : Int32) * x1) + x2) ((x3 <<< ((16 : Int32) &&& 31)) >>> ((16 : Int32) &&& 31)) S h
          · refine z_iload_n C 3 rfl rfl dX7_lay_98 ?_
            refine Zt_l [] [] rfl ?_
            exact L_X7_lay_99 a C R (((40 : Int32) * x1) + x2) x3 S h

theorem c_X7_lay (E : zEnv) (a : Nat → Nat) (x1 : Int32) (x2 : Int32) (x3 : Int32) (S : St) {res : (Int32 × St)} (h : f_X7_lay x1 x2 x3 S = some res) : Kti E yX7_lay wsX7_lay rm_X7_lay (wModel E a S) (wModel E a res.2) [.ref (a 0), .int x1, .int x2, .int x3] res.1 :=
  z_enti (cc := cX7_lay) (maxL := 4) (rt := .int) (by decide +kernel) rfl (Nat.le_of_ble_eq_true rfl) (fun Γ C R => L_X7_lay a C R x1 x2 x3 S h)

abbrev rm_X7_read : Room := { frames := 3, cells := 0, slots := 0, locals := 70 }
theorem inw_X7_read_X7 : ∀ w ∈ wsX70, w ∈ wsX7_read := fun _ h => List.mem_cons_of_mem _ (List.mem_append_right _ h)
set_option maxHeartbeats 4000000 in
theorem wl_X7_read_0 (E : zEnv) (a : Nat → Nat) (S : St) : ([0, 1, 2, 3, 4, 5, 6, 7, 8, 9, 10, 11, 12, 13, 14, 15, 16] : List Nat).map (fun i => (wModel E a S)[i]?) = (wModel E a S).map some := rfl
set_option maxHeartbeats 4000000 in
theorem wl_X7_read_1 (E : zEnv) (a : Nat → Nat) (S U : St) : (wModel E a U).map (fun q => q.1) = (wModel E a S).map (fun q => q.1) := rfl
set_option maxHeartbeats 4000000 in
theorem wl_X7_read_2 (E : zEnv) (a : Nat → Nat) (S U : St) : (wModel E a U) = zrep [0, 1, 2, 3, 4, 5, 6, 7, 8, 9, 10, 11, 12, 13, 14, 15, 16] (wModel E a U) (wModel E a S) := zrep_of (isR := []) 17 rfl [] rfl rfl rfl rfl (by decide +kernel) (by decide +kernel)
set_option maxHeartbeats 4000000 in
theorem wl_X7_read_3 (E : zEnv) (a : Nat → Nat) (S : St) (v : Int32) : (wModel E a (st 37 (fun _ => v) S)) = (wModel E a S).set 0 (a 0, .inr (7, List.set [.ref (a 1), .int (S 1 0), .ref (a 2), .int (S 3 0), .int (S 4 0), .int (S 5 0), .int (S 6 0), .int (S 7 0), .ref (a 3), .int (S 9 0), .int (S 10 0), .int (S 11 0), .int (S 12 0), .int (S 13 0), .int (S 14 0), .int (S 15 0), .int (S 16 0), .ref (a 4), .ref (a 5), .int (S 19 0), .int (S 20 0), .int (S 21 0), .int (S 22 0), .ref (a 6), .int (S 24 0), .ref (a 7), .int (S 26 0), .ref (a 8), .ref (a 9), .ref (a 10), .ref (a 11), .ref (a 12), .int (S 32 0), .ref (a 13), .ref (a 14), .ref (a 15), .ref (a 16), .int (S 37 0)] 37 (.int v))) := rfl
set_option maxHeartbeats 4000000 in
theorem wl_X7_read_4 (E : zEnv) (a : Nat → Nat) (S : St) (f : Nat → Int32) : (wModel E a (st 0 f S)) = (wModel E a S).set 1 (a 1, .inl (zI E, 368, .inl f)) := rfl
noncomputable def f_X7_read_215 (k60 : Int32 → Int32 → Int32 → Int32 → Int32 → Int32 → Int32 → Int32 → Int32 → St → Option (Int32 × St)) (x1 : Int32) (x2 : Int32) (x3 : Int32) (x4 : Int32) (x5 : Int32) (x6 : Int32) (x7 : Int32) (x8 : Int32) (x9 : Int32) (S : St) : Option (Int32 × St) := (k60 x1 x2 x3 x4 x5 x6 x7 x8 (x9 + (1 : Int32)) S)
noncomputable def f_X7_read_212 (k60 : Int32 → Int32 → Int32 → Int32 → Int32 → Int32 → Int32 → Int32 → Int32 → St → Option (Int32 × St)) (x1 : Int32) (x2 : Int32) (x3 : Int32) (x4 : Int32) (x5 : Int32) (x6 : Int32) (x8 : Int32) (x9 : Int32) (y0 : Int32) (y1 : Int32) (S : St) : Option (Int32 × St) := (f_X7_read_215 k60 x1 x2 x3 x4 x5 x6 (y0 + y1) x8 x9 S)
noncomputable def f_X7_read_198 (k60 : Int32 → Int32 → Int32 → Int32 → Int32 → Int32 → Int32 → Int32 → Int32 → St → Option (Int32 × St)) (x1 : Int32) (x2 : Int32) (x3 : Int32) (x4 : Int32) (x5 : Int32) (x6 : Int32) (x7 : Int32) (x9 : Int32) (y0 : Int32) (S : St) : Option (Int32 × St) := (if y0 = 0 then (f_X7_read_212 k60 x1 x2 x3 x4 x5 x6 y0 x9 x7 (1 : Int32) S) else (f_X7_read_212 k60 x1 x2 x3 x4 x5 x6 y0 x9 x7 (0 : Int32) S))
noncomputable def f_X7_read_135 (k60 : Int32 → Int32 → Int32 → Int32 → Int32 → Int32 → Int32 → Int32 → Int32 → St → Option (Int32 × St)) (x1 : Int32) (x2 : Int32) (x3 : Int32) (x4 : Int32) (x5 : Int32) (x7 : Int32) (x8 : Int32) (x9 : Int32) (y0 : Int32) (S : St) : Option (Int32 × St) := (if y0 = 0 then (if (zrem x9 (3 : Int32)) = (2 : Int32) then (ix (((((40 : Int32) * x1) + x3) + x9) - (2 : Int32)) 160 (ix (((((40 : Int32) * x1) + x3) + x9) - (1 : Int32)) 160 (ix ((((40 : Int32) * x1) + x3) + x9) 160 ((f_X7_moves (S 36 (Int32.toNatClampNeg (((((40 : Int32) * x1) + x3) + x9) - (2 : Int32)))) (S 36 (Int32.toNatClampNeg (((((40 : Int32) * x1) + x3) + x9) - (1 : Int32)))) (S 36 (Int32.toNatClampNeg ((((40 : Int32) * x1) + x3) + x9))) S).bind (fun q1 => (if 0 ≤ q1.1 then (f_X7_read_198 k60 x1 x2 x3 x4 x5 y0 x7 x9 (0 : Int32) q1.2) else (f_X7_read_198 k60 x1 x2 x3 x4 x5 y0 x7 x9 (1 : Int32) q1.2))))))) else (f_X7_read_215 k60 x1 x2 x3 x4 x5 y0 x7 x8 x9 S)) else (f_X7_read_215 k60 x1 x2 x3 x4 x5 y0 x7 x8 x9 S))
noncomputable def f_X7_read_221 (x5 : Int32) (x6 : Int32) (x7 : Int32) (x8 : Int32) (S : St) : Option (Int32 × St) := (if x8 = 0 then (some (x7, (st 37 (fun _ => x6) S))) else (ix (89 : Int32) 368 (some (((-20 : Int32) - x7), (st 0 (upd (S 0) (Int32.toNatClampNeg (89 : Int32)) x5) S)))))
noncomputable def f_X7_read_60 (n : Nat) : Int32 → Int32 → Int32 → Int32 → Int32 → Int32 → Int32 → Int32 → Int32 → St → Option (Int32 × St) := Nat.rec (motive := fun _ => Int32 → Int32 → Int32 → Int32 → Int32 → Int32 → Int32 → Int32 → Int32 → St → Option (Int32 × St)) (fun _ _ _ _ _ _ _ _ _ _ => none) (fun _ ih => fun x1 x2 x3 x4 x5 x6 x7 x8 x9 S => (if ((3 : Int32) * x4) ≤ x9 then (f_X7_read_221 x5 x6 x7 x8 S) else (if x6 = 0 then (if x8 = 0 then (ix x1 4 (if (S 34 (Int32.toNatClampNeg x1)) = (-4 : Int32) then (f_X7_read_135 ih x1 x2 x3 x4 x5 x7 x8 x9 (1 : Int32) S) else (ix x1 4 (if (S 34 (Int32.toNatClampNeg x1)) = x2 then (ix x1 4 ((f_X7_in ((Int32.toInt64 x3) + (Int32.toInt64 x9)) (0 : Int64) (Int32.toInt64 ((S 35 (Int32.toNatClampNeg x1)) - (1 : Int32)))).bind (fun q2 => (if q2 = 0 then (f_X7_read_135 ih x1 x2 x3 x4 x5 x7 x8 x9 (2 : Int32) S) else (f_X7_read_135 ih x1 x2 x3 x4 x5 x7 x8 x9 (0 : Int32) S))))) else (f_X7_read_135 ih x1 x2 x3 x4 x5 x7 x8 x9 (3 : Int32) S))))) else (f_X7_read_221 x5 x6 x7 x8 S)) else (f_X7_read_221 x5 x6 x7 x8 S)))) n
theorem f_X7_read_60_s (n : Nat) (x1 : Int32) (x2 : Int32) (x3 : Int32) (x4 : Int32) (x5 : Int32) (x6 : Int32) (x7 : Int32) (x8 : Int32) (x9 : Int32) (S : St) : f_X7_read_60 (n + 1) x1 x2 x3 x4 x5 x6 x7 x8 x9 S = (if ((3 : Int32) * x4) ≤ x9 then (f_X7_read_221 x5 x6 x7 x8 S) else (if x6 = 0 then (if x8 = 0 then (ix x1 4 (if (S 34 (Int32.toNatClampNeg x1)) = (-4 : Int32) then (f_X7_read_135 (f_X7_read_60 n) x1 x2 x3 x4 x5 x7 x8 x9 (1 : Int32) S) else (ix x1 4 (if (S 34 (Int32.toNatClampNeg x1)) = x2 then (ix x1 4 ((f_X7_in ((Int32.toInt64 x3) + (Int32.toInt64 x9)) (0 : Int64) (Int32.toInt64 ((S 35 (Int32.toNatClampNeg x1)) - (1 : Int32)))).bind (fun q2 => (if q2 = 0 then (f_X7_read_135 (f_X7_read_60 n) x1 x2 x3 x4 x5 x7 x8 x9 (2 : Int32) S) else (f_X7_read_135 (f_X7_read_60 n) x1 x2 x3 x4 x5 x7 x8 x9 (0 : Int32) S))))) else (f_X7_read_135 (f_X7_read_60 n) x1 x2 x3 x4 x5 x7 x8 x9 (3 : Int32) S))))) else (f_X7_read_221 x5 x6 x7 x8 S)) else (f_X7_read_221 x5 x6 x7 x8 S))) := rfl
noncomputable def f_X7_read (x1 : Int32) (x2 : Int32) (x3 : Int32) (x4 : Int32) (S : St) : Option (Int32 × St) := ((f_X7_in (Int32.toInt64 x1) (0 : Int64) (3 : Int64)).bind (fun q3 => (if q3 = 0 then (some ((-1 : Int32), S)) else ((f_X7_in (Int32.toInt64 x2) (0 : Int64) (2 : Int64)).bind (fun q4 => (if q4 = 0 then (some ((-1 : Int32), S)) else ((f_X7_in (Int32.toInt64 x4) (0 : Int64) (13 : Int64)).bind (fun q5 => (if q5 = 0 then (some ((-1 : Int32), S)) else (ix (89 : Int32) 368 (f_X7_read_60 1000 x1 x2 x3 x4 (S 0 (Int32.toNatClampNeg (89 : Int32))) (0 : Int32) (0 : Int32) (0 : Int32) (0 : Int32) S)))))))))))
set_option maxHeartbeats 4000000 in
set_option maxRecDepth 100000 in
theorem L_X7_read_215 {E : zEnv} {Γ : zG} (a : Nat → Nat) (C : zC E Γ cX7_read RX7 11 rm_X7_read wsX7_read) {res : (Int32 × St)} (R : zRi E Γ cX7_read 11 .int (wModel E a res.2) res.1) (k60 : Int32 → Int32 → Int32 → Int32 → Int32 → Int32 → Int32 → Int32 → Int32 → St → Option (Int32 × St)) (hk60 : ∀ (x1 : Int32) (x2 : Int32) (x3 : Int32) (x4 : Int32) (x5 : Int32) (x6 : Int32) (x7 : Int32) (x8 : Int32) (x9 : Int32) (S : St), k60 x1 x2 x3 x4 x5 x6 x7 x8 x9 S = some res → Zt E Γ 11 0 0 (wModel E a S) [(0, .ref (a 0)), (1, .int x1), (2, .int x2), (3, .int x3), (4, .int x4), (5, .int x5), (6, .int x6), (7, .int x7), (8, .int x8), (9, .int x9)] 60 []) (x1 : Int32) (x2 : Int32) (x3 : Int32) (x4 : Int32) (x5 : Int32) (x6 : Int32) (x7 : Int32) (x8 : Int32) (x9 : Int32) (S : St) (h : f_X7_read_215 k60 x1 x2 x3 x4 x5 x6 x7 x8 x9 S = some res) : Zt E Γ 11 0 0 (wModel E a S) [(0, .ref (a 0)), (1, .int x1), (2, .int x2), (3, .int x3), (4, .int x4), (5, .int x5), (6, .int x6), (7, .int x7), (8, .int x8), (9, .int x9)] 215 [] := by
  unfold f_X7_read_215 at h
  refine z_iinc C [(9, .int (x9 + (1 : Int32))), (0, .ref (a 0)), (1, .int x1), (2, .int x2), (3, .int x3), (4, .int x4), (5, .int x5), (6, .int x6), (7, .int x7), (8, .int x8)] 9 rfl (by first | rfl | decide) (by decide) rfl dX7_read_215 ?_
  refine z_goto C 60 (by decide) dX7_read_218 ?_
  refine Zt_l [(0, .ref (a 0)), (1, .int x1), (2, .int x2), (3, .int x3), (4, .int x4), (5, .int x5), (6, .int x6), (7, .int x7), (8, .int x8), (9, .int (x9 + (1 : Int32)))] [1, 2, 3, 4, 5, 6, 7, 8, 9, 0] rfl ?_
  exact hk60 x1 x2 x3 x4 x5 x6 x7 x8 (x9 + (1 : Int32)) S h

set_option maxHeartbeats 4000000 in
set_option maxRecDepth 100000 in
theorem L_X7_read_212 {E : zEnv} {Γ : zG} (a : Nat → Nat) (C : zC E Γ cX7_read RX7 11 rm_X7_read wsX7_read) {res : (Int32 × St)} (R : zRi E Γ cX7_read 11 .int (wModel E a res.2) res.1) (k60 : Int32 → Int32 → Int32 → Int32 → Int32 → Int32 → Int32 → Int32 → Int32 → St → Option (Int32 × St)) (hk60 : ∀ (x1 : Int32) (x2 : Int32) (x3 : Int32) (x4 : Int32) (x5 : Int32) (x6 : Int32) (x7 : Int32) (x8 : Int32) (x9 : Int32) (S : St), k60 x1 x2 x3 x4 x5 x6 x7 x8 x9 S = some res → Zt E Γ 11 0 0 (wModel E a S) [(0, .ref (a 0)), (1, .int x1), (2, .int x2), (3, .int x3), (4, .int x4), (5, .int x5), (6, .int x6), (7, .int x7), (8, .int x8), (9, .int x9)] 60 []) (x1 : Int32) (x2 : Int32) (x3 : Int32) (x4 : Int32) (x5 : Int32) (x6 : Int32) (x8 : Int32) (x9 : Int32) (y0 : Int32) (y1 : Int32) (S : St) (h : f_X7_read_212 k60 x1 x2 x3 x4 x5 x6 x8 x9 y0 y1 S = some res) : Zt E Γ 11 0 0 (wModel E a S) [(0, .ref (a 0)), (1, .int x1), (2, .int x2), (3, .int x3), (4, .int x4), (5, .int x5), (6, .int x6), (8, .int x8), (9, .int x9)] 212 [.int y1, .int y0] := by
  unfold f_X7_read_212 at h
  refine z_iadd C dX7_read_212 ?_
  refine z_istore C [(7, .int (y0 + y1)), (0, .ref (a 0)), (1, .int x1), (2, .int x2), (3, .int x3), (4, .int x4), (5, .int x5), (6, .int x6), (8, .int x8), (9, .int x9)] (by decide) rfl dX7_read_213 ?_
  refine Zt_l [(0, .ref (a 0)), (1, .int x1), (2, .int x2), (3, .int x3), (4, .int x4), (5, .int x5), (6, .int x6), (7, .int (y0 + y1)), (8, .int x8), (9, .int x9)] [1, 2, 3, 4, 5, 6, 7, 0, 8, 9] rfl ?_
  exact L_X7_read_215 a C R k60 hk60 x1 x2 x3 x4 x5 x6 (y0 + y1) x8 x9 S h

set_option maxHeartbeats 4000000 in
set_option maxRecDepth 100000 in
theorem L_X7_read_198 {E : zEnv} {Γ : zG} (a : Nat → Nat) (C : zC E Γ cX7_read RX7 11 rm_X7_read wsX7_read) {res : (Int32 × St)} (R : zRi E Γ cX7_read 11 .int (wModel E a res.2) res.1) (k60 : Int32 → Int32 → Int32 → Int32 → Int32 → Int32 → Int32 → Int32 → Int32 → St → Option (Int32 × St)) (hk60 : ∀ (x1 : Int32) (x2 : Int32) (x3 : Int32) (x4 : Int32) (x5 : Int32) (x6 : Int32) (x7 : Int32) (x8 : Int32) (x9 : Int32) (S : St), k60 x1 x2 x3 x4 x5 x6 x7 x8 x9 S = some res → Zt E Γ 11 0 0 (wModel E a S) [(0, .ref (a 0)), (1, .int x1), (2, .int x2), (3, .int x3), (4, .int x4), (5, .int x5), (6, .int x6), (7, .int x7), (8, .int x8), (9, .int x9)] 60 []) (x1 : Int32) (x2 : Int32) (x3 : Int32) (x4 : Int32) (x5 : Int32) (x6 : Int32) (x7 : Int32) (x9 : Int32) (y0 : Int32) (S : St) (h : f_X7_read_198 k60 x1 x2 x3 x4 x5 x6 x7 x9 y0 S = some res) : Zt E Γ 11 0 0 (wModel E a S) [(0, .ref (a 0)), (1, .int x1), (2, .int x2), (3, .int x3), (4, .int x4), (5, .int x5), (6, .int x6), (7, .int x7), (9, .int x9)] 198 [.int y0] := by
  unfold f_X7_read_198 at h
  refine z_istore C [(8, .int y0), (0, .ref (a 0)), (1, .int x1), (2, .int x2), (3, .int x3), (4, .int x4), (5, .int x5), (6, .int x6), (7, .int x7), (9, .int x9)] (by decide) rfl dX7_read_198 ?_
  refine z_iload C 8 rfl dX7_read_200 ?_
  refine z_iload C 0 rfl dX7_read_202 ?_
  refine z_if_eq C 211 (by decide) h dX7_read_204 (fun hc h => ?_) (fun hc h => ?_)
  · refine z_iconst C (v := (1 : Int32)) (by decide) dX7_read_211 ?_
    refine Zt_l [(0, .ref (a 0)), (1, .int x1), (2, .int x2), (3, .int x3), (4, .int x4), (5, .int x5), (6, .int x6), (8, .int y0), (9, .int x9)] [1, 2, 3, 4, 5, 6, 7, 0, 9] rfl ?_
    exact L_X7_read_212 a C R k60 hk60 x1 x2 x3 x4 x5 x6 y0 x9 x7 (1 : Int32) S h
  · refine z_iconst C (v := (0 : Int32)) (by decide) dX7_read_207 ?_
    refine z_goto C 212 (by decide) dX7_read_208 ?_
    refine Zt_l [(0, .ref (a 0)), (1, .int x1), (2, .int x2), (3, .int x3), (4, .int x4), (5, .int x5), (6, .int x6), (8, .int y0), (9, .int x9)] [1, 2, 3, 4, 5, 6, 7, 0, 9] rfl ?_
    exact L_X7_read_212 a C R k60 hk60 x1 x2 x3 x4 x5 x6 y0 x9 x7 (0 : Int32) S h

set_option maxHeartbeats 4000000 in
set_option maxRecDepth 100000 in
theorem L_X7_read_135 {E : zEnv} {Γ : zG} (a : Nat → Nat) (C : zC E Γ cX7_read RX7 11 rm_X7_read wsX7_read) {res : (Int32 × St)} (R : zRi E Γ cX7_read 11 .int (wModel E a res.2) res.1) (k60 : Int32 → Int32 → Int32 → Int32 → Int32 → Int32 → Int32 → Int32 → Int32 → St → Option (Int32 × St)) (hk60 : ∀ (x1 : Int32) (x2 : Int32) (x3 : Int32) (x4 : Int32) (x5 : Int32) (x6 : Int32) (x7 : Int32) (x8 : Int32) (x9 : Int32) (S : St), k60 x1 x2 x3 x4 x5 x6 x7 x8 x9 S = some res → Zt E Γ 11 0 0 (wModel E a S) [(0, .ref (a 0)), (1, .int x1), (2, .int x2), (3, .int x3), (4, .int x4), (5, .int x5), (6, .int x6), (7, .int x7), (8, .int x8), (9, .int x9)] 60 []) (x1 : Int32) (x2 : Int32) (x3 : Int32) (x4 : Int32) (x5 : Int32) (x7 : Int32) (x8 : Int32) (x9 : Int32) (y0 : Int32) (S : St) (h : f_X7_read_135 k60 x1 x2 x3 x4 x5 x7 x8 x9 y0 S = some res) : Zt E Γ 11 0 0 (wModel E a S) [(0, .ref (a 0)), (1, .int x1), (2, .int x2), (3, .int x3), (4, .int x4), (5, .int x5), (7, .int x7), (8, .int x8), (9, .int x9)] 135 [.int y0] := by
  unfold f_X7_read_135 at h
  refine z_istore C [(6, .int y0), (0, .ref (a 0)), (1, .int x1), (2, .int x2), (3, .int x3), (4, .int x4), (5, .int x5), (7, .int x7), (8, .int x8), (9, .int x9)] (by decide) rfl dX7_read_135 ?_
  refine z_iload C 0 rfl dX7_read_137 ?_
  refine z_if_ne C 215 (by decide) h dX7_read_139 (fun hc h => ?_) (fun hc h => ?_)
  · refine z_iload C 9 rfl dX7_read_142 ?_
    refine z_iconst C (v := (3 : Int32)) (by decide) dX7_read_144 ?_
    refine z_irem C (by decide) dX7_read_145 ?_
    refine z_iconst C (v := (2 : Int32)) (by decide) dX7_read_146 ?_
    refine z_icmp_ne C 215 (by decide) h dX7_read_147 (fun hc h => ?_) (fun hc h => ?_)
    · refine z_bipush C (v := (40 : Int32)) (by decide) dX7_read_150 ?_
      refine z_iload_n C 2 rfl rfl dX7_read_152 ?_
      refine z_imul C dX7_read_153 ?_
      refine z_iload_n C 4 rfl rfl dX7_read_154 ?_
      refine z_iadd C dX7_read_155 ?_
      refine z_iload C 9 rfl dX7_read_156 ?_
      refine z_iadd C dX7_read_158 ?_
      refine z_istore C [(10, .int ((((40 : Int32) * x1) + x3) + x9)), (6, .int y0), (0, .ref (a 0)), (1, .int x1), (2, .int x2), (3, .int x3), (4, .int x4), (5, .int x5), (7, .int x7), (8, .int x8), (9, .int x9)] (by decide) rfl dX7_read_159 ?_
      refine z_aload_n C 2 rfl rfl dX7_read_161 ?_
      refine z_aload_n C 2 rfl rfl dX7_read_162 ?_
      refine z_get C 0 rfl (C := RX7) (T := TX7) (N := 38) (ci := 7) rfl inw_X7_read_X7 36 (by decide) (ref := "EldestAgeModel") (List.mem_of_getElem? (i := 7) rfl) rfl (v := .ref (a 16)) rfl dX7_read_163 ?_
      refine z_iload C 0 rfl dX7_read_166 ?_
      refine z_iconst C (v := (2 : Int32)) (by decide) dX7_read_168 ?_
      refine z_isub C dX7_read_169 ?_
      refine z_iald C (N := 160) (f := (S 36)) 16 rfl h dX7_read_170 (fun h => ?_)
      refine z_aload_n C 2 rfl rfl dX7_read_171 ?_
      refine z_get C 0 rfl (C := RX7) (T := TX7) (N := 38) (ci := 7) rfl inw_X7_read_X7 36 (by decide) (ref := "EldestAgeModel") (List.mem_of_getElem? (i := 7) rfl) rfl (v := .ref (a 16)) rfl dX7_read_172 ?_
      refine z_iload C 0 rfl dX7_read_175 ?_
      refine z_iconst C (v := (1 : Int32)) (by decide) dX7_read_177 ?_
      refine z_isub C dX7_read_178 ?_
      refine z_iald C (N := 160) (f := (S 36)) 16 rfl h dX7_read_179 (fun h => ?_)
      refine z_aload_n C 2 rfl rfl dX7_read_180 ?_
      refine z_get C 0 rfl (C := RX7) (T := TX7) (N := 38) (ci := 7) rfl inw_X7_read_X7 36 (by decide) (ref := "EldestAgeModel") (List.mem_of_getElem? (i := 7) rfl) rfl (v := .ref (a 16)) rfl dX7_read_181 ?_
      refine z_iload C 0 rfl dX7_read_184 ?_
      refine z_iald C (N := 160) (f := (S 36)) 16 rfl h dX7_read_186 (fun h => ?_)
      obtain ⟨q1, e1, h⟩ := bd_e h
      refine z_callVi C (b := a 0) (As := [.int (S 36 (Int32.toNatClampNeg (((((40 : Int32) * x1) + x3) + x9) - (2 : Int32)))), .int (S 36 (Int32.toNatClampNeg (((((40 : Int32) * x1) + x3) + x9) - (1 : Int32)))), .int (S 36 (Int32.toNatClampNeg ((((40 : Int32) * x1) + x3) + x9)))]) (rest := []) (c_X7_moves E a (S 36 (Int32.toNatClampNeg (((((40 : Int32) * x1) + x3) + x9) - (2 : Int32)))) (S 36 (Int32.toNatClampNeg (((((40 : Int32) * x1) + x3) + x9) - (1 : Int32)))) (S 36 (Int32.toNatClampNeg ((((40 : Int32) * x1) + x3) + x9))) S e1) rfl gX7_read_X7_moves rfl rfl rfl 3 rfl (by decide +kernel) ⟨Nat.le_of_ble_eq_true rfl, Nat.le_of_ble_eq_true rfl⟩ [0, 1, 2, 3, 4, 5, 6, 7, 8, 9, 10, 11, 12, 13, 14, 15, 16] (wl_X7_read_0 E a S) (by decide) (wl_X7_read_1 E a _ _) (wModel E a q1.2) (wl_X7_read_2 E a S q1.2) 0 7 rfl rfl rfl (Nat.le_of_ble_eq_true rfl) dX7_read_187 ⟨Nat.zero_le _, Nat.zero_le _⟩ _ rfl ?_
      refine z_if_ge C 197 (by decide) h dX7_read_190 (fun hc h => ?_) (fun hc h => ?_)
      · refine z_iconst C (v := (0 : Int32)) (by decide) dX7_read_197 ?_
        refine Zt_l [(0, .ref (a 0)), (1, .int x1), (2, .int x2), (3, .int x3), (4, .int x4), (5, .int x5), (6, .int y0), (7, .int x7), (9, .int x9)] [2, 3, 4, 5, 6, 7, 1, 8, 10] rfl ?_
        exact L_X7_read_198 a C R k60 hk60 x1 x2 x3 x4 x5 y0 x7 x9 (0 : Int32) q1.2 h
      · refine z_iconst C (v := (1 : Int32)) (by decide) dX7_read_193 ?_
        refine z_goto C 198 (by decide) dX7_read_194 ?_
        refine Zt_l [(0, .ref (a 0)), (1, .int x1), (2, .int x2), (3, .int x3), (4, .int x4), (5, .int x5), (6, .int y0), (7, .int x7), (9, .int x9)] [2, 3, 4, 5, 6, 7, 1, 8, 10] rfl ?_
        exact L_X7_read_198 a C R k60 hk60 x1 x2 x3 x4 x5 y0 x7 x9 (1 : Int32) q1.2 h
    · refine Zt_l [(0, .ref (a 0)), (1, .int x1), (2, .int x2), (3, .int x3), (4, .int x4), (5, .int x5), (6, .int y0), (7, .int x7), (8, .int x8), (9, .int x9)] [1, 2, 3, 4, 5, 6, 0, 7, 8, 9] rfl ?_
      exact L_X7_read_215 a C R k60 hk60 x1 x2 x3 x4 x5 y0 x7 x8 x9 S h
  · refine Zt_l [(0, .ref (a 0)), (1, .int x1), (2, .int x2), (3, .int x3), (4, .int x4), (5, .int x5), (6, .int y0), (7, .int x7), (8, .int x8), (9, .int x9)] [1, 2, 3, 4, 5, 6, 0, 7, 8, 9] rfl ?_
    exact L_X7_read_215 a C R k60 hk60 x1 x2 x3 x4 x5 y0 x7 x8 x9 S h

set_option maxHeartbeats 4000000 in
set_option maxRecDepth 100000 in
theorem L_X7_read_221 {E : zEnv} {Γ : zG} (a : Nat → Nat) (C : zC E Γ cX7_read RX7 11 rm_X7_read wsX7_read) {res : (Int32 × St)} (R : zRi E Γ cX7_read 11 .int (wModel E a res.2) res.1) (x5 : Int32) (x6 : Int32) (x7 : Int32) (x8 : Int32) (S : St) (h : f_X7_read_221 x5 x6 x7 x8 S = some res) : Zt E Γ 11 0 0 (wModel E a S) [(0, .ref (a 0)), (5, .int x5), (6, .int x6), (7, .int x7), (8, .int x8)] 221 [] := by
  unfold f_X7_read_221 at h
  refine z_iload C 4 rfl dX7_read_221 ?_
  refine z_if_eq C 241 (by decide) h dX7_read_223 (fun hc h => ?_) (fun hc h => ?_)
  · refine z_aload_n C 0 rfl rfl dX7_read_241 ?_
    refine z_iload C 2 rfl dX7_read_242 ?_
    refine z_put C 0 rfl (C := RX7) (T := TX7) (N := 38) (ci := 7) rfl inw_X7_read_X7 tyX7 tyX7_ok nmX7 37 (by decide) (ref := "EldestAgeModel") (List.mem_of_getElem? (i := 8) rfl) rfl rfl (ty := .int) (v := .int x6) (by decide +kernel) rfl rfl (Nat.le_of_ble_eq_true rfl) (wModel E a (st 37 (fun _ => x6) S)) (wl_X7_read_3 E a S x6) dX7_read_244 ?_
    refine z_iload C 3 rfl dX7_read_247 ?_
    obtain rfl := Option.some.inj h
    exact R rfl 249 _ dX7_read_249
  · refine z_aload_n C 0 rfl rfl dX7_read_226 ?_
    refine z_get C 0 rfl (C := RX7) (T := TX7) (N := 38) (ci := 7) rfl inw_X7_read_X7 0 (by decide) (ref := "EldestAgeModel") (List.mem_of_getElem? (i := 4) rfl) rfl (v := .ref (a 1)) rfl dX7_read_227 ?_
    refine z_bipush C (v := (89 : Int32)) (by decide) dX7_read_230 ?_
    refine z_iload C 1 rfl dX7_read_232 ?_
    refine z_iast C (N := 368) (f := (S 0)) 1 rfl h (wModel E a (st 0 (upd (S 0) (Int32.toNatClampNeg (89 : Int32)) x5) S)) (wl_X7_read_4 E a S (upd (S 0) (Int32.toNatClampNeg (89 : Int32)) x5)) dX7_read_234 (fun h => ?_)
    refine z_bipush C (v := (-20 : Int32)) (by decide) dX7_read_235 ?_
    refine z_iload C 3 rfl dX7_read_237 ?_
    refine z_isub C dX7_read_239 ?_
    obtain rfl := Option.some.inj h
    exact R rfl 240 _ dX7_read_240

set_option maxHeartbeats 4000000 in
set_option maxRecDepth 100000 in
theorem L_X7_read_60 {E : zEnv} {Γ : zG} (a : Nat → Nat) (C : zC E Γ cX7_read RX7 11 rm_X7_read wsX7_read) {res : (Int32 × St)} (R : zRi E Γ cX7_read 11 .int (wModel E a res.2) res.1) : ∀ (n : Nat) (x1 : Int32) (x2 : Int32) (x3 : Int32) (x4 : Int32) (x5 : Int32) (x6 : Int32) (x7 : Int32) (x8 : Int32) (x9 : Int32) (S : St), f_X7_read_60 n x1 x2 x3 x4 x5 x6 x7 x8 x9 S = some res → Zt E Γ 11 0 0 (wModel E a S) [(0, .ref (a 0)), (1, .int x1), (2, .int x2), (3, .int x3), (4, .int x4), (5, .int x5), (6, .int x6), (7, .int x7), (8, .int x8), (9, .int x9)] 60 [] := by
  intro n
  induction n with
  | zero =>
    intro x1 x2 x3 x4 x5 x6 x7 x8 x9 S h
    cases h
  | succ n ih =>
    intro x1 x2 x3 x4 x5 x6 x7 x8 x9 S h
    rw [f_X7_read_60_s] at h
    refine z_iload C 9 rfl dX7_read_60 ?_
    refine z_iconst C (v := (3 : Int32)) (by decide) dX7_read_62 ?_
    refine z_iload C 4 rfl dX7_read_63 ?_
    refine z_imul C dX7_read_65 ?_
    refine z_icmp_ge C 221 (by decide) h dX7_read_66 (fun hc h => ?_) (fun hc h => ?_)
    · refine Zt_l [(0, .ref (a 0)), (5, .int x5), (6, .int x6), (7, .int x7), (8, .int x8)] [0, 5, 6, 7, 8] rfl ?_
      exact L_X7_read_221 a C R x5 x6 x7 x8 S h
    · refine z_iload C 6 rfl dX7_read_69 ?_
      refine z_if_ne C 221 (by decide) h dX7_read_71 (fun hc h => ?_) (fun hc h => ?_)
      · refine z_iload C 8 rfl dX7_read_74 ?_
        refine z_if_ne C 221 (by decide) h dX7_read_76 (fun hc h => ?_) (fun hc h => ?_)
        · refine z_aload_n C 0 rfl rfl dX7_read_79 ?_
          refine z_get C 0 rfl (C := RX7) (T := TX7) (N := 38) (ci := 7) rfl inw_X7_read_X7 34 (by decide) (ref := "EldestAgeModel") (List.mem_of_getElem? (i := 5) rfl) rfl (v := .ref (a 14)) rfl dX7_read_80 ?_
          refine z_iload_n C 1 rfl rfl dX7_read_83 ?_
          refine z_iald C (N := 4) (f := (S 34)) 14 rfl h dX7_read_84 (fun h => ?_)
          refine z_bipush C (v := (-4 : Int32)) (by decide) dX7_read_85 ?_
          refine z_icmp_ne C 94 (by decide) h dX7_read_87 (fun hc h => ?_) (fun hc h => ?_)
          · refine z_iconst C (v := (1 : Int32)) (by decide) dX7_read_90 ?_
            refine z_goto C 135 (by decide) dX7_read_91 ?_
            refine Zt_l [(0, .ref (a 0)), (1, .int x1), (2, .int x2), (3, .int x3), (4, .int x4), (5, .int x5), (7, .int x7), (8, .int x8), (9, .int x9)] [0, 1, 2, 3, 4, 5, 7, 8, 9] rfl ?_
            exact L_X7_read_135 a C R _ ih x1 x2 x3 x4 x5 x7 x8 x9 (1 : Int32) S h
          · refine z_aload_n C 0 rfl rfl dX7_read_94 ?_
            refine z_get C 0 rfl (C := RX7) (T := TX7) (N := 38) (ci := 7) rfl inw_X7_read_X7 34 (by decide) (ref := "EldestAgeModel") (List.mem_of_getElem? (i := 5) rfl) rfl (v := .ref (a 14)) rfl dX7_read_95 ?_
            refine z_iload_n C 1 rfl rfl dX7_read_98 ?_
            refine z_iald C (N := 4) (f := (S 34)) 14 rfl h dX7_read_99 (fun h => ?_)
            refine z_iload_n C 2 rfl rfl dX7_read_100 ?_
            refine z_icmp_eq C 108 (by decide) h dX7_read_101 (fun hc h => ?_) (fun hc h => ?_)
            · refine z_iload_n C 3 rfl rfl dX7_read_108 ?_
              refine z_i2l C dX7_read_109 ?_
              refine z_iload C 9 rfl dX7_read_110 ?_
              refine z_i2l C dX7_read_112 ?_
              refine z_ladd C dX7_read_113 ?_
              refine z_lconst C (v := (0 : Int64)) (by decide) dX7_read_114 ?_
              refine z_aload_n C 0 rfl rfl dX7_read_115 ?_
              refine z_get C 0 rfl (C := RX7) (T := TX7) (N := 38) (ci := 7) rfl inw_X7_read_X7 35 (by decide) (ref := "EldestAgeModel") (List.mem_of_getElem? (i := 6) rfl) rfl (v := .ref (a 15)) rfl dX7_read_116 ?_
              refine z_iload_n C 1 rfl rfl dX7_read_119 ?_
              refine z_iald C (N := 4) (f := (S 35)) 15 rfl h dX7_read_120 (fun h => ?_)
              refine z_iconst C (v := (1 : Int32)) (by decide) dX7_read_121 ?_
              refine z_isub C dX7_read_122 ?_
              refine z_i2l C dX7_read_123 ?_
              obtain ⟨q2, e2, h⟩ := bd_e h
              refine z_callSi C (rest := []) (c_X7_in E ((Int32.toInt64 x3) + (Int32.toInt64 x9)) (0 : Int64) (Int32.toInt64 ((S 35 (Int32.toNatClampNeg x1)) - (1 : Int32))) e2) gX7_read_X7_in rfl rfl rfl 3 rfl (by decide +kernel) ⟨Nat.le_of_ble_eq_true rfl, Nat.le_of_ble_eq_true rfl⟩ [] rfl (by decide) rfl (wModel E a S) rfl (Nat.le_of_ble_eq_true rfl) dX7_read_124 ⟨Nat.zero_le _, Nat.zero_le _⟩ _ rfl ?_
              refine z_if_ne C 134 (by decide) h dX7_read_127 (fun hc h => ?_) (fun hc h => ?_)
              · refine z_iconst C (v := (2 : Int32)) (by decide) dX7_read_130 ?_
                refine z_goto C 135 (by decide) dX7_read_131 ?_
                refine Zt_l [(0, .ref (a 0)), (1, .int x1), (2, .int x2), (3, .int x3), (4, .int x4), (5, .int x5), (7, .int x7), (8, .int x8), (9, .int x9)] [0, 1, 2, 3, 4, 5, 7, 8, 9] rfl ?_
                exact L_X7_read_135 a C R _ ih x1 x2 x3 x4 x5 x7 x8 x9 (2 : Int32) S h
              · refine z_iconst C (v := (0 : Int32)) (by decide) dX7_read_134 ?_
                refine Zt_l [(0, .ref (a 0)), (1, .int x1), (2, .int x2), (3, .int x3), (4, .int x4), (5, .int x5), (7, .int x7), (8, .int x8), (9, .int x9)] [0, 1, 2, 3, 4, 5, 7, 8, 9] rfl ?_
                exact L_X7_read_135 a C R _ ih x1 x2 x3 x4 x5 x7 x8 x9 (0 : Int32) S h
            · refine z_iconst C (v := (3 : Int32)) (by decide) dX7_read_104 ?_
              refine z_goto C 135 (by decide) dX7_read_105 ?_
              refine Zt_l [(0, .ref (a 0)), (1, .int x1), (2, .int x2), (3, .int x3), (4, .int x4), (5, .int x5), (7, .int x7), (8, .int x8), (9, .int x9)] [0, 1, 2, 3, 4, 5, 7, 8, 9] rfl ?_
              exact L_X7_read_135 a C R _ ih x1 x2 x3 x4 x5 x7 x8 x9 (3 : Int32) S h
        · refine Zt_l [(0, .ref (a 0)), (5, .int x5), (6, .int x6), (7, .int x7), (8, .int x8)] [0, 5, 6, 7, 8] rfl ?_
          exact L_X7_read_221 a C R x5 x6 x7 x8 S h
      · refine Zt_l [(0, .ref (a 0)), (5, .int x5), (6, .int x6), (7, .int x7), (8, .int x8)] [0, 5, 6, 7, 8] rfl ?_
        exact L_X7_read_221 a C R x5 x6 x7 x8 S h

set_option maxHeartbeats 4000000 in
set_option maxRecDepth 100000 in
theorem L_X7_read {E : zEnv} {Γ : zG} (a : Nat → Nat) (C : zC E Γ cX7_read RX7 11 rm_X7_read wsX7_read) {res : (Int32 × St)} (R : zRi E Γ cX7_read 11 .int (wModel E a res.2) res.1) (x1 : Int32) (x2 : Int32) (x3 : Int32) (x4 : Int32) (S : St) (h : f_X7_read x1 x2 x3 x4 S = some res) : Zt E Γ 11 0 0 (wModel E a S) [(0, .ref (a 0)), (1, .int x1), (2, .int x2), (3, .int x3), (4, .int x4)] 0 [] := by
  unfold f_X7_read at h
  refine z_iload_n C 1 rfl rfl dX7_read_0 ?_
  refine z_i2l C dX7_read_1 ?_
  refine z_lconst C (v := (0 : Int64)) (by decide) dX7_read_2 ?_
  refine z_ldc2 C (v := (3 : Int64)) (List.mem_of_getElem? (i := 1) rfl) dX7_read_3 ?_
  obtain ⟨q3, e3, h⟩ := bd_e h
  refine z_callSi C (rest := []) (c_X7_in E (Int32.toInt64 x1) (0 : Int64) (3 : Int64) e3) gX7_read_X7_in rfl rfl rfl 3 rfl (by decide +kernel) ⟨Nat.le_of_ble_eq_true rfl, Nat.le_of_ble_eq_true rfl⟩ [] rfl (by decide) rfl (wModel E a S) rfl (Nat.le_of_ble_eq_true rfl) dX7_read_6 ⟨Nat.zero_le _, Nat.zero_le _⟩ _ rfl ?_
  refine z_if_eq C 37 (by decide) h dX7_read_9 (fun hc h => ?_) (fun hc h => ?_)
  · refine z_iconst C (v := (-1 : Int32)) (by decide) dX7_read_37 ?_
    obtain rfl := Option.some.inj h
    exact R rfl 38 _ dX7_read_38
  · refine z_iload_n C 2 rfl rfl dX7_read_12 ?_
    refine z_i2l C dX7_read_13 ?_
    refine z_lconst C (v := (0 : Int64)) (by decide) dX7_read_14 ?_
    refine z_ldc2 C (v := (2 : Int64)) (List.mem_of_getElem? (i := 2) rfl) dX7_read_15 ?_
    obtain ⟨q4, e4, h⟩ := bd_e h
    refine z_callSi C (rest := []) (c_X7_in E (Int32.toInt64 x2) (0 : Int64) (2 : Int64) e4) gX7_read_X7_in rfl rfl rfl 3 rfl (by decide +kernel) ⟨Nat.le_of_ble_eq_true rfl, Nat.le_of_ble_eq_true rfl⟩ [] rfl (by decide) rfl (wModel E a S) rfl (Nat.le_of_ble_eq_true rfl) dX7_read_18 ⟨Nat.zero_le _, Nat.zero_le _⟩ _ rfl ?_
    refine z_if_eq C 37 (by decide) h dX7_read_21 (fun hc h => ?_) (fun hc h => ?_)
    · refine z_iconst C (v := (-1 : Int32)) (by decide) dX7_read_37 ?_
      obtain rfl := Option.some.inj h
      exact R rfl 38 _ dX7_read_38
    · refine z_iload C 4 rfl dX7_read_24 ?_
      refine z_i2l C dX7_read_26 ?_
      refine z_lconst C (v := (0 : Int64)) (by decide) dX7_read_27 ?_
      refine z_ldc2 C (v := (13 : Int64)) (List.mem_of_getElem? (i := 3) rfl) dX7_read_28 ?_
      obtain ⟨q5, e5, h⟩ := bd_e h
      refine z_callSi C (rest := []) (c_X7_in E (Int32.toInt64 x4) (0 : Int64) (13 : Int64) e5) gX7_read_X7_in rfl rfl rfl 3 rfl (by decide +kernel) ⟨Nat.le_of_ble_eq_true rfl, Nat.le_of_ble_eq_true rfl⟩ [] rfl (by decide) rfl (wModel E a S) rfl (Nat.le_of_ble_eq_true rfl) dX7_read_31 ⟨Nat.zero_le _, Nat.zero_le _⟩ _ rfl ?_
      refine z_if_ne C 39 (by decide) h dX7_read_34 (fun hc h => ?_) (fun hc h => ?_)
      · refine z_iconst C (v := (-1 : Int32)) (by decide) dX7_read_37 ?_
        obtain rfl := Option.some.inj h
        exact R rfl 38 _ dX7_read_38
      · refine z_aload_n C 0 rfl rfl dX7_read_39 ?_
        refine z_get C 0 rfl (C := RX7) (T := TX7) (N := 38) (ci := 7) rfl inw_X7_read_X7 0 (by decide) (ref := "EldestAgeModel") (List.mem_of_getElem? (i := 4) rfl) rfl (v := .ref (a 1)) rfl dX7_read_40 ?_
        refine z_bipush C (v := (89 : Int32)) (by decide) dX7_read_43 ?_
        refine z_iald C (N := 368) (f := (S 0)) 1 rfl h dX7_read_45 (fun h => ?_)
        refine z_istore C [(5, .int (S 0 (Int32.toNatClampNeg (89 : Int32)))), (0, .ref (a 0)), (1, .int x1), (2, .int x2), (3, .int x3), (4, .int x4)] (by decide) rfl dX7_read_46 ?_
        refine z_iconst C (v := (0 : Int32)) (by decide) dX7_read_48 ?_
        refine z_istore C [(6, .int (0 : Int32)), (5, .int (S 0 (Int32.toNatClampNeg (89 : Int32)))), (0, .ref (a 0)), (1, .int x1), (2, .int x2), (3, .int x3), (4, .int x4)] (by decide) rfl dX7_read_49 ?_
        refine z_iconst C (v := (0 : Int32)) (by decide) dX7_read_51 ?_
        refine z_istore C [(7, .int (0 : Int32)), (6, .int (0 : Int32)), (5, .int (S 0 (Int32.toNatClampNeg (89 : Int32)))), (0, .ref (a 0)), (1, .int x1), (2, .int x2), (3, .int x3), (4, .int x4)] (by decide) rfl dX7_read_52 ?_
        refine z_iconst C (v := (0 : Int32)) (by decide) dX7_read_54 ?_
        refine z_istore C [(8, .int (0 : Int32)), (7, .int (0 : Int32)), (6, .int (0 : Int32)), (5, .int (S 0 (Int32.toNatClampNeg (89 : Int32)))), (0, .ref (a 0)), (1, .int x1), (2, .int x2), (3, .int x3), (4, .int x4)] (by decide) rfl dX7_read_55 ?_
        refine z_iconst C (v := (0 : Int32)) (by decide) dX7_read_57 ?_
        refine z_istore C [(9, .int (0 : Int32)), (8, .int (0 : Int32)), (7, .int (0 : Int32)), (6, .int (0 : Int32)), (5, .int (S 0 (Int32.toNatClampNeg (89 : Int32)))), (0, .ref (a 0)), (1, .int x1), (2, .int x2), (3, .int x3), (4, .int x4)] (by decide) rfl dX7_read_58 ?_
        refine Zt_l [(0, .ref (a 0)), (1, .int x1), (2, .int x2), (3, .int x3), (4, .int x4), (5, .int (S 0 (Int32.toNatClampNeg (89 : Int32)))), (6, .int (0 : Int32)), (7, .int (0 : Int32)), (8, .int (0 : Int32)), (9, .int (0 : Int32))] [5, 6, 7, 8, 9, 4, 3, 2, 1, 0] rfl ?_
        exact L_X7_read_60 a C R 1000 x1 x2 x3 x4 (S 0 (Int32.toNatClampNeg (89 : Int32))) (0 : Int32) (0 : Int32) (0 : Int32) (0 : Int32) S h

theorem c_X7_read (E : zEnv) (a : Nat → Nat) (x1 : Int32) (x2 : Int32) (x3 : Int32) (x4 : Int32) (S : St) {res : (Int32 × St)} (h : f_X7_read x1 x2 x3 x4 S = some res) : Kti E yX7_read wsX7_read rm_X7_read (wModel E a S) (wModel E a res.2) [.ref (a 0), .int x1, .int x2, .int x3, .int x4] res.1 :=
  z_enti (cc := cX7_read) (maxL := 11) (rt := .int) (by decide +kernel) rfl (Nat.le_of_ble_eq_true rfl) (fun Γ C R => L_X7_read a C R x1 x2 x3 x4 S h)

abbrev rm_X7_torn : Room := { frames := 0, cells := 0, slots := 0, locals := 0 }
theorem inw_X7_torn_X7 : ∀ w ∈ wsX70, w ∈ wsX7_torn := fun _ h => List.mem_cons_of_mem _ (List.mem_append_right _ h)
noncomputable def f_X7_torn (S : St) : Option Int32 := (some (S 37 0))
set_option maxHeartbeats 4000000 in
set_option maxRecDepth 100000 in
theorem L_X7_torn {E : zEnv} {Γ : zG} (a : Nat → Nat) (C : zC E Γ cX7_torn RX7 1 rm_X7_torn wsX7_torn) {res : Int32} {S : St} (R : zRi E Γ cX7_torn 1 .int (wModel E a S) res) (h : f_X7_torn S = some res) : Zt E Γ 1 0 0 (wModel E a S) [(0, .ref (a 0))] 0 [] := by
  unfold f_X7_torn at h
  refine z_aload_n C 0 rfl rfl dX7_torn_0 ?_
  refine z_get C 0 rfl (C := RX7) (T := TX7) (N := 38) (ci := 7) rfl inw_X7_torn_X7 37 (by decide) (ref := "EldestAgeModel") (List.mem_of_getElem? (i := 1) rfl) rfl (v := .int (S 37 0)) rfl dX7_torn_1 ?_
  obtain rfl := Option.some.inj h
  exact R rfl 4 _ dX7_torn_4

theorem c_X7_torn (E : zEnv) (a : Nat → Nat) (S : St) {res : Int32} (h : f_X7_torn S = some res) : Kti E yX7_torn wsX7_torn rm_X7_torn (wModel E a S) (wModel E a S) [.ref (a 0)] res :=
  z_enti (cc := cX7_torn) (maxL := 1) (rt := .int) (by decide +kernel) rfl (Nat.le_of_ble_eq_true rfl) (fun Γ C R => L_X7_torn a C R h)

abbrev rm_X7_count : Room := { frames := 0, cells := 0, slots := 0, locals := 0 }
theorem inw_X7_count_X7 : ∀ w ∈ wsX70, w ∈ wsX7_count := fun _ h => List.mem_cons_of_mem _ (List.mem_append_right _ h)
noncomputable def f_X7_count_60 (y0 : Int32) (S : St) : Option Int32 := (ix (1 : Int32) 2 (if (S 33 (Int32.toNatClampNeg (1 : Int32))) = 0 then (some (y0 + (0 : Int32))) else (some (y0 + (1 : Int32)))))
noncomputable def f_X7_count (x1 : Int32) (S : St) : Option Int32 := (if x1 = (0 : Int32) then (some (S 32 0)) else (if x1 = (1 : Int32) then (some (S 24 0)) else (if x1 = (2 : Int32) then (ix (0 : Int32) 2 (if (S 33 (Int32.toNatClampNeg (0 : Int32))) = 0 then (f_X7_count_60 (0 : Int32) S) else (f_X7_count_60 (1 : Int32) S))) else (if x1 = (3 : Int32) then (some (S 9 0)) else (if x1 = (4 : Int32) then (ix (0 : Int32) 4 (if (S 34 (Int32.toNatClampNeg (0 : Int32))) = (-4 : Int32) then (some (-4 : Int32)) else (ix (0 : Int32) 4 (some (S 35 (Int32.toNatClampNeg (0 : Int32))))))) else (some (-1 : Int32)))))))
set_option maxHeartbeats 4000000 in
set_option maxRecDepth 100000 in
theorem L_X7_count_60 {E : zEnv} {Γ : zG} (a : Nat → Nat) (C : zC E Γ cX7_count RX7 2 rm_X7_count wsX7_count) {res : Int32} {S : St} (R : zRi E Γ cX7_count 2 .int (wModel E a S) res) (y0 : Int32) (h : f_X7_count_60 y0 S = some res) : Zt E Γ 2 0 0 (wModel E a S) [(0, .ref (a 0))] 60 [.int y0] := by
  unfold f_X7_count_60 at h
  refine z_aload_n C 0 rfl rfl dX7_count_60 ?_
  refine z_get C 0 rfl (C := RX7) (T := TX7) (N := 38) (ci := 7) rfl inw_X7_count_X7 33 (by decide) (ref := "EldestAgeModel") (List.mem_of_getElem? (i := 3) rfl) rfl (v := .ref (a 13)) rfl dX7_count_61 ?_
  refine z_iconst C (v := (1 : Int32)) (by decide) dX7_count_64 ?_
  refine z_zald C (N := 2) (f := (S 33)) 13 rfl h dX7_count_65 (fun h => ?_)
  refine z_if_eq C 73 (by decide) h dX7_count_66 (fun hc h => ?_) (fun hc h => ?_)
  · refine z_iconst C (v := (0 : Int32)) (by decide) dX7_count_73 ?_
    refine z_iadd C dX7_count_74 ?_
    obtain rfl := Option.some.inj h
    exact R rfl 75 _ dX7_count_75
  · refine z_iconst C (v := (1 : Int32)) (by decide) dX7_count_69 ?_
    refine z_goto C 74 (by decide) dX7_count_70 ?_
    refine z_iadd C dX7_count_74 ?_
    obtain rfl := Option.some.inj h
    exact R rfl 75 _ dX7_count_75

set_option maxHeartbeats 4000000 in
set_option maxRecDepth 100000 in
theorem L_X7_count {E : zEnv} {Γ : zG} (a : Nat → Nat) (C : zC E Γ cX7_count RX7 2 rm_X7_count wsX7_count) {res : Int32} {S : St} (R : zRi E Γ cX7_count 2 .int (wModel E a S) res) (x1 : Int32) (h : f_X7_count x1 S = some res) : Zt E Γ 2 0 0 (wModel E a S) [(0, .ref (a 0)), (1, .int x1)] 0 [] := by
  unfold f_X7_count at h
  refine z_iload_n C 1 rfl rfl dX7_count_0 ?_
  by_cases hc : x1 = (0 : Int32)
  · replace h := (if_e h).1 hc
    refine z_tableIn C 36 (by rw [hc]; decide) (by rw [hc]; decide) (off := 35) (by rw [hc]; rfl) (by decide) dX7_count_1 ?_
    refine z_aload_n C 0 rfl rfl dX7_count_36 ?_
    refine z_get C 0 rfl (C := RX7) (T := TX7) (N := 38) (ci := 7) rfl inw_X7_count_X7 32 (by decide) (ref := "EldestAgeModel") (List.mem_of_getElem? (i := 1) rfl) rfl (v := .int (S 32 0)) rfl dX7_count_37 ?_
    obtain rfl := Option.some.inj h
    exact R rfl 40 _ dX7_count_40
  · replace h := (if_e h).2 hc
    have n1_0 := hc
    by_cases hc : x1 = (1 : Int32)
    · replace h := (if_e h).1 hc
      refine z_tableIn C 41 (by rw [hc]; decide) (by rw [hc]; decide) (off := 40) (by rw [hc]; rfl) (by decide) dX7_count_1 ?_
      refine z_aload_n C 0 rfl rfl dX7_count_41 ?_
      refine z_get C 0 rfl (C := RX7) (T := TX7) (N := 38) (ci := 7) rfl inw_X7_count_X7 24 (by decide) (ref := "EldestAgeModel") (List.mem_of_getElem? (i := 2) rfl) rfl (v := .int (S 24 0)) rfl dX7_count_42 ?_
      obtain rfl := Option.some.inj h
      exact R rfl 45 _ dX7_count_45
    · replace h := (if_e h).2 hc
      have n1_1 := hc
      by_cases hc : x1 = (2 : Int32)
      · replace h := (if_e h).1 hc
        refine z_tableIn C 46 (by rw [hc]; decide) (by rw [hc]; decide) (off := 45) (by rw [hc]; rfl) (by decide) dX7_count_1 ?_
        refine z_aload_n C 0 rfl rfl dX7_count_46 ?_
        refine z_get C 0 rfl (C := RX7) (T := TX7) (N := 38) (ci := 7) rfl inw_X7_count_X7 33 (by decide) (ref := "EldestAgeModel") (List.mem_of_getElem? (i := 3) rfl) rfl (v := .ref (a 13)) rfl dX7_count_47 ?_
        refine z_iconst C (v := (0 : Int32)) (by decide) dX7_count_50 ?_
        refine z_zald C (N := 2) (f := (S 33)) 13 rfl h dX7_count_51 (fun h => ?_)
        refine z_if_eq C 59 (by decide) h dX7_count_52 (fun hc h => ?_) (fun hc h => ?_)
        · refine z_iconst C (v := (0 : Int32)) (by decide) dX7_count_59 ?_
          refine Zt_l [(0, .ref (a 0))] [0] rfl ?_
          exact L_X7_count_60 a C R (0 : Int32) h
        · refine z_iconst C (v := (1 : Int32)) (by decide) dX7_count_55 ?_
          refine z_goto C 60 (by decide) dX7_count_56 ?_
          refine Zt_l [(0, .ref (a 0))] [0] rfl ?_
          exact L_X7_count_60 a C R (1 : Int32) h
      · replace h := (if_e h).2 hc
        have n1_2 := hc
        by_cases hc : x1 = (3 : Int32)
        · replace h := (if_e h).1 hc
          refine z_tableIn C 76 (by rw [hc]; decide) (by rw [hc]; decide) (off := 75) (by rw [hc]; rfl) (by decide) dX7_count_1 ?_
          refine z_aload_n C 0 rfl rfl dX7_count_76 ?_
          refine z_get C 0 rfl (C := RX7) (T := TX7) (N := 38) (ci := 7) rfl inw_X7_count_X7 9 (by decide) (ref := "EldestAgeModel") (List.mem_of_getElem? (i := 4) rfl) rfl (v := .int (S 9 0)) rfl dX7_count_77 ?_
          obtain rfl := Option.some.inj h
          exact R rfl 80 _ dX7_count_80
        · replace h := (if_e h).2 hc
          have n1_3 := hc
          by_cases hc : x1 = (4 : Int32)
          · replace h := (if_e h).1 hc
            refine z_tableIn C 81 (by rw [hc]; decide) (by rw [hc]; decide) (off := 80) (by rw [hc]; rfl) (by decide) dX7_count_1 ?_
            refine z_aload_n C 0 rfl rfl dX7_count_81 ?_
            refine z_get C 0 rfl (C := RX7) (T := TX7) (N := 38) (ci := 7) rfl inw_X7_count_X7 34 (by decide) (ref := "EldestAgeModel") (List.mem_of_getElem? (i := 5) rfl) rfl (v := .ref (a 14)) rfl dX7_count_82 ?_
            refine z_iconst C (v := (0 : Int32)) (by decide) dX7_count_85 ?_
            refine z_iald C (N := 4) (f := (S 34)) 14 rfl h dX7_count_86 (fun h => ?_)
            refine z_bipush C (v := (-4 : Int32)) (by decide) dX7_count_87 ?_
            refine z_icmp_ne C 97 (by decide) h dX7_count_89 (fun hc h => ?_) (fun hc h => ?_)
            · refine z_bipush C (v := (-4 : Int32)) (by decide) dX7_count_92 ?_
              refine z_goto C 103 (by decide) dX7_count_94 ?_
              obtain rfl := Option.some.inj h
              exact R rfl 103 _ dX7_count_103
            · refine z_aload_n C 0 rfl rfl dX7_count_97 ?_
              refine z_get C 0 rfl (C := RX7) (T := TX7) (N := 38) (ci := 7) rfl inw_X7_count_X7 35 (by decide) (ref := "EldestAgeModel") (List.mem_of_getElem? (i := 6) rfl) rfl (v := .ref (a 15)) rfl dX7_count_98 ?_
              refine z_iconst C (v := (0 : Int32)) (by decide) dX7_count_101 ?_
              refine z_iald C (N := 4) (f := (S 35)) 15 rfl h dX7_count_102 (fun h => ?_)
              obtain rfl := Option.some.inj h
              exact R rfl 103 _ dX7_count_103
          · replace h := (if_e h).2 hc
            have n1_4 := hc
            refine z_tableOut C 104 (z_out5 n1_0 n1_1 n1_2 n1_3 n1_4) (by decide) dX7_count_1 ?_
            refine z_iconst C (v := (-1 : Int32)) (by decide) dX7_count_104 ?_
            obtain rfl := Option.some.inj h
            exact R rfl 105 _ dX7_count_105

theorem c_X7_count (E : zEnv) (a : Nat → Nat) (x1 : Int32) (S : St) {res : Int32} (h : f_X7_count x1 S = some res) : Kti E yX7_count wsX7_count rm_X7_count (wModel E a S) (wModel E a S) [.ref (a 0), .int x1] res :=
  z_enti (cc := cX7_count) (maxL := 2) (rt := .int) (by decide +kernel) rfl (Nat.le_of_ble_eq_true rfl) (fun Γ C R => L_X7_count a C R x1 h)
