abbrev rm_X6_changes : Room := { frames := 4, cells := 0, slots := 0, locals := 91 }
theorem inw_X6_changes_X6 : ∀ w ∈ wsX60, w ∈ wsX6_changes := fun _ h => List.mem_cons_of_mem _ (List.mem_append_left _ (List.mem_append_left _ (List.mem_append_right _ h)))
theorem inw_X6_changes_X5 : ∀ w ∈ wsX50, w ∈ wsX6_changes := fun _ h => List.mem_cons_of_mem _ (List.mem_append_left _ (List.mem_append_right _ h))
theorem inw_X6_changes_X2 : ∀ w ∈ wsX20, w ∈ wsX6_changes := fun _ h => List.mem_cons_of_mem _ (List.mem_append_right _ h)
set_option maxHeartbeats 4000000 in
theorem wl_X6_changes_0 (E : zEnv) (a : Nat → Nat) (S : St) : ([1, 2, 3, 4, 5, 6, 7, 8, 9, 10, 11, 12, 13, 14, 15, 16] : List Nat).map (fun i => (wEA E a S)[i]?) = (wTown E (fun k => a (1 + k)) (sb 0 S)).map some := rfl
set_option maxHeartbeats 4000000 in
theorem wl_X6_changes_1 (E : zEnv) (a : Nat → Nat) (S U : St) : (wTown E (fun k => a (1 + k)) U).map (fun q => q.1) = (wTown E (fun k => a (1 + k)) S).map (fun q => q.1) := rfl
set_option maxHeartbeats 4000000 in
theorem wl_X6_changes_2 (E : zEnv) (a : Nat → Nat) (S U : St) : (wEA E a (pt 0 32 U S)) = zrep [1, 2, 3, 4, 5, 6, 7, 8, 9, 10, 11, 12, 13, 14, 15, 16] (wTown E (fun k => a (1 + k)) U) (wEA E a S) := zrep_of (isR := [0, 17, 18, 19, 20, 21, 22, 23, 24, 25, 26, 27, 28, 29, 30, 31, 32, 33, 34, 35, 36, 37, 38, 39, 40, 41, 42, 43, 44, 45, 46, 47, 48, 49, 50, 51, 52, 53, 54, 55, 56, 57, 58, 59, 60, 61, 62, 63, 64, 65, 66, 67, 68, 69, 70, 71, 72, 73, 74, 75, 76, 77, 78, 79, 80, 81, 82, 83, 84, 85, 86, 87, 88, 89, 90, 91, 92, 93, 94, 95, 96, 97, 98, 99, 100]) 101 rfl [some (a 0, .inr (6, [.ref (a 1), .ref (a 17), .ref (a 65), .ref (a 66), .ref (a 67), .ref (a 69), .ref (a 73), .ref (a 77), .ref (a 93), .int (S 184 0), .int (S 185 0)])), some (a 17, .inr (5, [.int (S 32 0), .int (S 33 0), .int (S 34 0), .ref (a 18), .ref (a 19), .ref (a 20), .ref (a 21), .int (S 39 0), .ref (a 22), .ref (a 23), .ref (a 24), .int (S 43 0), .ref (a 25), .ref (a 26), .ref (a 27), .ref (a 28)])), some (a 18, .inl (zI E, 14, .inl (S 35))), some (a 19, .inl (zI E, 14, .inl (S 36))), some (a 20, .inl (zI E, 14, .inl (S 37))), some (a 21, .inl (zI E, 14, .inl (S 38))), some (a 22, .inl (zI E, 12, .inl (S 40))), some (a 23, .inl (zI E, 12, .inl (S 41))), some (a 24, .inl (zI E, 12, .inl (S 42))), some (a 25, .inl (zI E, 4, .inl (S 44))), some (a 26, .inl (zI E, 4, .inl (S 45))), some (a 27, .inl (zI E, 4, .inl (S 46))), some (a 28, .inr (2, [.ref (a 29), .ref (a 30), .ref (a 31), .ref (a 32)])), some (a 29, .inl (zI E, 8, .inl (S 48))), some (a 30, .inl (zI E, 8, .inl (S 49))), some (a 31, .inl (zI E, 8, .inl (S 50))), some (a 32, .inl (zI E, 8, .inl (S 51))), some (a 65, .inl (zT E, 2, .inr (.inr (.inr (.inr (va_up (va_up (fun _ => none) 0 (some (a 33))) 1 (some (a 49)))))))), some (a 66, .inl (zZ E, 2, .inl (S 186))), some (a 67, .inr (3, [.ref (a 68), .int (S 129 0), .int (S 130 0), .int (S 131 0), .int (S 132 0), .int (S 133 0), .int (S 134 0), .int (S 135 0), .int (S 136 0), .int (S 137 0), .int (S 138 0), .int (S 139 0)])), some (a 68, .inl (zI E, 400, .inl (S 128))), some (a 69, .inr (4, [.int (S 144 0), .ref (a 70), .ref (a 71), .ref (a 72), .int (S 148 0)])), some (a 70, .inl (zI E, 4, .inl (S 145))), some (a 71, .inl (zI E, 4, .inl (S 146))), some (a 72, .inl (zI E, 4, .inl (S 147))), some (a 73, .inr (4, [.int (S 152 0), .ref (a 74), .ref (a 75), .ref (a 76), .int (S 156 0)])), some (a 74, .inl (zI E, 8, .inl (S 153))), some (a 75, .inl (zI E, 8, .inl (S 154))), some (a 76, .inl (zI E, 8, .inl (S 155))), some (a 77, .inr (0, [.int (S 160 0), .ref (a 78), .ref (a 79), .ref (a 80), .ref (a 81), .ref (a 82), .ref (a 83), .ref (a 88)])), some (a 78, .inl (zI E, 4, .inl (S 161))), some (a 79, .inl (zI E, 4, .inl (S 162))), some (a 80, .inl (zI E, 4, .inl (S 163))), some (a 81, .inl (zI E, 4, .inl (S 164))), some (a 82, .inl (zI E, 4, .inl (S 165))), some (a 83, .inr (2, [.ref (a 84), .ref (a 85), .ref (a 86), .ref (a 87)])), some (a 84, .inl (zI E, 8, .inl (S 168))), some (a 85, .inl (zI E, 8, .inl (S 169))), some (a 86, .inl (zI E, 8, .inl (S 170))), some (a 87, .inl (zI E, 8, .inl (S 171))), some (a 88, .inr (2, [.ref (a 89), .ref (a 90), .ref (a 91), .ref (a 92)])), some (a 89, .inl (zI E, 8, .inl (S 172))), some (a 90, .inl (zI E, 8, .inl (S 173))), some (a 91, .inl (zI E, 8, .inl (S 174))), some (a 92, .inl (zI E, 8, .inl (S 175))), some (a 93, .inr (1, [.ref (a 94), .ref (a 99), .ref (a 100)])), some (a 94, .inl (zII E, 4, .inr (.inr (.inr (.inr (va_up (va_up (va_up (va_up (fun _ => none) 0 (some (a 95))) 1 (some (a 96))) 2 (some (a 97))) 3 (some (a 98)))))))), some (a 95, .inl (zI E, 40, .inl (S 176))), some (a 96, .inl (zI E, 40, .inl (S 177))), some (a 97, .inl (zI E, 40, .inl (S 178))), some (a 98, .inl (zI E, 40, .inl (S 179))), some (a 99, .inl (zI E, 4, .inl (S 180))), some (a 100, .inl (zI E, 4, .inl (S 181))), some (a 33, .inr (5, [.int (S 64 0), .int (S 65 0), .int (S 66 0), .ref (a 34), .ref (a 35), .ref (a 36), .ref (a 37), .int (S 71 0), .ref (a 38), .ref (a 39), .ref (a 40), .int (S 75 0), .ref (a 41), .ref (a 42), .ref (a 43), .ref (a 44)])), some (a 34, .inl (zI E, 14, .inl (S 67))), some (a 35, .inl (zI E, 14, .inl (S 68))), some (a 36, .inl (zI E, 14, .inl (S 69))), some (a 37, .inl (zI E, 14, .inl (S 70))), some (a 38, .inl (zI E, 12, .inl (S 72))), some (a 39, .inl (zI E, 12, .inl (S 73))), some (a 40, .inl (zI E, 12, .inl (S 74))), some (a 41, .inl (zI E, 4, .inl (S 76))), some (a 42, .inl (zI E, 4, .inl (S 77))), some (a 43, .inl (zI E, 4, .inl (S 78))), some (a 44, .inr (2, [.ref (a 45), .ref (a 46), .ref (a 47), .ref (a 48)])), some (a 45, .inl (zI E, 8, .inl (S 80))), some (a 46, .inl (zI E, 8, .inl (S 81))), some (a 47, .inl (zI E, 8, .inl (S 82))), some (a 48, .inl (zI E, 8, .inl (S 83))), some (a 49, .inr (5, [.int (S 96 0), .int (S 97 0), .int (S 98 0), .ref (a 50), .ref (a 51), .ref (a 52), .ref (a 53), .int (S 103 0), .ref (a 54), .ref (a 55), .ref (a 56), .int (S 107 0), .ref (a 57), .ref (a 58), .ref (a 59), .ref (a 60)])), some (a 50, .inl (zI E, 14, .inl (S 99))), some (a 51, .inl (zI E, 14, .inl (S 100))), some (a 52, .inl (zI E, 14, .inl (S 101))), some (a 53, .inl (zI E, 14, .inl (S 102))), some (a 54, .inl (zI E, 12, .inl (S 104))), some (a 55, .inl (zI E, 12, .inl (S 105))), some (a 56, .inl (zI E, 12, .inl (S 106))), some (a 57, .inl (zI E, 4, .inl (S 108))), some (a 58, .inl (zI E, 4, .inl (S 109))), some (a 59, .inl (zI E, 4, .inl (S 110))), some (a 60, .inr (2, [.ref (a 61), .ref (a 62), .ref (a 63), .ref (a 64)])), some (a 61, .inl (zI E, 8, .inl (S 112))), some (a 62, .inl (zI E, 8, .inl (S 113))), some (a 63, .inl (zI E, 8, .inl (S 114))), some (a 64, .inl (zI E, 8, .inl (S 115)))] rfl rfl rfl rfl (by decide +kernel) (by decide +kernel)
noncomputable def f_X6_changes_43 (n : Nat) : Int32 → Int32 → Int32 → Int32 → St → Option (Int32 × St) := Nat.rec (motive := fun _ => Int32 → Int32 → Int32 → Int32 → St → Option (Int32 × St)) (fun _ _ _ _ _ => none) (fun _ ih => fun x1 x3 x4 x5 S => (if (36000 : Int32) ≤ x5 then (some ((-4 : Int32), S)) else (if (36000 : Int32) ≤ x4 then (some ((-4 : Int32), S)) else ((f_X5_numberOf x1 x4 (sb 0 S)).bind (fun q1 => (if q1.1 = x3 then ((f_X5_nextEvent x4 (sb 0 (pt 0 32 q1.2 S))).bind (fun q2 => (ih x1 x3 q2 (x5 + (1 : Int32)) (pt 0 32 q1.2 S)))) else (some (x4, (pt 0 32 q1.2 S))))))))) n
theorem f_X6_changes_43_s (n : Nat) (x1 : Int32) (x3 : Int32) (x4 : Int32) (x5 : Int32) (S : St) : f_X6_changes_43 (n + 1) x1 x3 x4 x5 S = (if (36000 : Int32) ≤ x5 then (some ((-4 : Int32), S)) else (if (36000 : Int32) ≤ x4 then (some ((-4 : Int32), S)) else ((f_X5_numberOf x1 x4 (sb 0 S)).bind (fun q1 => (if q1.1 = x3 then ((f_X5_nextEvent x4 (sb 0 (pt 0 32 q1.2 S))).bind (fun q2 => ((f_X6_changes_43 n) x1 x3 q2 (x5 + (1 : Int32)) (pt 0 32 q1.2 S)))) else (some (x4, (pt 0 32 q1.2 S)))))))) := rfl
noncomputable def f_X6_changes (x1 : Int32) (x2 : Int32) (S : St) : Option (Int32 × St) := ((f_X5_isHouse x1 (sb 0 S)).bind (fun q3 => (if q3 = 0 then (some ((-1 : Int32), S)) else ((f_X6_isDay x2).bind (fun q4 => (if q4 = 0 then (some ((-1 : Int32), S)) else ((f_X5_numberOf x1 x2 (sb 0 S)).bind (fun q5 => ((f_X5_nextEvent x2 (sb 0 (pt 0 32 q5.2 S))).bind (fun q6 => (f_X6_changes_43 40000 x1 q5.1 q6 (0 : Int32) (pt 0 32 q5.2 S))))))))))))
set_option maxHeartbeats 4000000 in
set_option maxRecDepth 100000 in
theorem L_X6_changes_43 {E : zEnv} {Γ : zG} (a : Nat → Nat) (C : zC E Γ cX6_changes RX6 6 rm_X6_changes wsX6_changes) {res : (Int32 × St)} (R : zRi E Γ cX6_changes 6 .int (wEA E a res.2) res.1) : ∀ (n : Nat) (x1 : Int32) (x3 : Int32) (x4 : Int32) (x5 : Int32) (S : St), f_X6_changes_43 n x1 x3 x4 x5 S = some res → Zt E Γ 6 0 0 (wEA E a S) [(0, .ref (a 0)), (1, .int x1), (3, .int x3), (4, .int x4), (5, .int x5)] 43 [] := by
  intro n
  induction n with
  | zero =>
    intro x1 x3 x4 x5 S h
    cases h
  | succ n ih =>
    intro x1 x3 x4 x5 S h
    rw [f_X6_changes_43_s] at h
    refine z_iload C 4 rfl dX6_changes_43 ?_
    refine z_ldc C (v := (36000 : Int32)) (List.mem_of_getElem? (i := 2) rfl) dX6_changes_45 ?_
    refine z_icmp_ge C 91 (by decide) h dX6_changes_47 (fun hc h => ?_) (fun hc h => ?_)
    · refine z_bipush C (v := (-4 : Int32)) (by decide) dX6_changes_91 ?_
      obtain rfl := Option.some.inj h
      exact R rfl 93 _ dX6_changes_93
    · refine z_iload C 3 rfl dX6_changes_50 ?_
      refine z_ldc C (v := (36000 : Int32)) (List.mem_of_getElem? (i := 2) rfl) dX6_changes_52 ?_
      refine z_icmp_ge C 91 (by decide) h dX6_changes_54 (fun hc h => ?_) (fun hc h => ?_)
      · refine z_bipush C (v := (-4 : Int32)) (by decide) dX6_changes_91 ?_
        obtain rfl := Option.some.inj h
        exact R rfl 93 _ dX6_changes_93
      · refine z_aload_n C 0 rfl rfl dX6_changes_57 ?_
        refine z_get C 0 rfl (C := RX6) (T := TX6) (N := 11) (ci := 6) rfl inw_X6_changes_X6 0 (by decide) (ref := "EldestAge") (List.mem_of_getElem? (i := 1) rfl) rfl (v := .ref (a 1)) rfl dX6_changes_58 ?_
        refine z_iload_n C 1 rfl rfl dX6_changes_61 ?_
        refine z_iload C 3 rfl dX6_changes_62 ?_
        obtain ⟨q1, e1, h⟩ := bd_e h
        refine z_callVi C (b := a 1) (As := [.int x1, .int x4]) (rest := []) (c_X5_numberOf E (fun k => a (1 + k)) x1 x4 (sb 0 S) e1) rfl gX6_changes_X5_numberOf rfl rfl rfl 2 rfl (by decide +kernel) ⟨Nat.le_of_ble_eq_true rfl, Nat.le_of_ble_eq_true rfl⟩ [1, 2, 3, 4, 5, 6, 7, 8, 9, 10, 11, 12, 13, 14, 15, 16] (wl_X6_changes_0 E a S) (by decide) (wl_X6_changes_1 E a _ _) (wEA E a (pt 0 32 q1.2 S)) (wl_X6_changes_2 E a S q1.2) 0 5 rfl rfl rfl (Nat.le_of_ble_eq_true rfl) dX6_changes_64 ⟨Nat.zero_le _, Nat.zero_le _⟩ _ rfl ?_
        refine z_iload_n C 2 rfl rfl dX6_changes_67 ?_
        refine z_icmp_eq C 74 (by decide) h dX6_changes_68 (fun hc h => ?_) (fun hc h => ?_)
        · refine z_aload_n C 0 rfl rfl dX6_changes_74 ?_
          refine z_get C 0 rfl (C := RX6) (T := TX6) (N := 11) (ci := 6) rfl inw_X6_changes_X6 0 (by decide) (ref := "EldestAge") (List.mem_of_getElem? (i := 1) rfl) rfl (v := .ref (a 1)) rfl dX6_changes_75 ?_
          refine z_iload C 3 rfl dX6_changes_78 ?_
          obtain ⟨q2, e2, h⟩ := bd_e h
          refine z_callVi C (b := a 1) (As := [.int x4]) (rest := []) (c_X5_nextEvent E (fun k => a (1 + k)) x4 (sb 0 (pt 0 32 q1.2 S)) e2) rfl gX6_changes_X5_nextEvent rfl rfl rfl 1 rfl (by decide +kernel) ⟨Nat.le_of_ble_eq_true rfl, Nat.le_of_ble_eq_true rfl⟩ [1, 2, 3, 4, 5, 6, 7, 8, 9, 10, 11, 12, 13, 14, 15, 16] (wl_X6_changes_0 E a (pt 0 32 q1.2 S)) (by decide) rfl (wEA E a (pt 0 32 q1.2 S)) (zrep_self (wl_X6_changes_0 E a (pt 0 32 q1.2 S))) 0 5 rfl rfl rfl (Nat.le_of_ble_eq_true rfl) dX6_changes_80 ⟨Nat.zero_le _, Nat.zero_le _⟩ _ rfl ?_
          refine z_istore C [(4, .int q2), (0, .ref (a 0)), (1, .int x1), (3, .int x3), (5, .int x5)] (by decide) rfl dX6_changes_83 ?_
          refine z_iinc C [(5, .int (x5 + (1 : Int32))), (4, .int q2), (0, .ref (a 0)), (1, .int x1), (3, .int x3)] 4 rfl (by first | rfl | decide) (by decide) rfl dX6_changes_85 ?_
          refine z_goto C 43 (by decide) dX6_changes_88 ?_
          refine Zt_l [(0, .ref (a 0)), (1, .int x1), (3, .int x3), (4, .int q2), (5, .int (x5 + (1 : Int32)))] [2, 3, 4, 1, 0] rfl ?_
          exact ih x1 x3 q2 (x5 + (1 : Int32)) (pt 0 32 q1.2 S) h
        · refine z_iload C 3 rfl dX6_changes_71 ?_
          obtain rfl := Option.some.inj h
          exact R rfl 73 _ dX6_changes_73

set_option maxHeartbeats 4000000 in
set_option maxRecDepth 100000 in
theorem L_X6_changes {E : zEnv} {Γ : zG} (a : Nat → Nat) (C : zC E Γ cX6_changes RX6 6 rm_X6_changes wsX6_changes) {res : (Int32 × St)} (R : zRi E Γ cX6_changes 6 .int (wEA E a res.2) res.1) (x1 : Int32) (x2 : Int32) (S : St) (h : f_X6_changes x1 x2 S = some res) : Zt E Γ 6 0 0 (wEA E a S) [(0, .ref (a 0)), (1, .int x1), (2, .int x2)] 0 [] := by
  unfold f_X6_changes at h
  refine z_aload_n C 0 rfl rfl dX6_changes_0 ?_
  refine z_get C 0 rfl (C := RX6) (T := TX6) (N := 11) (ci := 6) rfl inw_X6_changes_X6 0 (by decide) (ref := "EldestAge") (List.mem_of_getElem? (i := 1) rfl) rfl (v := .ref (a 1)) rfl dX6_changes_1 ?_
  refine z_iload_n C 1 rfl rfl dX6_changes_4 ?_
  obtain ⟨q3, e3, h⟩ := bd_e h
  refine z_callVi C (b := a 1) (As := [.int x1]) (rest := []) (c_X5_isHouse E (fun k => a (1 + k)) x1 (sb 0 S) e3) rfl gX6_changes_X5_isHouse rfl rfl rfl 1 rfl (by decide +kernel) ⟨Nat.le_of_ble_eq_true rfl, Nat.le_of_ble_eq_true rfl⟩ [1, 2, 3, 4, 5, 6, 7, 8, 9, 10, 11, 12, 13, 14, 15, 16] (wl_X6_changes_0 E a S) (by decide) rfl (wEA E a S) (zrep_self (wl_X6_changes_0 E a S)) 0 5 rfl rfl rfl (Nat.le_of_ble_eq_true rfl) dX6_changes_5 ⟨Nat.zero_le _, Nat.zero_le _⟩ _ rfl ?_
  refine z_if_eq C 18 (by decide) h dX6_changes_8 (fun hc h => ?_) (fun hc h => ?_)
  · refine z_iconst C (v := (-1 : Int32)) (by decide) dX6_changes_18 ?_
    obtain rfl := Option.some.inj h
    exact R rfl 19 _ dX6_changes_19
  · refine z_iload_n C 2 rfl rfl dX6_changes_11 ?_
    obtain ⟨q4, e4, h⟩ := bd_e h
    refine z_callSi C (rest := []) (c_X6_isDay E x2 e4) gX6_changes_X6_isDay rfl rfl rfl 1 rfl (by decide +kernel) ⟨Nat.le_of_ble_eq_true rfl, Nat.le_of_ble_eq_true rfl⟩ [] rfl (by decide) rfl (wEA E a S) rfl (Nat.le_of_ble_eq_true rfl) dX6_changes_12 ⟨Nat.zero_le _, Nat.zero_le _⟩ _ rfl ?_
    refine z_if_ne C 20 (by decide) h dX6_changes_15 (fun hc h => ?_) (fun hc h => ?_)
    · refine z_iconst C (v := (-1 : Int32)) (by decide) dX6_changes_18 ?_
      obtain rfl := Option.some.inj h
      exact R rfl 19 _ dX6_changes_19
    · refine z_aload_n C 0 rfl rfl dX6_changes_20 ?_
      refine z_get C 0 rfl (C := RX6) (T := TX6) (N := 11) (ci := 6) rfl inw_X6_changes_X6 0 (by decide) (ref := "EldestAge") (List.mem_of_getElem? (i := 1) rfl) rfl (v := .ref (a 1)) rfl dX6_changes_21 ?_
      refine z_iload_n C 1 rfl rfl dX6_changes_24 ?_
      refine z_iload_n C 2 rfl rfl dX6_changes_25 ?_
      obtain ⟨q5, e5, h⟩ := bd_e h
      refine z_callVi C (b := a 1) (As := [.int x1, .int x2]) (rest := []) (c_X5_numberOf E (fun k => a (1 + k)) x1 x2 (sb 0 S) e5) rfl gX6_changes_X5_numberOf rfl rfl rfl 2 rfl (by decide +kernel) ⟨Nat.le_of_ble_eq_true rfl, Nat.le_of_ble_eq_true rfl⟩ [1, 2, 3, 4, 5, 6, 7, 8, 9, 10, 11, 12, 13, 14, 15, 16] (wl_X6_changes_0 E a S) (by decide) (wl_X6_changes_1 E a _ _) (wEA E a (pt 0 32 q5.2 S)) (wl_X6_changes_2 E a S q5.2) 0 5 rfl rfl rfl (Nat.le_of_ble_eq_true rfl) dX6_changes_26 ⟨Nat.zero_le _, Nat.zero_le _⟩ _ rfl ?_
      refine z_istore_n C [(3, .int q5.1), (0, .ref (a 0)), (1, .int x1), (2, .int x2)] rfl (by decide) rfl dX6_changes_29 ?_
      refine z_aload_n C 1 rfl rfl dX6_changes_30 ?_
      refine z_get C 0 rfl (C := RX6) (T := TX6) (N := 11) (ci := 6) rfl inw_X6_changes_X6 0 (by decide) (ref := "EldestAge") (List.mem_of_getElem? (i := 1) rfl) rfl (v := .ref (a 1)) rfl dX6_changes_31 ?_
      refine z_iload_n C 3 rfl rfl dX6_changes_34 ?_
      obtain ⟨q6, e6, h⟩ := bd_e h
      refine z_callVi C (b := a 1) (As := [.int x2]) (rest := []) (c_X5_nextEvent E (fun k => a (1 + k)) x2 (sb 0 (pt 0 32 q5.2 S)) e6) rfl gX6_changes_X5_nextEvent rfl rfl rfl 1 rfl (by decide +kernel) ⟨Nat.le_of_ble_eq_true rfl, Nat.le_of_ble_eq_true rfl⟩ [1, 2, 3, 4, 5, 6, 7, 8, 9, 10, 11, 12, 13, 14, 15, 16] (wl_X6_changes_0 E a (pt 0 32 q5.2 S)) (by decide) rfl (wEA E a (pt 0 32 q5.2 S)) (zrep_self (wl_X6_changes_0 E a (pt 0 32 q5.2 S))) 0 5 rfl rfl rfl (Nat.le_of_ble_eq_true rfl) dX6_changes_35 ⟨Nat.zero_le _, Nat.zero_le _⟩ _ rfl ?_
      refine z_istore C [(4, .int q6), (3, .int q5.1), (0, .ref (a 0)), (1, .int x1), (2, .int x2)] (by decide) rfl dX6_changes_38 ?_
      refine z_iconst C (v := (0 : Int32)) (by decide) dX6_changes_40 ?_
      refine z_istore C [(5, .int (0 : Int32)), (4, .int q6), (3, .int q5.1), (0, .ref (a 0)), (1, .int x1), (2, .int x2)] (by decide) rfl dX6_changes_41 ?_
      refine Zt_l [(0, .ref (a 0)), (1, .int x1), (3, .int q5.1), (4, .int q6), (5, .int (0 : Int32))] [3, 4, 2, 1, 0] rfl ?_
      exact L_X6_changes_43 a C R 40000 x1 q5.1 q6 (0 : Int32) (pt 0 32 q5.2 S) h

theorem c_X6_changes (E : zEnv) (a : Nat → Nat) (x1 : Int32) (x2 : Int32) (S : St) {res : (Int32 × St)} (h : f_X6_changes x1 x2 S = some res) : Kti E yX6_changes wsX6_changes rm_X6_changes (wEA E a S) (wEA E a res.2) [.ref (a 0), .int x1, .int x2] res.1 :=
  z_enti (cc := cX6_changes) (maxL := 6) (rt := .int) (by decide +kernel) rfl (Nat.le_of_ble_eq_true rfl) (fun Γ C R => L_X6_changes a C R x1 x2 S h)

abbrev rm_X6_descending : Room := { frames := 3, cells := 0, slots := 0, locals := 69 }
theorem inw_X6_descending_X6 : ∀ w ∈ wsX60, w ∈ wsX6_descending := fun _ h => List.mem_cons_of_mem _ (List.mem_append_left _ (List.mem_append_left _ (List.mem_append_right _ h)))
theorem inw_X6_descending_X5 : ∀ w ∈ wsX50, w ∈ wsX6_descending := fun _ h => List.mem_cons_of_mem _ (List.mem_append_left _ (List.mem_append_right _ h))
theorem inw_X6_descending_X2 : ∀ w ∈ wsX20, w ∈ wsX6_descending := fun _ h => List.mem_cons_of_mem _ (List.mem_append_right _ h)
set_option maxHeartbeats 4000000 in
theorem wl_X6_descending_0 (E : zEnv) (a : Nat → Nat) (S : St) : ([12, 13, 14, 15, 16] : List Nat).map (fun i => (wEA E a S)[i]?) = (wTally E (fun k => a (12 + k)) (sb 16 S)).map some := rfl
set_option maxHeartbeats 4000000 in
theorem wl_X6_descending_1 (E : zEnv) (a : Nat → Nat) (S U : St) : (wTally E (fun k => a (12 + k)) U).map (fun q => q.1) = (wTally E (fun k => a (12 + k)) S).map (fun q => q.1) := rfl
set_option maxHeartbeats 4000000 in
theorem wl_X6_descending_2 (E : zEnv) (a : Nat → Nat) (S : St) : ([1, 2, 3, 4, 5, 6, 7, 8, 9, 10, 11, 12, 13, 14, 15, 16] : List Nat).map (fun i => (wEA E a S)[i]?) = (wTown E (fun k => a (1 + k)) (sb 0 S)).map some := rfl
set_option maxHeartbeats 4000000 in
theorem wl_X6_descending_3 (E : zEnv) (a : Nat → Nat) (S U : St) : (wTown E (fun k => a (1 + k)) U).map (fun q => q.1) = (wTown E (fun k => a (1 + k)) S).map (fun q => q.1) := rfl
set_option maxHeartbeats 4000000 in
theorem wl_X6_descending_4 (E : zEnv) (a : Nat → Nat) (S U : St) : (wEA E a (pt 0 32 U S)) = zrep [1, 2, 3, 4, 5, 6, 7, 8, 9, 10, 11, 12, 13, 14, 15, 16] (wTown E (fun k => a (1 + k)) U) (wEA E a S) := zrep_of (isR := [0, 17, 18, 19, 20, 21, 22, 23, 24, 25, 26, 27, 28, 29, 30, 31, 32, 33, 34, 35, 36, 37, 38, 39, 40, 41, 42, 43, 44, 45, 46, 47, 48, 49, 50, 51, 52, 53, 54, 55, 56, 57, 58, 59, 60, 61, 62, 63, 64, 65, 66, 67, 68, 69, 70, 71, 72, 73, 74, 75, 76, 77, 78, 79, 80, 81, 82, 83, 84, 85, 86, 87, 88, 89, 90, 91, 92, 93, 94, 95, 96, 97, 98, 99, 100]) 101 rfl [some (a 0, .inr (6, [.ref (a 1), .ref (a 17), .ref (a 65), .ref (a 66), .ref (a 67), .ref (a 69), .ref (a 73), .ref (a 77), .ref (a 93), .int (S 184 0), .int (S 185 0)])), some (a 17, .inr (5, [.int (S 32 0), .int (S 33 0), .int (S 34 0), .ref (a 18), .ref (a 19), .ref (a 20), .ref (a 21), .int (S 39 0), .ref (a 22), .ref (a 23), .ref (a 24), .int (S 43 0), .ref (a 25), .ref (a 26), .ref (a 27), .ref (a 28)])), some (a 18, .inl (zI E, 14, .inl (S 35))), some (a 19, .inl (zI E, 14, .inl (S 36))), some (a 20, .inl (zI E, 14, .inl (S 37))), some (a 21, .inl (zI E, 14, .inl (S 38))), some (a 22, .inl (zI E, 12, .inl (S 40))), some (a 23, .inl (zI E, 12, .inl (S 41))), some (a 24, .inl (zI E, 12, .inl (S 42))), some (a 25, .inl (zI E, 4, .inl (S 44))), some (a 26, .inl (zI E, 4, .inl (S 45))), some (a 27, .inl (zI E, 4, .inl (S 46))), some (a 28, .inr (2, [.ref (a 29), .ref (a 30), .ref (a 31), .ref (a 32)])), some (a 29, .inl (zI E, 8, .inl (S 48))), some (a 30, .inl (zI E, 8, .inl (S 49))), some (a 31, .inl (zI E, 8, .inl (S 50))), some (a 32, .inl (zI E, 8, .inl (S 51))), some (a 65, .inl (zT E, 2, .inr (.inr (.inr (.inr (va_up (va_up (fun _ => none) 0 (some (a 33))) 1 (some (a 49)))))))), some (a 66, .inl (zZ E, 2, .inl (S 186))), some (a 67, .inr (3, [.ref (a 68), .int (S 129 0), .int (S 130 0), .int (S 131 0), .int (S 132 0), .int (S 133 0), .int (S 134 0), .int (S 135 0), .int (S 136 0), .int (S 137 0), .int (S 138 0), .int (S 139 0)])), some (a 68, .inl (zI E, 400, .inl (S 128))), some (a 69, .inr (4, [.int (S 144 0), .ref (a 70), .ref (a 71), .ref (a 72), .int (S 148 0)])), some (a 70, .inl (zI E, 4, .inl (S 145))), some (a 71, .inl (zI E, 4, .inl (S 146))), some (a 72, .inl (zI E, 4, .inl (S 147))), some (a 73, .inr (4, [.int (S 152 0), .ref (a 74), .ref (a 75), .ref (a 76), .int (S 156 0)])), some (a 74, .inl (zI E, 8, .inl (S 153))), some (a 75, .inl (zI E, 8, .inl (S 154))), some (a 76, .inl (zI E, 8, .inl (S 155))), some (a 77, .inr (0, [.int (S 160 0), .ref (a 78), .ref (a 79), .ref (a 80), .ref (a 81), .ref (a 82), .ref (a 83), .ref (a 88)])), some (a 78, .inl (zI E, 4, .inl (S 161))), some (a 79, .inl (zI E, 4, .inl (S 162))), some (a 80, .inl (zI E, 4, .inl (S 163))), some (a 81, .inl (zI E, 4, .inl (S 164))), some (a 82, .inl (zI E, 4, .inl (S 165))), some (a 83, .inr (2, [.ref (a 84), .ref (a 85), .ref (a 86), .ref (a 87)])), some (a 84, .inl (zI E, 8, .inl (S 168))), some (a 85, .inl (zI E, 8, .inl (S 169))), some (a 86, .inl (zI E, 8, .inl (S 170))), some (a 87, .inl (zI E, 8, .inl (S 171))), some (a 88, .inr (2, [.ref (a 89), .ref (a 90), .ref (a 91), .ref (a 92)])), some (a 89, .inl (zI E, 8, .inl (S 172))), some (a 90, .inl (zI E, 8, .inl (S 173))), some (a 91, .inl (zI E, 8, .inl (S 174))), some (a 92, .inl (zI E, 8, .inl (S 175))), some (a 93, .inr (1, [.ref (a 94), .ref (a 99), .ref (a 100)])), some (a 94, .inl (zII E, 4, .inr (.inr (.inr (.inr (va_up (va_up (va_up (va_up (fun _ => none) 0 (some (a 95))) 1 (some (a 96))) 2 (some (a 97))) 3 (some (a 98)))))))), some (a 95, .inl (zI E, 40, .inl (S 176))), some (a 96, .inl (zI E, 40, .inl (S 177))), some (a 97, .inl (zI E, 40, .inl (S 178))), some (a 98, .inl (zI E, 40, .inl (S 179))), some (a 99, .inl (zI E, 4, .inl (S 180))), some (a 100, .inl (zI E, 4, .inl (S 181))), some (a 33, .inr (5, [.int (S 64 0), .int (S 65 0), .int (S 66 0), .ref (a 34), .ref (a 35), .ref (a 36), .ref (a 37), .int (S 71 0), .ref (a 38), .ref (a 39), .ref (a 40), .int (S 75 0), .ref (a 41), .ref (a 42), .ref (a 43), .ref (a 44)])), some (a 34, .inl (zI E, 14, .inl (S 67))), some (a 35, .inl (zI E, 14, .inl (S 68))), some (a 36, .inl (zI E, 14, .inl (S 69))), some (a 37, .inl (zI E, 14, .inl (S 70))), some (a 38, .inl (zI E, 12, .inl (S 72))), some (a 39, .inl (zI E, 12, .inl (S 73))), some (a 40, .inl (zI E, 12, .inl (S 74))), some (a 41, .inl (zI E, 4, .inl (S 76))), some (a 42, .inl (zI E, 4, .inl (S 77))), some (a 43, .inl (zI E, 4, .inl (S 78))), some (a 44, .inr (2, [.ref (a 45), .ref (a 46), .ref (a 47), .ref (a 48)])), some (a 45, .inl (zI E, 8, .inl (S 80))), some (a 46, .inl (zI E, 8, .inl (S 81))), some (a 47, .inl (zI E, 8, .inl (S 82))), some (a 48, .inl (zI E, 8, .inl (S 83))), some (a 49, .inr (5, [.int (S 96 0), .int (S 97 0), .int (S 98 0), .ref (a 50), .ref (a 51), .ref (a 52), .ref (a 53), .int (S 103 0), .ref (a 54), .ref (a 55), .ref (a 56), .int (S 107 0), .ref (a 57), .ref (a 58), .ref (a 59), .ref (a 60)])), some (a 50, .inl (zI E, 14, .inl (S 99))), some (a 51, .inl (zI E, 14, .inl (S 100))), some (a 52, .inl (zI E, 14, .inl (S 101))), some (a 53, .inl (zI E, 14, .inl (S 102))), some (a 54, .inl (zI E, 12, .inl (S 104))), some (a 55, .inl (zI E, 12, .inl (S 105))), some (a 56, .inl (zI E, 12, .inl (S 106))), some (a 57, .inl (zI E, 4, .inl (S 108))), some (a 58, .inl (zI E, 4, .inl (S 109))), some (a 59, .inl (zI E, 4, .inl (S 110))), some (a 60, .inr (2, [.ref (a 61), .ref (a 62), .ref (a 63), .ref (a 64)])), some (a 61, .inl (zI E, 8, .inl (S 112))), some (a 62, .inl (zI E, 8, .inl (S 113))), some (a 63, .inl (zI E, 8, .inl (S 114))), some (a 64, .inl (zI E, 8, .inl (S 115)))] rfl rfl rfl rfl (by decide +kernel) (by decide +kernel)
noncomputable def f_X6_descending_32 (n : Nat) : Int32 → Int32 → St → Option (Int32 × St) := Nat.rec (motive := fun _ => Int32 → Int32 → St → Option (Int32 × St)) (fun _ _ _ => none) (fun _ ih => fun x2 x4 S => (if (S 0 0) ≤ x4 then (some ((-1 : Int32), S)) else ((f_X2_rankOf x4 (S 0 0) (S 1 0) (sb 16 S)).bind (fun q1 => (if q1 = x2 then (some (x4, S)) else (ih x2 (x4 + (1 : Int32)) S)))))) n
theorem f_X6_descending_32_s (n : Nat) (x2 : Int32) (x4 : Int32) (S : St) : f_X6_descending_32 (n + 1) x2 x4 S = (if (S 0 0) ≤ x4 then (some ((-1 : Int32), S)) else ((f_X2_rankOf x4 (S 0 0) (S 1 0) (sb 16 S)).bind (fun q1 => (if q1 = x2 then (some (x4, S)) else ((f_X6_descending_32 n) x2 (x4 + (1 : Int32)) S))))) := rfl
noncomputable def f_X6_descending (x1 : Int32) (x2 : Int32) (S : St) : Option (Int32 × St) := ((f_X6_isDay x1).bind (fun q2 => (if q2 = 0 then (some ((-1 : Int32), S)) else ((f_X5_isHouse x2 (sb 0 S)).bind (fun q3 => (if q3 = 0 then (some ((-1 : Int32), S)) else ((f_X5_tallyOn x1 (sb 0 S)).bind (fun q4 => (f_X6_descending_32 1000 x2 (0 : Int32) (pt 0 32 q4 S))))))))))
set_option maxHeartbeats 4000000 in
set_option maxRecDepth 100000 in
theorem L_X6_descending_32 {E : zEnv} {Γ : zG} (a : Nat → Nat) (C : zC E Γ cX6_descending RX6 5 rm_X6_descending wsX6_descending) {res : (Int32 × St)} (R : zRi E Γ cX6_descending 5 .int (wEA E a res.2) res.1) : ∀ (n : Nat) (x2 : Int32) (x4 : Int32) (S : St), f_X6_descending_32 n x2 x4 S = some res → Zt E Γ 5 0 0 (wEA E a S) [(0, .ref (a 0)), (2, .int x2), (3, .ref (a 12)), (4, .int x4)] 32 [] := by
  intro n
  induction n with
  | zero =>
    intro x2 x4 S h
    cases h
  | succ n ih =>
    intro x2 x4 S h
    rw [f_X6_descending_32_s] at h
    refine z_iload C 3 rfl dX6_descending_32 ?_
    refine z_aload_n C 0 rfl rfl dX6_descending_34 ?_
    refine z_get C 0 rfl (C := RX6) (T := TX6) (N := 11) (ci := 6) rfl inw_X6_descending_X6 0 (by decide) (ref := "EldestAge") (List.mem_of_getElem? (i := 1) rfl) rfl (v := .ref (a 1)) rfl dX6_descending_35 ?_
    refine z_get C 1 rfl (C := RX5) (T := TX5) (N := 16) (ci := 5) rfl inw_X6_descending_X5 0 (by decide) (ref := "EldestAge$Town") (List.mem_of_getElem? (i := 2) rfl) rfl (v := .int (S 0 0)) rfl dX6_descending_38 ?_
    refine z_icmp_ge C 77 (by decide) h dX6_descending_41 (fun hc h => ?_) (fun hc h => ?_)
    · refine z_iconst C (v := (-1 : Int32)) (by decide) dX6_descending_77 ?_
      obtain rfl := Option.some.inj h
      exact R rfl 78 _ dX6_descending_78
    · refine z_aload_n C 2 rfl rfl dX6_descending_44 ?_
      refine z_iload C 3 rfl dX6_descending_45 ?_
      refine z_aload_n C 0 rfl rfl dX6_descending_47 ?_
      refine z_get C 0 rfl (C := RX6) (T := TX6) (N := 11) (ci := 6) rfl inw_X6_descending_X6 0 (by decide) (ref := "EldestAge") (List.mem_of_getElem? (i := 1) rfl) rfl (v := .ref (a 1)) rfl dX6_descending_48 ?_
      refine z_get C 1 rfl (C := RX5) (T := TX5) (N := 16) (ci := 5) rfl inw_X6_descending_X5 0 (by decide) (ref := "EldestAge$Town") (List.mem_of_getElem? (i := 2) rfl) rfl (v := .int (S 0 0)) rfl dX6_descending_51 ?_
      refine z_aload_n C 0 rfl rfl dX6_descending_54 ?_
      refine z_get C 0 rfl (C := RX6) (T := TX6) (N := 11) (ci := 6) rfl inw_X6_descending_X6 0 (by decide) (ref := "EldestAge") (List.mem_of_getElem? (i := 1) rfl) rfl (v := .ref (a 1)) rfl dX6_descending_55 ?_
      refine z_get C 1 rfl (C := RX5) (T := TX5) (N := 16) (ci := 5) rfl inw_X6_descending_X5 1 (by decide) (ref := "EldestAge$Town") (List.mem_of_getElem? (i := 3) rfl) rfl (v := .int (S 1 0)) rfl dX6_descending_58 ?_
      obtain ⟨q1, e1, h⟩ := bd_e h
      refine z_callVi C (b := a 12) (As := [.int x4, .int (S 0 0), .int (S 1 0)]) (rest := []) (c_X2_rankOf E (fun k => a (12 + k)) x4 (S 0 0) (S 1 0) (sb 16 S) e1) rfl gX6_descending_X2_rankOf rfl rfl rfl 3 rfl (by decide +kernel) ⟨Nat.le_of_ble_eq_true rfl, Nat.le_of_ble_eq_true rfl⟩ [12, 13, 14, 15, 16] (wl_X6_descending_0 E a S) (by decide) rfl (wEA E a S) (zrep_self (wl_X6_descending_0 E a S)) 0 2 rfl rfl rfl (Nat.le_of_ble_eq_true rfl) dX6_descending_61 ⟨Nat.zero_le _, Nat.zero_le _⟩ _ rfl ?_
      refine z_iload_n C 1 rfl rfl dX6_descending_64 ?_
      refine z_icmp_ne C 71 (by decide) h dX6_descending_65 (fun hc h => ?_) (fun hc h => ?_)
      · refine z_iload C 3 rfl dX6_descending_68 ?_
        obtain rfl := Option.some.inj h
        exact R rfl 70 _ dX6_descending_70
      · refine z_iinc C [(4, .int (x4 + (1 : Int32))), (0, .ref (a 0)), (2, .int x2), (3, .ref (a 12))] 3 rfl (by first | rfl | decide) (by decide) rfl dX6_descending_71 ?_
        refine z_goto C 32 (by decide) dX6_descending_74 ?_
        refine Zt_l [(0, .ref (a 0)), (2, .int x2), (3, .ref (a 12)), (4, .int (x4 + (1 : Int32)))] [1, 2, 3, 0] rfl ?_
        exact ih x2 (x4 + (1 : Int32)) S h

set_option maxHeartbeats 4000000 in
set_option maxRecDepth 100000 in
theorem L_X6_descending {E : zEnv} {Γ : zG} (a : Nat → Nat) (C : zC E Γ cX6_descending RX6 5 rm_X6_descending wsX6_descending) {res : (Int32 × St)} (R : zRi E Γ cX6_descending 5 .int (wEA E a res.2) res.1) (x1 : Int32) (x2 : Int32) (S : St) (h : f_X6_descending x1 x2 S = some res) : Zt E Γ 5 0 0 (wEA E a S) [(0, .ref (a 0)), (1, .int x1), (2, .int x2)] 0 [] := by
  unfold f_X6_descending at h
  refine z_iload_n C 1 rfl rfl dX6_descending_0 ?_
  obtain ⟨q2, e2, h⟩ := bd_e h
  refine z_callSi C (rest := []) (c_X6_isDay E x1 e2) gX6_descending_X6_isDay rfl rfl rfl 1 rfl (by decide +kernel) ⟨Nat.le_of_ble_eq_true rfl, Nat.le_of_ble_eq_true rfl⟩ [] rfl (by decide) rfl (wEA E a S) rfl (Nat.le_of_ble_eq_true rfl) dX6_descending_1 ⟨Nat.zero_le _, Nat.zero_le _⟩ _ rfl ?_
  refine z_if_eq C 18 (by decide) h dX6_descending_4 (fun hc h => ?_) (fun hc h => ?_)
  · refine z_iconst C (v := (-1 : Int32)) (by decide) dX6_descending_18 ?_
    obtain rfl := Option.some.inj h
    exact R rfl 19 _ dX6_descending_19
  · refine z_aload_n C 0 rfl rfl dX6_descending_7 ?_
    refine z_get C 0 rfl (C := RX6) (T := TX6) (N := 11) (ci := 6) rfl inw_X6_descending_X6 0 (by decide) (ref := "EldestAge") (List.mem_of_getElem? (i := 1) rfl) rfl (v := .ref (a 1)) rfl dX6_descending_8 ?_
    refine z_iload_n C 2 rfl rfl dX6_descending_11 ?_
    obtain ⟨q3, e3, h⟩ := bd_e h
    refine z_callVi C (b := a 1) (As := [.int x2]) (rest := []) (c_X5_isHouse E (fun k => a (1 + k)) x2 (sb 0 S) e3) rfl gX6_descending_X5_isHouse rfl rfl rfl 1 rfl (by decide +kernel) ⟨Nat.le_of_ble_eq_true rfl, Nat.le_of_ble_eq_true rfl⟩ [1, 2, 3, 4, 5, 6, 7, 8, 9, 10, 11, 12, 13, 14, 15, 16] (wl_X6_descending_2 E a S) (by decide) rfl (wEA E a S) (zrep_self (wl_X6_descending_2 E a S)) 0 5 rfl rfl rfl (Nat.le_of_ble_eq_true rfl) dX6_descending_12 ⟨Nat.zero_le _, Nat.zero_le _⟩ _ rfl ?_
    refine z_if_ne C 20 (by decide) h dX6_descending_15 (fun hc h => ?_) (fun hc h => ?_)
    · refine z_iconst C (v := (-1 : Int32)) (by decide) dX6_descending_18 ?_
      obtain rfl := Option.some.inj h
      exact R rfl 19 _ dX6_descending_19
    · refine z_aload_n C 0 rfl rfl dX6_descending_20 ?_
      refine z_get C 0 rfl (C := RX6) (T := TX6) (N := 11) (ci := 6) rfl inw_X6_descending_X6 0 (by decide) (ref := "EldestAge") (List.mem_of_getElem? (i := 1) rfl) rfl (v := .ref (a 1)) rfl dX6_descending_21 ?_
      refine z_iload_n C 1 rfl rfl dX6_descending_24 ?_
      obtain ⟨q4, e4, h⟩ := bd_e h
      refine z_callVr C (b := a 1) (As := [.int x1]) (rest := []) (c_X5_tallyOn E (fun k => a (1 + k)) x1 (sb 0 S) e4) rfl gX6_descending_X5_tallyOn rfl rfl rfl 1 rfl (by decide +kernel) ⟨Nat.le_of_ble_eq_true rfl, Nat.le_of_ble_eq_true rfl⟩ [1, 2, 3, 4, 5, 6, 7, 8, 9, 10, 11, 12, 13, 14, 15, 16] (wl_X6_descending_2 E a S) (by decide) (wl_X6_descending_3 E a _ _) (wEA E a (pt 0 32 q4 S)) (wl_X6_descending_4 E a S q4) 0 5 rfl rfl rfl (Nat.le_of_ble_eq_true rfl) dX6_descending_25 ⟨Nat.zero_le _, Nat.zero_le _⟩ _ rfl ?_
      refine z_astore_n C [(3, .ref (a 12)), (0, .ref (a 0)), (1, .int x1), (2, .int x2)] rfl (by decide) rfl dX6_descending_28 ?_
      refine z_iconst C (v := (0 : Int32)) (by decide) dX6_descending_29 ?_
      refine z_istore C [(4, .int (0 : Int32)), (3, .ref (a 12)), (0, .ref (a 0)), (1, .int x1), (2, .int x2)] (by decide) rfl dX6_descending_30 ?_
      refine Zt_l [(0, .ref (a 0)), (2, .int x2), (3, .ref (a 12)), (4, .int (0 : Int32))] [2, 4, 1, 0] rfl ?_
      exact L_X6_descending_32 a C R 1000 x2 (0 : Int32) (pt 0 32 q4 S) h

theorem c_X6_descending (E : zEnv) (a : Nat → Nat) (x1 : Int32) (x2 : Int32) (S : St) {res : (Int32 × St)} (h : f_X6_descending x1 x2 S = some res) : Kti E yX6_descending wsX6_descending rm_X6_descending (wEA E a S) (wEA E a res.2) [.ref (a 0), .int x1, .int x2] res.1 :=
  z_enti (cc := cX6_descending) (maxL := 5) (rt := .int) (by decide +kernel) rfl (Nat.le_of_ble_eq_true rfl) (fun Γ C R => L_X6_descending a C R x1 x2 S h)

abbrev rm_X6_all : Room := { frames := 4, cells := 0, slots := 0, locals := 95 }
theorem inw_X6_all_X6 : ∀ w ∈ wsX60, w ∈ wsX6_all := fun _ h => List.mem_cons_of_mem _ (List.mem_append_left _ (List.mem_append_left _ (List.mem_append_right _ h)))
theorem inw_X6_all_X5 : ∀ w ∈ wsX50, w ∈ wsX6_all := fun _ h => List.mem_cons_of_mem _ (List.mem_append_left _ (List.mem_append_right _ h))
theorem inw_X6_all_X2 : ∀ w ∈ wsX20, w ∈ wsX6_all := fun _ h => List.mem_cons_of_mem _ (List.mem_append_right _ h)
set_option maxHeartbeats 4000000 in
theorem wl_X6_all_0 (E : zEnv) (a : Nat → Nat) (S : St) : ([1, 2, 3, 4, 5, 6, 7, 8, 9, 10, 11, 12, 13, 14, 15, 16] : List Nat).map (fun i => (wEA E a S)[i]?) = (wTown E (fun k => a (1 + k)) (sb 0 S)).map some := rfl
set_option maxHeartbeats 4000000 in
theorem wl_X6_all_1 (E : zEnv) (a : Nat → Nat) (S U : St) : (wTown E (fun k => a (1 + k)) U).map (fun q => q.1) = (wTown E (fun k => a (1 + k)) S).map (fun q => q.1) := rfl
set_option maxHeartbeats 4000000 in
theorem wl_X6_all_2 (E : zEnv) (a : Nat → Nat) (S U : St) : (wEA E a (pt 0 32 U S)) = zrep [1, 2, 3, 4, 5, 6, 7, 8, 9, 10, 11, 12, 13, 14, 15, 16] (wTown E (fun k => a (1 + k)) U) (wEA E a S) := zrep_of (isR := [0, 17, 18, 19, 20, 21, 22, 23, 24, 25, 26, 27, 28, 29, 30, 31, 32, 33, 34, 35, 36, 37, 38, 39, 40, 41, 42, 43, 44, 45, 46, 47, 48, 49, 50, 51, 52, 53, 54, 55, 56, 57, 58, 59, 60, 61, 62, 63, 64, 65, 66, 67, 68, 69, 70, 71, 72, 73, 74, 75, 76, 77, 78, 79, 80, 81, 82, 83, 84, 85, 86, 87, 88, 89, 90, 91, 92, 93, 94, 95, 96, 97, 98, 99, 100]) 101 rfl [some (a 0, .inr (6, [.ref (a 1), .ref (a 17), .ref (a 65), .ref (a 66), .ref (a 67), .ref (a 69), .ref (a 73), .ref (a 77), .ref (a 93), .int (S 184 0), .int (S 185 0)])), some (a 17, .inr (5, [.int (S 32 0), .int (S 33 0), .int (S 34 0), .ref (a 18), .ref (a 19), .ref (a 20), .ref (a 21), .int (S 39 0), .ref (a 22), .ref (a 23), .ref (a 24), .int (S 43 0), .ref (a 25), .ref (a 26), .ref (a 27), .ref (a 28)])), some (a 18, .inl (zI E, 14, .inl (S 35))), some (a 19, .inl (zI E, 14, .inl (S 36))), some (a 20, .inl (zI E, 14, .inl (S 37))), some (a 21, .inl (zI E, 14, .inl (S 38))), some (a 22, .inl (zI E, 12, .inl (S 40))), some (a 23, .inl (zI E, 12, .inl (S 41))), some (a 24, .inl (zI E, 12, .inl (S 42))), some (a 25, .inl (zI E, 4, .inl (S 44))), some (a 26, .inl (zI E, 4, .inl (S 45))), some (a 27, .inl (zI E, 4, .inl (S 46))), some (a 28, .inr (2, [.ref (a 29), .ref (a 30), .ref (a 31), .ref (a 32)])), some (a 29, .inl (zI E, 8, .inl (S 48))), some (a 30, .inl (zI E, 8, .inl (S 49))), some (a 31, .inl (zI E, 8, .inl (S 50))), some (a 32, .inl (zI E, 8, .inl (S 51))), some (a 65, .inl (zT E, 2, .inr (.inr (.inr (.inr (va_up (va_up (fun _ => none) 0 (some (a 33))) 1 (some (a 49)))))))), some (a 66, .inl (zZ E, 2, .inl (S 186))), some (a 67, .inr (3, [.ref (a 68), .int (S 129 0), .int (S 130 0), .int (S 131 0), .int (S 132 0), .int (S 133 0), .int (S 134 0), .int (S 135 0), .int (S 136 0), .int (S 137 0), .int (S 138 0), .int (S 139 0)])), some (a 68, .inl (zI E, 400, .inl (S 128))), some (a 69, .inr (4, [.int (S 144 0), .ref (a 70), .ref (a 71), .ref (a 72), .int (S 148 0)])), some (a 70, .inl (zI E, 4, .inl (S 145))), some (a 71, .inl (zI E, 4, .inl (S 146))), some (a 72, .inl (zI E, 4, .inl (S 147))), some (a 73, .inr (4, [.int (S 152 0), .ref (a 74), .ref (a 75), .ref (a 76), .int (S 156 0)])), some (a 74, .inl (zI E, 8, .inl (S 153))), some (a 75, .inl (zI E, 8, .inl (S 154))), some (a 76, .inl (zI E, 8, .inl (S 155))), some (a 77, .inr (0, [.int (S 160 0), .ref (a 78), .ref (a 79), .ref (a 80), .ref (a 81), .ref (a 82), .ref (a 83), .ref (a 88)])), some (a 78, .inl (zI E, 4, .inl (S 161))), some (a 79, .inl (zI E, 4, .inl (S 162))), some (a 80, .inl (zI E, 4, .inl (S 163))), some (a 81, .inl (zI E, 4, .inl (S 164))), some (a 82, .inl (zI E, 4, .inl (S 165))), some (a 83, .inr (2, [.ref (a 84), .ref (a 85), .ref (a 86), .ref (a 87)])), some (a 84, .inl (zI E, 8, .inl (S 168))), some (a 85, .inl (zI E, 8, .inl (S 169))), some (a 86, .inl (zI E, 8, .inl (S 170))), some (a 87, .inl (zI E, 8, .inl (S 171))), some (a 88, .inr (2, [.ref (a 89), .ref (a 90), .ref (a 91), .ref (a 92)])), some (a 89, .inl (zI E, 8, .inl (S 172))), some (a 90, .inl (zI E, 8, .inl (S 173))), some (a 91, .inl (zI E, 8, .inl (S 174))), some (a 92, .inl (zI E, 8, .inl (S 175))), some (a 93, .inr (1, [.ref (a 94), .ref (a 99), .ref (a 100)])), some (a 94, .inl (zII E, 4, .inr (.inr (.inr (.inr (va_up (va_up (va_up (va_up (fun _ => none) 0 (some (a 95))) 1 (some (a 96))) 2 (some (a 97))) 3 (some (a 98)))))))), some (a 95, .inl (zI E, 40, .inl (S 176))), some (a 96, .inl (zI E, 40, .inl (S 177))), some (a 97, .inl (zI E, 40, .inl (S 178))), some (a 98, .inl (zI E, 40, .inl (S 179))), some (a 99, .inl (zI E, 4, .inl (S 180))), some (a 100, .inl (zI E, 4, .inl (S 181))), some (a 33, .inr (5, [.int (S 64 0), .int (S 65 0), .int (S 66 0), .ref (a 34), .ref (a 35), .ref (a 36), .ref (a 37), .int (S 71 0), .ref (a 38), .ref (a 39), .ref (a 40), .int (S 75 0), .ref (a 41), .ref (a 42), .ref (a 43), .ref (a 44)])), some (a 34, .inl (zI E, 14, .inl (S 67))), some (a 35, .inl (zI E, 14, .inl (S 68))), some (a 36, .inl (zI E, 14, .inl (S 69))), some (a 37, .inl (zI E, 14, .inl (S 70))), some (a 38, .inl (zI E, 12, .inl (S 72))), some (a 39, .inl (zI E, 12, .inl (S 73))), some (a 40, .inl (zI E, 12, .inl (S 74))), some (a 41, .inl (zI E, 4, .inl (S 76))), some (a 42, .inl (zI E, 4, .inl (S 77))), some (a 43, .inl (zI E, 4, .inl (S 78))), some (a 44, .inr (2, [.ref (a 45), .ref (a 46), .ref (a 47), .ref (a 48)])), some (a 45, .inl (zI E, 8, .inl (S 80))), some (a 46, .inl (zI E, 8, .inl (S 81))), some (a 47, .inl (zI E, 8, .inl (S 82))), some (a 48, .inl (zI E, 8, .inl (S 83))), some (a 49, .inr (5, [.int (S 96 0), .int (S 97 0), .int (S 98 0), .ref (a 50), .ref (a 51), .ref (a 52), .ref (a 53), .int (S 103 0), .ref (a 54), .ref (a 55), .ref (a 56), .int (S 107 0), .ref (a 57), .ref (a 58), .ref (a 59), .ref (a 60)])), some (a 50, .inl (zI E, 14, .inl (S 99))), some (a 51, .inl (zI E, 14, .inl (S 100))), some (a 52, .inl (zI E, 14, .inl (S 101))), some (a 53, .inl (zI E, 14, .inl (S 102))), some (a 54, .inl (zI E, 12, .inl (S 104))), some (a 55, .inl (zI E, 12, .inl (S 105))), some (a 56, .inl (zI E, 12, .inl (S 106))), some (a 57, .inl (zI E, 4, .inl (S 108))), some (a 58, .inl (zI E, 4, .inl (S 109))), some (a 59, .inl (zI E, 4, .inl (S 110))), some (a 60, .inr (2, [.ref (a 61), .ref (a 62), .ref (a 63), .ref (a 64)])), some (a 61, .inl (zI E, 8, .inl (S 112))), some (a 62, .inl (zI E, 8, .inl (S 113))), some (a 63, .inl (zI E, 8, .inl (S 114))), some (a 64, .inl (zI E, 8, .inl (S 115)))] rfl rfl rfl rfl (by decide +kernel) (by decide +kernel)
noncomputable def f_X6_all (x1 : Int32) (x2 : Int32) (S : St) : Option (Int32 × St) := ((f_X6_isDay x1).bind (fun q1 => (if q1 = 0 then (some ((-1 : Int32), S)) else ((f_X6_isLaw x2).bind (fun q2 => (if q2 = 0 then (some ((-1 : Int32), S)) else ((f_X5_allNumbers x1 x2 (sb 0 S)).bind (fun q3 => (some (q3.1, (pt 0 32 q3.2 S)))))))))))
set_option maxHeartbeats 4000000 in
set_option maxRecDepth 100000 in
theorem L_X6_all {E : zEnv} {Γ : zG} (a : Nat → Nat) (C : zC E Γ cX6_all RX6 3 rm_X6_all wsX6_all) {res : (Int32 × St)} (R : zRi E Γ cX6_all 3 .int (wEA E a res.2) res.1) (x1 : Int32) (x2 : Int32) (S : St) (h : f_X6_all x1 x2 S = some res) : Zt E Γ 3 0 0 (wEA E a S) [(0, .ref (a 0)), (1, .int x1), (2, .int x2)] 0 [] := by
  unfold f_X6_all at h
  refine z_iload_n C 1 rfl rfl dX6_all_0 ?_
  obtain ⟨q1, e1, h⟩ := bd_e h
  refine z_callSi C (rest := []) (c_X6_isDay E x1 e1) gX6_all_X6_isDay rfl rfl rfl 1 rfl (by decide +kernel) ⟨Nat.le_of_ble_eq_true rfl, Nat.le_of_ble_eq_true rfl⟩ [] rfl (by decide) rfl (wEA E a S) rfl (Nat.le_of_ble_eq_true rfl) dX6_all_1 ⟨Nat.zero_le _, Nat.zero_le _⟩ _ rfl ?_
  refine z_if_eq C 14 (by decide) h dX6_all_4 (fun hc h => ?_) (fun hc h => ?_)
  · refine z_iconst C (v := (-1 : Int32)) (by decide) dX6_all_14 ?_
    obtain rfl := Option.some.inj h
    exact R rfl 15 _ dX6_all_15
  · refine z_iload_n C 2 rfl rfl dX6_all_7 ?_
    obtain ⟨q2, e2, h⟩ := bd_e h
    refine z_callSi C (rest := []) (c_X6_isLaw E x2 e2) gX6_all_X6_isLaw rfl rfl rfl 1 rfl (by decide +kernel) ⟨Nat.le_of_ble_eq_true rfl, Nat.le_of_ble_eq_true rfl⟩ [] rfl (by decide) rfl (wEA E a S) rfl (Nat.le_of_ble_eq_true rfl) dX6_all_8 ⟨Nat.zero_le _, Nat.zero_le _⟩ _ rfl ?_
    refine z_if_ne C 16 (by decide) h dX6_all_11 (fun hc h => ?_) (fun hc h => ?_)
    · refine z_iconst C (v := (-1 : Int32)) (by decide) dX6_all_14 ?_
      obtain rfl := Option.some.inj h
      exact R rfl 15 _ dX6_all_15
    · refine z_aload_n C 0 rfl rfl dX6_all_16 ?_
      refine z_get C 0 rfl (C := RX6) (T := TX6) (N := 11) (ci := 6) rfl inw_X6_all_X6 0 (by decide) (ref := "EldestAge") (List.mem_of_getElem? (i := 1) rfl) rfl (v := .ref (a 1)) rfl dX6_all_17 ?_
      refine z_iload_n C 1 rfl rfl dX6_all_20 ?_
      refine z_iload_n C 2 rfl rfl dX6_all_21 ?_
      obtain ⟨q3, e3, h⟩ := bd_e h
      refine z_callVi C (b := a 1) (As := [.int x1, .int x2]) (rest := []) (c_X5_allNumbers E (fun k => a (1 + k)) x1 x2 (sb 0 S) e3) rfl gX6_all_X5_allNumbers rfl rfl rfl 2 rfl (by decide +kernel) ⟨Nat.le_of_ble_eq_true rfl, Nat.le_of_ble_eq_true rfl⟩ [1, 2, 3, 4, 5, 6, 7, 8, 9, 10, 11, 12, 13, 14, 15, 16] (wl_X6_all_0 E a S) (by decide) (wl_X6_all_1 E a _ _) (wEA E a (pt 0 32 q3.2 S)) (wl_X6_all_2 E a S q3.2) 0 5 rfl rfl rfl (Nat.le_of_ble_eq_true rfl) dX6_all_22 ⟨Nat.zero_le _, Nat.zero_le _⟩ _ rfl ?_
      obtain rfl := Option.some.inj h
      exact R rfl 25 _ dX6_all_25

theorem c_X6_all (E : zEnv) (a : Nat → Nat) (x1 : Int32) (x2 : Int32) (S : St) {res : (Int32 × St)} (h : f_X6_all x1 x2 S = some res) : Kti E yX6_all wsX6_all rm_X6_all (wEA E a S) (wEA E a res.2) [.ref (a 0), .int x1, .int x2] res.1 :=
  z_enti (cc := cX6_all) (maxL := 3) (rt := .int) (by decide +kernel) rfl (Nat.le_of_ble_eq_true rfl) (fun Γ C R => L_X6_all a C R x1 x2 S h)

abbrev rm_X6_letter : Room := { frames := 4, cells := 0, slots := 0, locals := 94 }
theorem inw_X6_letter_X6 : ∀ w ∈ wsX60, w ∈ wsX6_letter := fun _ h => List.mem_cons_of_mem _ (List.mem_append_left _ (List.mem_append_left _ (List.mem_append_right _ h)))
theorem inw_X6_letter_X5 : ∀ w ∈ wsX50, w ∈ wsX6_letter := fun _ h => List.mem_cons_of_mem _ (List.mem_append_left _ (List.mem_append_right _ h))
theorem inw_X6_letter_X2 : ∀ w ∈ wsX20, w ∈ wsX6_letter := fun _ h => List.mem_cons_of_mem _ (List.mem_append_right _ h)
set_option maxHeartbeats 4000000 in
theorem wl_X6_letter_0 (E : zEnv) (a : Nat → Nat) (S : St) : ([1, 2, 3, 4, 5, 6, 7, 8, 9, 10, 11, 12, 13, 14, 15, 16] : List Nat).map (fun i => (wEA E a S)[i]?) = (wTown E (fun k => a (1 + k)) (sb 0 S)).map some := rfl
set_option maxHeartbeats 4000000 in
theorem wl_X6_letter_1 (E : zEnv) (a : Nat → Nat) (S U : St) : (wTown E (fun k => a (1 + k)) U).map (fun q => q.1) = (wTown E (fun k => a (1 + k)) S).map (fun q => q.1) := rfl
set_option maxHeartbeats 4000000 in
theorem wl_X6_letter_2 (E : zEnv) (a : Nat → Nat) (S U : St) : (wEA E a (pt 0 32 U S)) = zrep [1, 2, 3, 4, 5, 6, 7, 8, 9, 10, 11, 12, 13, 14, 15, 16] (wTown E (fun k => a (1 + k)) U) (wEA E a S) := zrep_of (isR := [0, 17, 18, 19, 20, 21, 22, 23, 24, 25, 26, 27, 28, 29, 30, 31, 32, 33, 34, 35, 36, 37, 38, 39, 40, 41, 42, 43, 44, 45, 46, 47, 48, 49, 50, 51, 52, 53, 54, 55, 56, 57, 58, 59, 60, 61, 62, 63, 64, 65, 66, 67, 68, 69, 70, 71, 72, 73, 74, 75, 76, 77, 78, 79, 80, 81, 82, 83, 84, 85, 86, 87, 88, 89, 90, 91, 92, 93, 94, 95, 96, 97, 98, 99, 100]) 101 rfl [some (a 0, .inr (6, [.ref (a 1), .ref (a 17), .ref (a 65), .ref (a 66), .ref (a 67), .ref (a 69), .ref (a 73), .ref (a 77), .ref (a 93), .int (S 184 0), .int (S 185 0)])), some (a 17, .inr (5, [.int (S 32 0), .int (S 33 0), .int (S 34 0), .ref (a 18), .ref (a 19), .ref (a 20), .ref (a 21), .int (S 39 0), .ref (a 22), .ref (a 23), .ref (a 24), .int (S 43 0), .ref (a 25), .ref (a 26), .ref (a 27), .ref (a 28)])), some (a 18, .inl (zI E, 14, .inl (S 35))), some (a 19, .inl (zI E, 14, .inl (S 36))), some (a 20, .inl (zI E, 14, .inl (S 37))), some (a 21, .inl (zI E, 14, .inl (S 38))), some (a 22, .inl (zI E, 12, .inl (S 40))), some (a 23, .inl (zI E, 12, .inl (S 41))), some (a 24, .inl (zI E, 12, .inl (S 42))), some (a 25, .inl (zI E, 4, .inl (S 44))), some (a 26, .inl (zI E, 4, .inl (S 45))), some (a 27, .inl (zI E, 4, .inl (S 46))), some (a 28, .inr (2, [.ref (a 29), .ref (a 30), .ref (a 31), .ref (a 32)])), some (a 29, .inl (zI E, 8, .inl (S 48))), some (a 30, .inl (zI E, 8, .inl (S 49))), some (a 31, .inl (zI E, 8, .inl (S 50))), some (a 32, .inl (zI E, 8, .inl (S 51))), some (a 65, .inl (zT E, 2, .inr (.inr (.inr (.inr (va_up (va_up (fun _ => none) 0 (some (a 33))) 1 (some (a 49)))))))), some (a 66, .inl (zZ E, 2, .inl (S 186))), some (a 67, .inr (3, [.ref (a 68), .int (S 129 0), .int (S 130 0), .int (S 131 0), .int (S 132 0), .int (S 133 0), .int (S 134 0), .int (S 135 0), .int (S 136 0), .int (S 137 0), .int (S 138 0), .int (S 139 0)])), some (a 68, .inl (zI E, 400, .inl (S 128))), some (a 69, .inr (4, [.int (S 144 0), .ref (a 70), .ref (a 71), .ref (a 72), .int (S 148 0)])), some (a 70, .inl (zI E, 4, .inl (S 145))), some (a 71, .inl (zI E, 4, .inl (S 146))), some (a 72, .inl (zI E, 4, .inl (S 147))), some (a 73, .inr (4, [.int (S 152 0), .ref (a 74), .ref (a 75), .ref (a 76), .int (S 156 0)])), some (a 74, .inl (zI E, 8, .inl (S 153))), some (a 75, .inl (zI E, 8, .inl (S 154))), some (a 76, .inl (zI E, 8, .inl (S 155))), some (a 77, .inr (0, [.int (S 160 0), .ref (a 78), .ref (a 79), .ref (a 80), .ref (a 81), .ref (a 82), .ref (a 83), .ref (a 88)])), some (a 78, .inl (zI E, 4, .inl (S 161))), some (a 79, .inl (zI E, 4, .inl (S 162))), some (a 80, .inl (zI E, 4, .inl (S 163))), some (a 81, .inl (zI E, 4, .inl (S 164))), some (a 82, .inl (zI E, 4, .inl (S 165))), some (a 83, .inr (2, [.ref (a 84), .ref (a 85), .ref (a 86), .ref (a 87)])), some (a 84, .inl (zI E, 8, .inl (S 168))), some (a 85, .inl (zI E, 8, .inl (S 169))), some (a 86, .inl (zI E, 8, .inl (S 170))), some (a 87, .inl (zI E, 8, .inl (S 171))), some (a 88, .inr (2, [.ref (a 89), .ref (a 90), .ref (a 91), .ref (a 92)])), some (a 89, .inl (zI E, 8, .inl (S 172))), some (a 90, .inl (zI E, 8, .inl (S 173))), some (a 91, .inl (zI E, 8, .inl (S 174))), some (a 92, .inl (zI E, 8, .inl (S 175))), some (a 93, .inr (1, [.ref (a 94), .ref (a 99), .ref (a 100)])), some (a 94, .inl (zII E, 4, .inr (.inr (.inr (.inr (va_up (va_up (va_up (va_up (fun _ => none) 0 (some (a 95))) 1 (some (a 96))) 2 (some (a 97))) 3 (some (a 98)))))))), some (a 95, .inl (zI E, 40, .inl (S 176))), some (a 96, .inl (zI E, 40, .inl (S 177))), some (a 97, .inl (zI E, 40, .inl (S 178))), some (a 98, .inl (zI E, 40, .inl (S 179))), some (a 99, .inl (zI E, 4, .inl (S 180))), some (a 100, .inl (zI E, 4, .inl (S 181))), some (a 33, .inr (5, [.int (S 64 0), .int (S 65 0), .int (S 66 0), .ref (a 34), .ref (a 35), .ref (a 36), .ref (a 37), .int (S 71 0), .ref (a 38), .ref (a 39), .ref (a 40), .int (S 75 0), .ref (a 41), .ref (a 42), .ref (a 43), .ref (a 44)])), some (a 34, .inl (zI E, 14, .inl (S 67))), some (a 35, .inl (zI E, 14, .inl (S 68))), some (a 36, .inl (zI E, 14, .inl (S 69))), some (a 37, .inl (zI E, 14, .inl (S 70))), some (a 38, .inl (zI E, 12, .inl (S 72))), some (a 39, .inl (zI E, 12, .inl (S 73))), some (a 40, .inl (zI E, 12, .inl (S 74))), some (a 41, .inl (zI E, 4, .inl (S 76))), some (a 42, .inl (zI E, 4, .inl (S 77))), some (a 43, .inl (zI E, 4, .inl (S 78))), some (a 44, .inr (2, [.ref (a 45), .ref (a 46), .ref (a 47), .ref (a 48)])), some (a 45, .inl (zI E, 8, .inl (S 80))), some (a 46, .inl (zI E, 8, .inl (S 81))), some (a 47, .inl (zI E, 8, .inl (S 82))), some (a 48, .inl (zI E, 8, .inl (S 83))), some (a 49, .inr (5, [.int (S 96 0), .int (S 97 0), .int (S 98 0), .ref (a 50), .ref (a 51), .ref (a 52), .ref (a 53), .int (S 103 0), .ref (a 54), .ref (a 55), .ref (a 56), .int (S 107 0), .ref (a 57), .ref (a 58), .ref (a 59), .ref (a 60)])), some (a 50, .inl (zI E, 14, .inl (S 99))), some (a 51, .inl (zI E, 14, .inl (S 100))), some (a 52, .inl (zI E, 14, .inl (S 101))), some (a 53, .inl (zI E, 14, .inl (S 102))), some (a 54, .inl (zI E, 12, .inl (S 104))), some (a 55, .inl (zI E, 12, .inl (S 105))), some (a 56, .inl (zI E, 12, .inl (S 106))), some (a 57, .inl (zI E, 4, .inl (S 108))), some (a 58, .inl (zI E, 4, .inl (S 109))), some (a 59, .inl (zI E, 4, .inl (S 110))), some (a 60, .inr (2, [.ref (a 61), .ref (a 62), .ref (a 63), .ref (a 64)])), some (a 61, .inl (zI E, 8, .inl (S 112))), some (a 62, .inl (zI E, 8, .inl (S 113))), some (a 63, .inl (zI E, 8, .inl (S 114))), some (a 64, .inl (zI E, 8, .inl (S 115)))] rfl rfl rfl rfl (by decide +kernel) (by decide +kernel)
noncomputable def f_X6_letter (x1 : Int32) (x2 : Int32) (x3 : Int32) (x4 : Int32) (S : St) : Option (Int32 × St) := ((f_X6_isNumber x1).bind (fun q1 => (if q1 = 0 then (some ((-1 : Int32), S)) else ((f_X6_isDay x2).bind (fun q2 => (if q2 = 0 then (some ((-1 : Int32), S)) else ((f_X6_isDay x3).bind (fun q3 => (if q3 = 0 then (some ((-1 : Int32), S)) else (if x4 < 0 then (some ((-1 : Int32), S)) else (if x4 ≤ (2 : Int32) then ((f_X5_having x1 x2 (sb 0 S)).bind (fun q4 => ((f_X5_having x1 x3 (sb 0 (pt 0 32 q4.2 S))).bind (fun q5 => (if x4 = 0 then (some (q4.1, (pt 0 32 q5.2 (pt 0 32 q4.2 S)))) else (if x4 = (1 : Int32) then (some (q5.1, (pt 0 32 q5.2 (pt 0 32 q4.2 S)))) else (some ((q4.1 &&& (q5.1 ^^^ (-1 : Int32))), (pt 0 32 q5.2 (pt 0 32 q4.2 S)))))))))) else (some ((-1 : Int32), S)))))))))))))
set_option maxHeartbeats 4000000 in
set_option maxRecDepth 100000 in
theorem L_X6_letter {E : zEnv} {Γ : zG} (a : Nat → Nat) (C : zC E Γ cX6_letter RX6 7 rm_X6_letter wsX6_letter) {res : (Int32 × St)} (R : zRi E Γ cX6_letter 7 .int (wEA E a res.2) res.1) (x1 : Int32) (x2 : Int32) (x3 : Int32) (x4 : Int32) (S : St) (h : f_X6_letter x1 x2 x3 x4 S = some res) : Zt E Γ 7 0 0 (wEA E a S) [(0, .ref (a 0)), (1, .int x1), (2, .int x2), (3, .int x3), (4, .int x4)] 0 [] := by
  unfold f_X6_letter at h
  refine z_iload_n C 1 rfl rfl dX6_letter_0 ?_
  obtain ⟨q1, e1, h⟩ := bd_e h
  refine z_callSi C (rest := []) (c_X6_isNumber E x1 e1) gX6_letter_X6_isNumber rfl rfl rfl 1 rfl (by decide +kernel) ⟨Nat.le_of_ble_eq_true rfl, Nat.le_of_ble_eq_true rfl⟩ [] rfl (by decide) rfl (wEA E a S) rfl (Nat.le_of_ble_eq_true rfl) dX6_letter_1 ⟨Nat.zero_le _, Nat.zero_le _⟩ _ rfl ?_
  refine z_if_eq C 32 (by decide) h dX6_letter_4 (fun hc h => ?_) (fun hc h => ?_)
  · refine z_iconst C (v := (-1 : Int32)) (by decide) dX6_letter_32 ?_
    obtain rfl := Option.some.inj h
    exact R rfl 33 _ dX6_letter_33
  · refine z_iload_n C 2 rfl rfl dX6_letter_7 ?_
    obtain ⟨q2, e2, h⟩ := bd_e h
    refine z_callSi C (rest := []) (c_X6_isDay E x2 e2) gX6_letter_X6_isDay rfl rfl rfl 1 rfl (by decide +kernel) ⟨Nat.le_of_ble_eq_true rfl, Nat.le_of_ble_eq_true rfl⟩ [] rfl (by decide) rfl (wEA E a S) rfl (Nat.le_of_ble_eq_true rfl) dX6_letter_8 ⟨Nat.zero_le _, Nat.zero_le _⟩ _ rfl ?_
    refine z_if_eq C 32 (by decide) h dX6_letter_11 (fun hc h => ?_) (fun hc h => ?_)
    · refine z_iconst C (v := (-1 : Int32)) (by decide) dX6_letter_32 ?_
      obtain rfl := Option.some.inj h
      exact R rfl 33 _ dX6_letter_33
    · refine z_iload_n C 3 rfl rfl dX6_letter_14 ?_
      obtain ⟨q3, e3, h⟩ := bd_e h
      refine z_callSi C (rest := []) (c_X6_isDay E x3 e3) gX6_letter_X6_isDay rfl rfl rfl 1 rfl (by decide +kernel) ⟨Nat.le_of_ble_eq_true rfl, Nat.le_of_ble_eq_true rfl⟩ [] rfl (by decide) rfl (wEA E a S) rfl (Nat.le_of_ble_eq_true rfl) dX6_letter_15 ⟨Nat.zero_le _, Nat.zero_le _⟩ _ rfl ?_
      refine z_if_eq C 32 (by decide) h dX6_letter_18 (fun hc h => ?_) (fun hc h => ?_)
      · refine z_iconst C (v := (-1 : Int32)) (by decide) dX6_letter_32 ?_
        obtain rfl := Option.some.inj h
        exact R rfl 33 _ dX6_letter_33
      · refine z_iload C 4 rfl dX6_letter_21 ?_
        refine z_if_lt C 32 (by decide) h dX6_letter_23 (fun hc h => ?_) (fun hc h => ?_)
        · refine z_iconst C (v := (-1 : Int32)) (by decide) dX6_letter_32 ?_
          obtain rfl := Option.some.inj h
          exact R rfl 33 _ dX6_letter_33
        · refine z_iload C 4 rfl dX6_letter_26 ?_
          refine z_iconst C (v := (2 : Int32)) (by decide) dX6_letter_28 ?_
          refine z_icmp_le C 34 (by decide) h dX6_letter_29 (fun hc h => ?_) (fun hc h => ?_)
          · refine z_aload_n C 0 rfl rfl dX6_letter_34 ?_
            refine z_get C 0 rfl (C := RX6) (T := TX6) (N := 11) (ci := 6) rfl inw_X6_letter_X6 0 (by decide) (ref := "EldestAge") (List.mem_of_getElem? (i := 1) rfl) rfl (v := .ref (a 1)) rfl dX6_letter_35 ?_
            refine z_iload_n C 1 rfl rfl dX6_letter_38 ?_
            refine z_iload_n C 2 rfl rfl dX6_letter_39 ?_
            obtain ⟨q4, e4, h⟩ := bd_e h
            refine z_callVi C (b := a 1) (As := [.int x1, .int x2]) (rest := []) (c_X5_having E (fun k => a (1 + k)) x1 x2 (sb 0 S) e4) rfl gX6_letter_X5_having rfl rfl rfl 2 rfl (by decide +kernel) ⟨Nat.le_of_ble_eq_true rfl, Nat.le_of_ble_eq_true rfl⟩ [1, 2, 3, 4, 5, 6, 7, 8, 9, 10, 11, 12, 13, 14, 15, 16] (wl_X6_letter_0 E a S) (by decide) (wl_X6_letter_1 E a _ _) (wEA E a (pt 0 32 q4.2 S)) (wl_X6_letter_2 E a S q4.2) 0 5 rfl rfl rfl (Nat.le_of_ble_eq_true rfl) dX6_letter_40 ⟨Nat.zero_le _, Nat.zero_le _⟩ _ rfl ?_
            refine z_istore C [(5, .int q4.1), (0, .ref (a 0)), (1, .int x1), (2, .int x2), (3, .int x3), (4, .int x4)] (by decide) rfl dX6_letter_43 ?_
            refine z_aload_n C 1 rfl rfl dX6_letter_45 ?_
            refine z_get C 0 rfl (C := RX6) (T := TX6) (N := 11) (ci := 6) rfl inw_X6_letter_X6 0 (by decide) (ref := "EldestAge") (List.mem_of_getElem? (i := 1) rfl) rfl (v := .ref (a 1)) rfl dX6_letter_46 ?_
            refine z_iload_n C 2 rfl rfl dX6_letter_49 ?_
            refine z_iload_n C 4 rfl rfl dX6_letter_50 ?_
            obtain ⟨q5, e5, h⟩ := bd_e h
            refine z_callVi C (b := a 1) (As := [.int x1, .int x3]) (rest := []) (c_X5_having E (fun k => a (1 + k)) x1 x3 (sb 0 (pt 0 32 q4.2 S)) e5) rfl gX6_letter_X5_having rfl rfl rfl 2 rfl (by decide +kernel) ⟨Nat.le_of_ble_eq_true rfl, Nat.le_of_ble_eq_true rfl⟩ [1, 2, 3, 4, 5, 6, 7, 8, 9, 10, 11, 12, 13, 14, 15, 16] (wl_X6_letter_0 E a (pt 0 32 q4.2 S)) (by decide) (wl_X6_letter_1 E a _ _) (wEA E a (pt 0 32 q5.2 (pt 0 32 q4.2 S))) (wl_X6_letter_2 E a (pt 0 32 q4.2 S) q5.2) 0 5 rfl rfl rfl (Nat.le_of_ble_eq_true rfl) dX6_letter_51 ⟨Nat.zero_le _, Nat.zero_le _⟩ _ rfl ?_
            refine z_istore C [(6, .int q5.1), (5, .int q4.1), (0, .ref (a 0)), (1, .int x1), (2, .int x2), (3, .int x3), (4, .int x4)] (by decide) rfl dX6_letter_54 ?_
            refine z_iload C 6 rfl dX6_letter_56 ?_
            refine z_if_ne C 64 (by decide) h dX6_letter_58 (fun hc h => ?_) (fun hc h => ?_)
            · refine z_iload C 1 rfl dX6_letter_61 ?_
              obtain rfl := Option.some.inj h
              exact R rfl 63 _ dX6_letter_63
            · refine z_iload C 6 rfl dX6_letter_64 ?_
              refine z_iconst C (v := (1 : Int32)) (by decide) dX6_letter_66 ?_
              refine z_icmp_ne C 75 (by decide) h dX6_letter_67 (fun hc h => ?_) (fun hc h => ?_)
              · refine z_iload C 0 rfl dX6_letter_70 ?_
                refine z_goto C 82 (by decide) dX6_letter_72 ?_
                obtain rfl := Option.some.inj h
                exact R rfl 82 _ dX6_letter_82
              · refine z_iload C 1 rfl dX6_letter_75 ?_
                refine z_iload C 0 rfl dX6_letter_77 ?_
                refine z_iconst C (v := (-1 : Int32)) (by decide) dX6_letter_79 ?_
                refine z_ixor C dX6_letter_80 ?_
                refine z_iand C dX6_letter_81 ?_
                obtain rfl := Option.some.inj h
                exact R rfl 82 _ dX6_letter_82
          · refine z_iconst C (v := (-1 : Int32)) (by decide) dX6_letter_32 ?_
            obtain rfl := Option.some.inj h
            exact R rfl 33 _ dX6_letter_33

theorem c_X6_letter (E : zEnv) (a : Nat → Nat) (x1 : Int32) (x2 : Int32) (x3 : Int32) (x4 : Int32) (S : St) {res : (Int32 × St)} (h : f_X6_letter x1 x2 x3 x4 S = some res) : Kti E yX6_letter wsX6_letter rm_X6_letter (wEA E a S) (wEA E a res.2) [.ref (a 0), .int x1, .int x2, .int x3, .int x4] res.1 :=
  z_enti (cc := cX6_letter) (maxL := 7) (rt := .int) (by decide +kernel) rfl (Nat.le_of_ble_eq_true rfl) (fun Γ C R => L_X6_letter a C R x1 x2 x3 x4 S h)

abbrev rm_X6_round : Room := { frames := 3, cells := 0, slots := 0, locals := 69 }
theorem inw_X6_round_X6 : ∀ w ∈ wsX60, w ∈ wsX6_round := fun _ h => List.mem_cons_of_mem _ (List.mem_append_left _ (List.mem_append_left _ (List.mem_append_right _ h)))
theorem inw_X6_round_X5 : ∀ w ∈ wsX50, w ∈ wsX6_round := fun _ h => List.mem_cons_of_mem _ (List.mem_append_left _ (List.mem_append_right _ h))
theorem inw_X6_round_X2 : ∀ w ∈ wsX20, w ∈ wsX6_round := fun _ h => List.mem_cons_of_mem _ (List.mem_append_right _ h)
set_option maxHeartbeats 4000000 in
theorem wl_X6_round_0 (E : zEnv) (a : Nat → Nat) (S : St) : ([1, 2, 3, 4, 5, 6, 7, 8, 9, 10, 11, 12, 13, 14, 15, 16] : List Nat).map (fun i => (wEA E a S)[i]?) = (wTown E (fun k => a (1 + k)) (sb 0 S)).map some := rfl
set_option maxHeartbeats 4000000 in
theorem wl_X6_round_1 (E : zEnv) (a : Nat → Nat) (S U : St) : (wTown E (fun k => a (1 + k)) U).map (fun q => q.1) = (wTown E (fun k => a (1 + k)) S).map (fun q => q.1) := rfl
set_option maxHeartbeats 4000000 in
theorem wl_X6_round_2 (E : zEnv) (a : Nat → Nat) (S U : St) : (wEA E a (pt 0 32 U S)) = zrep [1, 2, 3, 4, 5, 6, 7, 8, 9, 10, 11, 12, 13, 14, 15, 16] (wTown E (fun k => a (1 + k)) U) (wEA E a S) := zrep_of (isR := [0, 17, 18, 19, 20, 21, 22, 23, 24, 25, 26, 27, 28, 29, 30, 31, 32, 33, 34, 35, 36, 37, 38, 39, 40, 41, 42, 43, 44, 45, 46, 47, 48, 49, 50, 51, 52, 53, 54, 55, 56, 57, 58, 59, 60, 61, 62, 63, 64, 65, 66, 67, 68, 69, 70, 71, 72, 73, 74, 75, 76, 77, 78, 79, 80, 81, 82, 83, 84, 85, 86, 87, 88, 89, 90, 91, 92, 93, 94, 95, 96, 97, 98, 99, 100]) 101 rfl [some (a 0, .inr (6, [.ref (a 1), .ref (a 17), .ref (a 65), .ref (a 66), .ref (a 67), .ref (a 69), .ref (a 73), .ref (a 77), .ref (a 93), .int (S 184 0), .int (S 185 0)])), some (a 17, .inr (5, [.int (S 32 0), .int (S 33 0), .int (S 34 0), .ref (a 18), .ref (a 19), .ref (a 20), .ref (a 21), .int (S 39 0), .ref (a 22), .ref (a 23), .ref (a 24), .int (S 43 0), .ref (a 25), .ref (a 26), .ref (a 27), .ref (a 28)])), some (a 18, .inl (zI E, 14, .inl (S 35))), some (a 19, .inl (zI E, 14, .inl (S 36))), some (a 20, .inl (zI E, 14, .inl (S 37))), some (a 21, .inl (zI E, 14, .inl (S 38))), some (a 22, .inl (zI E, 12, .inl (S 40))), some (a 23, .inl (zI E, 12, .inl (S 41))), some (a 24, .inl (zI E, 12, .inl (S 42))), some (a 25, .inl (zI E, 4, .inl (S 44))), some (a 26, .inl (zI E, 4, .inl (S 45))), some (a 27, .inl (zI E, 4, .inl (S 46))), some (a 28, .inr (2, [.ref (a 29), .ref (a 30), .ref (a 31), .ref (a 32)])), some (a 29, .inl (zI E, 8, .inl (S 48))), some (a 30, .inl (zI E, 8, .inl (S 49))), some (a 31, .inl (zI E, 8, .inl (S 50))), some (a 32, .inl (zI E, 8, .inl (S 51))), some (a 65, .inl (zT E, 2, .inr (.inr (.inr (.inr (va_up (va_up (fun _ => none) 0 (some (a 33))) 1 (some (a 49)))))))), some (a 66, .inl (zZ E, 2, .inl (S 186))), some (a 67, .inr (3, [.ref (a 68), .int (S 129 0), .int (S 130 0), .int (S 131 0), .int (S 132 0), .int (S 133 0), .int (S 134 0), .int (S 135 0), .int (S 136 0), .int (S 137 0), .int (S 138 0), .int (S 139 0)])), some (a 68, .inl (zI E, 400, .inl (S 128))), some (a 69, .inr (4, [.int (S 144 0), .ref (a 70), .ref (a 71), .ref (a 72), .int (S 148 0)])), some (a 70, .inl (zI E, 4, .inl (S 145))), some (a 71, .inl (zI E, 4, .inl (S 146))), some (a 72, .inl (zI E, 4, .inl (S 147))), some (a 73, .inr (4, [.int (S 152 0), .ref (a 74), .ref (a 75), .ref (a 76), .int (S 156 0)])), some (a 74, .inl (zI E, 8, .inl (S 153))), some (a 75, .inl (zI E, 8, .inl (S 154))), some (a 76, .inl (zI E, 8, .inl (S 155))), some (a 77, .inr (0, [.int (S 160 0), .ref (a 78), .ref (a 79), .ref (a 80), .ref (a 81), .ref (a 82), .ref (a 83), .ref (a 88)])), some (a 78, .inl (zI E, 4, .inl (S 161))), some (a 79, .inl (zI E, 4, .inl (S 162))), some (a 80, .inl (zI E, 4, .inl (S 163))), some (a 81, .inl (zI E, 4, .inl (S 164))), some (a 82, .inl (zI E, 4, .inl (S 165))), some (a 83, .inr (2, [.ref (a 84), .ref (a 85), .ref (a 86), .ref (a 87)])), some (a 84, .inl (zI E, 8, .inl (S 168))), some (a 85, .inl (zI E, 8, .inl (S 169))), some (a 86, .inl (zI E, 8, .inl (S 170))), some (a 87, .inl (zI E, 8, .inl (S 171))), some (a 88, .inr (2, [.ref (a 89), .ref (a 90), .ref (a 91), .ref (a 92)])), some (a 89, .inl (zI E, 8, .inl (S 172))), some (a 90, .inl (zI E, 8, .inl (S 173))), some (a 91, .inl (zI E, 8, .inl (S 174))), some (a 92, .inl (zI E, 8, .inl (S 175))), some (a 93, .inr (1, [.ref (a 94), .ref (a 99), .ref (a 100)])), some (a 94, .inl (zII E, 4, .inr (.inr (.inr (.inr (va_up (va_up (va_up (va_up (fun _ => none) 0 (some (a 95))) 1 (some (a 96))) 2 (some (a 97))) 3 (some (a 98)))))))), some (a 95, .inl (zI E, 40, .inl (S 176))), some (a 96, .inl (zI E, 40, .inl (S 177))), some (a 97, .inl (zI E, 40, .inl (S 178))), some (a 98, .inl (zI E, 40, .inl (S 179))), some (a 99, .inl (zI E, 4, .inl (S 180))), some (a 100, .inl (zI E, 4, .inl (S 181))), some (a 33, .inr (5, [.int (S 64 0), .int (S 65 0), .int (S 66 0), .ref (a 34), .ref (a 35), .ref (a 36), .ref (a 37), .int (S 71 0), .ref (a 38), .ref (a 39), .ref (a 40), .int (S 75 0), .ref (a 41), .ref (a 42), .ref (a 43), .ref (a 44)])), some (a 34, .inl (zI E, 14, .inl (S 67))), some (a 35, .inl (zI E, 14, .inl (S 68))), some (a 36, .inl (zI E, 14, .inl (S 69))), some (a 37, .inl (zI E, 14, .inl (S 70))), some (a 38, .inl (zI E, 12, .inl (S 72))), some (a 39, .inl (zI E, 12, .inl (S 73))), some (a 40, .inl (zI E, 12, .inl (S 74))), some (a 41, .inl (zI E, 4, .inl (S 76))), some (a 42, .inl (zI E, 4, .inl (S 77))), some (a 43, .inl (zI E, 4, .inl (S 78))), some (a 44, .inr (2, [.ref (a 45), .ref (a 46), .ref (a 47), .ref (a 48)])), some (a 45, .inl (zI E, 8, .inl (S 80))), some (a 46, .inl (zI E, 8, .inl (S 81))), some (a 47, .inl (zI E, 8, .inl (S 82))), some (a 48, .inl (zI E, 8, .inl (S 83))), some (a 49, .inr (5, [.int (S 96 0), .int (S 97 0), .int (S 98 0), .ref (a 50), .ref (a 51), .ref (a 52), .ref (a 53), .int (S 103 0), .ref (a 54), .ref (a 55), .ref (a 56), .int (S 107 0), .ref (a 57), .ref (a 58), .ref (a 59), .ref (a 60)])), some (a 50, .inl (zI E, 14, .inl (S 99))), some (a 51, .inl (zI E, 14, .inl (S 100))), some (a 52, .inl (zI E, 14, .inl (S 101))), some (a 53, .inl (zI E, 14, .inl (S 102))), some (a 54, .inl (zI E, 12, .inl (S 104))), some (a 55, .inl (zI E, 12, .inl (S 105))), some (a 56, .inl (zI E, 12, .inl (S 106))), some (a 57, .inl (zI E, 4, .inl (S 108))), some (a 58, .inl (zI E, 4, .inl (S 109))), some (a 59, .inl (zI E, 4, .inl (S 110))), some (a 60, .inr (2, [.ref (a 61), .ref (a 62), .ref (a 63), .ref (a 64)])), some (a 61, .inl (zI E, 8, .inl (S 112))), some (a 62, .inl (zI E, 8, .inl (S 113))), some (a 63, .inl (zI E, 8, .inl (S 114))), some (a 64, .inl (zI E, 8, .inl (S 115)))] rfl rfl rfl rfl (by decide +kernel) (by decide +kernel)
set_option maxHeartbeats 4000000 in
theorem wl_X6_round_3 (E : zEnv) (a : Nat → Nat) (S : St) : ([12, 13, 14, 15, 16] : List Nat).map (fun i => (wEA E a S)[i]?) = (wTally E (fun k => a (12 + k)) (sb 16 S)).map some := rfl
set_option maxHeartbeats 4000000 in
theorem wl_X6_round_4 (E : zEnv) (a : Nat → Nat) (S U : St) : (wTally E (fun k => a (12 + k)) U).map (fun q => q.1) = (wTally E (fun k => a (12 + k)) S).map (fun q => q.1) := rfl
noncomputable def f_X6_round_24 (n : Nat) : Int32 → Int32 → Int32 → Int32 → St → Option (Int32 × St) := Nat.rec (motive := fun _ => Int32 → Int32 → Int32 → Int32 → St → Option (Int32 × St)) (fun _ _ _ _ _ => none) (fun _ ih => fun x1 x2 x3 x4 S => (if x2 < x4 then (some ((-4 : Int32), S)) else (if (36000 : Int32) ≤ (x1 + x4) then (some ((-4 : Int32), S)) else ((f_X5_tallyOn (x1 + x4) (sb 0 S)).bind (fun q1 => ((f_X2_greatest (q1 0 0) (q1 1 0) x3 (sb 16 (pt 0 32 q1 S))).bind (fun q2 => (if q2 = (-4 : Int32) then (some ((-4 : Int32), (pt 0 32 q1 S))) else (if x4 = x2 then (some (q2, (pt 0 32 q1 S))) else (ih x1 x2 (x3 ||| ((1 : Int32) <<< (q2 &&& 31))) (x4 + (1 : Int32)) (pt 0 32 q1 S))))))))))) n
theorem f_X6_round_24_s (n : Nat) (x1 : Int32) (x2 : Int32) (x3 : Int32) (x4 : Int32) (S : St) : f_X6_round_24 (n + 1) x1 x2 x3 x4 S = (if x2 < x4 then (some ((-4 : Int32), S)) else (if (36000 : Int32) ≤ (x1 + x4) then (some ((-4 : Int32), S)) else ((f_X5_tallyOn (x1 + x4) (sb 0 S)).bind (fun q1 => ((f_X2_greatest (q1 0 0) (q1 1 0) x3 (sb 16 (pt 0 32 q1 S))).bind (fun q2 => (if q2 = (-4 : Int32) then (some ((-4 : Int32), (pt 0 32 q1 S))) else (if x4 = x2 then (some (q2, (pt 0 32 q1 S))) else ((f_X6_round_24 n) x1 x2 (x3 ||| ((1 : Int32) <<< (q2 &&& 31))) (x4 + (1 : Int32)) (pt 0 32 q1 S)))))))))) := rfl
noncomputable def f_X6_round (x1 : Int32) (x2 : Int32) (S : St) : Option (Int32 × St) := ((f_X6_isDay x1).bind (fun q3 => (if q3 = 0 then (some ((-1 : Int32), S)) else (if x2 < 0 then (some ((-1 : Int32), S)) else (if x2 < (8 : Int32) then (f_X6_round_24 1000 x1 x2 (0 : Int32) (0 : Int32) S) else (some ((-1 : Int32), S)))))))
set_option maxHeartbeats 4000000 in
set_option maxRecDepth 100000 in
theorem L_X6_round_24 {E : zEnv} {Γ : zG} (a : Nat → Nat) (C : zC E Γ cX6_round RX6 6 rm_X6_round wsX6_round) {res : (Int32 × St)} (R : zRi E Γ cX6_round 6 .int (wEA E a res.2) res.1) : ∀ (n : Nat) (x1 : Int32) (x2 : Int32) (x3 : Int32) (x4 : Int32) (S : St), f_X6_round_24 n x1 x2 x3 x4 S = some res → Zt E Γ 6 0 0 (wEA E a S) [(0, .ref (a 0)), (1, .int x1), (2, .int x2), (3, .int x3), (4, .int x4)] 24 [] := by
  intro n
  induction n with
  | zero =>
    intro x1 x2 x3 x4 S h
    cases h
  | succ n ih =>
    intro x1 x2 x3 x4 S h
    rw [f_X6_round_24_s] at h
    refine z_iload C 4 rfl dX6_round_24 ?_
    refine z_iload_n C 2 rfl rfl dX6_round_26 ?_
    refine z_icmp_gt C 102 (by decide) h dX6_round_27 (fun hc h => ?_) (fun hc h => ?_)
    · refine z_bipush C (v := (-4 : Int32)) (by decide) dX6_round_102 ?_
      obtain rfl := Option.some.inj h
      exact R rfl 104 _ dX6_round_104
    · refine z_iload_n C 1 rfl rfl dX6_round_30 ?_
      refine z_iload C 4 rfl dX6_round_31 ?_
      refine z_iadd C dX6_round_33 ?_
      refine z_ldc C (v := (36000 : Int32)) (List.mem_of_getElem? (i := 1) rfl) dX6_round_34 ?_
      refine z_icmp_ge C 102 (by decide) h dX6_round_36 (fun hc h => ?_) (fun hc h => ?_)
      · refine z_bipush C (v := (-4 : Int32)) (by decide) dX6_round_102 ?_
        obtain rfl := Option.some.inj h
        exact R rfl 104 _ dX6_round_104
      · refine z_aload_n C 0 rfl rfl dX6_round_39 ?_
        refine z_get C 0 rfl (C := RX6) (T := TX6) (N := 11) (ci := 6) rfl inw_X6_round_X6 0 (by decide) (ref := "EldestAge") (List.mem_of_getElem? (i := 2) rfl) rfl (v := .ref (a 1)) rfl dX6_round_40 ?_
        refine z_iload_n C 1 rfl rfl dX6_round_43 ?_
        refine z_iload C 4 rfl dX6_round_44 ?_
        refine z_iadd C dX6_round_46 ?_
        obtain ⟨q1, e1, h⟩ := bd_e h
        refine z_callVr C (b := a 1) (As := [.int (x1 + x4)]) (rest := []) (c_X5_tallyOn E (fun k => a (1 + k)) (x1 + x4) (sb 0 S) e1) rfl gX6_round_X5_tallyOn rfl rfl rfl 1 rfl (by decide +kernel) ⟨Nat.le_of_ble_eq_true rfl, Nat.le_of_ble_eq_true rfl⟩ [1, 2, 3, 4, 5, 6, 7, 8, 9, 10, 11, 12, 13, 14, 15, 16] (wl_X6_round_0 E a S) (by decide) (wl_X6_round_1 E a _ _) (wEA E a (pt 0 32 q1 S)) (wl_X6_round_2 E a S q1) 0 5 rfl rfl rfl (Nat.le_of_ble_eq_true rfl) dX6_round_47 ⟨Nat.zero_le _, Nat.zero_le _⟩ _ rfl ?_
        refine z_aload_n C 0 rfl rfl dX6_round_50 ?_
        refine z_get C 0 rfl (C := RX6) (T := TX6) (N := 11) (ci := 6) rfl inw_X6_round_X6 0 (by decide) (ref := "EldestAge") (List.mem_of_getElem? (i := 2) rfl) rfl (v := .ref (a 1)) rfl dX6_round_51 ?_
        refine z_get C 1 rfl (C := RX5) (T := TX5) (N := 16) (ci := 5) rfl inw_X6_round_X5 0 (by decide) (ref := "EldestAge$Town") (List.mem_of_getElem? (i := 3) rfl) rfl (v := .int (q1 0 0)) rfl dX6_round_54 ?_
        refine z_aload_n C 0 rfl rfl dX6_round_57 ?_
        refine z_get C 0 rfl (C := RX6) (T := TX6) (N := 11) (ci := 6) rfl inw_X6_round_X6 0 (by decide) (ref := "EldestAge") (List.mem_of_getElem? (i := 2) rfl) rfl (v := .ref (a 1)) rfl dX6_round_58 ?_
        refine z_get C 1 rfl (C := RX5) (T := TX5) (N := 16) (ci := 5) rfl inw_X6_round_X5 1 (by decide) (ref := "EldestAge$Town") (List.mem_of_getElem? (i := 4) rfl) rfl (v := .int (q1 1 0)) rfl dX6_round_61 ?_
        refine z_iload_n C 3 rfl rfl dX6_round_64 ?_
        obtain ⟨q2, e2, h⟩ := bd_e h
        refine z_callVi C (b := a 12) (As := [.int (q1 0 0), .int (q1 1 0), .int x3]) (rest := []) (c_X2_greatest E (fun k => a (12 + k)) (q1 0 0) (q1 1 0) x3 (sb 16 (pt 0 32 q1 S)) e2) rfl gX6_round_X2_greatest rfl rfl rfl 3 rfl (by decide +kernel) ⟨Nat.le_of_ble_eq_true rfl, Nat.le_of_ble_eq_true rfl⟩ [12, 13, 14, 15, 16] (wl_X6_round_3 E a (pt 0 32 q1 S)) (by decide) rfl (wEA E a (pt 0 32 q1 S)) (zrep_self (wl_X6_round_3 E a (pt 0 32 q1 S))) 0 2 rfl rfl rfl (Nat.le_of_ble_eq_true rfl) dX6_round_65 ⟨Nat.zero_le _, Nat.zero_le _⟩ _ rfl ?_
        refine z_istore C [(5, .int q2), (0, .ref (a 0)), (1, .int x1), (2, .int x2), (3, .int x3), (4, .int x4)] (by decide) rfl dX6_round_68 ?_
        refine z_iload C 0 rfl dX6_round_70 ?_
        refine z_bipush C (v := (-4 : Int32)) (by decide) dX6_round_72 ?_
        refine z_icmp_ne C 80 (by decide) h dX6_round_74 (fun hc h => ?_) (fun hc h => ?_)
        · refine z_bipush C (v := (-4 : Int32)) (by decide) dX6_round_77 ?_
          obtain rfl := Option.some.inj h
          exact R rfl 79 _ dX6_round_79
        · refine z_iload C 5 rfl dX6_round_80 ?_
          refine z_iload_n C 3 rfl rfl dX6_round_82 ?_
          refine z_icmp_ne C 89 (by decide) h dX6_round_83 (fun hc h => ?_) (fun hc h => ?_)
          · refine z_iload C 0 rfl dX6_round_86 ?_
            obtain rfl := Option.some.inj h
            exact R rfl 88 _ dX6_round_88
          · refine z_iload_n C 4 rfl rfl dX6_round_89 ?_
            refine z_iconst C (v := (1 : Int32)) (by decide) dX6_round_90 ?_
            refine z_iload C 0 rfl dX6_round_91 ?_
            refine z_ishl C dX6_round_93 ?_
            refine z_ior C dX6_round_94 ?_
            refine z_istore_n C [(3, .int (x3 ||| ((1 : Int32) <<< (q2 &&& 31)))), (5, .int q2), (0, .ref (a 0)), (1, .int x1), (2, .int x2), (4, .int x4)] rfl (by decide) rfl dX6_round_95 ?_
            refine z_iinc C [(4, .int (x4 + (1 : Int32))), (3, .int (x3 ||| ((1 : Int32) <<< (q2 &&& 31)))), (5, .int q2), (0, .ref (a 0)), (1, .int x1), (2, .int x2)] 5 rfl (by first | rfl | decide) (by decide) rfl dX6_round_96 ?_
            refine z_goto C 24 (by decide) dX6_round_99 ?_
            refine Zt_l [(0, .ref (a 0)), (1, .int x1), (2, .int x2), (3, .int (x3 ||| ((1 : Int32) <<< (q2 &&& 31)))), (4, .int (x4 + (1 : Int32)))] [3, 4, 5, 1, 0] rfl ?_
            exact ih x1 x2 (x3 ||| ((1 : Int32) <<< (q2 &&& 31))) (x4 + (1 : Int32)) (pt 0 32 q1 S) h

set_option maxHeartbeats 4000000 in
set_option maxRecDepth 100000 in
theorem L_X6_round {E : zEnv} {Γ : zG} (a : Nat → Nat) (C : zC E Γ cX6_round RX6 6 rm_X6_round wsX6_round) {res : (Int32 × St)} (R : zRi E Γ cX6_round 6 .int (wEA E a res.2) res.1) (x1 : Int32) (x2 : Int32) (S : St) (h : f_X6_round x1 x2 S = some res) : Zt E Γ 6 0 0 (wEA E a S) [(0, .ref (a 0)), (1, .int x1), (2, .int x2)] 0 [] := by
  unfold f_X6_round at h
  refine z_iload_n C 1 rfl rfl dX6_round_0 ?_
  obtain ⟨q3, e3, h⟩ := bd_e h
  refine z_callSi C (rest := []) (c_X6_isDay E x1 e3) gX6_round_X6_isDay rfl rfl rfl 1 rfl (by decide +kernel) ⟨Nat.le_of_ble_eq_true rfl, Nat.le_of_ble_eq_true rfl⟩ [] rfl (by decide) rfl (wEA E a S) rfl (Nat.le_of_ble_eq_true rfl) dX6_round_1 ⟨Nat.zero_le _, Nat.zero_le _⟩ _ rfl ?_
  refine z_if_eq C 17 (by decide) h dX6_round_4 (fun hc h => ?_) (fun hc h => ?_)
  · refine z_iconst C (v := (-1 : Int32)) (by decide) dX6_round_17 ?_
    obtain rfl := Option.some.inj h
    exact R rfl 18 _ dX6_round_18
  · refine z_iload_n C 2 rfl rfl dX6_round_7 ?_
    refine z_if_lt C 17 (by decide) h dX6_round_8 (fun hc h => ?_) (fun hc h => ?_)
    · refine z_iconst C (v := (-1 : Int32)) (by decide) dX6_round_17 ?_
      obtain rfl := Option.some.inj h
      exact R rfl 18 _ dX6_round_18
    · refine z_iload_n C 2 rfl rfl dX6_round_11 ?_
      refine z_bipush C (v := (8 : Int32)) (by decide) dX6_round_12 ?_
      refine z_icmp_lt C 19 (by decide) h dX6_round_14 (fun hc h => ?_) (fun hc h => ?_)
      · refine z_iconst C (v := (0 : Int32)) (by decide) dX6_round_19 ?_
        refine z_istore_n C [(3, .int (0 : Int32)), (0, .ref (a 0)), (1, .int x1), (2, .int x2)] rfl (by decide) rfl dX6_round_20 ?_
        refine z_iconst C (v := (0 : Int32)) (by decide) dX6_round_21 ?_
        refine z_istore C [(4, .int (0 : Int32)), (3, .int (0 : Int32)), (0, .ref (a 0)), (1, .int x1), (2, .int x2)] (by decide) rfl dX6_round_22 ?_
        refine Zt_l [(0, .ref (a 0)), (1, .int x1), (2, .int x2), (3, .int (0 : Int32)), (4, .int (0 : Int32))] [2, 3, 4, 1, 0] rfl ?_
        exact L_X6_round_24 a C R 1000 x1 x2 (0 : Int32) (0 : Int32) S h
      · refine z_iconst C (v := (-1 : Int32)) (by decide) dX6_round_17 ?_
        obtain rfl := Option.some.inj h
        exact R rfl 18 _ dX6_round_18

theorem c_X6_round (E : zEnv) (a : Nat → Nat) (x1 : Int32) (x2 : Int32) (S : St) {res : (Int32 × St)} (h : f_X6_round x1 x2 S = some res) : Kti E yX6_round wsX6_round rm_X6_round (wEA E a S) (wEA E a res.2) [.ref (a 0), .int x1, .int x2] res.1 :=
  z_enti (cc := cX6_round) (maxL := 6) (rt := .int) (by decide +kernel) rfl (Nat.le_of_ble_eq_true rfl) (fun Γ C R => L_X6_round a C R x1 x2 S h)

abbrev rm_X6_want : Room := { frames := 1, cells := 0, slots := 0, locals := 23 }
theorem inw_X6_want_X6 : ∀ w ∈ wsX60, w ∈ wsX6_want := fun _ h => List.mem_cons_of_mem _ (List.mem_append_left _ (List.mem_append_left _ (List.mem_append_right _ h)))
theorem inw_X6_want_X4 : ∀ w ∈ wsX40, w ∈ wsX6_want := fun _ h => List.mem_cons_of_mem _ (List.mem_append_left _ (List.mem_append_right _ h))
theorem inw_X6_want_X5 : ∀ w ∈ wsX50, w ∈ wsX6_want := fun _ h => List.mem_cons_of_mem _ (List.mem_append_right _ h)
set_option maxHeartbeats 4000000 in
theorem wl_X6_want_0 (E : zEnv) (a : Nat → Nat) (S : St) : ([1, 2, 3, 4, 5, 6, 7, 8, 9, 10, 11, 12, 13, 14, 15, 16] : List Nat).map (fun i => (wEA E a S)[i]?) = (wTown E (fun k => a (1 + k)) (sb 0 S)).map some := rfl
set_option maxHeartbeats 4000000 in
theorem wl_X6_want_1 (E : zEnv) (a : Nat → Nat) (S U : St) : (wTown E (fun k => a (1 + k)) U).map (fun q => q.1) = (wTown E (fun k => a (1 + k)) S).map (fun q => q.1) := rfl
set_option maxHeartbeats 4000000 in
theorem wl_X6_want_2 (E : zEnv) (a : Nat → Nat) (S : St) : ([37, 38, 39, 40] : List Nat).map (fun i => (wEA E a S)[i]?) = (wTold E 4 (fun k => a (69 + k)) (sb 144 S)).map some := rfl
set_option maxHeartbeats 4000000 in
theorem wl_X6_want_3 (E : zEnv) (a : Nat → Nat) (S U : St) : (wTold E 4 (fun k => a (69 + k)) U).map (fun q => q.1) = (wTold E 4 (fun k => a (69 + k)) S).map (fun q => q.1) := rfl
set_option maxHeartbeats 4000000 in
theorem wl_X6_want_4 (E : zEnv) (a : Nat → Nat) (S U : St) : (wEA E a (pt 144 8 U S)) = zrep [37, 38, 39, 40] (wTold E 4 (fun k => a (69 + k)) U) (wEA E a S) := zrep_of (isR := [0, 1, 2, 3, 4, 5, 6, 7, 8, 9, 10, 11, 12, 13, 14, 15, 16, 17, 18, 19, 20, 21, 22, 23, 24, 25, 26, 27, 28, 29, 30, 31, 32, 33, 34, 35, 36, 41, 42, 43, 44, 45, 46, 47, 48, 49, 50, 51, 52, 53, 54, 55, 56, 57, 58, 59, 60, 61, 62, 63, 64, 65, 66, 67, 68, 69, 70, 71, 72, 73, 74, 75, 76, 77, 78, 79, 80, 81, 82, 83, 84, 85, 86, 87, 88, 89, 90, 91, 92, 93, 94, 95, 96, 97, 98, 99, 100]) 101 rfl [some (a 0, .inr (6, [.ref (a 1), .ref (a 17), .ref (a 65), .ref (a 66), .ref (a 67), .ref (a 69), .ref (a 73), .ref (a 77), .ref (a 93), .int (S 184 0), .int (S 185 0)])), some (a 1, .inr (5, [.int (S 0 0), .int (S 1 0), .int (S 2 0), .ref (a 2), .ref (a 3), .ref (a 4), .ref (a 5), .int (S 7 0), .ref (a 6), .ref (a 7), .ref (a 8), .int (S 11 0), .ref (a 9), .ref (a 10), .ref (a 11), .ref (a 12)])), some (a 2, .inl (zI E, 14, .inl (S 3))), some (a 3, .inl (zI E, 14, .inl (S 4))), some (a 4, .inl (zI E, 14, .inl (S 5))), some (a 5, .inl (zI E, 14, .inl (S 6))), some (a 6, .inl (zI E, 12, .inl (S 8))), some (a 7, .inl (zI E, 12, .inl (S 9))), some (a 8, .inl (zI E, 12, .inl (S 10))), some (a 9, .inl (zI E, 4, .inl (S 12))), some (a 10, .inl (zI E, 4, .inl (S 13))), some (a 11, .inl (zI E, 4, .inl (S 14))), some (a 12, .inr (2, [.ref (a 13), .ref (a 14), .ref (a 15), .ref (a 16)])), some (a 13, .inl (zI E, 8, .inl (S 16))), some (a 14, .inl (zI E, 8, .inl (S 17))), some (a 15, .inl (zI E, 8, .inl (S 18))), some (a 16, .inl (zI E, 8, .inl (S 19))), some (a 17, .inr (5, [.int (S 32 0), .int (S 33 0), .int (S 34 0), .ref (a 18), .ref (a 19), .ref (a 20), .ref (a 21), .int (S 39 0), .ref (a 22), .ref (a 23), .ref (a 24), .int (S 43 0), .ref (a 25), .ref (a 26), .ref (a 27), .ref (a 28)])), some (a 18, .inl (zI E, 14, .inl (S 35))), some (a 19, .inl (zI E, 14, .inl (S 36))), some (a 20, .inl (zI E, 14, .inl (S 37))), some (a 21, .inl (zI E, 14, .inl (S 38))), some (a 22, .inl (zI E, 12, .inl (S 40))), some (a 23, .inl (zI E, 12, .inl (S 41))), some (a 24, .inl (zI E, 12, .inl (S 42))), some (a 25, .inl (zI E, 4, .inl (S 44))), some (a 26, .inl (zI E, 4, .inl (S 45))), some (a 27, .inl (zI E, 4, .inl (S 46))), some (a 28, .inr (2, [.ref (a 29), .ref (a 30), .ref (a 31), .ref (a 32)])), some (a 29, .inl (zI E, 8, .inl (S 48))), some (a 30, .inl (zI E, 8, .inl (S 49))), some (a 31, .inl (zI E, 8, .inl (S 50))), some (a 32, .inl (zI E, 8, .inl (S 51))), some (a 65, .inl (zT E, 2, .inr (.inr (.inr (.inr (va_up (va_up (fun _ => none) 0 (some (a 33))) 1 (some (a 49)))))))), some (a 66, .inl (zZ E, 2, .inl (S 186))), some (a 67, .inr (3, [.ref (a 68), .int (S 129 0), .int (S 130 0), .int (S 131 0), .int (S 132 0), .int (S 133 0), .int (S 134 0), .int (S 135 0), .int (S 136 0), .int (S 137 0), .int (S 138 0), .int (S 139 0)])), some (a 68, .inl (zI E, 400, .inl (S 128))), some (a 73, .inr (4, [.int (S 152 0), .ref (a 74), .ref (a 75), .ref (a 76), .int (S 156 0)])), some (a 74, .inl (zI E, 8, .inl (S 153))), some (a 75, .inl (zI E, 8, .inl (S 154))), some (a 76, .inl (zI E, 8, .inl (S 155))), some (a 77, .inr (0, [.int (S 160 0), .ref (a 78), .ref (a 79), .ref (a 80), .ref (a 81), .ref (a 82), .ref (a 83), .ref (a 88)])), some (a 78, .inl (zI E, 4, .inl (S 161))), some (a 79, .inl (zI E, 4, .inl (S 162))), some (a 80, .inl (zI E, 4, .inl (S 163))), some (a 81, .inl (zI E, 4, .inl (S 164))), some (a 82, .inl (zI E, 4, .inl (S 165))), some (a 83, .inr (2, [.ref (a 84), .ref (a 85), .ref (a 86), .ref (a 87)])), some (a 84, .inl (zI E, 8, .inl (S 168))), some (a 85, .inl (zI E, 8, .inl (S 169))), some (a 86, .inl (zI E, 8, .inl (S 170))), some (a 87, .inl (zI E, 8, .inl (S 171))), some (a 88, .inr (2, [.ref (a 89), .ref (a 90), .ref (a 91), .ref (a 92)])), some (a 89, .inl (zI E, 8, .inl (S 172))), some (a 90, .inl (zI E, 8, .inl (S 173))), some (a 91, .inl (zI E, 8, .inl (S 174))), some (a 92, .inl (zI E, 8, .inl (S 175))), some (a 93, .inr (1, [.ref (a 94), .ref (a 99), .ref (a 100)])), some (a 94, .inl (zII E, 4, .inr (.inr (.inr (.inr (va_up (va_up (va_up (va_up (fun _ => none) 0 (some (a 95))) 1 (some (a 96))) 2 (some (a 97))) 3 (some (a 98)))))))), some (a 95, .inl (zI E, 40, .inl (S 176))), some (a 96, .inl (zI E, 40, .inl (S 177))), some (a 97, .inl (zI E, 40, .inl (S 178))), some (a 98, .inl (zI E, 40, .inl (S 179))), some (a 99, .inl (zI E, 4, .inl (S 180))), some (a 100, .inl (zI E, 4, .inl (S 181))), some (a 33, .inr (5, [.int (S 64 0), .int (S 65 0), .int (S 66 0), .ref (a 34), .ref (a 35), .ref (a 36), .ref (a 37), .int (S 71 0), .ref (a 38), .ref (a 39), .ref (a 40), .int (S 75 0), .ref (a 41), .ref (a 42), .ref (a 43), .ref (a 44)])), some (a 34, .inl (zI E, 14, .inl (S 67))), some (a 35, .inl (zI E, 14, .inl (S 68))), some (a 36, .inl (zI E, 14, .inl (S 69))), some (a 37, .inl (zI E, 14, .inl (S 70))), some (a 38, .inl (zI E, 12, .inl (S 72))), some (a 39, .inl (zI E, 12, .inl (S 73))), some (a 40, .inl (zI E, 12, .inl (S 74))), some (a 41, .inl (zI E, 4, .inl (S 76))), some (a 42, .inl (zI E, 4, .inl (S 77))), some (a 43, .inl (zI E, 4, .inl (S 78))), some (a 44, .inr (2, [.ref (a 45), .ref (a 46), .ref (a 47), .ref (a 48)])), some (a 45, .inl (zI E, 8, .inl (S 80))), some (a 46, .inl (zI E, 8, .inl (S 81))), some (a 47, .inl (zI E, 8, .inl (S 82))), some (a 48, .inl (zI E, 8, .inl (S 83))), some (a 49, .inr (5, [.int (S 96 0), .int (S 97 0), .int (S 98 0), .ref (a 50), .ref (a 51), .ref (a 52), .ref (a 53), .int (S 103 0), .ref (a 54), .ref (a 55), .ref (a 56), .int (S 107 0), .ref (a 57), .ref (a 58), .ref (a 59), .ref (a 60)])), some (a 50, .inl (zI E, 14, .inl (S 99))), some (a 51, .inl (zI E, 14, .inl (S 100))), some (a 52, .inl (zI E, 14, .inl (S 101))), some (a 53, .inl (zI E, 14, .inl (S 102))), some (a 54, .inl (zI E, 12, .inl (S 104))), some (a 55, .inl (zI E, 12, .inl (S 105))), some (a 56, .inl (zI E, 12, .inl (S 106))), some (a 57, .inl (zI E, 4, .inl (S 108))), some (a 58, .inl (zI E, 4, .inl (S 109))), some (a 59, .inl (zI E, 4, .inl (S 110))), some (a 60, .inr (2, [.ref (a 61), .ref (a 62), .ref (a 63), .ref (a 64)])), some (a 61, .inl (zI E, 8, .inl (S 112))), some (a 62, .inl (zI E, 8, .inl (S 113))), some (a 63, .inl (zI E, 8, .inl (S 114))), some (a 64, .inl (zI E, 8, .inl (S 115)))] rfl rfl rfl rfl (by decide +kernel) (by decide +kernel)
noncomputable def f_X6_want (x1 : Int32) (x2 : Int32) (S : St) : Option (Int32 × St) := ((f_X5_isHouse x1 (sb 0 S)).bind (fun q1 => (if q1 = 0 then (some ((-1 : Int32), S)) else ((f_X6_isNumber x2).bind (fun q2 => (if q2 = 0 then (some ((-1 : Int32), S)) else ((f_X4_add 4 x1 (0 : Int32) x2 (sb 144 S)).bind (fun q3 => (if q3.1 = 0 then (some ((-3 : Int32), (pt 144 8 q3.2 S))) else (some ((q3.2 4 0), (pt 144 8 q3.2 S))))))))))))
set_option maxHeartbeats 4000000 in
set_option maxRecDepth 100000 in
theorem L_X6_want {E : zEnv} {Γ : zG} (a : Nat → Nat) (C : zC E Γ cX6_want RX6 3 rm_X6_want wsX6_want) {res : (Int32 × St)} (R : zRi E Γ cX6_want 3 .int (wEA E a res.2) res.1) (x1 : Int32) (x2 : Int32) (S : St) (h : f_X6_want x1 x2 S = some res) : Zt E Γ 3 0 0 (wEA E a S) [(0, .ref (a 0)), (1, .int x1), (2, .int x2)] 0 [] := by
  unfold f_X6_want at h
  refine z_aload_n C 0 rfl rfl dX6_want_0 ?_
  refine z_get C 0 rfl (C := RX6) (T := TX6) (N := 11) (ci := 6) rfl inw_X6_want_X6 0 (by decide) (ref := "EldestAge") (List.mem_of_getElem? (i := 1) rfl) rfl (v := .ref (a 1)) rfl dX6_want_1 ?_
  refine z_iload_n C 1 rfl rfl dX6_want_4 ?_
  obtain ⟨q1, e1, h⟩ := bd_e h
  refine z_callVi C (b := a 1) (As := [.int x1]) (rest := []) (c_X5_isHouse E (fun k => a (1 + k)) x1 (sb 0 S) e1) rfl gX6_want_X5_isHouse rfl rfl rfl 1 rfl (by decide +kernel) ⟨Nat.le_of_ble_eq_true rfl, Nat.le_of_ble_eq_true rfl⟩ [1, 2, 3, 4, 5, 6, 7, 8, 9, 10, 11, 12, 13, 14, 15, 16] (wl_X6_want_0 E a S) (by decide) rfl (wEA E a S) (zrep_self (wl_X6_want_0 E a S)) 0 5 rfl rfl rfl (Nat.le_of_ble_eq_true rfl) dX6_want_5 ⟨Nat.zero_le _, Nat.zero_le _⟩ _ rfl ?_
  refine z_if_eq C 18 (by decide) h dX6_want_8 (fun hc h => ?_) (fun hc h => ?_)
  · refine z_iconst C (v := (-1 : Int32)) (by decide) dX6_want_18 ?_
    obtain rfl := Option.some.inj h
    exact R rfl 19 _ dX6_want_19
  · refine z_iload_n C 2 rfl rfl dX6_want_11 ?_
    obtain ⟨q2, e2, h⟩ := bd_e h
    refine z_callSi C (rest := []) (c_X6_isNumber E x2 e2) gX6_want_X6_isNumber rfl rfl rfl 1 rfl (by decide +kernel) ⟨Nat.le_of_ble_eq_true rfl, Nat.le_of_ble_eq_true rfl⟩ [] rfl (by decide) rfl (wEA E a S) rfl (Nat.le_of_ble_eq_true rfl) dX6_want_12 ⟨Nat.zero_le _, Nat.zero_le _⟩ _ rfl ?_
    refine z_if_ne C 20 (by decide) h dX6_want_15 (fun hc h => ?_) (fun hc h => ?_)
    · refine z_iconst C (v := (-1 : Int32)) (by decide) dX6_want_18 ?_
      obtain rfl := Option.some.inj h
      exact R rfl 19 _ dX6_want_19
    · refine z_aload_n C 0 rfl rfl dX6_want_20 ?_
      refine z_get C 0 rfl (C := RX6) (T := TX6) (N := 11) (ci := 6) rfl inw_X6_want_X6 5 (by decide) (ref := "EldestAge") (List.mem_of_getElem? (i := 2) rfl) rfl (v := .ref (a 69)) rfl dX6_want_21 ?_
      refine z_iload_n C 1 rfl rfl dX6_want_24 ?_
      refine z_iconst C (v := (0 : Int32)) (by decide) dX6_want_25 ?_
      refine z_iload_n C 2 rfl rfl dX6_want_26 ?_
      obtain ⟨q3, e3, h⟩ := bd_e h
      refine z_callVi C (b := a 69) (As := [.int x1, .int (0 : Int32), .int x2]) (rest := []) (c_X4_add E 4 (fun k => a (69 + k)) x1 (0 : Int32) x2 (sb 144 S) e3) rfl gX6_want_X4_add rfl rfl rfl 3 rfl (by decide +kernel) ⟨Nat.le_of_ble_eq_true rfl, Nat.le_of_ble_eq_true rfl⟩ [37, 38, 39, 40] (wl_X6_want_2 E a S) (by decide) (wl_X6_want_3 E a _ _) (wEA E a (pt 144 8 q3.2 S)) (wl_X6_want_4 E a S q3.2) 0 4 rfl rfl rfl (Nat.le_of_ble_eq_true rfl) dX6_want_27 ⟨Nat.zero_le _, Nat.zero_le _⟩ _ rfl ?_
      refine z_if_eq C 43 (by decide) h dX6_want_30 (fun hc h => ?_) (fun hc h => ?_)
      · refine z_bipush C (v := (-3 : Int32)) (by decide) dX6_want_43 ?_
        obtain rfl := Option.some.inj h
        exact R rfl 45 _ dX6_want_45
      · refine z_aload_n C 0 rfl rfl dX6_want_33 ?_
        refine z_get C 0 rfl (C := RX6) (T := TX6) (N := 11) (ci := 6) rfl inw_X6_want_X6 5 (by decide) (ref := "EldestAge") (List.mem_of_getElem? (i := 2) rfl) rfl (v := .ref (a 69)) rfl dX6_want_34 ?_
        refine z_get C 37 rfl (C := RX4) (T := TX4) (N := 5) (ci := 4) rfl inw_X6_want_X4 4 (by decide) (ref := "EldestAge$Told") (List.mem_of_getElem? (i := 3) rfl) rfl (v := .int (q3.2 4 0)) rfl dX6_want_37 ?_
        refine z_goto C 45 (by decide) dX6_want_40 ?_
        obtain rfl := Option.some.inj h
        exact R rfl 45 _ dX6_want_45

theorem c_X6_want (E : zEnv) (a : Nat → Nat) (x1 : Int32) (x2 : Int32) (S : St) {res : (Int32 × St)} (h : f_X6_want x1 x2 S = some res) : Kti E yX6_want wsX6_want rm_X6_want (wEA E a S) (wEA E a res.2) [.ref (a 0), .int x1, .int x2] res.1 :=
  z_enti (cc := cX6_want) (maxL := 3) (rt := .int) (by decide +kernel) rfl (Nat.le_of_ble_eq_true rfl) (fun Γ C R => L_X6_want a C R x1 x2 S h)

abbrev rm_X6_content : Room := { frames := 0, cells := 0, slots := 0, locals := 0 }
theorem inw_X6_content_X6 : ∀ w ∈ wsX60, w ∈ wsX6_content := fun _ h => List.mem_cons_of_mem _ (List.mem_append_left _ (List.mem_append_right _ h))
theorem inw_X6_content_X4 : ∀ w ∈ wsX40, w ∈ wsX6_content := fun _ h => List.mem_cons_of_mem _ (List.mem_append_right _ h)
set_option maxHeartbeats 4000000 in
theorem wl_X6_content_0 (E : zEnv) (a : Nat → Nat) (S : St) (v : Int32) : (wEA E a (st 148 (fun _ => v) S)) = (wEA E a S).set 37 (a 69, .inr (4, List.set [.int (S 144 0), .ref (a 70), .ref (a 71), .ref (a 72), .int (S 148 0)] 4 (.int v))) := rfl
noncomputable def f_X6_content (S : St) : Option (Int32 × St) := (some ((S 148 0), (st 148 (fun _ => (0 : Int32)) S)))
set_option maxHeartbeats 4000000 in
set_option maxRecDepth 100000 in
theorem L_X6_content {E : zEnv} {Γ : zG} (a : Nat → Nat) (C : zC E Γ cX6_content RX6 2 rm_X6_content wsX6_content) {res : (Int32 × St)} (R : zRi E Γ cX6_content 2 .int (wEA E a res.2) res.1) (S : St) (h : f_X6_content S = some res) : Zt E Γ 2 0 0 (wEA E a S) [(0, .ref (a 0))] 0 [] := by
  unfold f_X6_content at h
  refine z_aload_n C 0 rfl rfl dX6_content_0 ?_
  refine z_get C 0 rfl (C := RX6) (T := TX6) (N := 11) (ci := 6) rfl inw_X6_content_X6 5 (by decide) (ref := "EldestAge") (List.mem_of_getElem? (i := 1) rfl) rfl (v := .ref (a 69)) rfl dX6_content_1 ?_
  refine z_get C 37 rfl (C := RX4) (T := TX4) (N := 5) (ci := 4) rfl inw_X6_content_X4 4 (by decide) (ref := "EldestAge$Told") (List.mem_of_getElem? (i := 2) rfl) rfl (v := .int (S 148 0)) rfl dX6_content_4 ?_
  refine z_istore_n C [(1, .int (S 148 0)), (0, .ref (a 0))] rfl (by decide) rfl dX6_content_7 ?_
  refine z_aload_n C 1 rfl rfl dX6_content_8 ?_
  refine z_get C 0 rfl (C := RX6) (T := TX6) (N := 11) (ci := 6) rfl inw_X6_content_X6 5 (by decide) (ref := "EldestAge") (List.mem_of_getElem? (i := 1) rfl) rfl (v := .ref (a 69)) rfl dX6_content_9 ?_
  refine z_iconst C (v := (0 : Int32)) (by decide) dX6_content_12 ?_
  refine z_put C 37 rfl (C := RX4) (T := TX4) (N := 5) (ci := 4) rfl inw_X6_content_X4 tyX4 tyX4_ok nmX4 4 (by decide) (ref := "EldestAge$Told") (List.mem_of_getElem? (i := 2) rfl) rfl rfl (ty := .int) (v := .int (0 : Int32)) (by decide +kernel) rfl rfl (Nat.le_of_ble_eq_true rfl) (wEA E a (st 148 (fun _ => (0 : Int32)) S)) (wl_X6_content_0 E a S (0 : Int32)) dX6_content_13 ?_
  refine z_iload_n C 0 rfl rfl dX6_content_16 ?_
  obtain rfl := Option.some.inj h
  exact R rfl 17 _ dX6_content_17

theorem c_X6_content (E : zEnv) (a : Nat → Nat) (S : St) {res : (Int32 × St)} (h : f_X6_content S = some res) : Kti E yX6_content wsX6_content rm_X6_content (wEA E a S) (wEA E a res.2) [.ref (a 0)] res.1 :=
  z_enti (cc := cX6_content) (maxL := 2) (rt := .int) (by decide +kernel) rfl (Nat.le_of_ble_eq_true rfl) (fun Γ C R => L_X6_content a C R S h)

abbrev rm_X6_fetch : Room := { frames := 4, cells := 0, slots := 0, locals := 100 }
theorem inw_X6_fetch_X6 : ∀ w ∈ wsX60, w ∈ wsX6_fetch := fun _ h => List.mem_cons_of_mem _ (List.mem_append_left _ (List.mem_append_left _ (List.mem_append_left _ (List.mem_append_left _ (List.mem_append_right _ h)))))
theorem inw_X6_fetch_X5 : ∀ w ∈ wsX50, w ∈ wsX6_fetch := fun _ h => List.mem_cons_of_mem _ (List.mem_append_left _ (List.mem_append_left _ (List.mem_append_left _ (List.mem_append_right _ h))))
theorem inw_X6_fetch_X0 : ∀ w ∈ wsX00, w ∈ wsX6_fetch := fun _ h => List.mem_cons_of_mem _ (List.mem_append_left _ (List.mem_append_left _ (List.mem_append_right _ h)))
theorem inw_X6_fetch_X2 : ∀ w ∈ wsX20, w ∈ wsX6_fetch := fun _ h => List.mem_cons_of_mem _ (List.mem_append_left _ (List.mem_append_right _ h))
theorem inw_X6_fetch_X4 : ∀ w ∈ wsX40, w ∈ wsX6_fetch := fun _ h => List.mem_cons_of_mem _ (List.mem_append_right _ h)
set_option maxHeartbeats 4000000 in
theorem wl_X6_fetch_0 (E : zEnv) (a : Nat → Nat) (S : St) : ([1, 2, 3, 4, 5, 6, 7, 8, 9, 10, 11, 12, 13, 14, 15, 16] : List Nat).map (fun i => (wEA E a S)[i]?) = (wTown E (fun k => a (1 + k)) (sb 0 S)).map some := rfl
set_option maxHeartbeats 4000000 in
theorem wl_X6_fetch_1 (E : zEnv) (a : Nat → Nat) (S U : St) : (wTown E (fun k => a (1 + k)) U).map (fun q => q.1) = (wTown E (fun k => a (1 + k)) S).map (fun q => q.1) := rfl
set_option maxHeartbeats 4000000 in
theorem wl_X6_fetch_2 (E : zEnv) (a : Nat → Nat) (S : St) : ([45, 46, 47, 48, 49, 50, 51, 52, 53, 54, 55, 56, 57, 58, 59, 60, 1, 2, 3, 4, 5, 6, 7, 8, 9, 10, 11, 12, 13, 14, 15, 16, 37, 38, 39, 40] : List Nat).map (fun i => (wEA E a S)[i]?) = (wSearchTownTold E 4 (ja 16 (fun k => a (77 + k)) (ja 16 (fun k => a (1 + k)) (fun k => a (69 + k)))) (jn 16 (sb 160 S) (jn 32 (sb 0 S) (sb 144 S)))).map some := rfl
set_option maxHeartbeats 4000000 in
theorem wl_X6_fetch_3 (E : zEnv) (a : Nat → Nat) (S U : St) : (wSearchTownTold E 4 (ja 16 (fun k => a (77 + k)) (ja 16 (fun k => a (1 + k)) (fun k => a (69 + k)))) U).map (fun q => q.1) = (wSearchTownTold E 4 (ja 16 (fun k => a (77 + k)) (ja 16 (fun k => a (1 + k)) (fun k => a (69 + k)))) S).map (fun q => q.1) := rfl
set_option maxHeartbeats 4000000 in
theorem wl_X6_fetch_4 (E : zEnv) (a : Nat → Nat) (S U : St) : (wEA E a (pt 144 8 (sb 48 U) (pt 0 32 (sb 16 U) (pt 160 16 U S)))) = zrep [45, 46, 47, 48, 49, 50, 51, 52, 53, 54, 55, 56, 57, 58, 59, 60, 1, 2, 3, 4, 5, 6, 7, 8, 9, 10, 11, 12, 13, 14, 15, 16, 37, 38, 39, 40] (wSearchTownTold E 4 (ja 16 (fun k => a (77 + k)) (ja 16 (fun k => a (1 + k)) (fun k => a (69 + k)))) U) (wEA E a S) := zrep_of (isR := [0, 17, 18, 19, 20, 21, 22, 23, 24, 25, 26, 27, 28, 29, 30, 31, 32, 33, 34, 35, 36, 41, 42, 43, 44, 61, 62, 63, 64, 65, 66, 67, 68, 69, 70, 71, 72, 73, 74, 75, 76, 77, 78, 79, 80, 81, 82, 83, 84, 85, 86, 87, 88, 89, 90, 91, 92, 93, 94, 95, 96, 97, 98, 99, 100]) 101 rfl [some (a 0, .inr (6, [.ref (a 1), .ref (a 17), .ref (a 65), .ref (a 66), .ref (a 67), .ref (a 69), .ref (a 73), .ref (a 77), .ref (a 93), .int (S 184 0), .int (S 185 0)])), some (a 17, .inr (5, [.int (S 32 0), .int (S 33 0), .int (S 34 0), .ref (a 18), .ref (a 19), .ref (a 20), .ref (a 21), .int (S 39 0), .ref (a 22), .ref (a 23), .ref (a 24), .int (S 43 0), .ref (a 25), .ref (a 26), .ref (a 27), .ref (a 28)])), some (a 18, .inl (zI E, 14, .inl (S 35))), some (a 19, .inl (zI E, 14, .inl (S 36))), some (a 20, .inl (zI E, 14, .inl (S 37))), some (a 21, .inl (zI E, 14, .inl (S 38))), some (a 22, .inl (zI E, 12, .inl (S 40))), some (a 23, .inl (zI E, 12, .inl (S 41))), some (a 24, .inl (zI E, 12, .inl (S 42))), some (a 25, .inl (zI E, 4, .inl (S 44))), some (a 26, .inl (zI E, 4, .inl (S 45))), some (a 27, .inl (zI E, 4, .inl (S 46))), some (a 28, .inr (2, [.ref (a 29), .ref (a 30), .ref (a 31), .ref (a 32)])), some (a 29, .inl (zI E, 8, .inl (S 48))), some (a 30, .inl (zI E, 8, .inl (S 49))), some (a 31, .inl (zI E, 8, .inl (S 50))), some (a 32, .inl (zI E, 8, .inl (S 51))), some (a 65, .inl (zT E, 2, .inr (.inr (.inr (.inr (va_up (va_up (fun _ => none) 0 (some (a 33))) 1 (some (a 49)))))))), some (a 66, .inl (zZ E, 2, .inl (S 186))), some (a 67, .inr (3, [.ref (a 68), .int (S 129 0), .int (S 130 0), .int (S 131 0), .int (S 132 0), .int (S 133 0), .int (S 134 0), .int (S 135 0), .int (S 136 0), .int (S 137 0), .int (S 138 0), .int (S 139 0)])), some (a 68, .inl (zI E, 400, .inl (S 128))), some (a 73, .inr (4, [.int (S 152 0), .ref (a 74), .ref (a 75), .ref (a 76), .int (S 156 0)])), some (a 74, .inl (zI E, 8, .inl (S 153))), some (a 75, .inl (zI E, 8, .inl (S 154))), some (a 76, .inl (zI E, 8, .inl (S 155))), some (a 93, .inr (1, [.ref (a 94), .ref (a 99), .ref (a 100)])), some (a 94, .inl (zII E, 4, .inr (.inr (.inr (.inr (va_up (va_up (va_up (va_up (fun _ => none) 0 (some (a 95))) 1 (some (a 96))) 2 (some (a 97))) 3 (some (a 98)))))))), some (a 95, .inl (zI E, 40, .inl (S 176))), some (a 96, .inl (zI E, 40, .inl (S 177))), some (a 97, .inl (zI E, 40, .inl (S 178))), some (a 98, .inl (zI E, 40, .inl (S 179))), some (a 99, .inl (zI E, 4, .inl (S 180))), some (a 100, .inl (zI E, 4, .inl (S 181))), some (a 33, .inr (5, [.int (S 64 0), .int (S 65 0), .int (S 66 0), .ref (a 34), .ref (a 35), .ref (a 36), .ref (a 37), .int (S 71 0), .ref (a 38), .ref (a 39), .ref (a 40), .int (S 75 0), .ref (a 41), .ref (a 42), .ref (a 43), .ref (a 44)])), some (a 34, .inl (zI E, 14, .inl (S 67))), some (a 35, .inl (zI E, 14, .inl (S 68))), some (a 36, .inl (zI E, 14, .inl (S 69))), some (a 37, .inl (zI E, 14, .inl (S 70))), some (a 38, .inl (zI E, 12, .inl (S 72))), some (a 39, .inl (zI E, 12, .inl (S 73))), some (a 40, .inl (zI E, 12, .inl (S 74))), some (a 41, .inl (zI E, 4, .inl (S 76))), some (a 42, .inl (zI E, 4, .inl (S 77))), some (a 43, .inl (zI E, 4, .inl (S 78))), some (a 44, .inr (2, [.ref (a 45), .ref (a 46), .ref (a 47), .ref (a 48)])), some (a 45, .inl (zI E, 8, .inl (S 80))), some (a 46, .inl (zI E, 8, .inl (S 81))), some (a 47, .inl (zI E, 8, .inl (S 82))), some (a 48, .inl (zI E, 8, .inl (S 83))), some (a 49, .inr (5, [.int (S 96 0), .int (S 97 0), .int (S 98 0), .ref (a 50), .ref (a 51), .ref (a 52), .ref (a 53), .int (S 103 0), .ref (a 54), .ref (a 55), .ref (a 56), .int (S 107 0), .ref (a 57), .ref (a 58), .ref (a 59), .ref (a 60)])), some (a 50, .inl (zI E, 14, .inl (S 99))), some (a 51, .inl (zI E, 14, .inl (S 100))), some (a 52, .inl (zI E, 14, .inl (S 101))), some (a 53, .inl (zI E, 14, .inl (S 102))), some (a 54, .inl (zI E, 12, .inl (S 104))), some (a 55, .inl (zI E, 12, .inl (S 105))), some (a 56, .inl (zI E, 12, .inl (S 106))), some (a 57, .inl (zI E, 4, .inl (S 108))), some (a 58, .inl (zI E, 4, .inl (S 109))), some (a 59, .inl (zI E, 4, .inl (S 110))), some (a 60, .inr (2, [.ref (a 61), .ref (a 62), .ref (a 63), .ref (a 64)])), some (a 61, .inl (zI E, 8, .inl (S 112))), some (a 62, .inl (zI E, 8, .inl (S 113))), some (a 63, .inl (zI E, 8, .inl (S 114))), some (a 64, .inl (zI E, 8, .inl (S 115)))] rfl rfl rfl rfl (by decide +kernel) (by decide +kernel)
set_option maxHeartbeats 4000000 in
theorem wl_X6_fetch_5 (E : zEnv) (a : Nat → Nat) (S : St) : ([45, 46, 47, 48, 49, 50, 51, 52, 53, 54, 55, 56, 57, 58, 59, 60] : List Nat).map (fun i => (wEA E a S)[i]?) = (wSearch E (fun k => a (77 + k)) (sb 160 S)).map some := rfl
set_option maxHeartbeats 4000000 in
theorem wl_X6_fetch_6 (E : zEnv) (a : Nat → Nat) (S U : St) : (wSearch E (fun k => a (77 + k)) U).map (fun q => q.1) = (wSearch E (fun k => a (77 + k)) S).map (fun q => q.1) := rfl
noncomputable def f_X6_fetch_32 (x1 : Int32) (x2 : Int32) (x3 : Int32) (x4 : Int32) (S : St) : Option (Int32 × St) := ((f_X5_auntsOn x1 (sb 0 S)).bind (fun q1 => (if q1 ≤ (4 : Int32) then ((f_X0_fewest 4 x1 x2 (jn 16 (sb 160 S) (jn 32 (sb 0 S) (sb 144 S)))).bind (fun q2 => (if q2.1 = (-4 : Int32) then (some (q2.1, (pt 144 8 (sb 48 q2.2) (pt 0 32 (sb 16 q2.2) (pt 160 16 q2.2 S))))) else (if x3 = 0 then (some (q2.1, (pt 144 8 (sb 48 q2.2) (pt 0 32 (sb 16 q2.2) (pt 160 16 q2.2 S))))) else ((f_X0_houseFor x4 (sb 160 (pt 144 8 (sb 48 q2.2) (pt 0 32 (sb 16 q2.2) (pt 160 16 q2.2 S))))).bind (fun q3 => (some (q3, (pt 144 8 (sb 48 q2.2) (pt 0 32 (sb 16 q2.2) (pt 160 16 q2.2 S))))))))))) else (some ((-2 : Int32), S)))))
noncomputable def f_X6_fetch (x1 : Int32) (x2 : Int32) (x3 : Int32) (S : St) : Option (Int32 × St) := ((f_X6_isDay x1).bind (fun q4 => (if q4 = 0 then (some ((-1 : Int32), S)) else (if x3 = 0 then (f_X6_fetch_32 x1 x2 x3 (x3 - (10 : Int32)) S) else ((f_X5_isAuntOn (x3 - (10 : Int32)) x1 (sb 0 S)).bind (fun q5 => (if q5 = 0 then (some ((-1 : Int32), S)) else (f_X6_fetch_32 x1 x2 x3 (x3 - (10 : Int32)) S))))))))
set_option maxHeartbeats 4000000 in
set_option maxRecDepth 100000 in
theorem L_X6_fetch_32 {E : zEnv} {Γ : zG} (a : Nat → Nat) (C : zC E Γ cX6_fetch RX6 6 rm_X6_fetch wsX6_fetch) {res : (Int32 × St)} (R : zRi E Γ cX6_fetch 6 .int (wEA E a res.2) res.1) (x1 : Int32) (x2 : Int32) (x3 : Int32) (x4 : Int32) (S : St) (h : f_X6_fetch_32 x1 x2 x3 x4 S = some res) : Zt E Γ 6 0 0 (wEA E a S) [(0, .ref (a 0)), (1, .int x1), (2, .int x2), (3, .int x3), (4, .int x4)] 32 [] := by
  unfold f_X6_fetch_32 at h
  refine z_aload_n C 0 rfl rfl dX6_fetch_32 ?_
  refine z_get C 0 rfl (C := RX6) (T := TX6) (N := 11) (ci := 6) rfl inw_X6_fetch_X6 0 (by decide) (ref := "EldestAge") (List.mem_of_getElem? (i := 1) rfl) rfl (v := .ref (a 1)) rfl dX6_fetch_33 ?_
  refine z_iload_n C 1 rfl rfl dX6_fetch_36 ?_
  obtain ⟨q1, e1, h⟩ := bd_e h
  refine z_callVi C (b := a 1) (As := [.int x1]) (rest := []) (c_X5_auntsOn E (fun k => a (1 + k)) x1 (sb 0 S) e1) rfl gX6_fetch_X5_auntsOn rfl rfl rfl 1 rfl (by decide +kernel) ⟨Nat.le_of_ble_eq_true rfl, Nat.le_of_ble_eq_true rfl⟩ [1, 2, 3, 4, 5, 6, 7, 8, 9, 10, 11, 12, 13, 14, 15, 16] (wl_X6_fetch_0 E a S) (by decide) rfl (wEA E a S) (zrep_self (wl_X6_fetch_0 E a S)) 0 5 rfl rfl rfl (Nat.le_of_ble_eq_true rfl) dX6_fetch_37 ⟨Nat.zero_le _, Nat.zero_le _⟩ _ rfl ?_
  refine z_iconst C (v := (4 : Int32)) (by decide) dX6_fetch_40 ?_
  refine z_icmp_le C 47 (by decide) h dX6_fetch_41 (fun hc h => ?_) (fun hc h => ?_)
  · refine z_aload_n C 0 rfl rfl dX6_fetch_47 ?_
    refine z_get C 0 rfl (C := RX6) (T := TX6) (N := 11) (ci := 6) rfl inw_X6_fetch_X6 7 (by decide) (ref := "EldestAge") (List.mem_of_getElem? (i := 2) rfl) rfl (v := .ref (a 77)) rfl dX6_fetch_48 ?_
    refine z_aload_n C 0 rfl rfl dX6_fetch_51 ?_
    refine z_get C 0 rfl (C := RX6) (T := TX6) (N := 11) (ci := 6) rfl inw_X6_fetch_X6 0 (by decide) (ref := "EldestAge") (List.mem_of_getElem? (i := 1) rfl) rfl (v := .ref (a 1)) rfl dX6_fetch_52 ?_
    refine z_iload_n C 1 rfl rfl dX6_fetch_55 ?_
    refine z_aload_n C 0 rfl rfl dX6_fetch_56 ?_
    refine z_get C 0 rfl (C := RX6) (T := TX6) (N := 11) (ci := 6) rfl inw_X6_fetch_X6 5 (by decide) (ref := "EldestAge") (List.mem_of_getElem? (i := 3) rfl) rfl (v := .ref (a 69)) rfl dX6_fetch_57 ?_
    refine z_iload_n C 2 rfl rfl dX6_fetch_60 ?_
    obtain ⟨q2, e2, h⟩ := bd_e h
    refine z_callVi C (b := a 77) (As := [.ref (a 1), .int x1, .ref (a 69), .int x2]) (rest := []) (c_X0_fewest E 4 (ja 16 (fun k => a (77 + k)) (ja 16 (fun k => a (1 + k)) (fun k => a (69 + k)))) x1 x2 (jn 16 (sb 160 S) (jn 32 (sb 0 S) (sb 144 S))) e2) rfl gX6_fetch_X0_fewest rfl rfl rfl 4 rfl (by decide +kernel) ⟨Nat.le_of_ble_eq_true rfl, Nat.le_of_ble_eq_true rfl⟩ [45, 46, 47, 48, 49, 50, 51, 52, 53, 54, 55, 56, 57, 58, 59, 60, 1, 2, 3, 4, 5, 6, 7, 8, 9, 10, 11, 12, 13, 14, 15, 16, 37, 38, 39, 40] (wl_X6_fetch_2 E a S) (by decide) (wl_X6_fetch_3 E a _ _) (wEA E a (pt 144 8 (sb 48 q2.2) (pt 0 32 (sb 16 q2.2) (pt 160 16 q2.2 S)))) (wl_X6_fetch_4 E a S q2.2) 0 0 rfl rfl rfl (Nat.le_of_ble_eq_true rfl) dX6_fetch_61 ⟨Nat.zero_le _, Nat.zero_le _⟩ _ rfl ?_
    refine z_istore C [(5, .int q2.1), (0, .ref (a 0)), (1, .int x1), (2, .int x2), (3, .int x3), (4, .int x4)] (by decide) rfl dX6_fetch_64 ?_
    refine z_iload C 0 rfl dX6_fetch_66 ?_
    refine z_bipush C (v := (-4 : Int32)) (by decide) dX6_fetch_68 ?_
    refine z_icmp_eq C 77 (by decide) h dX6_fetch_70 (fun hc h => ?_) (fun hc h => ?_)
    · refine z_iload C 0 rfl dX6_fetch_77 ?_
      obtain rfl := Option.some.inj h
      exact R rfl 79 _ dX6_fetch_79
    · refine z_iload_n C 4 rfl rfl dX6_fetch_73 ?_
      refine z_if_ne C 80 (by decide) h dX6_fetch_74 (fun hc h => ?_) (fun hc h => ?_)
      · refine z_iload C 0 rfl dX6_fetch_77 ?_
        obtain rfl := Option.some.inj h
        exact R rfl 79 _ dX6_fetch_79
      · refine z_aload_n C 1 rfl rfl dX6_fetch_80 ?_
        refine z_get C 0 rfl (C := RX6) (T := TX6) (N := 11) (ci := 6) rfl inw_X6_fetch_X6 7 (by decide) (ref := "EldestAge") (List.mem_of_getElem? (i := 2) rfl) rfl (v := .ref (a 77)) rfl dX6_fetch_81 ?_
        refine z_iload C 5 rfl dX6_fetch_84 ?_
        obtain ⟨q3, e3, h⟩ := bd_e h
        refine z_callVi C (b := a 77) (As := [.int x4]) (rest := []) (c_X0_houseFor E (fun k => a (77 + k)) x4 (sb 160 (pt 144 8 (sb 48 q2.2) (pt 0 32 (sb 16 q2.2) (pt 160 16 q2.2 S)))) e3) rfl gX6_fetch_X0_houseFor rfl rfl rfl 1 rfl (by decide +kernel) ⟨Nat.le_of_ble_eq_true rfl, Nat.le_of_ble_eq_true rfl⟩ [45, 46, 47, 48, 49, 50, 51, 52, 53, 54, 55, 56, 57, 58, 59, 60] (wl_X6_fetch_5 E a (pt 144 8 (sb 48 q2.2) (pt 0 32 (sb 16 q2.2) (pt 160 16 q2.2 S)))) (by decide) rfl (wEA E a (pt 144 8 (sb 48 q2.2) (pt 0 32 (sb 16 q2.2) (pt 160 16 q2.2 S)))) (zrep_self (wl_X6_fetch_5 E a (pt 144 8 (sb 48 q2.2) (pt 0 32 (sb 16 q2.2) (pt 160 16 q2.2 S))))) 0 0 rfl rfl rfl (Nat.le_of_ble_eq_true rfl) dX6_fetch_86 ⟨Nat.zero_le _, Nat.zero_le _⟩ _ rfl ?_
        obtain rfl := Option.some.inj h
        exact R rfl 89 _ dX6_fetch_89
  · refine z_bipush C (v := (-2 : Int32)) (by decide) dX6_fetch_44 ?_
    obtain rfl := Option.some.inj h
    exact R rfl 46 _ dX6_fetch_46

set_option maxHeartbeats 4000000 in
set_option maxRecDepth 100000 in
theorem L_X6_fetch {E : zEnv} {Γ : zG} (a : Nat → Nat) (C : zC E Γ cX6_fetch RX6 6 rm_X6_fetch wsX6_fetch) {res : (Int32 × St)} (R : zRi E Γ cX6_fetch 6 .int (wEA E a res.2) res.1) (x1 : Int32) (x2 : Int32) (x3 : Int32) (S : St) (h : f_X6_fetch x1 x2 x3 S = some res) : Zt E Γ 6 0 0 (wEA E a S) [(0, .ref (a 0)), (1, .int x1), (2, .int x2), (3, .int x3)] 0 [] := by
  unfold f_X6_fetch at h
  refine z_iload_n C 3 rfl rfl dX6_fetch_0 ?_
  refine z_bipush C (v := (10 : Int32)) (by decide) dX6_fetch_1 ?_
  refine z_isub C dX6_fetch_3 ?_
  refine z_istore C [(4, .int (x3 - (10 : Int32))), (0, .ref (a 0)), (1, .int x1), (2, .int x2), (3, .int x3)] (by decide) rfl dX6_fetch_4 ?_
  refine z_iload_n C 2 rfl rfl dX6_fetch_6 ?_
  obtain ⟨q4, e4, h⟩ := bd_e h
  refine z_callSi C (rest := []) (c_X6_isDay E x1 e4) gX6_fetch_X6_isDay rfl rfl rfl 1 rfl (by decide +kernel) ⟨Nat.le_of_ble_eq_true rfl, Nat.le_of_ble_eq_true rfl⟩ [] rfl (by decide) rfl (wEA E a S) rfl (Nat.le_of_ble_eq_true rfl) dX6_fetch_7 ⟨Nat.zero_le _, Nat.zero_le _⟩ _ rfl ?_
  refine z_if_eq C 30 (by decide) h dX6_fetch_10 (fun hc h => ?_) (fun hc h => ?_)
  · refine z_iconst C (v := (-1 : Int32)) (by decide) dX6_fetch_30 ?_
    obtain rfl := Option.some.inj h
    exact R rfl 31 _ dX6_fetch_31
  · refine z_iload_n C 4 rfl rfl dX6_fetch_13 ?_
    refine z_if_eq C 32 (by decide) h dX6_fetch_14 (fun hc h => ?_) (fun hc h => ?_)
    · refine Zt_l [(0, .ref (a 0)), (1, .int x1), (2, .int x2), (3, .int x3), (4, .int (x3 - (10 : Int32)))] [1, 2, 3, 4, 0] rfl ?_
      exact L_X6_fetch_32 a C R x1 x2 x3 (x3 - (10 : Int32)) S h
    · refine z_aload_n C 1 rfl rfl dX6_fetch_17 ?_
      refine z_get C 0 rfl (C := RX6) (T := TX6) (N := 11) (ci := 6) rfl inw_X6_fetch_X6 0 (by decide) (ref := "EldestAge") (List.mem_of_getElem? (i := 1) rfl) rfl (v := .ref (a 1)) rfl dX6_fetch_18 ?_
      refine z_iload C 0 rfl dX6_fetch_21 ?_
      refine z_iload_n C 2 rfl rfl dX6_fetch_23 ?_
      obtain ⟨q5, e5, h⟩ := bd_e h
      refine z_callVi C (b := a 1) (As := [.int (x3 - (10 : Int32)), .int x1]) (rest := []) (c_X5_isAuntOn E (fun k => a (1 + k)) (x3 - (10 : Int32)) x1 (sb 0 S) e5) rfl gX6_fetch_X5_isAuntOn rfl rfl rfl 2 rfl (by decide +kernel) ⟨Nat.le_of_ble_eq_true rfl, Nat.le_of_ble_eq_true rfl⟩ [1, 2, 3, 4, 5, 6, 7, 8, 9, 10, 11, 12, 13, 14, 15, 16] (wl_X6_fetch_0 E a S) (by decide) rfl (wEA E a S) (zrep_self (wl_X6_fetch_0 E a S)) 0 5 rfl rfl rfl (Nat.le_of_ble_eq_true rfl) dX6_fetch_24 ⟨Nat.zero_le _, Nat.zero_le _⟩ _ rfl ?_
      refine z_if_ne C 32 (by decide) h dX6_fetch_27 (fun hc h => ?_) (fun hc h => ?_)
      · refine z_iconst C (v := (-1 : Int32)) (by decide) dX6_fetch_30 ?_
        obtain rfl := Option.some.inj h
        exact R rfl 31 _ dX6_fetch_31
      · refine Zt_l [(0, .ref (a 0)), (1, .int x1), (2, .int x2), (3, .int x3), (4, .int (x3 - (10 : Int32)))] [1, 2, 3, 4, 0] rfl ?_
        exact L_X6_fetch_32 a C R x1 x2 x3 (x3 - (10 : Int32)) S h

theorem c_X6_fetch (E : zEnv) (a : Nat → Nat) (x1 : Int32) (x2 : Int32) (x3 : Int32) (S : St) {res : (Int32 × St)} (h : f_X6_fetch x1 x2 x3 S = some res) : Kti E yX6_fetch wsX6_fetch rm_X6_fetch (wEA E a S) (wEA E a res.2) [.ref (a 0), .int x1, .int x2, .int x3] res.1 :=
  z_enti (cc := cX6_fetch) (maxL := 6) (rt := .int) (by decide +kernel) rfl (Nat.le_of_ble_eq_true rfl) (fun Γ C R => L_X6_fetch a C R x1 x2 x3 S h)

abbrev rm_X6_expect : Room := { frames := 1, cells := 0, slots := 0, locals := 23 }
theorem inw_X6_expect_X6 : ∀ w ∈ wsX60, w ∈ wsX6_expect := fun _ h => List.mem_cons_of_mem _ (List.mem_append_left _ (List.mem_append_right _ h))
theorem inw_X6_expect_X5 : ∀ w ∈ wsX50, w ∈ wsX6_expect := fun _ h => List.mem_cons_of_mem _ (List.mem_append_right _ h)
set_option maxHeartbeats 4000000 in
theorem wl_X6_expect_0 (E : zEnv) (a : Nat → Nat) (S : St) : ([1, 2, 3, 4, 5, 6, 7, 8, 9, 10, 11, 12, 13, 14, 15, 16] : List Nat).map (fun i => (wEA E a S)[i]?) = (wTown E (fun k => a (1 + k)) (sb 0 S)).map some := rfl
set_option maxHeartbeats 4000000 in
theorem wl_X6_expect_1 (E : zEnv) (a : Nat → Nat) (S U : St) : (wTown E (fun k => a (1 + k)) U).map (fun q => q.1) = (wTown E (fun k => a (1 + k)) S).map (fun q => q.1) := rfl
set_option maxHeartbeats 4000000 in
theorem wl_X6_expect_2 (E : zEnv) (a : Nat → Nat) (S U : St) : (wEA E a (pt 0 32 U S)) = zrep [1, 2, 3, 4, 5, 6, 7, 8, 9, 10, 11, 12, 13, 14, 15, 16] (wTown E (fun k => a (1 + k)) U) (wEA E a S) := zrep_of (isR := [0, 17, 18, 19, 20, 21, 22, 23, 24, 25, 26, 27, 28, 29, 30, 31, 32, 33, 34, 35, 36, 37, 38, 39, 40, 41, 42, 43, 44, 45, 46, 47, 48, 49, 50, 51, 52, 53, 54, 55, 56, 57, 58, 59, 60, 61, 62, 63, 64, 65, 66, 67, 68, 69, 70, 71, 72, 73, 74, 75, 76, 77, 78, 79, 80, 81, 82, 83, 84, 85, 86, 87, 88, 89, 90, 91, 92, 93, 94, 95, 96, 97, 98, 99, 100]) 101 rfl [some (a 0, .inr (6, [.ref (a 1), .ref (a 17), .ref (a 65), .ref (a 66), .ref (a 67), .ref (a 69), .ref (a 73), .ref (a 77), .ref (a 93), .int (S 184 0), .int (S 185 0)])), some (a 17, .inr (5, [.int (S 32 0), .int (S 33 0), .int (S 34 0), .ref (a 18), .ref (a 19), .ref (a 20), .ref (a 21), .int (S 39 0), .ref (a 22), .ref (a 23), .ref (a 24), .int (S 43 0), .ref (a 25), .ref (a 26), .ref (a 27), .ref (a 28)])), some (a 18, .inl (zI E, 14, .inl (S 35))), some (a 19, .inl (zI E, 14, .inl (S 36))), some (a 20, .inl (zI E, 14, .inl (S 37))), some (a 21, .inl (zI E, 14, .inl (S 38))), some (a 22, .inl (zI E, 12, .inl (S 40))), some (a 23, .inl (zI E, 12, .inl (S 41))), some (a 24, .inl (zI E, 12, .inl (S 42))), some (a 25, .inl (zI E, 4, .inl (S 44))), some (a 26, .inl (zI E, 4, .inl (S 45))), some (a 27, .inl (zI E, 4, .inl (S 46))), some (a 28, .inr (2, [.ref (a 29), .ref (a 30), .ref (a 31), .ref (a 32)])), some (a 29, .inl (zI E, 8, .inl (S 48))), some (a 30, .inl (zI E, 8, .inl (S 49))), some (a 31, .inl (zI E, 8, .inl (S 50))), some (a 32, .inl (zI E, 8, .inl (S 51))), some (a 65, .inl (zT E, 2, .inr (.inr (.inr (.inr (va_up (va_up (fun _ => none) 0 (some (a 33))) 1 (some (a 49)))))))), some (a 66, .inl (zZ E, 2, .inl (S 186))), some (a 67, .inr (3, [.ref (a 68), .int (S 129 0), .int (S 130 0), .int (S 131 0), .int (S 132 0), .int (S 133 0), .int (S 134 0), .int (S 135 0), .int (S 136 0), .int (S 137 0), .int (S 138 0), .int (S 139 0)])), some (a 68, .inl (zI E, 400, .inl (S 128))), some (a 69, .inr (4, [.int (S 144 0), .ref (a 70), .ref (a 71), .ref (a 72), .int (S 148 0)])), some (a 70, .inl (zI E, 4, .inl (S 145))), some (a 71, .inl (zI E, 4, .inl (S 146))), some (a 72, .inl (zI E, 4, .inl (S 147))), some (a 73, .inr (4, [.int (S 152 0), .ref (a 74), .ref (a 75), .ref (a 76), .int (S 156 0)])), some (a 74, .inl (zI E, 8, .inl (S 153))), some (a 75, .inl (zI E, 8, .inl (S 154))), some (a 76, .inl (zI E, 8, .inl (S 155))), some (a 77, .inr (0, [.int (S 160 0), .ref (a 78), .ref (a 79), .ref (a 80), .ref (a 81), .ref (a 82), .ref (a 83), .ref (a 88)])), some (a 78, .inl (zI E, 4, .inl (S 161))), some (a 79, .inl (zI E, 4, .inl (S 162))), some (a 80, .inl (zI E, 4, .inl (S 163))), some (a 81, .inl (zI E, 4, .inl (S 164))), some (a 82, .inl (zI E, 4, .inl (S 165))), some (a 83, .inr (2, [.ref (a 84), .ref (a 85), .ref (a 86), .ref (a 87)])), some (a 84, .inl (zI E, 8, .inl (S 168))), some (a 85, .inl (zI E, 8, .inl (S 169))), some (a 86, .inl (zI E, 8, .inl (S 170))), some (a 87, .inl (zI E, 8, .inl (S 171))), some (a 88, .inr (2, [.ref (a 89), .ref (a 90), .ref (a 91), .ref (a 92)])), some (a 89, .inl (zI E, 8, .inl (S 172))), some (a 90, .inl (zI E, 8, .inl (S 173))), some (a 91, .inl (zI E, 8, .inl (S 174))), some (a 92, .inl (zI E, 8, .inl (S 175))), some (a 93, .inr (1, [.ref (a 94), .ref (a 99), .ref (a 100)])), some (a 94, .inl (zII E, 4, .inr (.inr (.inr (.inr (va_up (va_up (va_up (va_up (fun _ => none) 0 (some (a 95))) 1 (some (a 96))) 2 (some (a 97))) 3 (some (a 98)))))))), some (a 95, .inl (zI E, 40, .inl (S 176))), some (a 96, .inl (zI E, 40, .inl (S 177))), some (a 97, .inl (zI E, 40, .inl (S 178))), some (a 98, .inl (zI E, 40, .inl (S 179))), some (a 99, .inl (zI E, 4, .inl (S 180))), some (a 100, .inl (zI E, 4, .inl (S 181))), some (a 33, .inr (5, [.int (S 64 0), .int (S 65 0), .int (S 66 0), .ref (a 34), .ref (a 35), .ref (a 36), .ref (a 37), .int (S 71 0), .ref (a 38), .ref (a 39), .ref (a 40), .int (S 75 0), .ref (a 41), .ref (a 42), .ref (a 43), .ref (a 44)])), some (a 34, .inl (zI E, 14, .inl (S 67))), some (a 35, .inl (zI E, 14, .inl (S 68))), some (a 36, .inl (zI E, 14, .inl (S 69))), some (a 37, .inl (zI E, 14, .inl (S 70))), some (a 38, .inl (zI E, 12, .inl (S 72))), some (a 39, .inl (zI E, 12, .inl (S 73))), some (a 40, .inl (zI E, 12, .inl (S 74))), some (a 41, .inl (zI E, 4, .inl (S 76))), some (a 42, .inl (zI E, 4, .inl (S 77))), some (a 43, .inl (zI E, 4, .inl (S 78))), some (a 44, .inr (2, [.ref (a 45), .ref (a 46), .ref (a 47), .ref (a 48)])), some (a 45, .inl (zI E, 8, .inl (S 80))), some (a 46, .inl (zI E, 8, .inl (S 81))), some (a 47, .inl (zI E, 8, .inl (S 82))), some (a 48, .inl (zI E, 8, .inl (S 83))), some (a 49, .inr (5, [.int (S 96 0), .int (S 97 0), .int (S 98 0), .ref (a 50), .ref (a 51), .ref (a 52), .ref (a 53), .int (S 103 0), .ref (a 54), .ref (a 55), .ref (a 56), .int (S 107 0), .ref (a 57), .ref (a 58), .ref (a 59), .ref (a 60)])), some (a 50, .inl (zI E, 14, .inl (S 99))), some (a 51, .inl (zI E, 14, .inl (S 100))), some (a 52, .inl (zI E, 14, .inl (S 101))), some (a 53, .inl (zI E, 14, .inl (S 102))), some (a 54, .inl (zI E, 12, .inl (S 104))), some (a 55, .inl (zI E, 12, .inl (S 105))), some (a 56, .inl (zI E, 12, .inl (S 106))), some (a 57, .inl (zI E, 4, .inl (S 108))), some (a 58, .inl (zI E, 4, .inl (S 109))), some (a 59, .inl (zI E, 4, .inl (S 110))), some (a 60, .inr (2, [.ref (a 61), .ref (a 62), .ref (a 63), .ref (a 64)])), some (a 61, .inl (zI E, 8, .inl (S 112))), some (a 62, .inl (zI E, 8, .inl (S 113))), some (a 63, .inl (zI E, 8, .inl (S 114))), some (a 64, .inl (zI E, 8, .inl (S 115)))] rfl rfl rfl rfl (by decide +kernel) (by decide +kernel)
noncomputable def f_X6_expect (x1 : Int32) (x2 : Int32) (x3 : Int32) (S : St) : Option (Int32 × St) := ((f_X5_isHouse x1 (sb 0 S)).bind (fun q1 => (if q1 = 0 then (some ((-1 : Int32), S)) else ((f_X6_isDay x2).bind (fun q2 => (if q2 = 0 then (some ((-1 : Int32), S)) else ((f_X6_isDay x3).bind (fun q3 => (if q3 = 0 then (some ((-1 : Int32), S)) else (if x2 ≤ x3 then (if (S 11 0) < (4 : Int32) then ((f_X5_addBirth x1 x2 x3 (sb 0 S)).bind (fun q4 => (some ((q4 11 0), (pt 0 32 q4 S))))) else (some ((-3 : Int32), S))) else (some ((-1 : Int32), S))))))))))))
set_option maxHeartbeats 4000000 in
set_option maxRecDepth 100000 in
theorem L_X6_expect {E : zEnv} {Γ : zG} (a : Nat → Nat) (C : zC E Γ cX6_expect RX6 4 rm_X6_expect wsX6_expect) {res : (Int32 × St)} (R : zRi E Γ cX6_expect 4 .int (wEA E a res.2) res.1) (x1 : Int32) (x2 : Int32) (x3 : Int32) (S : St) (h : f_X6_expect x1 x2 x3 S = some res) : Zt E Γ 4 0 0 (wEA E a S) [(0, .ref (a 0)), (1, .int x1), (2, .int x2), (3, .int x3)] 0 [] := by
  unfold f_X6_expect at h
  refine z_aload_n C 0 rfl rfl dX6_expect_0 ?_
  refine z_get C 0 rfl (C := RX6) (T := TX6) (N := 11) (ci := 6) rfl inw_X6_expect_X6 0 (by decide) (ref := "EldestAge") (List.mem_of_getElem? (i := 1) rfl) rfl (v := .ref (a 1)) rfl dX6_expect_1 ?_
  refine z_iload_n C 1 rfl rfl dX6_expect_4 ?_
  obtain ⟨q1, e1, h⟩ := bd_e h
  refine z_callVi C (b := a 1) (As := [.int x1]) (rest := []) (c_X5_isHouse E (fun k => a (1 + k)) x1 (sb 0 S) e1) rfl gX6_expect_X5_isHouse rfl rfl rfl 1 rfl (by decide +kernel) ⟨Nat.le_of_ble_eq_true rfl, Nat.le_of_ble_eq_true rfl⟩ [1, 2, 3, 4, 5, 6, 7, 8, 9, 10, 11, 12, 13, 14, 15, 16] (wl_X6_expect_0 E a S) (by decide) rfl (wEA E a S) (zrep_self (wl_X6_expect_0 E a S)) 0 5 rfl rfl rfl (Nat.le_of_ble_eq_true rfl) dX6_expect_5 ⟨Nat.zero_le _, Nat.zero_le _⟩ _ rfl ?_
  refine z_if_eq C 30 (by decide) h dX6_expect_8 (fun hc h => ?_) (fun hc h => ?_)
  · refine z_iconst C (v := (-1 : Int32)) (by decide) dX6_expect_30 ?_
    obtain rfl := Option.some.inj h
    exact R rfl 31 _ dX6_expect_31
  · refine z_iload_n C 2 rfl rfl dX6_expect_11 ?_
    obtain ⟨q2, e2, h⟩ := bd_e h
    refine z_callSi C (rest := []) (c_X6_isDay E x2 e2) gX6_expect_X6_isDay rfl rfl rfl 1 rfl (by decide +kernel) ⟨Nat.le_of_ble_eq_true rfl, Nat.le_of_ble_eq_true rfl⟩ [] rfl (by decide) rfl (wEA E a S) rfl (Nat.le_of_ble_eq_true rfl) dX6_expect_12 ⟨Nat.zero_le _, Nat.zero_le _⟩ _ rfl ?_
    refine z_if_eq C 30 (by decide) h dX6_expect_15 (fun hc h => ?_) (fun hc h => ?_)
    · refine z_iconst C (v := (-1 : Int32)) (by decide) dX6_expect_30 ?_
      obtain rfl := Option.some.inj h
      exact R rfl 31 _ dX6_expect_31
    · refine z_iload_n C 3 rfl rfl dX6_expect_18 ?_
      obtain ⟨q3, e3, h⟩ := bd_e h
      refine z_callSi C (rest := []) (c_X6_isDay E x3 e3) gX6_expect_X6_isDay rfl rfl rfl 1 rfl (by decide +kernel) ⟨Nat.le_of_ble_eq_true rfl, Nat.le_of_ble_eq_true rfl⟩ [] rfl (by decide) rfl (wEA E a S) rfl (Nat.le_of_ble_eq_true rfl) dX6_expect_19 ⟨Nat.zero_le _, Nat.zero_le _⟩ _ rfl ?_
      refine z_if_eq C 30 (by decide) h dX6_expect_22 (fun hc h => ?_) (fun hc h => ?_)
      · refine z_iconst C (v := (-1 : Int32)) (by decide) dX6_expect_30 ?_
        obtain rfl := Option.some.inj h
        exact R rfl 31 _ dX6_expect_31
      · refine z_iload_n C 3 rfl rfl dX6_expect_25 ?_
        refine z_iload_n C 2 rfl rfl dX6_expect_26 ?_
        refine z_icmp_ge C 32 (by decide) h dX6_expect_27 (fun hc h => ?_) (fun hc h => ?_)
        · refine z_aload_n C 0 rfl rfl dX6_expect_32 ?_
          refine z_get C 0 rfl (C := RX6) (T := TX6) (N := 11) (ci := 6) rfl inw_X6_expect_X6 0 (by decide) (ref := "EldestAge") (List.mem_of_getElem? (i := 1) rfl) rfl (v := .ref (a 1)) rfl dX6_expect_33 ?_
          refine z_get C 1 rfl (C := RX5) (T := TX5) (N := 16) (ci := 5) rfl inw_X6_expect_X5 11 (by decide) (ref := "EldestAge$Town") (List.mem_of_getElem? (i := 2) rfl) rfl (v := .int (S 11 0)) rfl dX6_expect_36 ?_
          refine z_iconst C (v := (4 : Int32)) (by decide) dX6_expect_39 ?_
          refine z_icmp_lt C 46 (by decide) h dX6_expect_40 (fun hc h => ?_) (fun hc h => ?_)
          · refine z_aload_n C 0 rfl rfl dX6_expect_46 ?_
            refine z_get C 0 rfl (C := RX6) (T := TX6) (N := 11) (ci := 6) rfl inw_X6_expect_X6 0 (by decide) (ref := "EldestAge") (List.mem_of_getElem? (i := 1) rfl) rfl (v := .ref (a 1)) rfl dX6_expect_47 ?_
            refine z_iload_n C 1 rfl rfl dX6_expect_50 ?_
            refine z_iload_n C 2 rfl rfl dX6_expect_51 ?_
            refine z_iload_n C 3 rfl rfl dX6_expect_52 ?_
            obtain ⟨q4, e4, h⟩ := bd_e h
            refine z_callVv C (b := a 1) (As := [.int x1, .int x2, .int x3]) (rest := []) (c_X5_addBirth E (fun k => a (1 + k)) x1 x2 x3 (sb 0 S) e4) rfl gX6_expect_X5_addBirth rfl rfl rfl 3 rfl (by decide +kernel) ⟨Nat.le_of_ble_eq_true rfl, Nat.le_of_ble_eq_true rfl⟩ [1, 2, 3, 4, 5, 6, 7, 8, 9, 10, 11, 12, 13, 14, 15, 16] (wl_X6_expect_0 E a S) (by decide) (wl_X6_expect_1 E a _ _) (wEA E a (pt 0 32 q4 S)) (wl_X6_expect_2 E a S q4) 0 5 rfl rfl rfl (Nat.le_of_ble_eq_true rfl) dX6_expect_53 ⟨Nat.zero_le _, Nat.zero_le _⟩ _ rfl ?_
            refine z_aload_n C 0 rfl rfl dX6_expect_56 ?_
            refine z_get C 0 rfl (C := RX6) (T := TX6) (N := 11) (ci := 6) rfl inw_X6_expect_X6 0 (by decide) (ref := "EldestAge") (List.mem_of_getElem? (i := 1) rfl) rfl (v := .ref (a 1)) rfl dX6_expect_57 ?_
            refine z_get C 1 rfl (C := RX5) (T := TX5) (N := 16) (ci := 5) rfl inw_X6_expect_X5 11 (by decide) (ref := "EldestAge$Town") (List.mem_of_getElem? (i := 2) rfl) rfl (v := .int (q4 11 0)) rfl dX6_expect_60 ?_
            obtain rfl := Option.some.inj h
            exact R rfl 63 _ dX6_expect_63
          · refine z_bipush C (v := (-3 : Int32)) (by decide) dX6_expect_43 ?_
            obtain rfl := Option.some.inj h
            exact R rfl 45 _ dX6_expect_45
        · refine z_iconst C (v := (-1 : Int32)) (by decide) dX6_expect_30 ?_
          obtain rfl := Option.some.inj h
          exact R rfl 31 _ dX6_expect_31

theorem c_X6_expect (E : zEnv) (a : Nat → Nat) (x1 : Int32) (x2 : Int32) (x3 : Int32) (S : St) {res : (Int32 × St)} (h : f_X6_expect x1 x2 x3 S = some res) : Kti E yX6_expect wsX6_expect rm_X6_expect (wEA E a S) (wEA E a res.2) [.ref (a 0), .int x1, .int x2, .int x3] res.1 :=
  z_enti (cc := cX6_expect) (maxL := 4) (rt := .int) (by decide +kernel) rfl (Nat.le_of_ble_eq_true rfl) (fun Γ C R => L_X6_expect a C R x1 x2 x3 S h)

abbrev rm_X6_see : Room := { frames := 1, cells := 0, slots := 0, locals := 23 }
theorem inw_X6_see_X6 : ∀ w ∈ wsX60, w ∈ wsX6_see := fun _ h => List.mem_cons_of_mem _ (List.mem_append_left _ (List.mem_append_left _ (List.mem_append_right _ h)))
theorem inw_X6_see_X4 : ∀ w ∈ wsX40, w ∈ wsX6_see := fun _ h => List.mem_cons_of_mem _ (List.mem_append_left _ (List.mem_append_right _ h))
theorem inw_X6_see_X5 : ∀ w ∈ wsX50, w ∈ wsX6_see := fun _ h => List.mem_cons_of_mem _ (List.mem_append_right _ h)
set_option maxHeartbeats 4000000 in
theorem wl_X6_see_0 (E : zEnv) (a : Nat → Nat) (S : St) : ([1, 2, 3, 4, 5, 6, 7, 8, 9, 10, 11, 12, 13, 14, 15, 16] : List Nat).map (fun i => (wEA E a S)[i]?) = (wTown E (fun k => a (1 + k)) (sb 0 S)).map some := rfl
set_option maxHeartbeats 4000000 in
theorem wl_X6_see_1 (E : zEnv) (a : Nat → Nat) (S U : St) : (wTown E (fun k => a (1 + k)) U).map (fun q => q.1) = (wTown E (fun k => a (1 + k)) S).map (fun q => q.1) := rfl
set_option maxHeartbeats 4000000 in
theorem wl_X6_see_2 (E : zEnv) (a : Nat → Nat) (S : St) : ([41, 42, 43, 44] : List Nat).map (fun i => (wEA E a S)[i]?) = (wTold E 8 (fun k => a (73 + k)) (sb 152 S)).map some := rfl
set_option maxHeartbeats 4000000 in
theorem wl_X6_see_3 (E : zEnv) (a : Nat → Nat) (S U : St) : (wTold E 8 (fun k => a (73 + k)) U).map (fun q => q.1) = (wTold E 8 (fun k => a (73 + k)) S).map (fun q => q.1) := rfl
set_option maxHeartbeats 4000000 in
theorem wl_X6_see_4 (E : zEnv) (a : Nat → Nat) (S U : St) : (wEA E a (pt 152 8 U S)) = zrep [41, 42, 43, 44] (wTold E 8 (fun k => a (73 + k)) U) (wEA E a S) := zrep_of (isR := [0, 1, 2, 3, 4, 5, 6, 7, 8, 9, 10, 11, 12, 13, 14, 15, 16, 17, 18, 19, 20, 21, 22, 23, 24, 25, 26, 27, 28, 29, 30, 31, 32, 33, 34, 35, 36, 37, 38, 39, 40, 45, 46, 47, 48, 49, 50, 51, 52, 53, 54, 55, 56, 57, 58, 59, 60, 61, 62, 63, 64, 65, 66, 67, 68, 69, 70, 71, 72, 73, 74, 75, 76, 77, 78, 79, 80, 81, 82, 83, 84, 85, 86, 87, 88, 89, 90, 91, 92, 93, 94, 95, 96, 97, 98, 99, 100]) 101 rfl [some (a 0, .inr (6, [.ref (a 1), .ref (a 17), .ref (a 65), .ref (a 66), .ref (a 67), .ref (a 69), .ref (a 73), .ref (a 77), .ref (a 93), .int (S 184 0), .int (S 185 0)])), some (a 1, .inr (5, [.int (S 0 0), .int (S 1 0), .int (S 2 0), .ref (a 2), .ref (a 3), .ref (a 4), .ref (a 5), .int (S 7 0), .ref (a 6), .ref (a 7), .ref (a 8), .int (S 11 0), .ref (a 9), .ref (a 10), .ref (a 11), .ref (a 12)])), some (a 2, .inl (zI E, 14, .inl (S 3))), some (a 3, .inl (zI E, 14, .inl (S 4))), some (a 4, .inl (zI E, 14, .inl (S 5))), some (a 5, .inl (zI E, 14, .inl (S 6))), some (a 6, .inl (zI E, 12, .inl (S 8))), some (a 7, .inl (zI E, 12, .inl (S 9))), some (a 8, .inl (zI E, 12, .inl (S 10))), some (a 9, .inl (zI E, 4, .inl (S 12))), some (a 10, .inl (zI E, 4, .inl (S 13))), some (a 11, .inl (zI E, 4, .inl (S 14))), some (a 12, .inr (2, [.ref (a 13), .ref (a 14), .ref (a 15), .ref (a 16)])), some (a 13, .inl (zI E, 8, .inl (S 16))), some (a 14, .inl (zI E, 8, .inl (S 17))), some (a 15, .inl (zI E, 8, .inl (S 18))), some (a 16, .inl (zI E, 8, .inl (S 19))), some (a 17, .inr (5, [.int (S 32 0), .int (S 33 0), .int (S 34 0), .ref (a 18), .ref (a 19), .ref (a 20), .ref (a 21), .int (S 39 0), .ref (a 22), .ref (a 23), .ref (a 24), .int (S 43 0), .ref (a 25), .ref (a 26), .ref (a 27), .ref (a 28)])), some (a 18, .inl (zI E, 14, .inl (S 35))), some (a 19, .inl (zI E, 14, .inl (S 36))), some (a 20, .inl (zI E, 14, .inl (S 37))), some (a 21, .inl (zI E, 14, .inl (S 38))), some (a 22, .inl (zI E, 12, .inl (S 40))), some (a 23, .inl (zI E, 12, .inl (S 41))), some (a 24, .inl (zI E, 12, .inl (S 42))), some (a 25, .inl (zI E, 4, .inl (S 44))), some (a 26, .inl (zI E, 4, .inl (S 45))), some (a 27, .inl (zI E, 4, .inl (S 46))), some (a 28, .inr (2, [.ref (a 29), .ref (a 30), .ref (a 31), .ref (a 32)])), some (a 29, .inl (zI E, 8, .inl (S 48))), some (a 30, .inl (zI E, 8, .inl (S 49))), some (a 31, .inl (zI E, 8, .inl (S 50))), some (a 32, .inl (zI E, 8, .inl (S 51))), some (a 65, .inl (zT E, 2, .inr (.inr (.inr (.inr (va_up (va_up (fun _ => none) 0 (some (a 33))) 1 (some (a 49)))))))), some (a 66, .inl (zZ E, 2, .inl (S 186))), some (a 67, .inr (3, [.ref (a 68), .int (S 129 0), .int (S 130 0), .int (S 131 0), .int (S 132 0), .int (S 133 0), .int (S 134 0), .int (S 135 0), .int (S 136 0), .int (S 137 0), .int (S 138 0), .int (S 139 0)])), some (a 68, .inl (zI E, 400, .inl (S 128))), some (a 69, .inr (4, [.int (S 144 0), .ref (a 70), .ref (a 71), .ref (a 72), .int (S 148 0)])), some (a 70, .inl (zI E, 4, .inl (S 145))), some (a 71, .inl (zI E, 4, .inl (S 146))), some (a 72, .inl (zI E, 4, .inl (S 147))), some (a 77, .inr (0, [.int (S 160 0), .ref (a 78), .ref (a 79), .ref (a 80), .ref (a 81), .ref (a 82), .ref (a 83), .ref (a 88)])), some (a 78, .inl (zI E, 4, .inl (S 161))), some (a 79, .inl (zI E, 4, .inl (S 162))), some (a 80, .inl (zI E, 4, .inl (S 163))), some (a 81, .inl (zI E, 4, .inl (S 164))), some (a 82, .inl (zI E, 4, .inl (S 165))), some (a 83, .inr (2, [.ref (a 84), .ref (a 85), .ref (a 86), .ref (a 87)])), some (a 84, .inl (zI E, 8, .inl (S 168))), some (a 85, .inl (zI E, 8, .inl (S 169))), some (a 86, .inl (zI E, 8, .inl (S 170))), some (a 87, .inl (zI E, 8, .inl (S 171))), some (a 88, .inr (2, [.ref (a 89), .ref (a 90), .ref (a 91), .ref (a 92)])), some (a 89, .inl (zI E, 8, .inl (S 172))), some (a 90, .inl (zI E, 8, .inl (S 173))), some (a 91, .inl (zI E, 8, .inl (S 174))), some (a 92, .inl (zI E, 8, .inl (S 175))), some (a 93, .inr (1, [.ref (a 94), .ref (a 99), .ref (a 100)])), some (a 94, .inl (zII E, 4, .inr (.inr (.inr (.inr (va_up (va_up (va_up (va_up (fun _ => none) 0 (some (a 95))) 1 (some (a 96))) 2 (some (a 97))) 3 (some (a 98)))))))), some (a 95, .inl (zI E, 40, .inl (S 176))), some (a 96, .inl (zI E, 40, .inl (S 177))), some (a 97, .inl (zI E, 40, .inl (S 178))), some (a 98, .inl (zI E, 40, .inl (S 179))), some (a 99, .inl (zI E, 4, .inl (S 180))), some (a 100, .inl (zI E, 4, .inl (S 181))), some (a 33, .inr (5, [.int (S 64 0), .int (S 65 0), .int (S 66 0), .ref (a 34), .ref (a 35), .ref (a 36), .ref (a 37), .int (S 71 0), .ref (a 38), .ref (a 39), .ref (a 40), .int (S 75 0), .ref (a 41), .ref (a 42), .ref (a 43), .ref (a 44)])), some (a 34, .inl (zI E, 14, .inl (S 67))), some (a 35, .inl (zI E, 14, .inl (S 68))), some (a 36, .inl (zI E, 14, .inl (S 69))), some (a 37, .inl (zI E, 14, .inl (S 70))), some (a 38, .inl (zI E, 12, .inl (S 72))), some (a 39, .inl (zI E, 12, .inl (S 73))), some (a 40, .inl (zI E, 12, .inl (S 74))), some (a 41, .inl (zI E, 4, .inl (S 76))), some (a 42, .inl (zI E, 4, .inl (S 77))), some (a 43, .inl (zI E, 4, .inl (S 78))), some (a 44, .inr (2, [.ref (a 45), .ref (a 46), .ref (a 47), .ref (a 48)])), some (a 45, .inl (zI E, 8, .inl (S 80))), some (a 46, .inl (zI E, 8, .inl (S 81))), some (a 47, .inl (zI E, 8, .inl (S 82))), some (a 48, .inl (zI E, 8, .inl (S 83))), some (a 49, .inr (5, [.int (S 96 0), .int (S 97 0), .int (S 98 0), .ref (a 50), .ref (a 51), .ref (a 52), .ref (a 53), .int (S 103 0), .ref (a 54), .ref (a 55), .ref (a 56), .int (S 107 0), .ref (a 57), .ref (a 58), .ref (a 59), .ref (a 60)])), some (a 50, .inl (zI E, 14, .inl (S 99))), some (a 51, .inl (zI E, 14, .inl (S 100))), some (a 52, .inl (zI E, 14, .inl (S 101))), some (a 53, .inl (zI E, 14, .inl (S 102))), some (a 54, .inl (zI E, 12, .inl (S 104))), some (a 55, .inl (zI E, 12, .inl (S 105))), some (a 56, .inl (zI E, 12, .inl (S 106))), some (a 57, .inl (zI E, 4, .inl (S 108))), some (a 58, .inl (zI E, 4, .inl (S 109))), some (a 59, .inl (zI E, 4, .inl (S 110))), some (a 60, .inr (2, [.ref (a 61), .ref (a 62), .ref (a 63), .ref (a 64)])), some (a 61, .inl (zI E, 8, .inl (S 112))), some (a 62, .inl (zI E, 8, .inl (S 113))), some (a 63, .inl (zI E, 8, .inl (S 114))), some (a 64, .inl (zI E, 8, .inl (S 115)))] rfl rfl rfl rfl (by decide +kernel) (by decide +kernel)
noncomputable def f_X6_see (x1 : Int32) (x2 : Int32) (x3 : Int32) (S : St) : Option (Int32 × St) := ((f_X5_isHouse x1 (sb 0 S)).bind (fun q1 => (if q1 = 0 then (some ((-1 : Int32), S)) else ((f_X6_isDay x2).bind (fun q2 => (if q2 = 0 then (some ((-1 : Int32), S)) else ((f_X6_isNumber x3).bind (fun q3 => (if q3 = 0 then (some ((-1 : Int32), S)) else ((f_X4_add 8 x1 x2 x3 (sb 152 S)).bind (fun q4 => (if q4.1 = 0 then (some ((-3 : Int32), (pt 152 8 q4.2 S))) else (some ((q4.2 4 0), (pt 152 8 q4.2 S)))))))))))))))
set_option maxHeartbeats 4000000 in
set_option maxRecDepth 100000 in
theorem L_X6_see {E : zEnv} {Γ : zG} (a : Nat → Nat) (C : zC E Γ cX6_see RX6 4 rm_X6_see wsX6_see) {res : (Int32 × St)} (R : zRi E Γ cX6_see 4 .int (wEA E a res.2) res.1) (x1 : Int32) (x2 : Int32) (x3 : Int32) (S : St) (h : f_X6_see x1 x2 x3 S = some res) : Zt E Γ 4 0 0 (wEA E a S) [(0, .ref (a 0)), (1, .int x1), (2, .int x2), (3, .int x3)] 0 [] := by
  unfold f_X6_see at h
  refine z_aload_n C 0 rfl rfl dX6_see_0 ?_
  refine z_get C 0 rfl (C := RX6) (T := TX6) (N := 11) (ci := 6) rfl inw_X6_see_X6 0 (by decide) (ref := "EldestAge") (List.mem_of_getElem? (i := 1) rfl) rfl (v := .ref (a 1)) rfl dX6_see_1 ?_
  refine z_iload_n C 1 rfl rfl dX6_see_4 ?_
  obtain ⟨q1, e1, h⟩ := bd_e h
  refine z_callVi C (b := a 1) (As := [.int x1]) (rest := []) (c_X5_isHouse E (fun k => a (1 + k)) x1 (sb 0 S) e1) rfl gX6_see_X5_isHouse rfl rfl rfl 1 rfl (by decide +kernel) ⟨Nat.le_of_ble_eq_true rfl, Nat.le_of_ble_eq_true rfl⟩ [1, 2, 3, 4, 5, 6, 7, 8, 9, 10, 11, 12, 13, 14, 15, 16] (wl_X6_see_0 E a S) (by decide) rfl (wEA E a S) (zrep_self (wl_X6_see_0 E a S)) 0 5 rfl rfl rfl (Nat.le_of_ble_eq_true rfl) dX6_see_5 ⟨Nat.zero_le _, Nat.zero_le _⟩ _ rfl ?_
  refine z_if_eq C 25 (by decide) h dX6_see_8 (fun hc h => ?_) (fun hc h => ?_)
  · refine z_iconst C (v := (-1 : Int32)) (by decide) dX6_see_25 ?_
    obtain rfl := Option.some.inj h
    exact R rfl 26 _ dX6_see_26
  · refine z_iload_n C 2 rfl rfl dX6_see_11 ?_
    obtain ⟨q2, e2, h⟩ := bd_e h
    refine z_callSi C (rest := []) (c_X6_isDay E x2 e2) gX6_see_X6_isDay rfl rfl rfl 1 rfl (by decide +kernel) ⟨Nat.le_of_ble_eq_true rfl, Nat.le_of_ble_eq_true rfl⟩ [] rfl (by decide) rfl (wEA E a S) rfl (Nat.le_of_ble_eq_true rfl) dX6_see_12 ⟨Nat.zero_le _, Nat.zero_le _⟩ _ rfl ?_
    refine z_if_eq C 25 (by decide) h dX6_see_15 (fun hc h => ?_) (fun hc h => ?_)
    · refine z_iconst C (v := (-1 : Int32)) (by decide) dX6_see_25 ?_
      obtain rfl := Option.some.inj h
      exact R rfl 26 _ dX6_see_26
    · refine z_iload_n C 3 rfl rfl dX6_see_18 ?_
      obtain ⟨q3, e3, h⟩ := bd_e h
      refine z_callSi C (rest := []) (c_X6_isNumber E x3 e3) gX6_see_X6_isNumber rfl rfl rfl 1 rfl (by decide +kernel) ⟨Nat.le_of_ble_eq_true rfl, Nat.le_of_ble_eq_true rfl⟩ [] rfl (by decide) rfl (wEA E a S) rfl (Nat.le_of_ble_eq_true rfl) dX6_see_19 ⟨Nat.zero_le _, Nat.zero_le _⟩ _ rfl ?_
      refine z_if_ne C 27 (by decide) h dX6_see_22 (fun hc h => ?_) (fun hc h => ?_)
      · refine z_iconst C (v := (-1 : Int32)) (by decide) dX6_see_25 ?_
        obtain rfl := Option.some.inj h
        exact R rfl 26 _ dX6_see_26
      · refine z_aload_n C 0 rfl rfl dX6_see_27 ?_
        refine z_get C 0 rfl (C := RX6) (T := TX6) (N := 11) (ci := 6) rfl inw_X6_see_X6 6 (by decide) (ref := "EldestAge") (List.mem_of_getElem? (i := 2) rfl) rfl (v := .ref (a 73)) rfl dX6_see_28 ?_
        refine z_iload_n C 1 rfl rfl dX6_see_31 ?_
        refine z_iload_n C 2 rfl rfl dX6_see_32 ?_
        refine z_iload_n C 3 rfl rfl dX6_see_33 ?_
        obtain ⟨q4, e4, h⟩ := bd_e h
        refine z_callVi C (b := a 73) (As := [.int x1, .int x2, .int x3]) (rest := []) (c_X4_add E 8 (fun k => a (73 + k)) x1 x2 x3 (sb 152 S) e4) rfl gX6_see_X4_add rfl rfl rfl 3 rfl (by decide +kernel) ⟨Nat.le_of_ble_eq_true rfl, Nat.le_of_ble_eq_true rfl⟩ [41, 42, 43, 44] (wl_X6_see_2 E a S) (by decide) (wl_X6_see_3 E a _ _) (wEA E a (pt 152 8 q4.2 S)) (wl_X6_see_4 E a S q4.2) 0 4 rfl rfl rfl (Nat.le_of_ble_eq_true rfl) dX6_see_34 ⟨Nat.zero_le _, Nat.zero_le _⟩ _ rfl ?_
        refine z_if_eq C 50 (by decide) h dX6_see_37 (fun hc h => ?_) (fun hc h => ?_)
        · refine z_bipush C (v := (-3 : Int32)) (by decide) dX6_see_50 ?_
          obtain rfl := Option.some.inj h
          exact R rfl 52 _ dX6_see_52
        · refine z_aload_n C 0 rfl rfl dX6_see_40 ?_
          refine z_get C 0 rfl (C := RX6) (T := TX6) (N := 11) (ci := 6) rfl inw_X6_see_X6 6 (by decide) (ref := "EldestAge") (List.mem_of_getElem? (i := 2) rfl) rfl (v := .ref (a 73)) rfl dX6_see_41 ?_
          refine z_get C 41 rfl (C := RX4) (T := TX4) (N := 5) (ci := 4) rfl inw_X6_see_X4 4 (by decide) (ref := "EldestAge$Told") (List.mem_of_getElem? (i := 3) rfl) rfl (v := .int (q4.2 4 0)) rfl dX6_see_44 ?_
          refine z_goto C 52 (by decide) dX6_see_47 ?_
          obtain rfl := Option.some.inj h
          exact R rfl 52 _ dX6_see_52

theorem c_X6_see (E : zEnv) (a : Nat → Nat) (x1 : Int32) (x2 : Int32) (x3 : Int32) (S : St) {res : (Int32 × St)} (h : f_X6_see x1 x2 x3 S = some res) : Kti E yX6_see wsX6_see rm_X6_see (wEA E a S) (wEA E a res.2) [.ref (a 0), .int x1, .int x2, .int x3] res.1 :=
  z_enti (cc := cX6_see) (maxL := 4) (rt := .int) (by decide +kernel) rfl (Nat.le_of_ble_eq_true rfl) (fun Γ C R => L_X6_see a C R x1 x2 x3 S h)

abbrev rm_X6_forget : Room := { frames := 0, cells := 0, slots := 0, locals := 0 }
theorem inw_X6_forget_X6 : ∀ w ∈ wsX60, w ∈ wsX6_forget := fun _ h => List.mem_cons_of_mem _ (List.mem_append_left _ (List.mem_append_right _ h))
theorem inw_X6_forget_X4 : ∀ w ∈ wsX40, w ∈ wsX6_forget := fun _ h => List.mem_cons_of_mem _ (List.mem_append_right _ h)
set_option maxHeartbeats 4000000 in
theorem wl_X6_forget_0 (E : zEnv) (a : Nat → Nat) (S : St) (v : Int32) : (wEA E a (st 156 (fun _ => v) S)) = (wEA E a S).set 41 (a 73, .inr (4, List.set [.int (S 152 0), .ref (a 74), .ref (a 75), .ref (a 76), .int (S 156 0)] 4 (.int v))) := rfl
noncomputable def f_X6_forget (x1 : Int32) (S : St) : Option (Int32 × St) := (if x1 < 0 then (some ((-1 : Int32), S)) else (if x1 ≤ (S 156 0) then (some ((S 156 0), (st 156 (fun _ => x1) S))) else (some ((-1 : Int32), S))))
set_option maxHeartbeats 4000000 in
set_option maxRecDepth 100000 in
theorem L_X6_forget {E : zEnv} {Γ : zG} (a : Nat → Nat) (C : zC E Γ cX6_forget RX6 3 rm_X6_forget wsX6_forget) {res : (Int32 × St)} (R : zRi E Γ cX6_forget 3 .int (wEA E a res.2) res.1) (x1 : Int32) (S : St) (h : f_X6_forget x1 S = some res) : Zt E Γ 3 0 0 (wEA E a S) [(0, .ref (a 0)), (1, .int x1)] 0 [] := by
  unfold f_X6_forget at h
  refine z_iload_n C 1 rfl rfl dX6_forget_0 ?_
  refine z_if_lt C 15 (by decide) h dX6_forget_1 (fun hc h => ?_) (fun hc h => ?_)
  · refine z_iconst C (v := (-1 : Int32)) (by decide) dX6_forget_15 ?_
    obtain rfl := Option.some.inj h
    exact R rfl 16 _ dX6_forget_16
  · refine z_iload_n C 1 rfl rfl dX6_forget_4 ?_
    refine z_aload_n C 0 rfl rfl dX6_forget_5 ?_
    refine z_get C 0 rfl (C := RX6) (T := TX6) (N := 11) (ci := 6) rfl inw_X6_forget_X6 6 (by decide) (ref := "EldestAge") (List.mem_of_getElem? (i := 1) rfl) rfl (v := .ref (a 73)) rfl dX6_forget_6 ?_
    refine z_get C 41 rfl (C := RX4) (T := TX4) (N := 5) (ci := 4) rfl inw_X6_forget_X4 4 (by decide) (ref := "EldestAge$Told") (List.mem_of_getElem? (i := 2) rfl) rfl (v := .int (S 156 0)) rfl dX6_forget_9 ?_
    refine z_icmp_le C 17 (by decide) h dX6_forget_12 (fun hc h => ?_) (fun hc h => ?_)
    · refine z_aload_n C 0 rfl rfl dX6_forget_17 ?_
      refine z_get C 0 rfl (C := RX6) (T := TX6) (N := 11) (ci := 6) rfl inw_X6_forget_X6 6 (by decide) (ref := "EldestAge") (List.mem_of_getElem? (i := 1) rfl) rfl (v := .ref (a 73)) rfl dX6_forget_18 ?_
      refine z_get C 41 rfl (C := RX4) (T := TX4) (N := 5) (ci := 4) rfl inw_X6_forget_X4 4 (by decide) (ref := "EldestAge$Told") (List.mem_of_getElem? (i := 2) rfl) rfl (v := .int (S 156 0)) rfl dX6_forget_21 ?_
      refine z_istore_n C [(2, .int (S 156 0)), (0, .ref (a 0)), (1, .int x1)] rfl (by decide) rfl dX6_forget_24 ?_
      refine z_aload_n C 1 rfl rfl dX6_forget_25 ?_
      refine z_get C 0 rfl (C := RX6) (T := TX6) (N := 11) (ci := 6) rfl inw_X6_forget_X6 6 (by decide) (ref := "EldestAge") (List.mem_of_getElem? (i := 1) rfl) rfl (v := .ref (a 73)) rfl dX6_forget_26 ?_
      refine z_iload_n C 2 rfl rfl dX6_forget_29 ?_
      refine z_put C 41 rfl (C := RX4) (T := TX4) (N := 5) (ci := 4) rfl inw_X6_forget_X4 tyX4 tyX4_ok nmX4 4 (by decide) (ref := "EldestAge$Told") (List.mem_of_getElem? (i := 2) rfl) rfl rfl (ty := .int) (v := .int x1) (by decide +kernel) rfl rfl (Nat.le_of_ble_eq_true rfl) (wEA E a (st 156 (fun _ => x1) S)) (wl_X6_forget_0 E a S x1) dX6_forget_30 ?_
      refine z_iload_n C 0 rfl rfl dX6_forget_33 ?_
      obtain rfl := Option.some.inj h
      exact R rfl 34 _ dX6_forget_34
    · refine z_iconst C (v := (-1 : Int32)) (by decide) dX6_forget_15 ?_
      obtain rfl := Option.some.inj h
      exact R rfl 16 _ dX6_forget_16

theorem c_X6_forget (E : zEnv) (a : Nat → Nat) (x1 : Int32) (S : St) {res : (Int32 × St)} (h : f_X6_forget x1 S = some res) : Kti E yX6_forget wsX6_forget rm_X6_forget (wEA E a S) (wEA E a res.2) [.ref (a 0), .int x1] res.1 :=
  z_enti (cc := cX6_forget) (maxL := 3) (rt := .int) (by decide +kernel) rfl (Nat.le_of_ble_eq_true rfl) (fun Γ C R => L_X6_forget a C R x1 S h)

abbrev rm_X6_lie : Room := { frames := 5, cells := 0, slots := 0, locals := 113 }
theorem inw_X6_lie_X6 : ∀ w ∈ wsX60, w ∈ wsX6_lie := fun _ h => List.mem_cons_of_mem _ (List.mem_append_left _ (List.mem_append_left _ (List.mem_append_left _ (List.mem_append_right _ h))))
theorem inw_X6_lie_X4 : ∀ w ∈ wsX40, w ∈ wsX6_lie := fun _ h => List.mem_cons_of_mem _ (List.mem_append_left _ (List.mem_append_left _ (List.mem_append_right _ h)))
theorem inw_X6_lie_X5 : ∀ w ∈ wsX50, w ∈ wsX6_lie := fun _ h => List.mem_cons_of_mem _ (List.mem_append_left _ (List.mem_append_right _ h))
theorem inw_X6_lie_X2 : ∀ w ∈ wsX20, w ∈ wsX6_lie := fun _ h => List.mem_cons_of_mem _ (List.mem_append_right _ h)
set_option maxHeartbeats 4000000 in
theorem wl_X6_lie_0 (E : zEnv) (a : Nat → Nat) (S : St) : ([41, 42, 43, 44, 1, 2, 3, 4, 5, 6, 7, 8, 9, 10, 11, 12, 13, 14, 15, 16] : List Nat).map (fun i => (wEA E a S)[i]?) = (wToldTown E 8 (ja 4 (fun k => a (73 + k)) (fun k => a (1 + k))) (jn 8 (sb 152 S) (sb 0 S))).map some := rfl
set_option maxHeartbeats 4000000 in
theorem wl_X6_lie_1 (E : zEnv) (a : Nat → Nat) (S U : St) : (wToldTown E 8 (ja 4 (fun k => a (73 + k)) (fun k => a (1 + k))) U).map (fun q => q.1) = (wToldTown E 8 (ja 4 (fun k => a (73 + k)) (fun k => a (1 + k))) S).map (fun q => q.1) := rfl
set_option maxHeartbeats 4000000 in
theorem wl_X6_lie_2 (E : zEnv) (a : Nat → Nat) (S U : St) : (wEA E a (pt 0 32 (sb 8 U) (pt 152 8 U S))) = zrep [41, 42, 43, 44, 1, 2, 3, 4, 5, 6, 7, 8, 9, 10, 11, 12, 13, 14, 15, 16] (wToldTown E 8 (ja 4 (fun k => a (73 + k)) (fun k => a (1 + k))) U) (wEA E a S) := zrep_of (isR := [0, 17, 18, 19, 20, 21, 22, 23, 24, 25, 26, 27, 28, 29, 30, 31, 32, 33, 34, 35, 36, 37, 38, 39, 40, 45, 46, 47, 48, 49, 50, 51, 52, 53, 54, 55, 56, 57, 58, 59, 60, 61, 62, 63, 64, 65, 66, 67, 68, 69, 70, 71, 72, 73, 74, 75, 76, 77, 78, 79, 80, 81, 82, 83, 84, 85, 86, 87, 88, 89, 90, 91, 92, 93, 94, 95, 96, 97, 98, 99, 100]) 101 rfl [some (a 0, .inr (6, [.ref (a 1), .ref (a 17), .ref (a 65), .ref (a 66), .ref (a 67), .ref (a 69), .ref (a 73), .ref (a 77), .ref (a 93), .int (S 184 0), .int (S 185 0)])), some (a 17, .inr (5, [.int (S 32 0), .int (S 33 0), .int (S 34 0), .ref (a 18), .ref (a 19), .ref (a 20), .ref (a 21), .int (S 39 0), .ref (a 22), .ref (a 23), .ref (a 24), .int (S 43 0), .ref (a 25), .ref (a 26), .ref (a 27), .ref (a 28)])), some (a 18, .inl (zI E, 14, .inl (S 35))), some (a 19, .inl (zI E, 14, .inl (S 36))), some (a 20, .inl (zI E, 14, .inl (S 37))), some (a 21, .inl (zI E, 14, .inl (S 38))), some (a 22, .inl (zI E, 12, .inl (S 40))), some (a 23, .inl (zI E, 12, .inl (S 41))), some (a 24, .inl (zI E, 12, .inl (S 42))), some (a 25, .inl (zI E, 4, .inl (S 44))), some (a 26, .inl (zI E, 4, .inl (S 45))), some (a 27, .inl (zI E, 4, .inl (S 46))), some (a 28, .inr (2, [.ref (a 29), .ref (a 30), .ref (a 31), .ref (a 32)])), some (a 29, .inl (zI E, 8, .inl (S 48))), some (a 30, .inl (zI E, 8, .inl (S 49))), some (a 31, .inl (zI E, 8, .inl (S 50))), some (a 32, .inl (zI E, 8, .inl (S 51))), some (a 65, .inl (zT E, 2, .inr (.inr (.inr (.inr (va_up (va_up (fun _ => none) 0 (some (a 33))) 1 (some (a 49)))))))), some (a 66, .inl (zZ E, 2, .inl (S 186))), some (a 67, .inr (3, [.ref (a 68), .int (S 129 0), .int (S 130 0), .int (S 131 0), .int (S 132 0), .int (S 133 0), .int (S 134 0), .int (S 135 0), .int (S 136 0), .int (S 137 0), .int (S 138 0), .int (S 139 0)])), some (a 68, .inl (zI E, 400, .inl (S 128))), some (a 69, .inr (4, [.int (S 144 0), .ref (a 70), .ref (a 71), .ref (a 72), .int (S 148 0)])), some (a 70, .inl (zI E, 4, .inl (S 145))), some (a 71, .inl (zI E, 4, .inl (S 146))), some (a 72, .inl (zI E, 4, .inl (S 147))), some (a 77, .inr (0, [.int (S 160 0), .ref (a 78), .ref (a 79), .ref (a 80), .ref (a 81), .ref (a 82), .ref (a 83), .ref (a 88)])), some (a 78, .inl (zI E, 4, .inl (S 161))), some (a 79, .inl (zI E, 4, .inl (S 162))), some (a 80, .inl (zI E, 4, .inl (S 163))), some (a 81, .inl (zI E, 4, .inl (S 164))), some (a 82, .inl (zI E, 4, .inl (S 165))), some (a 83, .inr (2, [.ref (a 84), .ref (a 85), .ref (a 86), .ref (a 87)])), some (a 84, .inl (zI E, 8, .inl (S 168))), some (a 85, .inl (zI E, 8, .inl (S 169))), some (a 86, .inl (zI E, 8, .inl (S 170))), some (a 87, .inl (zI E, 8, .inl (S 171))), some (a 88, .inr (2, [.ref (a 89), .ref (a 90), .ref (a 91), .ref (a 92)])), some (a 89, .inl (zI E, 8, .inl (S 172))), some (a 90, .inl (zI E, 8, .inl (S 173))), some (a 91, .inl (zI E, 8, .inl (S 174))), some (a 92, .inl (zI E, 8, .inl (S 175))), some (a 93, .inr (1, [.ref (a 94), .ref (a 99), .ref (a 100)])), some (a 94, .inl (zII E, 4, .inr (.inr (.inr (.inr (va_up (va_up (va_up (va_up (fun _ => none) 0 (some (a 95))) 1 (some (a 96))) 2 (some (a 97))) 3 (some (a 98)))))))), some (a 95, .inl (zI E, 40, .inl (S 176))), some (a 96, .inl (zI E, 40, .inl (S 177))), some (a 97, .inl (zI E, 40, .inl (S 178))), some (a 98, .inl (zI E, 40, .inl (S 179))), some (a 99, .inl (zI E, 4, .inl (S 180))), some (a 100, .inl (zI E, 4, .inl (S 181))), some (a 33, .inr (5, [.int (S 64 0), .int (S 65 0), .int (S 66 0), .ref (a 34), .ref (a 35), .ref (a 36), .ref (a 37), .int (S 71 0), .ref (a 38), .ref (a 39), .ref (a 40), .int (S 75 0), .ref (a 41), .ref (a 42), .ref (a 43), .ref (a 44)])), some (a 34, .inl (zI E, 14, .inl (S 67))), some (a 35, .inl (zI E, 14, .inl (S 68))), some (a 36, .inl (zI E, 14, .inl (S 69))), some (a 37, .inl (zI E, 14, .inl (S 70))), some (a 38, .inl (zI E, 12, .inl (S 72))), some (a 39, .inl (zI E, 12, .inl (S 73))), some (a 40, .inl (zI E, 12, .inl (S 74))), some (a 41, .inl (zI E, 4, .inl (S 76))), some (a 42, .inl (zI E, 4, .inl (S 77))), some (a 43, .inl (zI E, 4, .inl (S 78))), some (a 44, .inr (2, [.ref (a 45), .ref (a 46), .ref (a 47), .ref (a 48)])), some (a 45, .inl (zI E, 8, .inl (S 80))), some (a 46, .inl (zI E, 8, .inl (S 81))), some (a 47, .inl (zI E, 8, .inl (S 82))), some (a 48, .inl (zI E, 8, .inl (S 83))), some (a 49, .inr (5, [.int (S 96 0), .int (S 97 0), .int (S 98 0), .ref (a 50), .ref (a 51), .ref (a 52), .ref (a 53), .int (S 103 0), .ref (a 54), .ref (a 55), .ref (a 56), .int (S 107 0), .ref (a 57), .ref (a 58), .ref (a 59), .ref (a 60)])), some (a 50, .inl (zI E, 14, .inl (S 99))), some (a 51, .inl (zI E, 14, .inl (S 100))), some (a 52, .inl (zI E, 14, .inl (S 101))), some (a 53, .inl (zI E, 14, .inl (S 102))), some (a 54, .inl (zI E, 12, .inl (S 104))), some (a 55, .inl (zI E, 12, .inl (S 105))), some (a 56, .inl (zI E, 12, .inl (S 106))), some (a 57, .inl (zI E, 4, .inl (S 108))), some (a 58, .inl (zI E, 4, .inl (S 109))), some (a 59, .inl (zI E, 4, .inl (S 110))), some (a 60, .inr (2, [.ref (a 61), .ref (a 62), .ref (a 63), .ref (a 64)])), some (a 61, .inl (zI E, 8, .inl (S 112))), some (a 62, .inl (zI E, 8, .inl (S 113))), some (a 63, .inl (zI E, 8, .inl (S 114))), some (a 64, .inl (zI E, 8, .inl (S 115)))] rfl rfl rfl rfl (by decide +kernel) (by decide +kernel)
noncomputable def f_X6_lie (S : St) : Option (Int32 × St) := ((f_X4_firstLie 8 (jn 8 (sb 152 S) (sb 0 S))).bind (fun q1 => (some (q1.1, (pt 0 32 (sb 8 q1.2) (pt 152 8 q1.2 S))))))
set_option maxHeartbeats 4000000 in
set_option maxRecDepth 100000 in
theorem L_X6_lie {E : zEnv} {Γ : zG} (a : Nat → Nat) (C : zC E Γ cX6_lie RX6 1 rm_X6_lie wsX6_lie) {res : (Int32 × St)} (R : zRi E Γ cX6_lie 1 .int (wEA E a res.2) res.1) (S : St) (h : f_X6_lie S = some res) : Zt E Γ 1 0 0 (wEA E a S) [(0, .ref (a 0))] 0 [] := by
  unfold f_X6_lie at h
  refine z_aload_n C 0 rfl rfl dX6_lie_0 ?_
  refine z_get C 0 rfl (C := RX6) (T := TX6) (N := 11) (ci := 6) rfl inw_X6_lie_X6 6 (by decide) (ref := "EldestAge") (List.mem_of_getElem? (i := 1) rfl) rfl (v := .ref (a 73)) rfl dX6_lie_1 ?_
  refine z_aload_n C 0 rfl rfl dX6_lie_4 ?_
  refine z_get C 0 rfl (C := RX6) (T := TX6) (N := 11) (ci := 6) rfl inw_X6_lie_X6 0 (by decide) (ref := "EldestAge") (List.mem_of_getElem? (i := 2) rfl) rfl (v := .ref (a 1)) rfl dX6_lie_5 ?_
  obtain ⟨q1, e1, h⟩ := bd_e h
  refine z_callVi C (b := a 73) (As := [.ref (a 1)]) (rest := []) (c_X4_firstLie E 8 (ja 4 (fun k => a (73 + k)) (fun k => a (1 + k))) (jn 8 (sb 152 S) (sb 0 S)) e1) rfl gX6_lie_X4_firstLie rfl rfl rfl 1 rfl (by decide +kernel) ⟨Nat.le_of_ble_eq_true rfl, Nat.le_of_ble_eq_true rfl⟩ [41, 42, 43, 44, 1, 2, 3, 4, 5, 6, 7, 8, 9, 10, 11, 12, 13, 14, 15, 16] (wl_X6_lie_0 E a S) (by decide) (wl_X6_lie_1 E a _ _) (wEA E a (pt 0 32 (sb 8 q1.2) (pt 152 8 q1.2 S))) (wl_X6_lie_2 E a S q1.2) 0 4 rfl rfl rfl (Nat.le_of_ble_eq_true rfl) dX6_lie_8 ⟨Nat.zero_le _, Nat.zero_le _⟩ _ rfl ?_
  obtain rfl := Option.some.inj h
  exact R rfl 11 _ dX6_lie_11

theorem c_X6_lie (E : zEnv) (a : Nat → Nat) (S : St) {res : (Int32 × St)} (h : f_X6_lie S = some res) : Kti E yX6_lie wsX6_lie rm_X6_lie (wEA E a S) (wEA E a res.2) [.ref (a 0)] res.1 :=
  z_enti (cc := cX6_lie) (maxL := 1) (rt := .int) (by decide +kernel) rfl (Nat.le_of_ble_eq_true rfl) (fun Γ C R => L_X6_lie a C R S h)

abbrev rm_X6_born : Room := { frames := 5, cells := 0, slots := 0, locals := 113 }
theorem inw_X6_born_X6 : ∀ w ∈ wsX60, w ∈ wsX6_born := fun _ h => List.mem_cons_of_mem _ (List.mem_append_left _ (List.mem_append_left _ (List.mem_append_left _ (List.mem_append_right _ h))))
theorem inw_X6_born_X5 : ∀ w ∈ wsX50, w ∈ wsX6_born := fun _ h => List.mem_cons_of_mem _ (List.mem_append_left _ (List.mem_append_left _ (List.mem_append_right _ h)))
theorem inw_X6_born_X4 : ∀ w ∈ wsX40, w ∈ wsX6_born := fun _ h => List.mem_cons_of_mem _ (List.mem_append_left _ (List.mem_append_right _ h))
theorem inw_X6_born_X2 : ∀ w ∈ wsX20, w ∈ wsX6_born := fun _ h => List.mem_cons_of_mem _ (List.mem_append_right _ h)
set_option maxHeartbeats 4000000 in
theorem wl_X6_born_0 (E : zEnv) (a : Nat → Nat) (S : St) (f : Nat → Int32) : (wEA E a (st 36 f S)) = (wEA E a S).set 19 (a 19, .inl (zI E, 14, .inl f)) := rfl
set_option maxHeartbeats 4000000 in
theorem wl_X6_born_1 (E : zEnv) (a : Nat → Nat) (S : St) : ([41, 42, 43, 44, 17, 18, 19, 20, 21, 22, 23, 24, 25, 26, 27, 28, 29, 30, 31, 32] : List Nat).map (fun i => (wEA E a S)[i]?) = (wToldTown E 8 (ja 4 (fun k => a (73 + k)) (fun k => a (17 + k))) (jn 8 (sb 152 S) (sb 32 S))).map some := rfl
set_option maxHeartbeats 4000000 in
theorem wl_X6_born_2 (E : zEnv) (a : Nat → Nat) (S U : St) : (wToldTown E 8 (ja 4 (fun k => a (73 + k)) (fun k => a (17 + k))) U).map (fun q => q.1) = (wToldTown E 8 (ja 4 (fun k => a (73 + k)) (fun k => a (17 + k))) S).map (fun q => q.1) := rfl
set_option maxHeartbeats 4000000 in
theorem wl_X6_born_3 (E : zEnv) (a : Nat → Nat) (S U : St) : (wEA E a (pt 32 32 (sb 8 U) (pt 152 8 U S))) = zrep [41, 42, 43, 44, 17, 18, 19, 20, 21, 22, 23, 24, 25, 26, 27, 28, 29, 30, 31, 32] (wToldTown E 8 (ja 4 (fun k => a (73 + k)) (fun k => a (17 + k))) U) (wEA E a S) := zrep_of (isR := [0, 1, 2, 3, 4, 5, 6, 7, 8, 9, 10, 11, 12, 13, 14, 15, 16, 33, 34, 35, 36, 37, 38, 39, 40, 45, 46, 47, 48, 49, 50, 51, 52, 53, 54, 55, 56, 57, 58, 59, 60, 61, 62, 63, 64, 65, 66, 67, 68, 69, 70, 71, 72, 73, 74, 75, 76, 77, 78, 79, 80, 81, 82, 83, 84, 85, 86, 87, 88, 89, 90, 91, 92, 93, 94, 95, 96, 97, 98, 99, 100]) 101 rfl [some (a 0, .inr (6, [.ref (a 1), .ref (a 17), .ref (a 65), .ref (a 66), .ref (a 67), .ref (a 69), .ref (a 73), .ref (a 77), .ref (a 93), .int (S 184 0), .int (S 185 0)])), some (a 1, .inr (5, [.int (S 0 0), .int (S 1 0), .int (S 2 0), .ref (a 2), .ref (a 3), .ref (a 4), .ref (a 5), .int (S 7 0), .ref (a 6), .ref (a 7), .ref (a 8), .int (S 11 0), .ref (a 9), .ref (a 10), .ref (a 11), .ref (a 12)])), some (a 2, .inl (zI E, 14, .inl (S 3))), some (a 3, .inl (zI E, 14, .inl (S 4))), some (a 4, .inl (zI E, 14, .inl (S 5))), some (a 5, .inl (zI E, 14, .inl (S 6))), some (a 6, .inl (zI E, 12, .inl (S 8))), some (a 7, .inl (zI E, 12, .inl (S 9))), some (a 8, .inl (zI E, 12, .inl (S 10))), some (a 9, .inl (zI E, 4, .inl (S 12))), some (a 10, .inl (zI E, 4, .inl (S 13))), some (a 11, .inl (zI E, 4, .inl (S 14))), some (a 12, .inr (2, [.ref (a 13), .ref (a 14), .ref (a 15), .ref (a 16)])), some (a 13, .inl (zI E, 8, .inl (S 16))), some (a 14, .inl (zI E, 8, .inl (S 17))), some (a 15, .inl (zI E, 8, .inl (S 18))), some (a 16, .inl (zI E, 8, .inl (S 19))), some (a 65, .inl (zT E, 2, .inr (.inr (.inr (.inr (va_up (va_up (fun _ => none) 0 (some (a 33))) 1 (some (a 49)))))))), some (a 66, .inl (zZ E, 2, .inl (S 186))), some (a 67, .inr (3, [.ref (a 68), .int (S 129 0), .int (S 130 0), .int (S 131 0), .int (S 132 0), .int (S 133 0), .int (S 134 0), .int (S 135 0), .int (S 136 0), .int (S 137 0), .int (S 138 0), .int (S 139 0)])), some (a 68, .inl (zI E, 400, .inl (S 128))), some (a 69, .inr (4, [.int (S 144 0), .ref (a 70), .ref (a 71), .ref (a 72), .int (S 148 0)])), some (a 70, .inl (zI E, 4, .inl (S 145))), some (a 71, .inl (zI E, 4, .inl (S 146))), some (a 72, .inl (zI E, 4, .inl (S 147))), some (a 77, .inr (0, [.int (S 160 0), .ref (a 78), .ref (a 79), .ref (a 80), .ref (a 81), .ref (a 82), .ref (a 83), .ref (a 88)])), some (a 78, .inl (zI E, 4, .inl (S 161))), some (a 79, .inl (zI E, 4, .inl (S 162))), some (a 80, .inl (zI E, 4, .inl (S 163))), some (a 81, .inl (zI E, 4, .inl (S 164))), some (a 82, .inl (zI E, 4, .inl (S 165))), some (a 83, .inr (2, [.ref (a 84), .ref (a 85), .ref (a 86), .ref (a 87)])), some (a 84, .inl (zI E, 8, .inl (S 168))), some (a 85, .inl (zI E, 8, .inl (S 169))), some (a 86, .inl (zI E, 8, .inl (S 170))), some (a 87, .inl (zI E, 8, .inl (S 171))), some (a 88, .inr (2, [.ref (a 89), .ref (a 90), .ref (a 91), .ref (a 92)])), some (a 89, .inl (zI E, 8, .inl (S 172))), some (a 90, .inl (zI E, 8, .inl (S 173))), some (a 91, .inl (zI E, 8, .inl (S 174))), some (a 92, .inl (zI E, 8, .inl (S 175))), some (a 93, .inr (1, [.ref (a 94), .ref (a 99), .ref (a 100)])), some (a 94, .inl (zII E, 4, .inr (.inr (.inr (.inr (va_up (va_up (va_up (va_up (fun _ => none) 0 (some (a 95))) 1 (some (a 96))) 2 (some (a 97))) 3 (some (a 98)))))))), some (a 95, .inl (zI E, 40, .inl (S 176))), some (a 96, .inl (zI E, 40, .inl (S 177))), some (a 97, .inl (zI E, 40, .inl (S 178))), some (a 98, .inl (zI E, 40, .inl (S 179))), some (a 99, .inl (zI E, 4, .inl (S 180))), some (a 100, .inl (zI E, 4, .inl (S 181))), some (a 33, .inr (5, [.int (S 64 0), .int (S 65 0), .int (S 66 0), .ref (a 34), .ref (a 35), .ref (a 36), .ref (a 37), .int (S 71 0), .ref (a 38), .ref (a 39), .ref (a 40), .int (S 75 0), .ref (a 41), .ref (a 42), .ref (a 43), .ref (a 44)])), some (a 34, .inl (zI E, 14, .inl (S 67))), some (a 35, .inl (zI E, 14, .inl (S 68))), some (a 36, .inl (zI E, 14, .inl (S 69))), some (a 37, .inl (zI E, 14, .inl (S 70))), some (a 38, .inl (zI E, 12, .inl (S 72))), some (a 39, .inl (zI E, 12, .inl (S 73))), some (a 40, .inl (zI E, 12, .inl (S 74))), some (a 41, .inl (zI E, 4, .inl (S 76))), some (a 42, .inl (zI E, 4, .inl (S 77))), some (a 43, .inl (zI E, 4, .inl (S 78))), some (a 44, .inr (2, [.ref (a 45), .ref (a 46), .ref (a 47), .ref (a 48)])), some (a 45, .inl (zI E, 8, .inl (S 80))), some (a 46, .inl (zI E, 8, .inl (S 81))), some (a 47, .inl (zI E, 8, .inl (S 82))), some (a 48, .inl (zI E, 8, .inl (S 83))), some (a 49, .inr (5, [.int (S 96 0), .int (S 97 0), .int (S 98 0), .ref (a 50), .ref (a 51), .ref (a 52), .ref (a 53), .int (S 103 0), .ref (a 54), .ref (a 55), .ref (a 56), .int (S 107 0), .ref (a 57), .ref (a 58), .ref (a 59), .ref (a 60)])), some (a 50, .inl (zI E, 14, .inl (S 99))), some (a 51, .inl (zI E, 14, .inl (S 100))), some (a 52, .inl (zI E, 14, .inl (S 101))), some (a 53, .inl (zI E, 14, .inl (S 102))), some (a 54, .inl (zI E, 12, .inl (S 104))), some (a 55, .inl (zI E, 12, .inl (S 105))), some (a 56, .inl (zI E, 12, .inl (S 106))), some (a 57, .inl (zI E, 4, .inl (S 108))), some (a 58, .inl (zI E, 4, .inl (S 109))), some (a 59, .inl (zI E, 4, .inl (S 110))), some (a 60, .inr (2, [.ref (a 61), .ref (a 62), .ref (a 63), .ref (a 64)])), some (a 61, .inl (zI E, 8, .inl (S 112))), some (a 62, .inl (zI E, 8, .inl (S 113))), some (a 63, .inl (zI E, 8, .inl (S 114))), some (a 64, .inl (zI E, 8, .inl (S 115)))] rfl rfl rfl rfl (by decide +kernel) (by decide +kernel)
set_option maxHeartbeats 4000000 in
theorem wl_X6_born_4 (E : zEnv) (a : Nat → Nat) (S : St) : ([1, 2, 3, 4, 5, 6, 7, 8, 9, 10, 11, 12, 13, 14, 15, 16] : List Nat).map (fun i => (wEA E a S)[i]?) = (wTown E (fun k => a (1 + k)) (sb 0 S)).map some := rfl
set_option maxHeartbeats 4000000 in
theorem wl_X6_born_5 (E : zEnv) (a : Nat → Nat) (S U : St) : (wTown E (fun k => a (1 + k)) U).map (fun q => q.1) = (wTown E (fun k => a (1 + k)) S).map (fun q => q.1) := rfl
set_option maxHeartbeats 4000000 in
theorem wl_X6_born_6 (E : zEnv) (a : Nat → Nat) (S : St) : ([17, 18, 19, 20, 21, 22, 23, 24, 25, 26, 27, 28, 29, 30, 31, 32, 1, 2, 3, 4, 5, 6, 7, 8, 9, 10, 11, 12, 13, 14, 15, 16] : List Nat).map (fun i => (wEA E a S)[i]?) = (wTown2 E (ja 16 (fun k => a (17 + k)) (fun k => a (1 + k))) (jn 32 (sb 32 S) (sb 0 S))).map some := rfl
set_option maxHeartbeats 4000000 in
theorem wl_X6_born_7 (E : zEnv) (a : Nat → Nat) (S U : St) : (wTown2 E (ja 16 (fun k => a (17 + k)) (fun k => a (1 + k))) U).map (fun q => q.1) = (wTown2 E (ja 16 (fun k => a (17 + k)) (fun k => a (1 + k))) S).map (fun q => q.1) := rfl
set_option maxHeartbeats 4000000 in
theorem wl_X6_born_8 (E : zEnv) (a : Nat → Nat) (S U : St) : (wEA E a (pt 0 32 (sb 32 U) (pt 32 32 U S))) = zrep [17, 18, 19, 20, 21, 22, 23, 24, 25, 26, 27, 28, 29, 30, 31, 32, 1, 2, 3, 4, 5, 6, 7, 8, 9, 10, 11, 12, 13, 14, 15, 16] (wTown2 E (ja 16 (fun k => a (17 + k)) (fun k => a (1 + k))) U) (wEA E a S) := zrep_of (isR := [0, 33, 34, 35, 36, 37, 38, 39, 40, 41, 42, 43, 44, 45, 46, 47, 48, 49, 50, 51, 52, 53, 54, 55, 56, 57, 58, 59, 60, 61, 62, 63, 64, 65, 66, 67, 68, 69, 70, 71, 72, 73, 74, 75, 76, 77, 78, 79, 80, 81, 82, 83, 84, 85, 86, 87, 88, 89, 90, 91, 92, 93, 94, 95, 96, 97, 98, 99, 100]) 101 rfl [some (a 0, .inr (6, [.ref (a 1), .ref (a 17), .ref (a 65), .ref (a 66), .ref (a 67), .ref (a 69), .ref (a 73), .ref (a 77), .ref (a 93), .int (S 184 0), .int (S 185 0)])), some (a 65, .inl (zT E, 2, .inr (.inr (.inr (.inr (va_up (va_up (fun _ => none) 0 (some (a 33))) 1 (some (a 49)))))))), some (a 66, .inl (zZ E, 2, .inl (S 186))), some (a 67, .inr (3, [.ref (a 68), .int (S 129 0), .int (S 130 0), .int (S 131 0), .int (S 132 0), .int (S 133 0), .int (S 134 0), .int (S 135 0), .int (S 136 0), .int (S 137 0), .int (S 138 0), .int (S 139 0)])), some (a 68, .inl (zI E, 400, .inl (S 128))), some (a 69, .inr (4, [.int (S 144 0), .ref (a 70), .ref (a 71), .ref (a 72), .int (S 148 0)])), some (a 70, .inl (zI E, 4, .inl (S 145))), some (a 71, .inl (zI E, 4, .inl (S 146))), some (a 72, .inl (zI E, 4, .inl (S 147))), some (a 73, .inr (4, [.int (S 152 0), .ref (a 74), .ref (a 75), .ref (a 76), .int (S 156 0)])), some (a 74, .inl (zI E, 8, .inl (S 153))), some (a 75, .inl (zI E, 8, .inl (S 154))), some (a 76, .inl (zI E, 8, .inl (S 155))), some (a 77, .inr (0, [.int (S 160 0), .ref (a 78), .ref (a 79), .ref (a 80), .ref (a 81), .ref (a 82), .ref (a 83), .ref (a 88)])), some (a 78, .inl (zI E, 4, .inl (S 161))), some (a 79, .inl (zI E, 4, .inl (S 162))), some (a 80, .inl (zI E, 4, .inl (S 163))), some (a 81, .inl (zI E, 4, .inl (S 164))), some (a 82, .inl (zI E, 4, .inl (S 165))), some (a 83, .inr (2, [.ref (a 84), .ref (a 85), .ref (a 86), .ref (a 87)])), some (a 84, .inl (zI E, 8, .inl (S 168))), some (a 85, .inl (zI E, 8, .inl (S 169))), some (a 86, .inl (zI E, 8, .inl (S 170))), some (a 87, .inl (zI E, 8, .inl (S 171))), some (a 88, .inr (2, [.ref (a 89), .ref (a 90), .ref (a 91), .ref (a 92)])), some (a 89, .inl (zI E, 8, .inl (S 172))), some (a 90, .inl (zI E, 8, .inl (S 173))), some (a 91, .inl (zI E, 8, .inl (S 174))), some (a 92, .inl (zI E, 8, .inl (S 175))), some (a 93, .inr (1, [.ref (a 94), .ref (a 99), .ref (a 100)])), some (a 94, .inl (zII E, 4, .inr (.inr (.inr (.inr (va_up (va_up (va_up (va_up (fun _ => none) 0 (some (a 95))) 1 (some (a 96))) 2 (some (a 97))) 3 (some (a 98)))))))), some (a 95, .inl (zI E, 40, .inl (S 176))), some (a 96, .inl (zI E, 40, .inl (S 177))), some (a 97, .inl (zI E, 40, .inl (S 178))), some (a 98, .inl (zI E, 40, .inl (S 179))), some (a 99, .inl (zI E, 4, .inl (S 180))), some (a 100, .inl (zI E, 4, .inl (S 181))), some (a 33, .inr (5, [.int (S 64 0), .int (S 65 0), .int (S 66 0), .ref (a 34), .ref (a 35), .ref (a 36), .ref (a 37), .int (S 71 0), .ref (a 38), .ref (a 39), .ref (a 40), .int (S 75 0), .ref (a 41), .ref (a 42), .ref (a 43), .ref (a 44)])), some (a 34, .inl (zI E, 14, .inl (S 67))), some (a 35, .inl (zI E, 14, .inl (S 68))), some (a 36, .inl (zI E, 14, .inl (S 69))), some (a 37, .inl (zI E, 14, .inl (S 70))), some (a 38, .inl (zI E, 12, .inl (S 72))), some (a 39, .inl (zI E, 12, .inl (S 73))), some (a 40, .inl (zI E, 12, .inl (S 74))), some (a 41, .inl (zI E, 4, .inl (S 76))), some (a 42, .inl (zI E, 4, .inl (S 77))), some (a 43, .inl (zI E, 4, .inl (S 78))), some (a 44, .inr (2, [.ref (a 45), .ref (a 46), .ref (a 47), .ref (a 48)])), some (a 45, .inl (zI E, 8, .inl (S 80))), some (a 46, .inl (zI E, 8, .inl (S 81))), some (a 47, .inl (zI E, 8, .inl (S 82))), some (a 48, .inl (zI E, 8, .inl (S 83))), some (a 49, .inr (5, [.int (S 96 0), .int (S 97 0), .int (S 98 0), .ref (a 50), .ref (a 51), .ref (a 52), .ref (a 53), .int (S 103 0), .ref (a 54), .ref (a 55), .ref (a 56), .int (S 107 0), .ref (a 57), .ref (a 58), .ref (a 59), .ref (a 60)])), some (a 50, .inl (zI E, 14, .inl (S 99))), some (a 51, .inl (zI E, 14, .inl (S 100))), some (a 52, .inl (zI E, 14, .inl (S 101))), some (a 53, .inl (zI E, 14, .inl (S 102))), some (a 54, .inl (zI E, 12, .inl (S 104))), some (a 55, .inl (zI E, 12, .inl (S 105))), some (a 56, .inl (zI E, 12, .inl (S 106))), some (a 57, .inl (zI E, 4, .inl (S 108))), some (a 58, .inl (zI E, 4, .inl (S 109))), some (a 59, .inl (zI E, 4, .inl (S 110))), some (a 60, .inr (2, [.ref (a 61), .ref (a 62), .ref (a 63), .ref (a 64)])), some (a 61, .inl (zI E, 8, .inl (S 112))), some (a 62, .inl (zI E, 8, .inl (S 113))), some (a 63, .inl (zI E, 8, .inl (S 114))), some (a 64, .inl (zI E, 8, .inl (S 115)))] rfl rfl rfl rfl (by decide +kernel) (by decide +kernel)
noncomputable def f_X6_born_142 (k46 : Int32 → Int32 → Int32 → Int32 → Int32 → Int32 → St → Option (Int32 × St)) (x1 : Int32) (x2 : Int32) (x3 : Int32) (x4 : Int32) (x5 : Int32) (x6 : Int32) (S : St) : Option (Int32 × St) := (k46 x1 x2 x3 x4 x5 (x6 + (1 : Int32)) S)
noncomputable def f_X6_born_136 (k46 : Int32 → Int32 → Int32 → Int32 → Int32 → Int32 → St → Option (Int32 × St)) (x1 : Int32) (x2 : Int32) (x3 : Int32) (x6 : Int32) (y0 : Int32) (S : St) : Option (Int32 × St) := (f_X6_born_142 k46 x1 x2 x3 y0 x6 x6 S)
noncomputable def f_X6_born_148 (x2 : Int32) (x3 : Int32) (x4 : Int32) (x5 : Int32) (S : St) : Option (Int32 × St) := (if x2 = 0 then (some (x3, S)) else (if x2 = (1 : Int32) then (some (x4, S)) else (some (x5, S))))
noncomputable def f_X6_born_46 (n : Nat) : Int32 → Int32 → Int32 → Int32 → Int32 → Int32 → St → Option (Int32 × St) := Nat.rec (motive := fun _ => Int32 → Int32 → Int32 → Int32 → Int32 → Int32 → St → Option (Int32 × St)) (fun _ _ _ _ _ _ _ => none) (fun _ ih => fun x1 x2 x3 x4 x5 x6 S => (if (100 : Int32) ≤ x6 then (f_X6_born_148 x2 x3 x4 x5 S) else (ix x1 14 (ix x1 14 (ix x1 14 (ix x1 14 (if (S 6 (Int32.toNatClampNeg x1)) ≤ ((upd (S 36) (Int32.toNatClampNeg x1) ((x6 * (360 : Int32)) + (zrem (S 4 (Int32.toNatClampNeg x1)) (360 : Int32)))) (Int32.toNatClampNeg x1)) then (f_X6_born_142 ih x1 x2 x3 x4 x5 x6 (st 36 (upd (S 36) (Int32.toNatClampNeg x1) ((x6 * (360 : Int32)) + (zrem (S 4 (Int32.toNatClampNeg x1)) (360 : Int32)))) S)) else ((f_X4_firstLie 8 (jn 8 (sb 152 (st 36 (upd (S 36) (Int32.toNatClampNeg x1) ((x6 * (360 : Int32)) + (zrem (S 4 (Int32.toNatClampNeg x1)) (360 : Int32)))) S)) (sb 32 (st 36 (upd (S 36) (Int32.toNatClampNeg x1) ((x6 * (360 : Int32)) + (zrem (S 4 (Int32.toNatClampNeg x1)) (360 : Int32)))) S)))).bind (fun q1 => (if q1.1 = (-4 : Int32) then (if x4 = (-4 : Int32) then (f_X6_born_136 ih x1 x2 (x3 + (1 : Int32)) x6 x6 (pt 32 32 (sb 8 q1.2) (pt 152 8 q1.2 (st 36 (upd (S 36) (Int32.toNatClampNeg x1) ((x6 * (360 : Int32)) + (zrem (S 4 (Int32.toNatClampNeg x1)) (360 : Int32)))) S)))) else (f_X6_born_136 ih x1 x2 (x3 + (1 : Int32)) x6 x4 (pt 32 32 (sb 8 q1.2) (pt 152 8 q1.2 (st 36 (upd (S 36) (Int32.toNatClampNeg x1) ((x6 * (360 : Int32)) + (zrem (S 4 (Int32.toNatClampNeg x1)) (360 : Int32)))) S))))) else (f_X6_born_142 ih x1 x2 x3 x4 x5 x6 (pt 32 32 (sb 8 q1.2) (pt 152 8 q1.2 (st 36 (upd (S 36) (Int32.toNatClampNeg x1) ((x6 * (360 : Int32)) + (zrem (S 4 (Int32.toNatClampNeg x1)) (360 : Int32)))) S)))))))))))))) n
theorem f_X6_born_46_s (n : Nat) (x1 : Int32) (x2 : Int32) (x3 : Int32) (x4 : Int32) (x5 : Int32) (x6 : Int32) (S : St) : f_X6_born_46 (n + 1) x1 x2 x3 x4 x5 x6 S = (if (100 : Int32) ≤ x6 then (f_X6_born_148 x2 x3 x4 x5 S) else (ix x1 14 (ix x1 14 (ix x1 14 (ix x1 14 (if (S 6 (Int32.toNatClampNeg x1)) ≤ ((upd (S 36) (Int32.toNatClampNeg x1) ((x6 * (360 : Int32)) + (zrem (S 4 (Int32.toNatClampNeg x1)) (360 : Int32)))) (Int32.toNatClampNeg x1)) then (f_X6_born_142 (f_X6_born_46 n) x1 x2 x3 x4 x5 x6 (st 36 (upd (S 36) (Int32.toNatClampNeg x1) ((x6 * (360 : Int32)) + (zrem (S 4 (Int32.toNatClampNeg x1)) (360 : Int32)))) S)) else ((f_X4_firstLie 8 (jn 8 (sb 152 (st 36 (upd (S 36) (Int32.toNatClampNeg x1) ((x6 * (360 : Int32)) + (zrem (S 4 (Int32.toNatClampNeg x1)) (360 : Int32)))) S)) (sb 32 (st 36 (upd (S 36) (Int32.toNatClampNeg x1) ((x6 * (360 : Int32)) + (zrem (S 4 (Int32.toNatClampNeg x1)) (360 : Int32)))) S)))).bind (fun q1 => (if q1.1 = (-4 : Int32) then (if x4 = (-4 : Int32) then (f_X6_born_136 (f_X6_born_46 n) x1 x2 (x3 + (1 : Int32)) x6 x6 (pt 32 32 (sb 8 q1.2) (pt 152 8 q1.2 (st 36 (upd (S 36) (Int32.toNatClampNeg x1) ((x6 * (360 : Int32)) + (zrem (S 4 (Int32.toNatClampNeg x1)) (360 : Int32)))) S)))) else (f_X6_born_136 (f_X6_born_46 n) x1 x2 (x3 + (1 : Int32)) x6 x4 (pt 32 32 (sb 8 q1.2) (pt 152 8 q1.2 (st 36 (upd (S 36) (Int32.toNatClampNeg x1) ((x6 * (360 : Int32)) + (zrem (S 4 (Int32.toNatClampNeg x1)) (360 : Int32)))) S))))) else (f_X6_born_142 (f_X6_born_46 n) x1 x2 x3 x4 x5 x6 (pt 32 32 (sb 8 q1.2) (pt 152 8 q1.2 (st 36 (upd (S 36) (Int32.toNatClampNeg x1) ((x6 * (360 : Int32)) + (zrem (S 4 (Int32.toNatClampNeg x1)) (360 : Int32)))) S))))))))))))) := rfl
noncomputable def f_X6_born (x1 : Int32) (x2 : Int32) (S : St) : Option (Int32 × St) := ((f_X5_isOne x1 (sb 0 S)).bind (fun q2 => (if q2 = 0 then (some ((-1 : Int32), S)) else (if x2 < 0 then (some ((-1 : Int32), S)) else (if x2 ≤ (2 : Int32) then ((f_X5_copyOf (jn 32 (sb 32 S) (sb 0 S))).bind (fun q3 => (f_X6_born_46 1000 x1 x2 (0 : Int32) (-4 : Int32) (-4 : Int32) (0 : Int32) (pt 0 32 (sb 32 q3) (pt 32 32 q3 S))))) else (some ((-1 : Int32), S)))))))
set_option maxHeartbeats 4000000 in
set_option maxRecDepth 100000 in
theorem L_X6_born_142 {E : zEnv} {Γ : zG} (a : Nat → Nat) (C : zC E Γ cX6_born RX6 7 rm_X6_born wsX6_born) {res : (Int32 × St)} (R : zRi E Γ cX6_born 7 .int (wEA E a res.2) res.1) (k46 : Int32 → Int32 → Int32 → Int32 → Int32 → Int32 → St → Option (Int32 × St)) (hk46 : ∀ (x1 : Int32) (x2 : Int32) (x3 : Int32) (x4 : Int32) (x5 : Int32) (x6 : Int32) (S : St), k46 x1 x2 x3 x4 x5 x6 S = some res → Zt E Γ 7 0 0 (wEA E a S) [(0, .ref (a 0)), (1, .int x1), (2, .int x2), (3, .int x3), (4, .int x4), (5, .int x5), (6, .int x6)] 46 []) (x1 : Int32) (x2 : Int32) (x3 : Int32) (x4 : Int32) (x5 : Int32) (x6 : Int32) (S : St) (h : f_X6_born_142 k46 x1 x2 x3 x4 x5 x6 S = some res) : Zt E Γ 7 0 0 (wEA E a S) [(0, .ref (a 0)), (1, .int x1), (2, .int x2), (3, .int x3), (4, .int x4), (5, .int x5), (6, .int x6)] 142 [] := by
  unfold f_X6_born_142 at h
  refine z_iinc C [(6, .int (x6 + (1 : Int32))), (0, .ref (a 0)), (1, .int x1), (2, .int x2), (3, .int x3), (4, .int x4), (5, .int x5)] 6 rfl (by first | rfl | decide) (by decide) rfl dX6_born_142 ?_
  refine z_goto C 46 (by decide) dX6_born_145 ?_
  refine Zt_l [(0, .ref (a 0)), (1, .int x1), (2, .int x2), (3, .int x3), (4, .int x4), (5, .int x5), (6, .int (x6 + (1 : Int32)))] [1, 2, 3, 4, 5, 6, 0] rfl ?_
  exact hk46 x1 x2 x3 x4 x5 (x6 + (1 : Int32)) S h

set_option maxHeartbeats 4000000 in
set_option maxRecDepth 100000 in
theorem L_X6_born_136 {E : zEnv} {Γ : zG} (a : Nat → Nat) (C : zC E Γ cX6_born RX6 7 rm_X6_born wsX6_born) {res : (Int32 × St)} (R : zRi E Γ cX6_born 7 .int (wEA E a res.2) res.1) (k46 : Int32 → Int32 → Int32 → Int32 → Int32 → Int32 → St → Option (Int32 × St)) (hk46 : ∀ (x1 : Int32) (x2 : Int32) (x3 : Int32) (x4 : Int32) (x5 : Int32) (x6 : Int32) (S : St), k46 x1 x2 x3 x4 x5 x6 S = some res → Zt E Γ 7 0 0 (wEA E a S) [(0, .ref (a 0)), (1, .int x1), (2, .int x2), (3, .int x3), (4, .int x4), (5, .int x5), (6, .int x6)] 46 []) (x1 : Int32) (x2 : Int32) (x3 : Int32) (x6 : Int32) (y0 : Int32) (S : St) (h : f_X6_born_136 k46 x1 x2 x3 x6 y0 S = some res) : Zt E Γ 7 0 0 (wEA E a S) [(0, .ref (a 0)), (1, .int x1), (2, .int x2), (3, .int x3), (6, .int x6)] 136 [.int y0] := by
  unfold f_X6_born_136 at h
  refine z_istore C [(4, .int y0), (0, .ref (a 0)), (1, .int x1), (2, .int x2), (3, .int x3), (6, .int x6)] (by decide) rfl dX6_born_136 ?_
  refine z_iload C 5 rfl dX6_born_138 ?_
  refine z_istore C [(5, .int x6), (4, .int y0), (0, .ref (a 0)), (1, .int x1), (2, .int x2), (3, .int x3), (6, .int x6)] (by decide) rfl dX6_born_140 ?_
  refine Zt_l [(0, .ref (a 0)), (1, .int x1), (2, .int x2), (3, .int x3), (4, .int y0), (5, .int x6), (6, .int x6)] [2, 3, 4, 5, 1, 0, 6] rfl ?_
  exact L_X6_born_142 a C R k46 hk46 x1 x2 x3 y0 x6 x6 S h

set_option maxHeartbeats 4000000 in
set_option maxRecDepth 100000 in
theorem L_X6_born_148 {E : zEnv} {Γ : zG} (a : Nat → Nat) (C : zC E Γ cX6_born RX6 7 rm_X6_born wsX6_born) {res : (Int32 × St)} (R : zRi E Γ cX6_born 7 .int (wEA E a res.2) res.1) (x2 : Int32) (x3 : Int32) (x4 : Int32) (x5 : Int32) (S : St) (h : f_X6_born_148 x2 x3 x4 x5 S = some res) : Zt E Γ 7 0 0 (wEA E a S) [(2, .int x2), (3, .int x3), (4, .int x4), (5, .int x5)] 148 [] := by
  unfold f_X6_born_148 at h
  refine z_iload_n C 0 rfl rfl dX6_born_148 ?_
  refine z_if_ne C 154 (by decide) h dX6_born_149 (fun hc h => ?_) (fun hc h => ?_)
  · refine z_iload_n C 1 rfl rfl dX6_born_152 ?_
    obtain rfl := Option.some.inj h
    exact R rfl 153 _ dX6_born_153
  · refine z_iload_n C 0 rfl rfl dX6_born_154 ?_
    refine z_iconst C (v := (1 : Int32)) (by decide) dX6_born_155 ?_
    refine z_icmp_ne C 164 (by decide) h dX6_born_156 (fun hc h => ?_) (fun hc h => ?_)
    · refine z_iload C 2 rfl dX6_born_159 ?_
      refine z_goto C 166 (by decide) dX6_born_161 ?_
      obtain rfl := Option.some.inj h
      exact R rfl 166 _ dX6_born_166
    · refine z_iload C 3 rfl dX6_born_164 ?_
      obtain rfl := Option.some.inj h
      exact R rfl 166 _ dX6_born_166

set_option maxHeartbeats 4000000 in
set_option maxRecDepth 100000 in
theorem L_X6_born_46 {E : zEnv} {Γ : zG} (a : Nat → Nat) (C : zC E Γ cX6_born RX6 7 rm_X6_born wsX6_born) {res : (Int32 × St)} (R : zRi E Γ cX6_born 7 .int (wEA E a res.2) res.1) : ∀ (n : Nat) (x1 : Int32) (x2 : Int32) (x3 : Int32) (x4 : Int32) (x5 : Int32) (x6 : Int32) (S : St), f_X6_born_46 n x1 x2 x3 x4 x5 x6 S = some res → Zt E Γ 7 0 0 (wEA E a S) [(0, .ref (a 0)), (1, .int x1), (2, .int x2), (3, .int x3), (4, .int x4), (5, .int x5), (6, .int x6)] 46 [] := by
  intro n
  induction n with
  | zero =>
    intro x1 x2 x3 x4 x5 x6 S h
    cases h
  | succ n ih =>
    intro x1 x2 x3 x4 x5 x6 S h
    rw [f_X6_born_46_s] at h
    refine z_iload C 6 rfl dX6_born_46 ?_
    refine z_bipush C (v := (100 : Int32)) (by decide) dX6_born_48 ?_
    refine z_icmp_ge C 148 (by decide) h dX6_born_50 (fun hc h => ?_) (fun hc h => ?_)
    · refine Zt_l [(2, .int x2), (3, .int x3), (4, .int x4), (5, .int x5)] [2, 3, 4, 5] rfl ?_
      exact L_X6_born_148 a C R x2 x3 x4 x5 S h
    · refine z_aload_n C 0 rfl rfl dX6_born_53 ?_
      refine z_get C 0 rfl (C := RX6) (T := TX6) (N := 11) (ci := 6) rfl inw_X6_born_X6 1 (by decide) (ref := "EldestAge") (List.mem_of_getElem? (i := 2) rfl) rfl (v := .ref (a 17)) rfl dX6_born_54 ?_
      refine z_get C 17 rfl (C := RX5) (T := TX5) (N := 16) (ci := 5) rfl inw_X6_born_X5 4 (by decide) (ref := "EldestAge$Town") (List.mem_of_getElem? (i := 3) rfl) rfl (v := .ref (a 19)) rfl dX6_born_57 ?_
      refine z_iload_n C 1 rfl rfl dX6_born_60 ?_
      refine z_iload C 6 rfl dX6_born_61 ?_
      refine z_sipush C (v := (360 : Int32)) (by decide) dX6_born_63 ?_
      refine z_imul C dX6_born_66 ?_
      refine z_aload_n C 0 rfl rfl dX6_born_67 ?_
      refine z_get C 0 rfl (C := RX6) (T := TX6) (N := 11) (ci := 6) rfl inw_X6_born_X6 0 (by decide) (ref := "EldestAge") (List.mem_of_getElem? (i := 1) rfl) rfl (v := .ref (a 1)) rfl dX6_born_68 ?_
      refine z_get C 1 rfl (C := RX5) (T := TX5) (N := 16) (ci := 5) rfl inw_X6_born_X5 4 (by decide) (ref := "EldestAge$Town") (List.mem_of_getElem? (i := 3) rfl) rfl (v := .ref (a 3)) rfl dX6_born_71 ?_
      refine z_iload_n C 1 rfl rfl dX6_born_74 ?_
      refine z_iald C (N := 14) (f := (S 4)) 3 rfl h dX6_born_75 (fun h => ?_)
      refine z_sipush C (v := (360 : Int32)) (by decide) dX6_born_76 ?_
      refine z_irem C (by decide) dX6_born_79 ?_
      refine z_iadd C dX6_born_80 ?_
      refine z_iast C (N := 14) (f := (S 36)) 19 rfl h (wEA E a (st 36 (upd (S 36) (Int32.toNatClampNeg x1) ((x6 * (360 : Int32)) + (zrem (S 4 (Int32.toNatClampNeg x1)) (360 : Int32)))) S)) (wl_X6_born_0 E a S (upd (S 36) (Int32.toNatClampNeg x1) ((x6 * (360 : Int32)) + (zrem (S 4 (Int32.toNatClampNeg x1)) (360 : Int32))))) dX6_born_81 (fun h => ?_)
      refine z_aload_n C 0 rfl rfl dX6_born_82 ?_
      refine z_get C 0 rfl (C := RX6) (T := TX6) (N := 11) (ci := 6) rfl inw_X6_born_X6 1 (by decide) (ref := "EldestAge") (List.mem_of_getElem? (i := 2) rfl) rfl (v := .ref (a 17)) rfl dX6_born_83 ?_
      refine z_get C 17 rfl (C := RX5) (T := TX5) (N := 16) (ci := 5) rfl inw_X6_born_X5 4 (by decide) (ref := "EldestAge$Town") (List.mem_of_getElem? (i := 3) rfl) rfl (v := .ref (a 19)) rfl dX6_born_86 ?_
      refine z_iload_n C 1 rfl rfl dX6_born_89 ?_
      refine z_iald C (N := 14) (f := (upd (S 36) (Int32.toNatClampNeg x1) ((x6 * (360 : Int32)) + (zrem (S 4 (Int32.toNatClampNeg x1)) (360 : Int32))))) 19 rfl h dX6_born_90 (fun h => ?_)
      refine z_aload_n C 0 rfl rfl dX6_born_91 ?_
      refine z_get C 0 rfl (C := RX6) (T := TX6) (N := 11) (ci := 6) rfl inw_X6_born_X6 0 (by decide) (ref := "EldestAge") (List.mem_of_getElem? (i := 1) rfl) rfl (v := .ref (a 1)) rfl dX6_born_92 ?_
      refine z_get C 1 rfl (C := RX5) (T := TX5) (N := 16) (ci := 5) rfl inw_X6_born_X5 6 (by decide) (ref := "EldestAge$Town") (List.mem_of_getElem? (i := 4) rfl) rfl (v := .ref (a 5)) rfl dX6_born_95 ?_
      refine z_iload_n C 1 rfl rfl dX6_born_98 ?_
      refine z_iald C (N := 14) (f := (S 6)) 5 rfl h dX6_born_99 (fun h => ?_)
      refine z_icmp_ge C 142 (by decide) h dX6_born_100 (fun hc h => ?_) (fun hc h => ?_)
      · exact L_X6_born_142 a C R _ ih x1 x2 x3 x4 x5 x6 (st 36 (upd (S 36) (Int32.toNatClampNeg x1) ((x6 * (360 : Int32)) + (zrem (S 4 (Int32.toNatClampNeg x1)) (360 : Int32)))) S) h
      · refine z_aload_n C 0 rfl rfl dX6_born_103 ?_
        refine z_get C 0 rfl (C := RX6) (T := TX6) (N := 11) (ci := 6) rfl inw_X6_born_X6 6 (by decide) (ref := "EldestAge") (List.mem_of_getElem? (i := 5) rfl) rfl (v := .ref (a 73)) rfl dX6_born_104 ?_
        refine z_aload_n C 0 rfl rfl dX6_born_107 ?_
        refine z_get C 0 rfl (C := RX6) (T := TX6) (N := 11) (ci := 6) rfl inw_X6_born_X6 1 (by decide) (ref := "EldestAge") (List.mem_of_getElem? (i := 2) rfl) rfl (v := .ref (a 17)) rfl dX6_born_108 ?_
        obtain ⟨q1, e1, h⟩ := bd_e h
        refine z_callVi C (b := a 73) (As := [.ref (a 17)]) (rest := []) (c_X4_firstLie E 8 (ja 4 (fun k => a (73 + k)) (fun k => a (17 + k))) (jn 8 (sb 152 (st 36 (upd (S 36) (Int32.toNatClampNeg x1) ((x6 * (360 : Int32)) + (zrem (S 4 (Int32.toNatClampNeg x1)) (360 : Int32)))) S)) (sb 32 (st 36 (upd (S 36) (Int32.toNatClampNeg x1) ((x6 * (360 : Int32)) + (zrem (S 4 (Int32.toNatClampNeg x1)) (360 : Int32)))) S))) e1) rfl gX6_born_X4_firstLie rfl rfl rfl 1 rfl (by decide +kernel) ⟨Nat.le_of_ble_eq_true rfl, Nat.le_of_ble_eq_true rfl⟩ [41, 42, 43, 44, 17, 18, 19, 20, 21, 22, 23, 24, 25, 26, 27, 28, 29, 30, 31, 32] (wl_X6_born_1 E a (st 36 (upd (S 36) (Int32.toNatClampNeg x1) ((x6 * (360 : Int32)) + (zrem (S 4 (Int32.toNatClampNeg x1)) (360 : Int32)))) S)) (by decide) (wl_X6_born_2 E a _ _) (wEA E a (pt 32 32 (sb 8 q1.2) (pt 152 8 q1.2 (st 36 (upd (S 36) (Int32.toNatClampNeg x1) ((x6 * (360 : Int32)) + (zrem (S 4 (Int32.toNatClampNeg x1)) (360 : Int32)))) S)))) (wl_X6_born_3 E a (st 36 (upd (S 36) (Int32.toNatClampNeg x1) ((x6 * (360 : Int32)) + (zrem (S 4 (Int32.toNatClampNeg x1)) (360 : Int32)))) S) q1.2) 0 4 rfl rfl rfl (Nat.le_of_ble_eq_true rfl) dX6_born_111 ⟨Nat.zero_le _, Nat.zero_le _⟩ _ rfl ?_
        refine z_bipush C (v := (-4 : Int32)) (by decide) dX6_born_114 ?_
        refine z_icmp_ne C 142 (by decide) h dX6_born_116 (fun hc h => ?_) (fun hc h => ?_)
        · refine z_iinc C [(3, .int (x3 + (1 : Int32))), (0, .ref (a 0)), (1, .int x1), (2, .int x2), (4, .int x4), (5, .int x5), (6, .int x6)] 3 rfl (by first | rfl | decide) (by decide) rfl dX6_born_119 ?_
          refine z_iload C 4 rfl dX6_born_122 ?_
          refine z_bipush C (v := (-4 : Int32)) (by decide) dX6_born_124 ?_
          refine z_icmp_ne C 134 (by decide) h dX6_born_126 (fun hc h => ?_) (fun hc h => ?_)
          · refine z_iload C 6 rfl dX6_born_129 ?_
            refine z_goto C 136 (by decide) dX6_born_131 ?_
            refine Zt_l [(0, .ref (a 0)), (1, .int x1), (2, .int x2), (3, .int (x3 + (1 : Int32))), (6, .int x6)] [1, 2, 3, 0, 6] rfl ?_
            exact L_X6_born_136 a C R _ ih x1 x2 (x3 + (1 : Int32)) x6 x6 (pt 32 32 (sb 8 q1.2) (pt 152 8 q1.2 (st 36 (upd (S 36) (Int32.toNatClampNeg x1) ((x6 * (360 : Int32)) + (zrem (S 4 (Int32.toNatClampNeg x1)) (360 : Int32)))) S))) h
          · refine z_iload C 4 rfl dX6_born_134 ?_
            refine Zt_l [(0, .ref (a 0)), (1, .int x1), (2, .int x2), (3, .int (x3 + (1 : Int32))), (6, .int x6)] [1, 2, 3, 0, 6] rfl ?_
            exact L_X6_born_136 a C R _ ih x1 x2 (x3 + (1 : Int32)) x6 x4 (pt 32 32 (sb 8 q1.2) (pt 152 8 q1.2 (st 36 (upd (S 36) (Int32.toNatClampNeg x1) ((x6 * (360 : Int32)) + (zrem (S 4 (Int32.toNatClampNeg x1)) (360 : Int32)))) S))) h
        · exact L_X6_born_142 a C R _ ih x1 x2 x3 x4 x5 x6 (pt 32 32 (sb 8 q1.2) (pt 152 8 q1.2 (st 36 (upd (S 36) (Int32.toNatClampNeg x1) ((x6 * (360 : Int32)) + (zrem (S 4 (Int32.toNatClampNeg x1)) (360 : Int32)))) S))) h

set_option maxHeartbeats 4000000 in
set_option maxRecDepth 100000 in
theorem L_X6_born {E : zEnv} {Γ : zG} (a : Nat → Nat) (C : zC E Γ cX6_born RX6 7 rm_X6_born wsX6_born) {res : (Int32 × St)} (R : zRi E Γ cX6_born 7 .int (wEA E a res.2) res.1) (x1 : Int32) (x2 : Int32) (S : St) (h : f_X6_born x1 x2 S = some res) : Zt E Γ 7 0 0 (wEA E a S) [(0, .ref (a 0)), (1, .int x1), (2, .int x2)] 0 [] := by
  unfold f_X6_born at h
  refine z_aload_n C 0 rfl rfl dX6_born_0 ?_
  refine z_get C 0 rfl (C := RX6) (T := TX6) (N := 11) (ci := 6) rfl inw_X6_born_X6 0 (by decide) (ref := "EldestAge") (List.mem_of_getElem? (i := 1) rfl) rfl (v := .ref (a 1)) rfl dX6_born_1 ?_
  refine z_iload_n C 1 rfl rfl dX6_born_4 ?_
  obtain ⟨q2, e2, h⟩ := bd_e h
  refine z_callVi C (b := a 1) (As := [.int x1]) (rest := []) (c_X5_isOne E (fun k => a (1 + k)) x1 (sb 0 S) e2) rfl gX6_born_X5_isOne rfl rfl rfl 1 rfl (by decide +kernel) ⟨Nat.le_of_ble_eq_true rfl, Nat.le_of_ble_eq_true rfl⟩ [1, 2, 3, 4, 5, 6, 7, 8, 9, 10, 11, 12, 13, 14, 15, 16] (wl_X6_born_4 E a S) (by decide) rfl (wEA E a S) (zrep_self (wl_X6_born_4 E a S)) 0 5 rfl rfl rfl (Nat.le_of_ble_eq_true rfl) dX6_born_5 ⟨Nat.zero_le _, Nat.zero_le _⟩ _ rfl ?_
  refine z_if_eq C 20 (by decide) h dX6_born_8 (fun hc h => ?_) (fun hc h => ?_)
  · refine z_iconst C (v := (-1 : Int32)) (by decide) dX6_born_20 ?_
    obtain rfl := Option.some.inj h
    exact R rfl 21 _ dX6_born_21
  · refine z_iload_n C 2 rfl rfl dX6_born_11 ?_
    refine z_if_lt C 20 (by decide) h dX6_born_12 (fun hc h => ?_) (fun hc h => ?_)
    · refine z_iconst C (v := (-1 : Int32)) (by decide) dX6_born_20 ?_
      obtain rfl := Option.some.inj h
      exact R rfl 21 _ dX6_born_21
    · refine z_iload_n C 2 rfl rfl dX6_born_15 ?_
      refine z_iconst C (v := (2 : Int32)) (by decide) dX6_born_16 ?_
      refine z_icmp_le C 22 (by decide) h dX6_born_17 (fun hc h => ?_) (fun hc h => ?_)
      · refine z_iconst C (v := (0 : Int32)) (by decide) dX6_born_22 ?_
        refine z_istore_n C [(3, .int (0 : Int32)), (0, .ref (a 0)), (1, .int x1), (2, .int x2)] rfl (by decide) rfl dX6_born_23 ?_
        refine z_bipush C (v := (-4 : Int32)) (by decide) dX6_born_24 ?_
        refine z_istore C [(4, .int (-4 : Int32)), (3, .int (0 : Int32)), (0, .ref (a 0)), (1, .int x1), (2, .int x2)] (by decide) rfl dX6_born_26 ?_
        refine z_bipush C (v := (-4 : Int32)) (by decide) dX6_born_28 ?_
        refine z_istore C [(5, .int (-4 : Int32)), (4, .int (-4 : Int32)), (3, .int (0 : Int32)), (0, .ref (a 0)), (1, .int x1), (2, .int x2)] (by decide) rfl dX6_born_30 ?_
        refine z_aload_n C 3 rfl rfl dX6_born_32 ?_
        refine z_get C 0 rfl (C := RX6) (T := TX6) (N := 11) (ci := 6) rfl inw_X6_born_X6 1 (by decide) (ref := "EldestAge") (List.mem_of_getElem? (i := 2) rfl) rfl (v := .ref (a 17)) rfl dX6_born_33 ?_
        refine z_aload_n C 3 rfl rfl dX6_born_36 ?_
        refine z_get C 0 rfl (C := RX6) (T := TX6) (N := 11) (ci := 6) rfl inw_X6_born_X6 0 (by decide) (ref := "EldestAge") (List.mem_of_getElem? (i := 1) rfl) rfl (v := .ref (a 1)) rfl dX6_born_37 ?_
        obtain ⟨q3, e3, h⟩ := bd_e h
        refine z_callVv C (b := a 17) (As := [.ref (a 1)]) (rest := []) (c_X5_copyOf E (ja 16 (fun k => a (17 + k)) (fun k => a (1 + k))) (jn 32 (sb 32 S) (sb 0 S)) e3) rfl gX6_born_X5_copyOf rfl rfl rfl 1 rfl (by decide +kernel) ⟨Nat.le_of_ble_eq_true rfl, Nat.le_of_ble_eq_true rfl⟩ [17, 18, 19, 20, 21, 22, 23, 24, 25, 26, 27, 28, 29, 30, 31, 32, 1, 2, 3, 4, 5, 6, 7, 8, 9, 10, 11, 12, 13, 14, 15, 16] (wl_X6_born_6 E a S) (by decide) (wl_X6_born_7 E a _ _) (wEA E a (pt 0 32 (sb 32 q3) (pt 32 32 q3 S))) (wl_X6_born_8 E a S q3) 0 5 rfl rfl rfl (Nat.le_of_ble_eq_true rfl) dX6_born_40 ⟨Nat.zero_le _, Nat.zero_le _⟩ _ rfl ?_
        refine z_iconst C (v := (0 : Int32)) (by decide) dX6_born_43 ?_
        refine z_istore C [(6, .int (0 : Int32)), (5, .int (-4 : Int32)), (4, .int (-4 : Int32)), (3, .int (0 : Int32)), (0, .ref (a 0)), (1, .int x1), (2, .int x2)] (by decide) rfl dX6_born_44 ?_
        refine Zt_l [(0, .ref (a 0)), (1, .int x1), (2, .int x2), (3, .int (0 : Int32)), (4, .int (-4 : Int32)), (5, .int (-4 : Int32)), (6, .int (0 : Int32))] [4, 5, 6, 3, 2, 1, 0] rfl ?_
        exact L_X6_born_46 a C R 1000 x1 x2 (0 : Int32) (-4 : Int32) (-4 : Int32) (0 : Int32) (pt 0 32 (sb 32 q3) (pt 32 32 q3 S)) h
      · refine z_iconst C (v := (-1 : Int32)) (by decide) dX6_born_20 ?_
        obtain rfl := Option.some.inj h
        exact R rfl 21 _ dX6_born_21

theorem c_X6_born (E : zEnv) (a : Nat → Nat) (x1 : Int32) (x2 : Int32) (S : St) {res : (Int32 × St)} (h : f_X6_born x1 x2 S = some res) : Kti E yX6_born wsX6_born rm_X6_born (wEA E a S) (wEA E a res.2) [.ref (a 0), .int x1, .int x2] res.1 :=
  z_enti (cc := cX6_born) (maxL := 7) (rt := .int) (by decide +kernel) rfl (Nat.le_of_ble_eq_true rfl) (fun Γ C R => L_X6_born a C R x1 x2 S h)

abbrev rm_X6_later : Room := { frames := 4, cells := 0, slots := 0, locals := 95 }
theorem inw_X6_later_X6 : ∀ w ∈ wsX60, w ∈ wsX6_later := fun _ h => List.mem_cons_of_mem _ (List.mem_append_left _ (List.mem_append_left _ (List.mem_append_right _ h)))
theorem inw_X6_later_X5 : ∀ w ∈ wsX50, w ∈ wsX6_later := fun _ h => List.mem_cons_of_mem _ (List.mem_append_left _ (List.mem_append_right _ h))
theorem inw_X6_later_X2 : ∀ w ∈ wsX20, w ∈ wsX6_later := fun _ h => List.mem_cons_of_mem _ (List.mem_append_right _ h)
set_option maxHeartbeats 4000000 in
theorem wl_X6_later_0 (E : zEnv) (a : Nat → Nat) (S : St) : ([17, 18, 19, 20, 21, 22, 23, 24, 25, 26, 27, 28, 29, 30, 31, 32] : List Nat).map (fun i => (wEA E a S)[i]?) = (wTown E (fun k => a (17 + k)) (sb 32 S)).map some := rfl
set_option maxHeartbeats 4000000 in
theorem wl_X6_later_1 (E : zEnv) (a : Nat → Nat) (S U : St) : (wTown E (fun k => a (17 + k)) U).map (fun q => q.1) = (wTown E (fun k => a (17 + k)) S).map (fun q => q.1) := rfl
set_option maxHeartbeats 4000000 in
theorem wl_X6_later_2 (E : zEnv) (a : Nat → Nat) (S U : St) : (wEA E a (pt 32 32 U S)) = zrep [17, 18, 19, 20, 21, 22, 23, 24, 25, 26, 27, 28, 29, 30, 31, 32] (wTown E (fun k => a (17 + k)) U) (wEA E a S) := zrep_of (isR := [0, 1, 2, 3, 4, 5, 6, 7, 8, 9, 10, 11, 12, 13, 14, 15, 16, 33, 34, 35, 36, 37, 38, 39, 40, 41, 42, 43, 44, 45, 46, 47, 48, 49, 50, 51, 52, 53, 54, 55, 56, 57, 58, 59, 60, 61, 62, 63, 64, 65, 66, 67, 68, 69, 70, 71, 72, 73, 74, 75, 76, 77, 78, 79, 80, 81, 82, 83, 84, 85, 86, 87, 88, 89, 90, 91, 92, 93, 94, 95, 96, 97, 98, 99, 100]) 101 rfl [some (a 0, .inr (6, [.ref (a 1), .ref (a 17), .ref (a 65), .ref (a 66), .ref (a 67), .ref (a 69), .ref (a 73), .ref (a 77), .ref (a 93), .int (S 184 0), .int (S 185 0)])), some (a 1, .inr (5, [.int (S 0 0), .int (S 1 0), .int (S 2 0), .ref (a 2), .ref (a 3), .ref (a 4), .ref (a 5), .int (S 7 0), .ref (a 6), .ref (a 7), .ref (a 8), .int (S 11 0), .ref (a 9), .ref (a 10), .ref (a 11), .ref (a 12)])), some (a 2, .inl (zI E, 14, .inl (S 3))), some (a 3, .inl (zI E, 14, .inl (S 4))), some (a 4, .inl (zI E, 14, .inl (S 5))), some (a 5, .inl (zI E, 14, .inl (S 6))), some (a 6, .inl (zI E, 12, .inl (S 8))), some (a 7, .inl (zI E, 12, .inl (S 9))), some (a 8, .inl (zI E, 12, .inl (S 10))), some (a 9, .inl (zI E, 4, .inl (S 12))), some (a 10, .inl (zI E, 4, .inl (S 13))), some (a 11, .inl (zI E, 4, .inl (S 14))), some (a 12, .inr (2, [.ref (a 13), .ref (a 14), .ref (a 15), .ref (a 16)])), some (a 13, .inl (zI E, 8, .inl (S 16))), some (a 14, .inl (zI E, 8, .inl (S 17))), some (a 15, .inl (zI E, 8, .inl (S 18))), some (a 16, .inl (zI E, 8, .inl (S 19))), some (a 65, .inl (zT E, 2, .inr (.inr (.inr (.inr (va_up (va_up (fun _ => none) 0 (some (a 33))) 1 (some (a 49)))))))), some (a 66, .inl (zZ E, 2, .inl (S 186))), some (a 67, .inr (3, [.ref (a 68), .int (S 129 0), .int (S 130 0), .int (S 131 0), .int (S 132 0), .int (S 133 0), .int (S 134 0), .int (S 135 0), .int (S 136 0), .int (S 137 0), .int (S 138 0), .int (S 139 0)])), some (a 68, .inl (zI E, 400, .inl (S 128))), some (a 69, .inr (4, [.int (S 144 0), .ref (a 70), .ref (a 71), .ref (a 72), .int (S 148 0)])), some (a 70, .inl (zI E, 4, .inl (S 145))), some (a 71, .inl (zI E, 4, .inl (S 146))), some (a 72, .inl (zI E, 4, .inl (S 147))), some (a 73, .inr (4, [.int (S 152 0), .ref (a 74), .ref (a 75), .ref (a 76), .int (S 156 0)])), some (a 74, .inl (zI E, 8, .inl (S 153))), some (a 75, .inl (zI E, 8, .inl (S 154))), some (a 76, .inl (zI E, 8, .inl (S 155))), some (a 77, .inr (0, [.int (S 160 0), .ref (a 78), .ref (a 79), .ref (a 80), .ref (a 81), .ref (a 82), .ref (a 83), .ref (a 88)])), some (a 78, .inl (zI E, 4, .inl (S 161))), some (a 79, .inl (zI E, 4, .inl (S 162))), some (a 80, .inl (zI E, 4, .inl (S 163))), some (a 81, .inl (zI E, 4, .inl (S 164))), some (a 82, .inl (zI E, 4, .inl (S 165))), some (a 83, .inr (2, [.ref (a 84), .ref (a 85), .ref (a 86), .ref (a 87)])), some (a 84, .inl (zI E, 8, .inl (S 168))), some (a 85, .inl (zI E, 8, .inl (S 169))), some (a 86, .inl (zI E, 8, .inl (S 170))), some (a 87, .inl (zI E, 8, .inl (S 171))), some (a 88, .inr (2, [.ref (a 89), .ref (a 90), .ref (a 91), .ref (a 92)])), some (a 89, .inl (zI E, 8, .inl (S 172))), some (a 90, .inl (zI E, 8, .inl (S 173))), some (a 91, .inl (zI E, 8, .inl (S 174))), some (a 92, .inl (zI E, 8, .inl (S 175))), some (a 93, .inr (1, [.ref (a 94), .ref (a 99), .ref (a 100)])), some (a 94, .inl (zII E, 4, .inr (.inr (.inr (.inr (va_up (va_up (va_up (va_up (fun _ => none) 0 (some (a 95))) 1 (some (a 96))) 2 (some (a 97))) 3 (some (a 98)))))))), some (a 95, .inl (zI E, 40, .inl (S 176))), some (a 96, .inl (zI E, 40, .inl (S 177))), some (a 97, .inl (zI E, 40, .inl (S 178))), some (a 98, .inl (zI E, 40, .inl (S 179))), some (a 99, .inl (zI E, 4, .inl (S 180))), some (a 100, .inl (zI E, 4, .inl (S 181))), some (a 33, .inr (5, [.int (S 64 0), .int (S 65 0), .int (S 66 0), .ref (a 34), .ref (a 35), .ref (a 36), .ref (a 37), .int (S 71 0), .ref (a 38), .ref (a 39), .ref (a 40), .int (S 75 0), .ref (a 41), .ref (a 42), .ref (a 43), .ref (a 44)])), some (a 34, .inl (zI E, 14, .inl (S 67))), some (a 35, .inl (zI E, 14, .inl (S 68))), some (a 36, .inl (zI E, 14, .inl (S 69))), some (a 37, .inl (zI E, 14, .inl (S 70))), some (a 38, .inl (zI E, 12, .inl (S 72))), some (a 39, .inl (zI E, 12, .inl (S 73))), some (a 40, .inl (zI E, 12, .inl (S 74))), some (a 41, .inl (zI E, 4, .inl (S 76))), some (a 42, .inl (zI E, 4, .inl (S 77))), some (a 43, .inl (zI E, 4, .inl (S 78))), some (a 44, .inr (2, [.ref (a 45), .ref (a 46), .ref (a 47), .ref (a 48)])), some (a 45, .inl (zI E, 8, .inl (S 80))), some (a 46, .inl (zI E, 8, .inl (S 81))), some (a 47, .inl (zI E, 8, .inl (S 82))), some (a 48, .inl (zI E, 8, .inl (S 83))), some (a 49, .inr (5, [.int (S 96 0), .int (S 97 0), .int (S 98 0), .ref (a 50), .ref (a 51), .ref (a 52), .ref (a 53), .int (S 103 0), .ref (a 54), .ref (a 55), .ref (a 56), .int (S 107 0), .ref (a 57), .ref (a 58), .ref (a 59), .ref (a 60)])), some (a 50, .inl (zI E, 14, .inl (S 99))), some (a 51, .inl (zI E, 14, .inl (S 100))), some (a 52, .inl (zI E, 14, .inl (S 101))), some (a 53, .inl (zI E, 14, .inl (S 102))), some (a 54, .inl (zI E, 12, .inl (S 104))), some (a 55, .inl (zI E, 12, .inl (S 105))), some (a 56, .inl (zI E, 12, .inl (S 106))), some (a 57, .inl (zI E, 4, .inl (S 108))), some (a 58, .inl (zI E, 4, .inl (S 109))), some (a 59, .inl (zI E, 4, .inl (S 110))), some (a 60, .inr (2, [.ref (a 61), .ref (a 62), .ref (a 63), .ref (a 64)])), some (a 61, .inl (zI E, 8, .inl (S 112))), some (a 62, .inl (zI E, 8, .inl (S 113))), some (a 63, .inl (zI E, 8, .inl (S 114))), some (a 64, .inl (zI E, 8, .inl (S 115)))] rfl rfl rfl rfl (by decide +kernel) (by decide +kernel)
set_option maxHeartbeats 4000000 in
theorem wl_X6_later_3 (E : zEnv) (a : Nat → Nat) (S : St) : ([17, 18, 19, 20, 21, 22, 23, 24, 25, 26, 27, 28, 29, 30, 31, 32, 1, 2, 3, 4, 5, 6, 7, 8, 9, 10, 11, 12, 13, 14, 15, 16] : List Nat).map (fun i => (wEA E a S)[i]?) = (wTown2 E (ja 16 (fun k => a (17 + k)) (fun k => a (1 + k))) (jn 32 (sb 32 S) (sb 0 S))).map some := rfl
set_option maxHeartbeats 4000000 in
theorem wl_X6_later_4 (E : zEnv) (a : Nat → Nat) (S U : St) : (wTown2 E (ja 16 (fun k => a (17 + k)) (fun k => a (1 + k))) U).map (fun q => q.1) = (wTown2 E (ja 16 (fun k => a (17 + k)) (fun k => a (1 + k))) S).map (fun q => q.1) := rfl
set_option maxHeartbeats 4000000 in
theorem wl_X6_later_5 (E : zEnv) (a : Nat → Nat) (S U : St) : (wEA E a (pt 0 32 (sb 32 U) (pt 32 32 U S))) = zrep [17, 18, 19, 20, 21, 22, 23, 24, 25, 26, 27, 28, 29, 30, 31, 32, 1, 2, 3, 4, 5, 6, 7, 8, 9, 10, 11, 12, 13, 14, 15, 16] (wTown2 E (ja 16 (fun k => a (17 + k)) (fun k => a (1 + k))) U) (wEA E a S) := zrep_of (isR := [0, 33, 34, 35, 36, 37, 38, 39, 40, 41, 42, 43, 44, 45, 46, 47, 48, 49, 50, 51, 52, 53, 54, 55, 56, 57, 58, 59, 60, 61, 62, 63, 64, 65, 66, 67, 68, 69, 70, 71, 72, 73, 74, 75, 76, 77, 78, 79, 80, 81, 82, 83, 84, 85, 86, 87, 88, 89, 90, 91, 92, 93, 94, 95, 96, 97, 98, 99, 100]) 101 rfl [some (a 0, .inr (6, [.ref (a 1), .ref (a 17), .ref (a 65), .ref (a 66), .ref (a 67), .ref (a 69), .ref (a 73), .ref (a 77), .ref (a 93), .int (S 184 0), .int (S 185 0)])), some (a 65, .inl (zT E, 2, .inr (.inr (.inr (.inr (va_up (va_up (fun _ => none) 0 (some (a 33))) 1 (some (a 49)))))))), some (a 66, .inl (zZ E, 2, .inl (S 186))), some (a 67, .inr (3, [.ref (a 68), .int (S 129 0), .int (S 130 0), .int (S 131 0), .int (S 132 0), .int (S 133 0), .int (S 134 0), .int (S 135 0), .int (S 136 0), .int (S 137 0), .int (S 138 0), .int (S 139 0)])), some (a 68, .inl (zI E, 400, .inl (S 128))), some (a 69, .inr (4, [.int (S 144 0), .ref (a 70), .ref (a 71), .ref (a 72), .int (S 148 0)])), some (a 70, .inl (zI E, 4, .inl (S 145))), some (a 71, .inl (zI E, 4, .inl (S 146))), some (a 72, .inl (zI E, 4, .inl (S 147))), some (a 73, .inr (4, [.int (S 152 0), .ref (a 74), .ref (a 75), .ref (a 76), .int (S 156 0)])), some (a 74, .inl (zI E, 8, .inl (S 153))), some (a 75, .inl (zI E, 8, .inl (S 154))), some (a 76, .inl (zI E, 8, .inl (S 155))), some (a 77, .inr (0, [.int (S 160 0), .ref (a 78), .ref (a 79), .ref (a 80), .ref (a 81), .ref (a 82), .ref (a 83), .ref (a 88)])), some (a 78, .inl (zI E, 4, .inl (S 161))), some (a 79, .inl (zI E, 4, .inl (S 162))), some (a 80, .inl (zI E, 4, .inl (S 163))), some (a 81, .inl (zI E, 4, .inl (S 164))), some (a 82, .inl (zI E, 4, .inl (S 165))), some (a 83, .inr (2, [.ref (a 84), .ref (a 85), .ref (a 86), .ref (a 87)])), some (a 84, .inl (zI E, 8, .inl (S 168))), some (a 85, .inl (zI E, 8, .inl (S 169))), some (a 86, .inl (zI E, 8, .inl (S 170))), some (a 87, .inl (zI E, 8, .inl (S 171))), some (a 88, .inr (2, [.ref (a 89), .ref (a 90), .ref (a 91), .ref (a 92)])), some (a 89, .inl (zI E, 8, .inl (S 172))), some (a 90, .inl (zI E, 8, .inl (S 173))), some (a 91, .inl (zI E, 8, .inl (S 174))), some (a 92, .inl (zI E, 8, .inl (S 175))), some (a 93, .inr (1, [.ref (a 94), .ref (a 99), .ref (a 100)])), some (a 94, .inl (zII E, 4, .inr (.inr (.inr (.inr (va_up (va_up (va_up (va_up (fun _ => none) 0 (some (a 95))) 1 (some (a 96))) 2 (some (a 97))) 3 (some (a 98)))))))), some (a 95, .inl (zI E, 40, .inl (S 176))), some (a 96, .inl (zI E, 40, .inl (S 177))), some (a 97, .inl (zI E, 40, .inl (S 178))), some (a 98, .inl (zI E, 40, .inl (S 179))), some (a 99, .inl (zI E, 4, .inl (S 180))), some (a 100, .inl (zI E, 4, .inl (S 181))), some (a 33, .inr (5, [.int (S 64 0), .int (S 65 0), .int (S 66 0), .ref (a 34), .ref (a 35), .ref (a 36), .ref (a 37), .int (S 71 0), .ref (a 38), .ref (a 39), .ref (a 40), .int (S 75 0), .ref (a 41), .ref (a 42), .ref (a 43), .ref (a 44)])), some (a 34, .inl (zI E, 14, .inl (S 67))), some (a 35, .inl (zI E, 14, .inl (S 68))), some (a 36, .inl (zI E, 14, .inl (S 69))), some (a 37, .inl (zI E, 14, .inl (S 70))), some (a 38, .inl (zI E, 12, .inl (S 72))), some (a 39, .inl (zI E, 12, .inl (S 73))), some (a 40, .inl (zI E, 12, .inl (S 74))), some (a 41, .inl (zI E, 4, .inl (S 76))), some (a 42, .inl (zI E, 4, .inl (S 77))), some (a 43, .inl (zI E, 4, .inl (S 78))), some (a 44, .inr (2, [.ref (a 45), .ref (a 46), .ref (a 47), .ref (a 48)])), some (a 45, .inl (zI E, 8, .inl (S 80))), some (a 46, .inl (zI E, 8, .inl (S 81))), some (a 47, .inl (zI E, 8, .inl (S 82))), some (a 48, .inl (zI E, 8, .inl (S 83))), some (a 49, .inr (5, [.int (S 96 0), .int (S 97 0), .int (S 98 0), .ref (a 50), .ref (a 51), .ref (a 52), .ref (a 53), .int (S 103 0), .ref (a 54), .ref (a 55), .ref (a 56), .int (S 107 0), .ref (a 57), .ref (a 58), .ref (a 59), .ref (a 60)])), some (a 50, .inl (zI E, 14, .inl (S 99))), some (a 51, .inl (zI E, 14, .inl (S 100))), some (a 52, .inl (zI E, 14, .inl (S 101))), some (a 53, .inl (zI E, 14, .inl (S 102))), some (a 54, .inl (zI E, 12, .inl (S 104))), some (a 55, .inl (zI E, 12, .inl (S 105))), some (a 56, .inl (zI E, 12, .inl (S 106))), some (a 57, .inl (zI E, 4, .inl (S 108))), some (a 58, .inl (zI E, 4, .inl (S 109))), some (a 59, .inl (zI E, 4, .inl (S 110))), some (a 60, .inr (2, [.ref (a 61), .ref (a 62), .ref (a 63), .ref (a 64)])), some (a 61, .inl (zI E, 8, .inl (S 112))), some (a 62, .inl (zI E, 8, .inl (S 113))), some (a 63, .inl (zI E, 8, .inl (S 114))), some (a 64, .inl (zI E, 8, .inl (S 115)))] rfl rfl rfl rfl (by decide +kernel) (by decide +kernel)
noncomputable def f_X6_later_98 (x4 : Int32) (x6 : Int32) (S : St) : Option (Int32 × St) := ((f_X6_lastDayOf x6).bind (fun q1 => (if x4 = 0 then ((f_X5_aliveOn q1 (sb 32 S)).bind (fun q2 => (some (q2, S)))) else ((f_X5_allNumbers q1 (S 33 0) (sb 32 S)).bind (fun q3 => (some (q3.1, (pt 32 32 q3.2 S))))))))
noncomputable def f_X6_later_69 (n : Nat) : Int32 → Int32 → Int32 → Int32 → St → Option (Int32 × St) := Nat.rec (motive := fun _ => Int32 → Int32 → Int32 → Int32 → St → Option (Int32 × St)) (fun _ _ _ _ _ => none) (fun _ ih => fun x4 x6 x7 x8 S => (if x6 < x8 then (f_X6_later_98 x4 x6 S) else ((f_X6_lastDayOf x8).bind (fun q4 => ((f_X5_passYearEnd q4 x7 (sb 32 S)).bind (fun q5 => (ih x4 x6 q5.1 (x8 + (1 : Int32)) (pt 32 32 q5.2 S)))))))) n
theorem f_X6_later_69_s (n : Nat) (x4 : Int32) (x6 : Int32) (x7 : Int32) (x8 : Int32) (S : St) : f_X6_later_69 (n + 1) x4 x6 x7 x8 S = (if x6 < x8 then (f_X6_later_98 x4 x6 S) else ((f_X6_lastDayOf x8).bind (fun q4 => ((f_X5_passYearEnd q4 x7 (sb 32 S)).bind (fun q5 => ((f_X6_later_69 n) x4 x6 q5.1 (x8 + (1 : Int32)) (pt 32 32 q5.2 S))))))) := rfl
noncomputable def f_X6_later (x1 : Int32) (x2 : Int32) (x3 : Int32) (x4 : Int32) (S : St) : Option (Int32 × St) := ((f_X6_isDay x2).bind (fun q6 => (if q6 = 0 then (some ((-1 : Int32), S)) else (if x3 < (1 : Int32) then (some ((-1 : Int32), S)) else (if (40 : Int32) < x3 then (some ((-1 : Int32), S)) else (if x4 < 0 then (some ((-1 : Int32), S)) else (if x4 ≤ (1 : Int32) then ((f_X5_copyOf (jn 32 (sb 32 S) (sb 0 S))).bind (fun q7 => (f_X6_later_69 1000 x4 ((zmin ((x2 / (360 : Int32)) + x3) (100 : Int32)) - (1 : Int32)) x1 (x2 / (360 : Int32)) (pt 0 32 (sb 32 q7) (pt 32 32 q7 S))))) else (some ((-1 : Int32), S)))))))))
set_option maxHeartbeats 4000000 in
set_option maxRecDepth 100000 in
theorem L_X6_later_98 {E : zEnv} {Γ : zG} (a : Nat → Nat) (C : zC E Γ cX6_later RX6 9 rm_X6_later wsX6_later) {res : (Int32 × St)} (R : zRi E Γ cX6_later 9 .int (wEA E a res.2) res.1) (x4 : Int32) (x6 : Int32) (S : St) (h : f_X6_later_98 x4 x6 S = some res) : Zt E Γ 9 0 0 (wEA E a S) [(0, .ref (a 0)), (4, .int x4), (6, .int x6)] 98 [] := by
  unfold f_X6_later_98 at h
  refine z_iload C 2 rfl dX6_later_98 ?_
  obtain ⟨q1, e1, h⟩ := bd_e h
  refine z_callSi C (rest := []) (c_X6_lastDayOf E x6 e1) gX6_later_X6_lastDayOf rfl rfl rfl 1 rfl (by decide +kernel) ⟨Nat.le_of_ble_eq_true rfl, Nat.le_of_ble_eq_true rfl⟩ [] rfl (by decide) rfl (wEA E a S) rfl (Nat.le_of_ble_eq_true rfl) dX6_later_100 ⟨Nat.zero_le _, Nat.zero_le _⟩ _ rfl ?_
  refine z_istore C [(8, .int q1), (0, .ref (a 0)), (4, .int x4), (6, .int x6)] (by decide) rfl dX6_later_103 ?_
  refine z_iload C 2 rfl dX6_later_105 ?_
  refine z_if_ne C 122 (by decide) h dX6_later_107 (fun hc h => ?_) (fun hc h => ?_)
  · refine z_aload_n C 1 rfl rfl dX6_later_110 ?_
    refine z_get C 0 rfl (C := RX6) (T := TX6) (N := 11) (ci := 6) rfl inw_X6_later_X6 1 (by decide) (ref := "EldestAge") (List.mem_of_getElem? (i := 1) rfl) rfl (v := .ref (a 17)) rfl dX6_later_111 ?_
    refine z_iload C 0 rfl dX6_later_114 ?_
    obtain ⟨q2, e2, h⟩ := bd_e h
    refine z_callVi C (b := a 17) (As := [.int q1]) (rest := []) (c_X5_aliveOn E (fun k => a (17 + k)) q1 (sb 32 S) e2) rfl gX6_later_X5_aliveOn rfl rfl rfl 1 rfl (by decide +kernel) ⟨Nat.le_of_ble_eq_true rfl, Nat.le_of_ble_eq_true rfl⟩ [17, 18, 19, 20, 21, 22, 23, 24, 25, 26, 27, 28, 29, 30, 31, 32] (wl_X6_later_0 E a S) (by decide) rfl (wEA E a S) (zrep_self (wl_X6_later_0 E a S)) 0 5 rfl rfl rfl (Nat.le_of_ble_eq_true rfl) dX6_later_116 ⟨Nat.zero_le _, Nat.zero_le _⟩ _ rfl ?_
    refine z_goto C 138 (by decide) dX6_later_119 ?_
    obtain rfl := Option.some.inj h
    exact R rfl 138 _ dX6_later_138
  · refine z_aload_n C 1 rfl rfl dX6_later_122 ?_
    refine z_get C 0 rfl (C := RX6) (T := TX6) (N := 11) (ci := 6) rfl inw_X6_later_X6 1 (by decide) (ref := "EldestAge") (List.mem_of_getElem? (i := 1) rfl) rfl (v := .ref (a 17)) rfl dX6_later_123 ?_
    refine z_iload C 0 rfl dX6_later_126 ?_
    refine z_aload_n C 1 rfl rfl dX6_later_128 ?_
    refine z_get C 0 rfl (C := RX6) (T := TX6) (N := 11) (ci := 6) rfl inw_X6_later_X6 1 (by decide) (ref := "EldestAge") (List.mem_of_getElem? (i := 1) rfl) rfl (v := .ref (a 17)) rfl dX6_later_129 ?_
    refine z_get C 17 rfl (C := RX5) (T := TX5) (N := 16) (ci := 5) rfl inw_X6_later_X5 1 (by decide) (ref := "EldestAge$Town") (List.mem_of_getElem? (i := 7) rfl) rfl (v := .int (S 33 0)) rfl dX6_later_132 ?_
    obtain ⟨q3, e3, h⟩ := bd_e h
    refine z_callVi C (b := a 17) (As := [.int q1, .int (S 33 0)]) (rest := []) (c_X5_allNumbers E (fun k => a (17 + k)) q1 (S 33 0) (sb 32 S) e3) rfl gX6_later_X5_allNumbers rfl rfl rfl 2 rfl (by decide +kernel) ⟨Nat.le_of_ble_eq_true rfl, Nat.le_of_ble_eq_true rfl⟩ [17, 18, 19, 20, 21, 22, 23, 24, 25, 26, 27, 28, 29, 30, 31, 32] (wl_X6_later_0 E a S) (by decide) (wl_X6_later_1 E a _ _) (wEA E a (pt 32 32 q3.2 S)) (wl_X6_later_2 E a S q3.2) 0 5 rfl rfl rfl (Nat.le_of_ble_eq_true rfl) dX6_later_135 ⟨Nat.zero_le _, Nat.zero_le _⟩ _ rfl ?_
    obtain rfl := Option.some.inj h
    exact R rfl 138 _ dX6_later_138

set_option maxHeartbeats 4000000 in
set_option maxRecDepth 100000 in
theorem L_X6_later_69 {E : zEnv} {Γ : zG} (a : Nat → Nat) (C : zC E Γ cX6_later RX6 9 rm_X6_later wsX6_later) {res : (Int32 × St)} (R : zRi E Γ cX6_later 9 .int (wEA E a res.2) res.1) : ∀ (n : Nat) (x4 : Int32) (x6 : Int32) (x7 : Int32) (x8 : Int32) (S : St), f_X6_later_69 n x4 x6 x7 x8 S = some res → Zt E Γ 9 0 0 (wEA E a S) [(0, .ref (a 0)), (4, .int x4), (6, .int x6), (7, .int x7), (8, .int x8)] 69 [] := by
  intro n
  induction n with
  | zero =>
    intro x4 x6 x7 x8 S h
    cases h
  | succ n ih =>
    intro x4 x6 x7 x8 S h
    rw [f_X6_later_69_s] at h
    refine z_iload C 4 rfl dX6_later_69 ?_
    refine z_iload C 2 rfl dX6_later_71 ?_
    refine z_icmp_gt C 98 (by decide) h dX6_later_73 (fun hc h => ?_) (fun hc h => ?_)
    · refine Zt_l [(0, .ref (a 0)), (4, .int x4), (6, .int x6)] [0, 1, 2] rfl ?_
      exact L_X6_later_98 a C R x4 x6 S h
    · refine z_aload_n C 0 rfl rfl dX6_later_76 ?_
      refine z_get C 0 rfl (C := RX6) (T := TX6) (N := 11) (ci := 6) rfl inw_X6_later_X6 1 (by decide) (ref := "EldestAge") (List.mem_of_getElem? (i := 1) rfl) rfl (v := .ref (a 17)) rfl dX6_later_77 ?_
      refine z_iload C 4 rfl dX6_later_80 ?_
      obtain ⟨q4, e4, h⟩ := bd_e h
      refine z_callSi C (rest := [.ref (a 17)]) (c_X6_lastDayOf E x8 e4) gX6_later_X6_lastDayOf rfl rfl rfl 1 rfl (by decide +kernel) ⟨Nat.le_of_ble_eq_true rfl, Nat.le_of_ble_eq_true rfl⟩ [] rfl (by decide) rfl (wEA E a S) rfl (Nat.le_of_ble_eq_true rfl) dX6_later_82 ⟨Nat.zero_le _, Nat.zero_le _⟩ _ rfl ?_
      refine z_iload C 3 rfl dX6_later_85 ?_
      obtain ⟨q5, e5, h⟩ := bd_e h
      refine z_callVi C (b := a 17) (As := [.int q4, .int x7]) (rest := []) (c_X5_passYearEnd E (fun k => a (17 + k)) q4 x7 (sb 32 S) e5) rfl gX6_later_X5_passYearEnd rfl rfl rfl 2 rfl (by decide +kernel) ⟨Nat.le_of_ble_eq_true rfl, Nat.le_of_ble_eq_true rfl⟩ [17, 18, 19, 20, 21, 22, 23, 24, 25, 26, 27, 28, 29, 30, 31, 32] (wl_X6_later_0 E a S) (by decide) (wl_X6_later_1 E a _ _) (wEA E a (pt 32 32 q5.2 S)) (wl_X6_later_2 E a S q5.2) 0 5 rfl rfl rfl (Nat.le_of_ble_eq_true rfl) dX6_later_87 ⟨Nat.zero_le _, Nat.zero_le _⟩ _ rfl ?_
      refine z_istore C [(7, .int q5.1), (0, .ref (a 0)), (4, .int x4), (6, .int x6), (8, .int x8)] (by decide) rfl dX6_later_90 ?_
      refine z_iinc C [(8, .int (x8 + (1 : Int32))), (7, .int q5.1), (0, .ref (a 0)), (4, .int x4), (6, .int x6)] 4 rfl (by first | rfl | decide) (by decide) rfl dX6_later_92 ?_
      refine z_goto C 69 (by decide) dX6_later_95 ?_
      refine Zt_l [(0, .ref (a 0)), (4, .int x4), (6, .int x6), (7, .int q5.1), (8, .int (x8 + (1 : Int32)))] [2, 3, 4, 1, 0] rfl ?_
      exact ih x4 x6 q5.1 (x8 + (1 : Int32)) (pt 32 32 q5.2 S) h

set_option maxHeartbeats 4000000 in
set_option maxRecDepth 100000 in
theorem L_X6_later {E : zEnv} {Γ : zG} (a : Nat → Nat) (C : zC E Γ cX6_later RX6 9 rm_X6_later wsX6_later) {res : (Int32 × St)} (R : zRi E Γ cX6_later 9 .int (wEA E a res.2) res.1) (x1 : Int32) (x2 : Int32) (x3 : Int32) (x4 : Int32) (S : St) (h : f_X6_later x1 x2 x3 x4 S = some res) : Zt E Γ 9 0 0 (wEA E a S) [(0, .ref (a 0)), (1, .int x1), (2, .int x2), (3, .int x3), (4, .int x4)] 0 [] := by
  unfold f_X6_later at h
  refine z_iload_n C 2 rfl rfl dX6_later_0 ?_
  obtain ⟨q6, e6, h⟩ := bd_e h
  refine z_callSi C (rest := []) (c_X6_isDay E x2 e6) gX6_later_X6_isDay rfl rfl rfl 1 rfl (by decide +kernel) ⟨Nat.le_of_ble_eq_true rfl, Nat.le_of_ble_eq_true rfl⟩ [] rfl (by decide) rfl (wEA E a S) rfl (Nat.le_of_ble_eq_true rfl) dX6_later_1 ⟨Nat.zero_le _, Nat.zero_le _⟩ _ rfl ?_
  refine z_if_eq C 29 (by decide) h dX6_later_4 (fun hc h => ?_) (fun hc h => ?_)
  · refine z_iconst C (v := (-1 : Int32)) (by decide) dX6_later_29 ?_
    obtain rfl := Option.some.inj h
    exact R rfl 30 _ dX6_later_30
  · refine z_iload_n C 3 rfl rfl dX6_later_7 ?_
    refine z_iconst C (v := (1 : Int32)) (by decide) dX6_later_8 ?_
    refine z_icmp_lt C 29 (by decide) h dX6_later_9 (fun hc h => ?_) (fun hc h => ?_)
    · refine z_iconst C (v := (-1 : Int32)) (by decide) dX6_later_29 ?_
      obtain rfl := Option.some.inj h
      exact R rfl 30 _ dX6_later_30
    · refine z_iload_n C 3 rfl rfl dX6_later_12 ?_
      refine z_bipush C (v := (40 : Int32)) (by decide) dX6_later_13 ?_
      refine z_icmp_gt C 29 (by decide) h dX6_later_15 (fun hc h => ?_) (fun hc h => ?_)
      · refine z_iconst C (v := (-1 : Int32)) (by decide) dX6_later_29 ?_
        obtain rfl := Option.some.inj h
        exact R rfl 30 _ dX6_later_30
      · refine z_iload C 4 rfl dX6_later_18 ?_
        refine z_if_lt C 29 (by decide) h dX6_later_20 (fun hc h => ?_) (fun hc h => ?_)
        · refine z_iconst C (v := (-1 : Int32)) (by decide) dX6_later_29 ?_
          obtain rfl := Option.some.inj h
          exact R rfl 30 _ dX6_later_30
        · refine z_iload C 4 rfl dX6_later_23 ?_
          refine z_iconst C (v := (1 : Int32)) (by decide) dX6_later_25 ?_
          refine z_icmp_le C 31 (by decide) h dX6_later_26 (fun hc h => ?_) (fun hc h => ?_)
          · refine z_aload_n C 0 rfl rfl dX6_later_31 ?_
            refine z_get C 0 rfl (C := RX6) (T := TX6) (N := 11) (ci := 6) rfl inw_X6_later_X6 1 (by decide) (ref := "EldestAge") (List.mem_of_getElem? (i := 1) rfl) rfl (v := .ref (a 17)) rfl dX6_later_32 ?_
            refine z_aload_n C 0 rfl rfl dX6_later_35 ?_
            refine z_get C 0 rfl (C := RX6) (T := TX6) (N := 11) (ci := 6) rfl inw_X6_later_X6 0 (by decide) (ref := "EldestAge") (List.mem_of_getElem? (i := 2) rfl) rfl (v := .ref (a 1)) rfl dX6_later_36 ?_
            obtain ⟨q7, e7, h⟩ := bd_e h
            refine z_callVv C (b := a 17) (As := [.ref (a 1)]) (rest := []) (c_X5_copyOf E (ja 16 (fun k => a (17 + k)) (fun k => a (1 + k))) (jn 32 (sb 32 S) (sb 0 S)) e7) rfl gX6_later_X5_copyOf rfl rfl rfl 1 rfl (by decide +kernel) ⟨Nat.le_of_ble_eq_true rfl, Nat.le_of_ble_eq_true rfl⟩ [17, 18, 19, 20, 21, 22, 23, 24, 25, 26, 27, 28, 29, 30, 31, 32, 1, 2, 3, 4, 5, 6, 7, 8, 9, 10, 11, 12, 13, 14, 15, 16] (wl_X6_later_3 E a S) (by decide) (wl_X6_later_4 E a _ _) (wEA E a (pt 0 32 (sb 32 q7) (pt 32 32 q7 S))) (wl_X6_later_5 E a S q7) 0 5 rfl rfl rfl (Nat.le_of_ble_eq_true rfl) dX6_later_39 ⟨Nat.zero_le _, Nat.zero_le _⟩ _ rfl ?_
            refine z_iload_n C 2 rfl rfl dX6_later_42 ?_
            refine z_sipush C (v := (360 : Int32)) (by decide) dX6_later_43 ?_
            refine z_idiv C (by decide) dX6_later_46 ?_
            refine z_istore C [(5, .int (x2 / (360 : Int32))), (0, .ref (a 0)), (1, .int x1), (2, .int x2), (3, .int x3), (4, .int x4)] (by decide) rfl dX6_later_47 ?_
            refine z_iload C 0 rfl dX6_later_49 ?_
            refine z_iload_n C 4 rfl rfl dX6_later_51 ?_
            refine z_iadd C dX6_later_52 ?_
            refine z_bipush C (v := (100 : Int32)) (by decide) dX6_later_53 ?_
            refine z_min C (List.mem_of_getElem? (i := 3) rfl) (List.mem_of_getElem? (i := 4) rfl) (List.mem_of_getElem? (i := 5) rfl) (List.mem_of_getElem? (i := 6) rfl) (Nat.le_of_ble_eq_true rfl) (Nat.le_of_ble_eq_true rfl) (Nat.zero_le _) (Nat.zero_le _) dX6_later_55 ?_
            refine z_iconst C (v := (1 : Int32)) (by decide) dX6_later_58 ?_
            refine z_isub C dX6_later_59 ?_
            refine z_istore C [(6, .int ((zmin ((x2 / (360 : Int32)) + x3) (100 : Int32)) - (1 : Int32))), (5, .int (x2 / (360 : Int32))), (0, .ref (a 0)), (1, .int x1), (2, .int x2), (3, .int x3), (4, .int x4)] (by decide) rfl dX6_later_60 ?_
            refine z_iload_n C 3 rfl rfl dX6_later_62 ?_
            refine z_istore C [(7, .int x1), (6, .int ((zmin ((x2 / (360 : Int32)) + x3) (100 : Int32)) - (1 : Int32))), (5, .int (x2 / (360 : Int32))), (0, .ref (a 0)), (1, .int x1), (2, .int x2), (3, .int x3), (4, .int x4)] (by decide) rfl dX6_later_63 ?_
            refine z_iload C 2 rfl dX6_later_65 ?_
            refine z_istore C [(8, .int (x2 / (360 : Int32))), (7, .int x1), (6, .int ((zmin ((x2 / (360 : Int32)) + x3) (100 : Int32)) - (1 : Int32))), (5, .int (x2 / (360 : Int32))), (0, .ref (a 0)), (1, .int x1), (2, .int x2), (3, .int x3), (4, .int x4)] (by decide) rfl dX6_later_67 ?_
            refine Zt_l [(0, .ref (a 0)), (4, .int x4), (6, .int ((zmin ((x2 / (360 : Int32)) + x3) (100 : Int32)) - (1 : Int32))), (7, .int x1), (8, .int (x2 / (360 : Int32)))] [4, 8, 2, 1, 0] rfl ?_
            exact L_X6_later_69 a C R 1000 x4 ((zmin ((x2 / (360 : Int32)) + x3) (100 : Int32)) - (1 : Int32)) x1 (x2 / (360 : Int32)) (pt 0 32 (sb 32 q7) (pt 32 32 q7 S)) h
          · refine z_iconst C (v := (-1 : Int32)) (by decide) dX6_later_29 ?_
            obtain rfl := Option.some.inj h
            exact R rfl 30 _ dX6_later_30

theorem c_X6_later (E : zEnv) (a : Nat → Nat) (x1 : Int32) (x2 : Int32) (x3 : Int32) (x4 : Int32) (S : St) {res : (Int32 × St)} (h : f_X6_later x1 x2 x3 x4 S = some res) : Kti E yX6_later wsX6_later rm_X6_later (wEA E a S) (wEA E a res.2) [.ref (a 0), .int x1, .int x2, .int x3, .int x4] res.1 :=
  z_enti (cc := cX6_later) (maxL := 9) (rt := .int) (by decide +kernel) rfl (Nat.le_of_ble_eq_true rfl) (fun Γ C R => L_X6_later a C R x1 x2 x3 x4 S h)
