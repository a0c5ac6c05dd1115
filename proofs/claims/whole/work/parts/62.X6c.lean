abbrev rm_X6_can : Room := { frames := 4, cells := 0, slots := 0, locals := 91 }
theorem inw_X6_can_X6 : ∀ w ∈ wsX60, w ∈ wsX6_can := fun _ h => List.mem_cons_of_mem _ (List.mem_append_left _ (List.mem_append_left _ (List.mem_append_right _ h)))
theorem inw_X6_can_X5 : ∀ w ∈ wsX50, w ∈ wsX6_can := fun _ h => List.mem_cons_of_mem _ (List.mem_append_left _ (List.mem_append_right _ h))
theorem inw_X6_can_X2 : ∀ w ∈ wsX20, w ∈ wsX6_can := fun _ h => List.mem_cons_of_mem _ (List.mem_append_right _ h)
set_option maxHeartbeats 4000000 in
theorem wl_X6_can_0 (E : zEnv) (a : Nat → Nat) (S : St) : ([17, 18, 19, 20, 21, 22, 23, 24, 25, 26, 27, 28, 29, 30, 31, 32, 1, 2, 3, 4, 5, 6, 7, 8, 9, 10, 11, 12, 13, 14, 15, 16] : List Nat).map (fun i => (wEA E a S)[i]?) = (wTown2 E (ja 16 (fun k => a (17 + k)) (fun k => a (1 + k))) (jn 32 (sb 32 S) (sb 0 S))).map some := rfl
set_option maxHeartbeats 4000000 in
theorem wl_X6_can_1 (E : zEnv) (a : Nat → Nat) (S U : St) : (wTown2 E (ja 16 (fun k => a (17 + k)) (fun k => a (1 + k))) U).map (fun q => q.1) = (wTown2 E (ja 16 (fun k => a (17 + k)) (fun k => a (1 + k))) S).map (fun q => q.1) := rfl
set_option maxHeartbeats 4000000 in
theorem wl_X6_can_2 (E : zEnv) (a : Nat → Nat) (S U : St) : (wEA E a (pt 0 32 (sb 32 U) (pt 32 32 U S))) = zrep [17, 18, 19, 20, 21, 22, 23, 24, 25, 26, 27, 28, 29, 30, 31, 32, 1, 2, 3, 4, 5, 6, 7, 8, 9, 10, 11, 12, 13, 14, 15, 16] (wTown2 E (ja 16 (fun k => a (17 + k)) (fun k => a (1 + k))) U) (wEA E a S) := zrep_of (isR := [0, 33, 34, 35, 36, 37, 38, 39, 40, 41, 42, 43, 44, 45, 46, 47, 48, 49, 50, 51, 52, 53, 54, 55, 56, 57, 58, 59, 60, 61, 62, 63, 64, 65, 66, 67, 68, 69, 70, 71, 72, 73, 74, 75, 76, 77, 78, 79, 80, 81, 82, 83, 84, 85, 86, 87, 88, 89, 90, 91, 92, 93, 94, 95, 96, 97, 98, 99, 100]) 101 rfl [some (a 0, .inr (6, [.ref (a 1), .ref (a 17), .ref (a 65), .ref (a 66), .ref (a 67), .ref (a 69), .ref (a 73), .ref (a 77), .ref (a 93), .int (S 184 0), .int (S 185 0)])), some (a 65, .inl (zT E, 2, .inr (.inr (.inr (.inr (va_up (va_up (fun _ => none) 0 (some (a 33))) 1 (some (a 49)))))))), some (a 66, .inl (zZ E, 2, .inl (S 186))), some (a 67, .inr (3, [.ref (a 68), .int (S 129 0), .int (S 130 0), .int (S 131 0), .int (S 132 0), .int (S 133 0), .int (S 134 0), .int (S 135 0), .int (S 136 0), .int (S 137 0), .int (S 138 0), .int (S 139 0)])), some (a 68, .inl (zI E, 400, .inl (S 128))), some (a 69, .inr (4, [.int (S 144 0), .ref (a 70), .ref (a 71), .ref (a 72), .int (S 148 0)])), some (a 70, .inl (zI E, 4, .inl (S 145))), some (a 71, .inl (zI E, 4, .inl (S 146))), some (a 72, .inl (zI E, 4, .inl (S 147))), some (a 73, .inr (4, [.int (S 152 0), .ref (a 74), .ref (a 75), .ref (a 76), .int (S 156 0)])), some (a 74, .inl (zI E, 8, .inl (S 153))), some (a 75, .inl (zI E, 8, .inl (S 154))), some (a 76, .inl (zI E, 8, .inl (S 155))), some (a 77, .inr (0, [.int (S 160 0), .ref (a 78), .ref (a 79), .ref (a 80), .ref (a 81), .ref (a 82), .ref (a 83), .ref (a 88)])), some (a 78, .inl (zI E, 4, .inl (S 161))), some (a 79, .inl (zI E, 4, .inl (S 162))), some (a 80, .inl (zI E, 4, .inl (S 163))), some (a 81, .inl (zI E, 4, .inl (S 164))), some (a 82, .inl (zI E, 4, .inl (S 165))), some (a 83, .inr (2, [.ref (a 84), .ref (a 85), .ref (a 86), .ref (a 87)])), some (a 84, .inl (zI E, 8, .inl (S 168))), some (a 85, .inl (zI E, 8, .inl (S 169))), some (a 86, .inl (zI E, 8, .inl (S 170))), some (a 87, .inl (zI E, 8, .inl (S 171))), some (a 88, .inr (2, [.ref (a 89), .ref (a 90), .ref (a 91), .ref (a 92)])), some (a 89, .inl (zI E, 8, .inl (S 172))), some (a 90, .inl (zI E, 8, .inl (S 173))), some (a 91, .inl (zI E, 8, .inl (S 174))), some (a 92, .inl (zI E, 8, .inl (S 175))), some (a 93, .inr (1, [.ref (a 94), .ref (a 99), .ref (a 100)])), some (a 94, .inl (zII E, 4, .inr (.inr (.inr (.inr (va_up (va_up (va_up (va_up (fun _ => none) 0 (some (a 95))) 1 (some (a 96))) 2 (some (a 97))) 3 (some (a 98)))))))), some (a 95, .inl (zI E, 40, .inl (S 176))), some (a 96, .inl (zI E, 40, .inl (S 177))), some (a 97, .inl (zI E, 40, .inl (S 178))), some (a 98, .inl (zI E, 40, .inl (S 179))), some (a 99, .inl (zI E, 4, .inl (S 180))), some (a 100, .inl (zI E, 4, .inl (S 181))), some (a 33, .inr (5, [.int (S 64 0), .int (S 65 0), .int (S 66 0), .ref (a 34), .ref (a 35), .ref (a 36), .ref (a 37), .int (S 71 0), .ref (a 38), .ref (a 39), .ref (a 40), .int (S 75 0), .ref (a 41), .ref (a 42), .ref (a 43), .ref (a 44)])), some (a 34, .inl (zI E, 14, .inl (S 67))), some (a 35, .inl (zI E, 14, .inl (S 68))), some (a 36, .inl (zI E, 14, .inl (S 69))), some (a 37, .inl (zI E, 14, .inl (S 70))), some (a 38, .inl (zI E, 12, .inl (S 72))), some (a 39, .inl (zI E, 12, .inl (S 73))), some (a 40, .inl (zI E, 12, .inl (S 74))), some (a 41, .inl (zI E, 4, .inl (S 76))), some (a 42, .inl (zI E, 4, .inl (S 77))), some (a 43, .inl (zI E, 4, .inl (S 78))), some (a 44, .inr (2, [.ref (a 45), .ref (a 46), .ref (a 47), .ref (a 48)])), some (a 45, .inl (zI E, 8, .inl (S 80))), some (a 46, .inl (zI E, 8, .inl (S 81))), some (a 47, .inl (zI E, 8, .inl (S 82))), some (a 48, .inl (zI E, 8, .inl (S 83))), some (a 49, .inr (5, [.int (S 96 0), .int (S 97 0), .int (S 98 0), .ref (a 50), .ref (a 51), .ref (a 52), .ref (a 53), .int (S 103 0), .ref (a 54), .ref (a 55), .ref (a 56), .int (S 107 0), .ref (a 57), .ref (a 58), .ref (a 59), .ref (a 60)])), some (a 50, .inl (zI E, 14, .inl (S 99))), some (a 51, .inl (zI E, 14, .inl (S 100))), some (a 52, .inl (zI E, 14, .inl (S 101))), some (a 53, .inl (zI E, 14, .inl (S 102))), some (a 54, .inl (zI E, 12, .inl (S 104))), some (a 55, .inl (zI E, 12, .inl (S 105))), some (a 56, .inl (zI E, 12, .inl (S 106))), some (a 57, .inl (zI E, 4, .inl (S 108))), some (a 58, .inl (zI E, 4, .inl (S 109))), some (a 59, .inl (zI E, 4, .inl (S 110))), some (a 60, .inr (2, [.ref (a 61), .ref (a 62), .ref (a 63), .ref (a 64)])), some (a 61, .inl (zI E, 8, .inl (S 112))), some (a 62, .inl (zI E, 8, .inl (S 113))), some (a 63, .inl (zI E, 8, .inl (S 114))), some (a 64, .inl (zI E, 8, .inl (S 115)))] rfl rfl rfl rfl (by decide +kernel) (by decide +kernel)
set_option maxHeartbeats 4000000 in
theorem wl_X6_can_3 (E : zEnv) (a : Nat → Nat) (S : St) : ([17, 18, 19, 20, 21, 22, 23, 24, 25, 26, 27, 28, 29, 30, 31, 32] : List Nat).map (fun i => (wEA E a S)[i]?) = (wTown E (fun k => a (17 + k)) (sb 32 S)).map some := rfl
set_option maxHeartbeats 4000000 in
theorem wl_X6_can_4 (E : zEnv) (a : Nat → Nat) (S U : St) : (wTown E (fun k => a (17 + k)) U).map (fun q => q.1) = (wTown E (fun k => a (17 + k)) S).map (fun q => q.1) := rfl
set_option maxHeartbeats 4000000 in
theorem wl_X6_can_5 (E : zEnv) (a : Nat → Nat) (S U : St) : (wEA E a (pt 32 32 U S)) = zrep [17, 18, 19, 20, 21, 22, 23, 24, 25, 26, 27, 28, 29, 30, 31, 32] (wTown E (fun k => a (17 + k)) U) (wEA E a S) := zrep_of (isR := [0, 1, 2, 3, 4, 5, 6, 7, 8, 9, 10, 11, 12, 13, 14, 15, 16, 33, 34, 35, 36, 37, 38, 39, 40, 41, 42, 43, 44, 45, 46, 47, 48, 49, 50, 51, 52, 53, 54, 55, 56, 57, 58, 59, 60, 61, 62, 63, 64, 65, 66, 67, 68, 69, 70, 71, 72, 73, 74, 75, 76, 77, 78, 79, 80, 81, 82, 83, 84, 85, 86, 87, 88, 89, 90, 91, 92, 93, 94, 95, 96, 97, 98, 99, 100]) 101 rfl [some (a 0, .inr (6, [.ref (a 1), .ref (a 17), .ref (a 65), .ref (a 66), .ref (a 67), .ref (a 69), .ref (a 73), .ref (a 77), .ref (a 93), .int (S 184 0), .int (S 185 0)])), some (a 1, .inr (5, [.int (S 0 0), .int (S 1 0), .int (S 2 0), .ref (a 2), .ref (a 3), .ref (a 4), .ref (a 5), .int (S 7 0), .ref (a 6), .ref (a 7), .ref (a 8), .int (S 11 0), .ref (a 9), .ref (a 10), .ref (a 11), .ref (a 12)])), some (a 2, .inl (zI E, 14, .inl (S 3))), some (a 3, .inl (zI E, 14, .inl (S 4))), some (a 4, .inl (zI E, 14, .inl (S 5))), some (a 5, .inl (zI E, 14, .inl (S 6))), some (a 6, .inl (zI E, 12, .inl (S 8))), some (a 7, .inl (zI E, 12, .inl (S 9))), some (a 8, .inl (zI E, 12, .inl (S 10))), some (a 9, .inl (zI E, 4, .inl (S 12))), some (a 10, .inl (zI E, 4, .inl (S 13))), some (a 11, .inl (zI E, 4, .inl (S 14))), some (a 12, .inr (2, [.ref (a 13), .ref (a 14), .ref (a 15), .ref (a 16)])), some (a 13, .inl (zI E, 8, .inl (S 16))), some (a 14, .inl (zI E, 8, .inl (S 17))), some (a 15, .inl (zI E, 8, .inl (S 18))), some (a 16, .inl (zI E, 8, .inl (S 19))), some (a 65, .inl (zT E, 2, .inr (.inr (.inr (.inr (va_up (va_up (fun _ => none) 0 (some (a 33))) 1 (some (a 49)))))))), some (a 66, .inl (zZ E, 2, .inl (S 186))), some (a 67, .inr (3, [.ref (a 68), .int (S 129 0), .int (S 130 0), .int (S 131 0), .int (S 132 0), .int (S 133 0), .int (S 134 0), .int (S 135 0), .int (S 136 0), .int (S 137 0), .int (S 138 0), .int (S 139 0)])), some (a 68, .inl (zI E, 400, .inl (S 128))), some (a 69, .inr (4, [.int (S 144 0), .ref (a 70), .ref (a 71), .ref (a 72), .int (S 148 0)])), some (a 70, .inl (zI E, 4, .inl (S 145))), some (a 71, .inl (zI E, 4, .inl (S 146))), some (a 72, .inl (zI E, 4, .inl (S 147))), some (a 73, .inr (4, [.int (S 152 0), .ref (a 74), .ref (a 75), .ref (a 76), .int (S 156 0)])), some (a 74, .inl (zI E, 8, .inl (S 153))), some (a 75, .inl (zI E, 8, .inl (S 154))), some (a 76, .inl (zI E, 8, .inl (S 155))), some (a 77, .inr (0, [.int (S 160 0), .ref (a 78), .ref (a 79), .ref (a 80), .ref (a 81), .ref (a 82), .ref (a 83), .ref (a 88)])), some (a 78, .inl (zI E, 4, .inl (S 161))), some (a 79, .inl (zI E, 4, .inl (S 162))), some (a 80, .inl (zI E, 4, .inl (S 163))), some (a 81, .inl (zI E, 4, .inl (S 164))), some (a 82, .inl (zI E, 4, .inl (S 165))), some (a 83, .inr (2, [.ref (a 84), .ref (a 85), .ref (a 86), .ref (a 87)])), some (a 84, .inl (zI E, 8, .inl (S 168))), some (a 85, .inl (zI E, 8, .inl (S 169))), some (a 86, .inl (zI E, 8, .inl (S 170))), some (a 87, .inl (zI E, 8, .inl (S 171))), some (a 88, .inr (2, [.ref (a 89), .ref (a 90), .ref (a 91), .ref (a 92)])), some (a 89, .inl (zI E, 8, .inl (S 172))), some (a 90, .inl (zI E, 8, .inl (S 173))), some (a 91, .inl (zI E, 8, .inl (S 174))), some (a 92, .inl (zI E, 8, .inl (S 175))), some (a 93, .inr (1, [.ref (a 94), .ref (a 99), .ref (a 100)])), some (a 94, .inl (zII E, 4, .inr (.inr (.inr (.inr (va_up (va_up (va_up (va_up (fun _ => none) 0 (some (a 95))) 1 (some (a 96))) 2 (some (a 97))) 3 (some (a 98)))))))), some (a 95, .inl (zI E, 40, .inl (S 176))), some (a 96, .inl (zI E, 40, .inl (S 177))), some (a 97, .inl (zI E, 40, .inl (S 178))), some (a 98, .inl (zI E, 40, .inl (S 179))), some (a 99, .inl (zI E, 4, .inl (S 180))), some (a 100, .inl (zI E, 4, .inl (S 181))), some (a 33, .inr (5, [.int (S 64 0), .int (S 65 0), .int (S 66 0), .ref (a 34), .ref (a 35), .ref (a 36), .ref (a 37), .int (S 71 0), .ref (a 38), .ref (a 39), .ref (a 40), .int (S 75 0), .ref (a 41), .ref (a 42), .ref (a 43), .ref (a 44)])), some (a 34, .inl (zI E, 14, .inl (S 67))), some (a 35, .inl (zI E, 14, .inl (S 68))), some (a 36, .inl (zI E, 14, .inl (S 69))), some (a 37, .inl (zI E, 14, .inl (S 70))), some (a 38, .inl (zI E, 12, .inl (S 72))), some (a 39, .inl (zI E, 12, .inl (S 73))), some (a 40, .inl (zI E, 12, .inl (S 74))), some (a 41, .inl (zI E, 4, .inl (S 76))), some (a 42, .inl (zI E, 4, .inl (S 77))), some (a 43, .inl (zI E, 4, .inl (S 78))), some (a 44, .inr (2, [.ref (a 45), .ref (a 46), .ref (a 47), .ref (a 48)])), some (a 45, .inl (zI E, 8, .inl (S 80))), some (a 46, .inl (zI E, 8, .inl (S 81))), some (a 47, .inl (zI E, 8, .inl (S 82))), some (a 48, .inl (zI E, 8, .inl (S 83))), some (a 49, .inr (5, [.int (S 96 0), .int (S 97 0), .int (S 98 0), .ref (a 50), .ref (a 51), .ref (a 52), .ref (a 53), .int (S 103 0), .ref (a 54), .ref (a 55), .ref (a 56), .int (S 107 0), .ref (a 57), .ref (a 58), .ref (a 59), .ref (a 60)])), some (a 50, .inl (zI E, 14, .inl (S 99))), some (a 51, .inl (zI E, 14, .inl (S 100))), some (a 52, .inl (zI E, 14, .inl (S 101))), some (a 53, .inl (zI E, 14, .inl (S 102))), some (a 54, .inl (zI E, 12, .inl (S 104))), some (a 55, .inl (zI E, 12, .inl (S 105))), some (a 56, .inl (zI E, 12, .inl (S 106))), some (a 57, .inl (zI E, 4, .inl (S 108))), some (a 58, .inl (zI E, 4, .inl (S 109))), some (a 59, .inl (zI E, 4, .inl (S 110))), some (a 60, .inr (2, [.ref (a 61), .ref (a 62), .ref (a 63), .ref (a 64)])), some (a 61, .inl (zI E, 8, .inl (S 112))), some (a 62, .inl (zI E, 8, .inl (S 113))), some (a 63, .inl (zI E, 8, .inl (S 114))), some (a 64, .inl (zI E, 8, .inl (S 115)))] rfl rfl rfl rfl (by decide +kernel) (by decide +kernel)
set_option maxHeartbeats 4000000 in
theorem wl_X6_can_6 (E : zEnv) (a : Nat → Nat) (S : St) : ([1, 2, 3, 4, 5, 6, 7, 8, 9, 10, 11, 12, 13, 14, 15, 16] : List Nat).map (fun i => (wEA E a S)[i]?) = (wTown E (fun k => a (1 + k)) (sb 0 S)).map some := rfl
set_option maxHeartbeats 4000000 in
theorem wl_X6_can_7 (E : zEnv) (a : Nat → Nat) (S U : St) : (wTown E (fun k => a (1 + k)) U).map (fun q => q.1) = (wTown E (fun k => a (1 + k)) S).map (fun q => q.1) := rfl
noncomputable def f_X6_can_140 (k64 : Int32 → Int32 → Int32 → Int32 → Int32 → Int32 → Int32 → Int32 → St → Option (Int32 × St)) (x1 : Int32) (x2 : Int32) (x3 : Int32) (x4 : Int32) (x5 : Int32) (x6 : Int32) (x7 : Int32) (x8 : Int32) (S : St) : Option (Int32 × St) := (k64 x1 x2 x3 x4 x5 x6 x7 (x8 + (1 : Int32)) S)
noncomputable def f_X6_can_129 (k64 : Int32 → Int32 → Int32 → Int32 → Int32 → Int32 → Int32 → Int32 → St → Option (Int32 × St)) (x1 : Int32) (x2 : Int32) (x3 : Int32) (x4 : Int32) (x6 : Int32) (x7 : Int32) (x8 : Int32) (x9 : Int32) (y0 : Int32) (S : St) : Option (Int32 × St) := (f_X6_can_140 k64 x1 x2 x3 x4 y0 (zmax x6 x9) x7 x8 S)
noncomputable def f_X6_can_146 (x3 : Int32) (x5 : Int32) (x6 : Int32) (x7 : Int32) (S : St) : Option (Int32 × St) := (if x3 = (2 : Int32) then (some (x7, S)) else (if x3 = 0 then (some (x5, S)) else (some (x6, S))))
noncomputable def f_X6_can_64 (n : Nat) : Int32 → Int32 → Int32 → Int32 → Int32 → Int32 → Int32 → Int32 → St → Option (Int32 × St) := Nat.rec (motive := fun _ => Int32 → Int32 → Int32 → Int32 → Int32 → Int32 → Int32 → Int32 → St → Option (Int32 × St)) (fun _ _ _ _ _ _ _ _ _ => none) (fun _ ih => fun x1 x2 x3 x4 x5 x6 x7 x8 S => (if x4 ≤ x8 then (f_X6_can_146 x3 x5 x6 x7 S) else ((f_X5_chooseBirths x1 x2 x8 (jn 32 (sb 32 S) (sb 0 S))).bind (fun q1 => ((f_X5_numberOf x1 x2 (sb 32 (pt 0 32 (sb 32 q1) (pt 32 32 q1 S)))).bind (fun q2 => (if q2.1 = (-4 : Int32) then (f_X6_can_140 ih x1 x2 x3 x4 x5 x6 (1 : Int32) x8 (pt 32 32 q2.2 (pt 0 32 (sb 32 q1) (pt 32 32 q1 S)))) else (if x5 = (-4 : Int32) then (f_X6_can_129 ih x1 x2 x3 x4 x6 x7 x8 q2.1 q2.1 (pt 32 32 q2.2 (pt 0 32 (sb 32 q1) (pt 32 32 q1 S)))) else (f_X6_can_129 ih x1 x2 x3 x4 x6 x7 x8 q2.1 (zmin x5 q2.1) (pt 32 32 q2.2 (pt 0 32 (sb 32 q1) (pt 32 32 q1 S)))))))))))) n
theorem f_X6_can_64_s (n : Nat) (x1 : Int32) (x2 : Int32) (x3 : Int32) (x4 : Int32) (x5 : Int32) (x6 : Int32) (x7 : Int32) (x8 : Int32) (S : St) : f_X6_can_64 (n + 1) x1 x2 x3 x4 x5 x6 x7 x8 S = (if x4 ≤ x8 then (f_X6_can_146 x3 x5 x6 x7 S) else ((f_X5_chooseBirths x1 x2 x8 (jn 32 (sb 32 S) (sb 0 S))).bind (fun q1 => ((f_X5_numberOf x1 x2 (sb 32 (pt 0 32 (sb 32 q1) (pt 32 32 q1 S)))).bind (fun q2 => (if q2.1 = (-4 : Int32) then (f_X6_can_140 (f_X6_can_64 n) x1 x2 x3 x4 x5 x6 (1 : Int32) x8 (pt 32 32 q2.2 (pt 0 32 (sb 32 q1) (pt 32 32 q1 S)))) else (if x5 = (-4 : Int32) then (f_X6_can_129 (f_X6_can_64 n) x1 x2 x3 x4 x6 x7 x8 q2.1 q2.1 (pt 32 32 q2.2 (pt 0 32 (sb 32 q1) (pt 32 32 q1 S)))) else (f_X6_can_129 (f_X6_can_64 n) x1 x2 x3 x4 x6 x7 x8 q2.1 (zmin x5 q2.1) (pt 32 32 q2.2 (pt 0 32 (sb 32 q1) (pt 32 32 q1 S))))))))))) := rfl
noncomputable def f_X6_can (x1 : Int32) (x2 : Int32) (x3 : Int32) (S : St) : Option (Int32 × St) := ((f_X5_isHouse x1 (sb 0 S)).bind (fun q3 => (if q3 = 0 then (some ((-1 : Int32), S)) else ((f_X6_isDay x2).bind (fun q4 => (if q4 = 0 then (some ((-1 : Int32), S)) else (if x3 < 0 then (some ((-1 : Int32), S)) else (if x3 ≤ (2 : Int32) then ((f_X5_copyOf (jn 32 (sb 32 S) (sb 0 S))).bind (fun q5 => ((f_X5_bearExpected x1 (sb 32 (pt 0 32 (sb 32 q5) (pt 32 32 q5 S)))).bind (fun q6 => (f_X6_can_64 1000 x1 x2 x3 q6.1 (-4 : Int32) (-4 : Int32) (0 : Int32) (0 : Int32) (pt 32 32 q6.2 (pt 0 32 (sb 32 q5) (pt 32 32 q5 S)))))))) else (some ((-1 : Int32), S))))))))))
set_option maxHeartbeats 4000000 in
set_option maxRecDepth 100000 in
theorem L_X6_can_140 {E : zEnv} {Γ : zG} (a : Nat → Nat) (C : zC E Γ cX6_can RX6 10 rm_X6_can wsX6_can) {res : (Int32 × St)} (R : zRi E Γ cX6_can 10 .int (wEA E a res.2) res.1) (k64 : Int32 → Int32 → Int32 → Int32 → Int32 → Int32 → Int32 → Int32 → St → Option (Int32 × St)) (hk64 : ∀ (x1 : Int32) (x2 : Int32) (x3 : Int32) (x4 : Int32) (x5 : Int32) (x6 : Int32) (x7 : Int32) (x8 : Int32) (S : St), k64 x1 x2 x3 x4 x5 x6 x7 x8 S = some res → Zt E Γ 10 0 0 (wEA E a S) [(0, .ref (a 0)), (1, .int x1), (2, .int x2), (3, .int x3), (4, .int x4), (5, .int x5), (6, .int x6), (7, .int x7), (8, .int x8)] 64 []) (x1 : Int32) (x2 : Int32) (x3 : Int32) (x4 : Int32) (x5 : Int32) (x6 : Int32) (x7 : Int32) (x8 : Int32) (S : St) (h : f_X6_can_140 k64 x1 x2 x3 x4 x5 x6 x7 x8 S = some res) : Zt E Γ 10 0 0 (wEA E a S) [(0, .ref (a 0)), (1, .int x1), (2, .int x2), (3, .int x3), (4, .int x4), (5, .int x5), (6, .int x6), (7, .int x7), (8, .int x8)] 140 [] := by
  unfold f_X6_can_140 at h
  refine z_iinc C [(8, .int (x8 + (1 : Int32))), (0, .ref (a 0)), (1, .int x1), (2, .int x2), (3, .int x3), (4, .int x4), (5, .int x5), (6, .int x6), (7, .int x7)] 8 rfl (by first | rfl | decide) (by decide) rfl dX6_can_140 ?_
  refine z_goto C 64 (by decide) dX6_can_143 ?_
  refine Zt_l [(0, .ref (a 0)), (1, .int x1), (2, .int x2), (3, .int x3), (4, .int x4), (5, .int x5), (6, .int x6), (7, .int x7), (8, .int (x8 + (1 : Int32)))] [1, 2, 3, 4, 5, 6, 7, 8, 0] rfl ?_
  exact hk64 x1 x2 x3 x4 x5 x6 x7 (x8 + (1 : Int32)) S h

set_option maxHeartbeats 4000000 in
set_option maxRecDepth 100000 in
theorem L_X6_can_129 {E : zEnv} {Γ : zG} (a : Nat → Nat) (C : zC E Γ cX6_can RX6 10 rm_X6_can wsX6_can) {res : (Int32 × St)} (R : zRi E Γ cX6_can 10 .int (wEA E a res.2) res.1) (k64 : Int32 → Int32 → Int32 → Int32 → Int32 → Int32 → Int32 → Int32 → St → Option (Int32 × St)) (hk64 : ∀ (x1 : Int32) (x2 : Int32) (x3 : Int32) (x4 : Int32) (x5 : Int32) (x6 : Int32) (x7 : Int32) (x8 : Int32) (S : St), k64 x1 x2 x3 x4 x5 x6 x7 x8 S = some res → Zt E Γ 10 0 0 (wEA E a S) [(0, .ref (a 0)), (1, .int x1), (2, .int x2), (3, .int x3), (4, .int x4), (5, .int x5), (6, .int x6), (7, .int x7), (8, .int x8)] 64 []) (x1 : Int32) (x2 : Int32) (x3 : Int32) (x4 : Int32) (x6 : Int32) (x7 : Int32) (x8 : Int32) (x9 : Int32) (y0 : Int32) (S : St) (h : f_X6_can_129 k64 x1 x2 x3 x4 x6 x7 x8 x9 y0 S = some res) : Zt E Γ 10 0 0 (wEA E a S) [(0, .ref (a 0)), (1, .int x1), (2, .int x2), (3, .int x3), (4, .int x4), (6, .int x6), (7, .int x7), (8, .int x8), (9, .int x9)] 129 [.int y0] := by
  unfold f_X6_can_129 at h
  refine z_istore C [(5, .int y0), (0, .ref (a 0)), (1, .int x1), (2, .int x2), (3, .int x3), (4, .int x4), (6, .int x6), (7, .int x7), (8, .int x8), (9, .int x9)] (by decide) rfl dX6_can_129 ?_
  refine z_iload C 6 rfl dX6_can_131 ?_
  refine z_iload C 9 rfl dX6_can_133 ?_
  refine z_max C (List.mem_of_getElem? (i := 7) rfl) (List.mem_of_getElem? (i := 8) rfl) (List.mem_of_getElem? (i := 5) rfl) (List.mem_of_getElem? (i := 9) rfl) (Nat.le_of_ble_eq_true rfl) (Nat.le_of_ble_eq_true rfl) (Nat.zero_le _) (Nat.zero_le _) dX6_can_135 ?_
  refine z_istore C [(6, .int (zmax x6 x9)), (5, .int y0), (0, .ref (a 0)), (1, .int x1), (2, .int x2), (3, .int x3), (4, .int x4), (7, .int x7), (8, .int x8), (9, .int x9)] (by decide) rfl dX6_can_138 ?_
  refine Zt_l [(0, .ref (a 0)), (1, .int x1), (2, .int x2), (3, .int x3), (4, .int x4), (5, .int y0), (6, .int (zmax x6 x9)), (7, .int x7), (8, .int x8)] [2, 3, 4, 5, 6, 1, 0, 7, 8] rfl ?_
  exact L_X6_can_140 a C R k64 hk64 x1 x2 x3 x4 y0 (zmax x6 x9) x7 x8 S h

set_option maxHeartbeats 4000000 in
set_option maxRecDepth 100000 in
theorem L_X6_can_146 {E : zEnv} {Γ : zG} (a : Nat → Nat) (C : zC E Γ cX6_can RX6 10 rm_X6_can wsX6_can) {res : (Int32 × St)} (R : zRi E Γ cX6_can 10 .int (wEA E a res.2) res.1) (x3 : Int32) (x5 : Int32) (x6 : Int32) (x7 : Int32) (S : St) (h : f_X6_can_146 x3 x5 x6 x7 S = some res) : Zt E Γ 10 0 0 (wEA E a S) [(3, .int x3), (5, .int x5), (6, .int x6), (7, .int x7)] 146 [] := by
  unfold f_X6_can_146 at h
  refine z_iload_n C 0 rfl rfl dX6_can_146 ?_
  refine z_iconst C (v := (2 : Int32)) (by decide) dX6_can_147 ?_
  refine z_icmp_ne C 154 (by decide) h dX6_can_148 (fun hc h => ?_) (fun hc h => ?_)
  · refine z_iload C 3 rfl dX6_can_151 ?_
    obtain rfl := Option.some.inj h
    exact R rfl 153 _ dX6_can_153
  · refine z_iload_n C 0 rfl rfl dX6_can_154 ?_
    refine z_if_ne C 163 (by decide) h dX6_can_155 (fun hc h => ?_) (fun hc h => ?_)
    · refine z_iload C 1 rfl dX6_can_158 ?_
      refine z_goto C 165 (by decide) dX6_can_160 ?_
      obtain rfl := Option.some.inj h
      exact R rfl 165 _ dX6_can_165
    · refine z_iload C 2 rfl dX6_can_163 ?_
      obtain rfl := Option.some.inj h
      exact R rfl 165 _ dX6_can_165

set_option maxHeartbeats 4000000 in
set_option maxRecDepth 100000 in
theorem L_X6_can_64 {E : zEnv} {Γ : zG} (a : Nat → Nat) (C : zC E Γ cX6_can RX6 10 rm_X6_can wsX6_can) {res : (Int32 × St)} (R : zRi E Γ cX6_can 10 .int (wEA E a res.2) res.1) : ∀ (n : Nat) (x1 : Int32) (x2 : Int32) (x3 : Int32) (x4 : Int32) (x5 : Int32) (x6 : Int32) (x7 : Int32) (x8 : Int32) (S : St), f_X6_can_64 n x1 x2 x3 x4 x5 x6 x7 x8 S = some res → Zt E Γ 10 0 0 (wEA E a S) [(0, .ref (a 0)), (1, .int x1), (2, .int x2), (3, .int x3), (4, .int x4), (5, .int x5), (6, .int x6), (7, .int x7), (8, .int x8)] 64 [] := by
  intro n
  induction n with
  | zero =>
    intro x1 x2 x3 x4 x5 x6 x7 x8 S h
    cases h
  | succ n ih =>
    intro x1 x2 x3 x4 x5 x6 x7 x8 S h
    rw [f_X6_can_64_s] at h
    refine z_iload C 8 rfl dX6_can_64 ?_
    refine z_iload C 4 rfl dX6_can_66 ?_
    refine z_icmp_ge C 146 (by decide) h dX6_can_68 (fun hc h => ?_) (fun hc h => ?_)
    · refine Zt_l [(3, .int x3), (5, .int x5), (6, .int x6), (7, .int x7)] [3, 5, 6, 7] rfl ?_
      exact L_X6_can_146 a C R x3 x5 x6 x7 S h
    · refine z_aload_n C 0 rfl rfl dX6_can_71 ?_
      refine z_get C 0 rfl (C := RX6) (T := TX6) (N := 11) (ci := 6) rfl inw_X6_can_X6 1 (by decide) (ref := "EldestAge") (List.mem_of_getElem? (i := 2) rfl) rfl (v := .ref (a 17)) rfl dX6_can_72 ?_
      refine z_aload_n C 0 rfl rfl dX6_can_75 ?_
      refine z_get C 0 rfl (C := RX6) (T := TX6) (N := 11) (ci := 6) rfl inw_X6_can_X6 0 (by decide) (ref := "EldestAge") (List.mem_of_getElem? (i := 1) rfl) rfl (v := .ref (a 1)) rfl dX6_can_76 ?_
      refine z_iload_n C 1 rfl rfl dX6_can_79 ?_
      refine z_iload_n C 2 rfl rfl dX6_can_80 ?_
      refine z_iload C 8 rfl dX6_can_81 ?_
      obtain ⟨q1, e1, h⟩ := bd_e h
      refine z_callVv C (b := a 17) (As := [.ref (a 1), .int x1, .int x2, .int x8]) (rest := []) (c_X5_chooseBirths E (ja 16 (fun k => a (17 + k)) (fun k => a (1 + k))) x1 x2 x8 (jn 32 (sb 32 S) (sb 0 S)) e1) rfl gX6_can_X5_chooseBirths rfl rfl rfl 4 rfl (by decide +kernel) ⟨Nat.le_of_ble_eq_true rfl, Nat.le_of_ble_eq_true rfl⟩ [17, 18, 19, 20, 21, 22, 23, 24, 25, 26, 27, 28, 29, 30, 31, 32, 1, 2, 3, 4, 5, 6, 7, 8, 9, 10, 11, 12, 13, 14, 15, 16] (wl_X6_can_0 E a S) (by decide) (wl_X6_can_1 E a _ _) (wEA E a (pt 0 32 (sb 32 q1) (pt 32 32 q1 S))) (wl_X6_can_2 E a S q1) 0 5 rfl rfl rfl (Nat.le_of_ble_eq_true rfl) dX6_can_83 ⟨Nat.zero_le _, Nat.zero_le _⟩ _ rfl ?_
      refine z_aload_n C 0 rfl rfl dX6_can_86 ?_
      refine z_get C 0 rfl (C := RX6) (T := TX6) (N := 11) (ci := 6) rfl inw_X6_can_X6 1 (by decide) (ref := "EldestAge") (List.mem_of_getElem? (i := 2) rfl) rfl (v := .ref (a 17)) rfl dX6_can_87 ?_
      refine z_iload_n C 1 rfl rfl dX6_can_90 ?_
      refine z_iload_n C 2 rfl rfl dX6_can_91 ?_
      obtain ⟨q2, e2, h⟩ := bd_e h
      refine z_callVi C (b := a 17) (As := [.int x1, .int x2]) (rest := []) (c_X5_numberOf E (fun k => a (17 + k)) x1 x2 (sb 32 (pt 0 32 (sb 32 q1) (pt 32 32 q1 S))) e2) rfl gX6_can_X5_numberOf rfl rfl rfl 2 rfl (by decide +kernel) ⟨Nat.le_of_ble_eq_true rfl, Nat.le_of_ble_eq_true rfl⟩ [17, 18, 19, 20, 21, 22, 23, 24, 25, 26, 27, 28, 29, 30, 31, 32] (wl_X6_can_3 E a (pt 0 32 (sb 32 q1) (pt 32 32 q1 S))) (by decide) (wl_X6_can_4 E a _ _) (wEA E a (pt 32 32 q2.2 (pt 0 32 (sb 32 q1) (pt 32 32 q1 S)))) (wl_X6_can_5 E a (pt 0 32 (sb 32 q1) (pt 32 32 q1 S)) q2.2) 0 5 rfl rfl rfl (Nat.le_of_ble_eq_true rfl) dX6_can_92 ⟨Nat.zero_le _, Nat.zero_le _⟩ _ rfl ?_
      refine z_istore C [(9, .int q2.1), (0, .ref (a 0)), (1, .int x1), (2, .int x2), (3, .int x3), (4, .int x4), (5, .int x5), (6, .int x6), (7, .int x7), (8, .int x8)] (by decide) rfl dX6_can_95 ?_
      refine z_iload C 0 rfl dX6_can_97 ?_
      refine z_bipush C (v := (-4 : Int32)) (by decide) dX6_can_99 ?_
      refine z_icmp_ne C 110 (by decide) h dX6_can_101 (fun hc h => ?_) (fun hc h => ?_)
      · refine z_iconst C (v := (1 : Int32)) (by decide) dX6_can_104 ?_
        refine z_istore C [(7, .int (1 : Int32)), (9, .int q2.1), (0, .ref (a 0)), (1, .int x1), (2, .int x2), (3, .int x3), (4, .int x4), (5, .int x5), (6, .int x6), (8, .int x8)] (by decide) rfl dX6_can_105 ?_
        refine z_goto C 140 (by decide) dX6_can_107 ?_
        refine Zt_l [(0, .ref (a 0)), (1, .int x1), (2, .int x2), (3, .int x3), (4, .int x4), (5, .int x5), (6, .int x6), (7, .int (1 : Int32)), (8, .int x8)] [2, 3, 4, 5, 6, 7, 8, 0, 9] rfl ?_
        exact L_X6_can_140 a C R _ ih x1 x2 x3 x4 x5 x6 (1 : Int32) x8 (pt 32 32 q2.2 (pt 0 32 (sb 32 q1) (pt 32 32 q1 S))) h
      · refine z_iload C 6 rfl dX6_can_110 ?_
        refine z_bipush C (v := (-4 : Int32)) (by decide) dX6_can_112 ?_
        refine z_icmp_ne C 122 (by decide) h dX6_can_114 (fun hc h => ?_) (fun hc h => ?_)
        · refine z_iload C 0 rfl dX6_can_117 ?_
          refine z_goto C 129 (by decide) dX6_can_119 ?_
          refine Zt_l [(0, .ref (a 0)), (1, .int x1), (2, .int x2), (3, .int x3), (4, .int x4), (6, .int x6), (7, .int x7), (8, .int x8), (9, .int q2.1)] [1, 2, 3, 4, 5, 7, 8, 9, 0] rfl ?_
          exact L_X6_can_129 a C R _ ih x1 x2 x3 x4 x6 x7 x8 q2.1 q2.1 (pt 32 32 q2.2 (pt 0 32 (sb 32 q1) (pt 32 32 q1 S))) h
        · refine z_iload C 6 rfl dX6_can_122 ?_
          refine z_iload C 0 rfl dX6_can_124 ?_
          refine z_min C (List.mem_of_getElem? (i := 3) rfl) (List.mem_of_getElem? (i := 4) rfl) (List.mem_of_getElem? (i := 5) rfl) (List.mem_of_getElem? (i := 6) rfl) (Nat.le_of_ble_eq_true rfl) (Nat.le_of_ble_eq_true rfl) (Nat.zero_le _) (Nat.zero_le _) dX6_can_126 ?_
          refine Zt_l [(0, .ref (a 0)), (1, .int x1), (2, .int x2), (3, .int x3), (4, .int x4), (6, .int x6), (7, .int x7), (8, .int x8), (9, .int q2.1)] [1, 2, 3, 4, 5, 7, 8, 9, 0] rfl ?_
          exact L_X6_can_129 a C R _ ih x1 x2 x3 x4 x6 x7 x8 q2.1 (zmin x5 q2.1) (pt 32 32 q2.2 (pt 0 32 (sb 32 q1) (pt 32 32 q1 S))) h

set_option maxHeartbeats 4000000 in
set_option maxRecDepth 100000 in
theorem L_X6_can {E : zEnv} {Γ : zG} (a : Nat → Nat) (C : zC E Γ cX6_can RX6 10 rm_X6_can wsX6_can) {res : (Int32 × St)} (R : zRi E Γ cX6_can 10 .int (wEA E a res.2) res.1) (x1 : Int32) (x2 : Int32) (x3 : Int32) (S : St) (h : f_X6_can x1 x2 x3 S = some res) : Zt E Γ 10 0 0 (wEA E a S) [(0, .ref (a 0)), (1, .int x1), (2, .int x2), (3, .int x3)] 0 [] := by
  unfold f_X6_can at h
  refine z_aload_n C 0 rfl rfl dX6_can_0 ?_
  refine z_get C 0 rfl (C := RX6) (T := TX6) (N := 11) (ci := 6) rfl inw_X6_can_X6 0 (by decide) (ref := "EldestAge") (List.mem_of_getElem? (i := 1) rfl) rfl (v := .ref (a 1)) rfl dX6_can_1 ?_
  refine z_iload_n C 1 rfl rfl dX6_can_4 ?_
  obtain ⟨q3, e3, h⟩ := bd_e h
  refine z_callVi C (b := a 1) (As := [.int x1]) (rest := []) (c_X5_isHouse E (fun k => a (1 + k)) x1 (sb 0 S) e3) rfl gX6_can_X5_isHouse rfl rfl rfl 1 rfl (by decide +kernel) ⟨Nat.le_of_ble_eq_true rfl, Nat.le_of_ble_eq_true rfl⟩ [1, 2, 3, 4, 5, 6, 7, 8, 9, 10, 11, 12, 13, 14, 15, 16] (wl_X6_can_6 E a S) (by decide) rfl (wEA E a S) (zrep_self (wl_X6_can_6 E a S)) 0 5 rfl rfl rfl (Nat.le_of_ble_eq_true rfl) dX6_can_5 ⟨Nat.zero_le _, Nat.zero_le _⟩ _ rfl ?_
  refine z_if_eq C 27 (by decide) h dX6_can_8 (fun hc h => ?_) (fun hc h => ?_)
  · refine z_iconst C (v := (-1 : Int32)) (by decide) dX6_can_27 ?_
    obtain rfl := Option.some.inj h
    exact R rfl 28 _ dX6_can_28
  · refine z_iload_n C 2 rfl rfl dX6_can_11 ?_
    obtain ⟨q4, e4, h⟩ := bd_e h
    refine z_callSi C (rest := []) (c_X6_isDay E x2 e4) gX6_can_X6_isDay rfl rfl rfl 1 rfl (by decide +kernel) ⟨Nat.le_of_ble_eq_true rfl, Nat.le_of_ble_eq_true rfl⟩ [] rfl (by decide) rfl (wEA E a S) rfl (Nat.le_of_ble_eq_true rfl) dX6_can_12 ⟨Nat.zero_le _, Nat.zero_le _⟩ _ rfl ?_
    refine z_if_eq C 27 (by decide) h dX6_can_15 (fun hc h => ?_) (fun hc h => ?_)
    · refine z_iconst C (v := (-1 : Int32)) (by decide) dX6_can_27 ?_
      obtain rfl := Option.some.inj h
      exact R rfl 28 _ dX6_can_28
    · refine z_iload_n C 3 rfl rfl dX6_can_18 ?_
      refine z_if_lt C 27 (by decide) h dX6_can_19 (fun hc h => ?_) (fun hc h => ?_)
      · refine z_iconst C (v := (-1 : Int32)) (by decide) dX6_can_27 ?_
        obtain rfl := Option.some.inj h
        exact R rfl 28 _ dX6_can_28
      · refine z_iload_n C 3 rfl rfl dX6_can_22 ?_
        refine z_iconst C (v := (2 : Int32)) (by decide) dX6_can_23 ?_
        refine z_icmp_le C 29 (by decide) h dX6_can_24 (fun hc h => ?_) (fun hc h => ?_)
        · refine z_aload_n C 0 rfl rfl dX6_can_29 ?_
          refine z_get C 0 rfl (C := RX6) (T := TX6) (N := 11) (ci := 6) rfl inw_X6_can_X6 1 (by decide) (ref := "EldestAge") (List.mem_of_getElem? (i := 2) rfl) rfl (v := .ref (a 17)) rfl dX6_can_30 ?_
          refine z_aload_n C 0 rfl rfl dX6_can_33 ?_
          refine z_get C 0 rfl (C := RX6) (T := TX6) (N := 11) (ci := 6) rfl inw_X6_can_X6 0 (by decide) (ref := "EldestAge") (List.mem_of_getElem? (i := 1) rfl) rfl (v := .ref (a 1)) rfl dX6_can_34 ?_
          obtain ⟨q5, e5, h⟩ := bd_e h
          refine z_callVv C (b := a 17) (As := [.ref (a 1)]) (rest := []) (c_X5_copyOf E (ja 16 (fun k => a (17 + k)) (fun k => a (1 + k))) (jn 32 (sb 32 S) (sb 0 S)) e5) rfl gX6_can_X5_copyOf rfl rfl rfl 1 rfl (by decide +kernel) ⟨Nat.le_of_ble_eq_true rfl, Nat.le_of_ble_eq_true rfl⟩ [17, 18, 19, 20, 21, 22, 23, 24, 25, 26, 27, 28, 29, 30, 31, 32, 1, 2, 3, 4, 5, 6, 7, 8, 9, 10, 11, 12, 13, 14, 15, 16] (wl_X6_can_0 E a S) (by decide) (wl_X6_can_1 E a _ _) (wEA E a (pt 0 32 (sb 32 q5) (pt 32 32 q5 S))) (wl_X6_can_2 E a S q5) 0 5 rfl rfl rfl (Nat.le_of_ble_eq_true rfl) dX6_can_37 ⟨Nat.zero_le _, Nat.zero_le _⟩ _ rfl ?_
          refine z_aload_n C 0 rfl rfl dX6_can_40 ?_
          refine z_get C 0 rfl (C := RX6) (T := TX6) (N := 11) (ci := 6) rfl inw_X6_can_X6 1 (by decide) (ref := "EldestAge") (List.mem_of_getElem? (i := 2) rfl) rfl (v := .ref (a 17)) rfl dX6_can_41 ?_
          refine z_iload_n C 1 rfl rfl dX6_can_44 ?_
          obtain ⟨q6, e6, h⟩ := bd_e h
          refine z_callVi C (b := a 17) (As := [.int x1]) (rest := []) (c_X5_bearExpected E (fun k => a (17 + k)) x1 (sb 32 (pt 0 32 (sb 32 q5) (pt 32 32 q5 S))) e6) rfl gX6_can_X5_bearExpected rfl rfl rfl 1 rfl (by decide +kernel) ⟨Nat.le_of_ble_eq_true rfl, Nat.le_of_ble_eq_true rfl⟩ [17, 18, 19, 20, 21, 22, 23, 24, 25, 26, 27, 28, 29, 30, 31, 32] (wl_X6_can_3 E a (pt 0 32 (sb 32 q5) (pt 32 32 q5 S))) (by decide) (wl_X6_can_4 E a _ _) (wEA E a (pt 32 32 q6.2 (pt 0 32 (sb 32 q5) (pt 32 32 q5 S)))) (wl_X6_can_5 E a (pt 0 32 (sb 32 q5) (pt 32 32 q5 S)) q6.2) 0 5 rfl rfl rfl (Nat.le_of_ble_eq_true rfl) dX6_can_45 ⟨Nat.zero_le _, Nat.zero_le _⟩ _ rfl ?_
          refine z_istore C [(4, .int q6.1), (0, .ref (a 0)), (1, .int x1), (2, .int x2), (3, .int x3)] (by decide) rfl dX6_can_48 ?_
          refine z_bipush C (v := (-4 : Int32)) (by decide) dX6_can_50 ?_
          refine z_istore C [(5, .int (-4 : Int32)), (4, .int q6.1), (0, .ref (a 0)), (1, .int x1), (2, .int x2), (3, .int x3)] (by decide) rfl dX6_can_52 ?_
          refine z_bipush C (v := (-4 : Int32)) (by decide) dX6_can_54 ?_
          refine z_istore C [(6, .int (-4 : Int32)), (5, .int (-4 : Int32)), (4, .int q6.1), (0, .ref (a 0)), (1, .int x1), (2, .int x2), (3, .int x3)] (by decide) rfl dX6_can_56 ?_
          refine z_iconst C (v := (0 : Int32)) (by decide) dX6_can_58 ?_
          refine z_istore C [(7, .int (0 : Int32)), (6, .int (-4 : Int32)), (5, .int (-4 : Int32)), (4, .int q6.1), (0, .ref (a 0)), (1, .int x1), (2, .int x2), (3, .int x3)] (by decide) rfl dX6_can_59 ?_
          refine z_iconst C (v := (0 : Int32)) (by decide) dX6_can_61 ?_
          refine z_istore C [(8, .int (0 : Int32)), (7, .int (0 : Int32)), (6, .int (-4 : Int32)), (5, .int (-4 : Int32)), (4, .int q6.1), (0, .ref (a 0)), (1, .int x1), (2, .int x2), (3, .int x3)] (by decide) rfl dX6_can_62 ?_
          refine Zt_l [(0, .ref (a 0)), (1, .int x1), (2, .int x2), (3, .int x3), (4, .int q6.1), (5, .int (-4 : Int32)), (6, .int (-4 : Int32)), (7, .int (0 : Int32)), (8, .int (0 : Int32))] [5, 6, 7, 8, 4, 3, 2, 1, 0] rfl ?_
          exact L_X6_can_64 a C R 1000 x1 x2 x3 q6.1 (-4 : Int32) (-4 : Int32) (0 : Int32) (0 : Int32) (pt 32 32 q6.2 (pt 0 32 (sb 32 q5) (pt 32 32 q5 S))) h
        · refine z_iconst C (v := (-1 : Int32)) (by decide) dX6_can_27 ?_
          obtain rfl := Option.some.inj h
          exact R rfl 28 _ dX6_can_28

theorem c_X6_can (E : zEnv) (a : Nat → Nat) (x1 : Int32) (x2 : Int32) (x3 : Int32) (S : St) {res : (Int32 × St)} (h : f_X6_can x1 x2 x3 S = some res) : Kti E yX6_can wsX6_can rm_X6_can (wEA E a S) (wEA E a res.2) [.ref (a 0), .int x1, .int x2, .int x3] res.1 :=
  z_enti (cc := cX6_can) (maxL := 10) (rt := .int) (by decide +kernel) rfl (Nat.le_of_ble_eq_true rfl) (fun Γ C R => L_X6_can a C R x1 x2 x3 S h)

abbrev rm_X6_keep : Room := { frames := 2, cells := 0, slots := 0, locals := 47 }
theorem inw_X6_keep_X6 : ∀ w ∈ wsX60, w ∈ wsX6_keep := fun _ h => List.mem_cons_of_mem _ (List.mem_append_left _ (List.mem_append_right _ h))
theorem inw_X6_keep_X5 : ∀ w ∈ wsX50, w ∈ wsX6_keep := fun _ h => List.mem_cons_of_mem _ (List.mem_append_right _ h)
set_option maxHeartbeats 4000000 in
theorem wl_X6_keep_0 (E : zEnv) (a : Nat → Nat) (S : St) : ([85, 86, 87, 88, 89, 90, 91, 92, 93, 94, 95, 96, 97, 98, 99, 100, 1, 2, 3, 4, 5, 6, 7, 8, 9, 10, 11, 12, 13, 14, 15, 16] : List Nat).map (fun i => (wEA E a S)[i]?) = (wTown2 E (ja 16 (fun k => a (49 + k)) (fun k => a (1 + k))) (jn 32 (sb 96 S) (sb 0 S))).map some := rfl
set_option maxHeartbeats 4000000 in
theorem wl_X6_keep_1 (E : zEnv) (a : Nat → Nat) (S U : St) : (wTown2 E (ja 16 (fun k => a (49 + k)) (fun k => a (1 + k))) U).map (fun q => q.1) = (wTown2 E (ja 16 (fun k => a (49 + k)) (fun k => a (1 + k))) S).map (fun q => q.1) := rfl
set_option maxHeartbeats 4000000 in
theorem wl_X6_keep_2 (E : zEnv) (a : Nat → Nat) (S U : St) : (wEA E a (pt 0 32 (sb 32 U) (pt 96 32 U S))) = zrep [85, 86, 87, 88, 89, 90, 91, 92, 93, 94, 95, 96, 97, 98, 99, 100, 1, 2, 3, 4, 5, 6, 7, 8, 9, 10, 11, 12, 13, 14, 15, 16] (wTown2 E (ja 16 (fun k => a (49 + k)) (fun k => a (1 + k))) U) (wEA E a S) := zrep_of (isR := [0, 17, 18, 19, 20, 21, 22, 23, 24, 25, 26, 27, 28, 29, 30, 31, 32, 33, 34, 35, 36, 37, 38, 39, 40, 41, 42, 43, 44, 45, 46, 47, 48, 49, 50, 51, 52, 53, 54, 55, 56, 57, 58, 59, 60, 61, 62, 63, 64, 65, 66, 67, 68, 69, 70, 71, 72, 73, 74, 75, 76, 77, 78, 79, 80, 81, 82, 83, 84]) 101 rfl [some (a 0, .inr (6, [.ref (a 1), .ref (a 17), .ref (a 65), .ref (a 66), .ref (a 67), .ref (a 69), .ref (a 73), .ref (a 77), .ref (a 93), .int (S 184 0), .int (S 185 0)])), some (a 17, .inr (5, [.int (S 32 0), .int (S 33 0), .int (S 34 0), .ref (a 18), .ref (a 19), .ref (a 20), .ref (a 21), .int (S 39 0), .ref (a 22), .ref (a 23), .ref (a 24), .int (S 43 0), .ref (a 25), .ref (a 26), .ref (a 27), .ref (a 28)])), some (a 18, .inl (zI E, 14, .inl (S 35))), some (a 19, .inl (zI E, 14, .inl (S 36))), some (a 20, .inl (zI E, 14, .inl (S 37))), some (a 21, .inl (zI E, 14, .inl (S 38))), some (a 22, .inl (zI E, 12, .inl (S 40))), some (a 23, .inl (zI E, 12, .inl (S 41))), some (a 24, .inl (zI E, 12, .inl (S 42))), some (a 25, .inl (zI E, 4, .inl (S 44))), some (a 26, .inl (zI E, 4, .inl (S 45))), some (a 27, .inl (zI E, 4, .inl (S 46))), some (a 28, .inr (2, [.ref (a 29), .ref (a 30), .ref (a 31), .ref (a 32)])), some (a 29, .inl (zI E, 8, .inl (S 48))), some (a 30, .inl (zI E, 8, .inl (S 49))), some (a 31, .inl (zI E, 8, .inl (S 50))), some (a 32, .inl (zI E, 8, .inl (S 51))), some (a 65, .inl (zT E, 2, .inr (.inr (.inr (.inr (va_up (va_up (fun _ => none) 0 (some (a 33))) 1 (some (a 49)))))))), some (a 66, .inl (zZ E, 2, .inl (S 186))), some (a 67, .inr (3, [.ref (a 68), .int (S 129 0), .int (S 130 0), .int (S 131 0), .int (S 132 0), .int (S 133 0), .int (S 134 0), .int (S 135 0), .int (S 136 0), .int (S 137 0), .int (S 138 0), .int (S 139 0)])), some (a 68, .inl (zI E, 400, .inl (S 128))), some (a 69, .inr (4, [.int (S 144 0), .ref (a 70), .ref (a 71), .ref (a 72), .int (S 148 0)])), some (a 70, .inl (zI E, 4, .inl (S 145))), some (a 71, .inl (zI E, 4, .inl (S 146))), some (a 72, .inl (zI E, 4, .inl (S 147))), some (a 73, .inr (4, [.int (S 152 0), .ref (a 74), .ref (a 75), .ref (a 76), .int (S 156 0)])), some (a 74, .inl (zI E, 8, .inl (S 153))), some (a 75, .inl (zI E, 8, .inl (S 154))), some (a 76, .inl (zI E, 8, .inl (S 155))), some (a 77, .inr (0, [.int (S 160 0), .ref (a 78), .ref (a 79), .ref (a 80), .ref (a 81), .ref (a 82), .ref (a 83), .ref (a 88)])), some (a 78, .inl (zI E, 4, .inl (S 161))), some (a 79, .inl (zI E, 4, .inl (S 162))), some (a 80, .inl (zI E, 4, .inl (S 163))), some (a 81, .inl (zI E, 4, .inl (S 164))), some (a 82, .inl (zI E, 4, .inl (S 165))), some (a 83, .inr (2, [.ref (a 84), .ref (a 85), .ref (a 86), .ref (a 87)])), some (a 84, .inl (zI E, 8, .inl (S 168))), some (a 85, .inl (zI E, 8, .inl (S 169))), some (a 86, .inl (zI E, 8, .inl (S 170))), some (a 87, .inl (zI E, 8, .inl (S 171))), some (a 88, .inr (2, [.ref (a 89), .ref (a 90), .ref (a 91), .ref (a 92)])), some (a 89, .inl (zI E, 8, .inl (S 172))), some (a 90, .inl (zI E, 8, .inl (S 173))), some (a 91, .inl (zI E, 8, .inl (S 174))), some (a 92, .inl (zI E, 8, .inl (S 175))), some (a 93, .inr (1, [.ref (a 94), .ref (a 99), .ref (a 100)])), some (a 94, .inl (zII E, 4, .inr (.inr (.inr (.inr (va_up (va_up (va_up (va_up (fun _ => none) 0 (some (a 95))) 1 (some (a 96))) 2 (some (a 97))) 3 (some (a 98)))))))), some (a 95, .inl (zI E, 40, .inl (S 176))), some (a 96, .inl (zI E, 40, .inl (S 177))), some (a 97, .inl (zI E, 40, .inl (S 178))), some (a 98, .inl (zI E, 40, .inl (S 179))), some (a 99, .inl (zI E, 4, .inl (S 180))), some (a 100, .inl (zI E, 4, .inl (S 181))), some (a 33, .inr (5, [.int (S 64 0), .int (S 65 0), .int (S 66 0), .ref (a 34), .ref (a 35), .ref (a 36), .ref (a 37), .int (S 71 0), .ref (a 38), .ref (a 39), .ref (a 40), .int (S 75 0), .ref (a 41), .ref (a 42), .ref (a 43), .ref (a 44)])), some (a 34, .inl (zI E, 14, .inl (S 67))), some (a 35, .inl (zI E, 14, .inl (S 68))), some (a 36, .inl (zI E, 14, .inl (S 69))), some (a 37, .inl (zI E, 14, .inl (S 70))), some (a 38, .inl (zI E, 12, .inl (S 72))), some (a 39, .inl (zI E, 12, .inl (S 73))), some (a 40, .inl (zI E, 12, .inl (S 74))), some (a 41, .inl (zI E, 4, .inl (S 76))), some (a 42, .inl (zI E, 4, .inl (S 77))), some (a 43, .inl (zI E, 4, .inl (S 78))), some (a 44, .inr (2, [.ref (a 45), .ref (a 46), .ref (a 47), .ref (a 48)])), some (a 45, .inl (zI E, 8, .inl (S 80))), some (a 46, .inl (zI E, 8, .inl (S 81))), some (a 47, .inl (zI E, 8, .inl (S 82))), some (a 48, .inl (zI E, 8, .inl (S 83)))] rfl rfl rfl rfl (by decide +kernel) (by decide +kernel)
set_option maxHeartbeats 4000000 in
theorem wl_X6_keep_3 (E : zEnv) (a : Nat → Nat) (S : St) (f : Nat → Int32) : (wEA E a (st 186 f S)) = (wEA E a S).set 34 (a 66, .inl (zZ E, 2, .inl f)) := rfl
set_option maxHeartbeats 4000000 in
theorem wl_X6_keep_4 (E : zEnv) (a : Nat → Nat) (S : St) : ([69, 70, 71, 72, 73, 74, 75, 76, 77, 78, 79, 80, 81, 82, 83, 84, 1, 2, 3, 4, 5, 6, 7, 8, 9, 10, 11, 12, 13, 14, 15, 16] : List Nat).map (fun i => (wEA E a S)[i]?) = (wTown2 E (ja 16 (fun k => a (33 + k)) (fun k => a (1 + k))) (jn 32 (sb 64 S) (sb 0 S))).map some := rfl
set_option maxHeartbeats 4000000 in
theorem wl_X6_keep_5 (E : zEnv) (a : Nat → Nat) (S U : St) : (wTown2 E (ja 16 (fun k => a (33 + k)) (fun k => a (1 + k))) U).map (fun q => q.1) = (wTown2 E (ja 16 (fun k => a (33 + k)) (fun k => a (1 + k))) S).map (fun q => q.1) := rfl
set_option maxHeartbeats 4000000 in
theorem wl_X6_keep_6 (E : zEnv) (a : Nat → Nat) (S U : St) : (wEA E a (pt 0 32 (sb 32 U) (pt 64 32 U S))) = zrep [69, 70, 71, 72, 73, 74, 75, 76, 77, 78, 79, 80, 81, 82, 83, 84, 1, 2, 3, 4, 5, 6, 7, 8, 9, 10, 11, 12, 13, 14, 15, 16] (wTown2 E (ja 16 (fun k => a (33 + k)) (fun k => a (1 + k))) U) (wEA E a S) := zrep_of (isR := [0, 17, 18, 19, 20, 21, 22, 23, 24, 25, 26, 27, 28, 29, 30, 31, 32, 33, 34, 35, 36, 37, 38, 39, 40, 41, 42, 43, 44, 45, 46, 47, 48, 49, 50, 51, 52, 53, 54, 55, 56, 57, 58, 59, 60, 61, 62, 63, 64, 65, 66, 67, 68, 85, 86, 87, 88, 89, 90, 91, 92, 93, 94, 95, 96, 97, 98, 99, 100]) 101 rfl [some (a 0, .inr (6, [.ref (a 1), .ref (a 17), .ref (a 65), .ref (a 66), .ref (a 67), .ref (a 69), .ref (a 73), .ref (a 77), .ref (a 93), .int (S 184 0), .int (S 185 0)])), some (a 17, .inr (5, [.int (S 32 0), .int (S 33 0), .int (S 34 0), .ref (a 18), .ref (a 19), .ref (a 20), .ref (a 21), .int (S 39 0), .ref (a 22), .ref (a 23), .ref (a 24), .int (S 43 0), .ref (a 25), .ref (a 26), .ref (a 27), .ref (a 28)])), some (a 18, .inl (zI E, 14, .inl (S 35))), some (a 19, .inl (zI E, 14, .inl (S 36))), some (a 20, .inl (zI E, 14, .inl (S 37))), some (a 21, .inl (zI E, 14, .inl (S 38))), some (a 22, .inl (zI E, 12, .inl (S 40))), some (a 23, .inl (zI E, 12, .inl (S 41))), some (a 24, .inl (zI E, 12, .inl (S 42))), some (a 25, .inl (zI E, 4, .inl (S 44))), some (a 26, .inl (zI E, 4, .inl (S 45))), some (a 27, .inl (zI E, 4, .inl (S 46))), some (a 28, .inr (2, [.ref (a 29), .ref (a 30), .ref (a 31), .ref (a 32)])), some (a 29, .inl (zI E, 8, .inl (S 48))), some (a 30, .inl (zI E, 8, .inl (S 49))), some (a 31, .inl (zI E, 8, .inl (S 50))), some (a 32, .inl (zI E, 8, .inl (S 51))), some (a 65, .inl (zT E, 2, .inr (.inr (.inr (.inr (va_up (va_up (fun _ => none) 0 (some (a 33))) 1 (some (a 49)))))))), some (a 66, .inl (zZ E, 2, .inl (S 186))), some (a 67, .inr (3, [.ref (a 68), .int (S 129 0), .int (S 130 0), .int (S 131 0), .int (S 132 0), .int (S 133 0), .int (S 134 0), .int (S 135 0), .int (S 136 0), .int (S 137 0), .int (S 138 0), .int (S 139 0)])), some (a 68, .inl (zI E, 400, .inl (S 128))), some (a 69, .inr (4, [.int (S 144 0), .ref (a 70), .ref (a 71), .ref (a 72), .int (S 148 0)])), some (a 70, .inl (zI E, 4, .inl (S 145))), some (a 71, .inl (zI E, 4, .inl (S 146))), some (a 72, .inl (zI E, 4, .inl (S 147))), some (a 73, .inr (4, [.int (S 152 0), .ref (a 74), .ref (a 75), .ref (a 76), .int (S 156 0)])), some (a 74, .inl (zI E, 8, .inl (S 153))), some (a 75, .inl (zI E, 8, .inl (S 154))), some (a 76, .inl (zI E, 8, .inl (S 155))), some (a 77, .inr (0, [.int (S 160 0), .ref (a 78), .ref (a 79), .ref (a 80), .ref (a 81), .ref (a 82), .ref (a 83), .ref (a 88)])), some (a 78, .inl (zI E, 4, .inl (S 161))), some (a 79, .inl (zI E, 4, .inl (S 162))), some (a 80, .inl (zI E, 4, .inl (S 163))), some (a 81, .inl (zI E, 4, .inl (S 164))), some (a 82, .inl (zI E, 4, .inl (S 165))), some (a 83, .inr (2, [.ref (a 84), .ref (a 85), .ref (a 86), .ref (a 87)])), some (a 84, .inl (zI E, 8, .inl (S 168))), some (a 85, .inl (zI E, 8, .inl (S 169))), some (a 86, .inl (zI E, 8, .inl (S 170))), some (a 87, .inl (zI E, 8, .inl (S 171))), some (a 88, .inr (2, [.ref (a 89), .ref (a 90), .ref (a 91), .ref (a 92)])), some (a 89, .inl (zI E, 8, .inl (S 172))), some (a 90, .inl (zI E, 8, .inl (S 173))), some (a 91, .inl (zI E, 8, .inl (S 174))), some (a 92, .inl (zI E, 8, .inl (S 175))), some (a 93, .inr (1, [.ref (a 94), .ref (a 99), .ref (a 100)])), some (a 94, .inl (zII E, 4, .inr (.inr (.inr (.inr (va_up (va_up (va_up (va_up (fun _ => none) 0 (some (a 95))) 1 (some (a 96))) 2 (some (a 97))) 3 (some (a 98)))))))), some (a 95, .inl (zI E, 40, .inl (S 176))), some (a 96, .inl (zI E, 40, .inl (S 177))), some (a 97, .inl (zI E, 40, .inl (S 178))), some (a 98, .inl (zI E, 40, .inl (S 179))), some (a 99, .inl (zI E, 4, .inl (S 180))), some (a 100, .inl (zI E, 4, .inl (S 181))), some (a 49, .inr (5, [.int (S 96 0), .int (S 97 0), .int (S 98 0), .ref (a 50), .ref (a 51), .ref (a 52), .ref (a 53), .int (S 103 0), .ref (a 54), .ref (a 55), .ref (a 56), .int (S 107 0), .ref (a 57), .ref (a 58), .ref (a 59), .ref (a 60)])), some (a 50, .inl (zI E, 14, .inl (S 99))), some (a 51, .inl (zI E, 14, .inl (S 100))), some (a 52, .inl (zI E, 14, .inl (S 101))), some (a 53, .inl (zI E, 14, .inl (S 102))), some (a 54, .inl (zI E, 12, .inl (S 104))), some (a 55, .inl (zI E, 12, .inl (S 105))), some (a 56, .inl (zI E, 12, .inl (S 106))), some (a 57, .inl (zI E, 4, .inl (S 108))), some (a 58, .inl (zI E, 4, .inl (S 109))), some (a 59, .inl (zI E, 4, .inl (S 110))), some (a 60, .inr (2, [.ref (a 61), .ref (a 62), .ref (a 63), .ref (a 64)])), some (a 61, .inl (zI E, 8, .inl (S 112))), some (a 62, .inl (zI E, 8, .inl (S 113))), some (a 63, .inl (zI E, 8, .inl (S 114))), some (a 64, .inl (zI E, 8, .inl (S 115)))] rfl rfl rfl rfl (by decide +kernel) (by decide +kernel)
noncomputable def f_X6_keep_23 (x1 : Int32) (y0 : Int32) (S : St) : Option (Int32 × St) := (if x1 = 0 then ((f_X5_copyOf (jn 32 (sb 64 S) (sb 0 S))).bind (fun q2 => (ix x1 2 (some (y0, (st 186 (upd (S 186) (Int32.toNatClampNeg x1) (vp_nar .boolean (1 : Int32))) (pt 0 32 (sb 32 q2) (pt 64 32 q2 S)))))))) else (if x1 = 1 then ((f_X5_copyOf (jn 32 (sb 96 S) (sb 0 S))).bind (fun q1 => (ix x1 2 (some (y0, (st 186 (upd (S 186) (Int32.toNatClampNeg x1) (vp_nar .boolean (1 : Int32))) (pt 0 32 (sb 32 q1) (pt 96 32 q1 S)))))))) else none))
noncomputable def f_X6_keep (x1 : Int32) (S : St) : Option (Int32 × St) := ((f_X6_isImage x1).bind (fun q3 => (if q3 = 0 then (some ((-1 : Int32), S)) else (ix x1 2 (if (S 186 (Int32.toNatClampNeg x1)) = 0 then (f_X6_keep_23 x1 (0 : Int32) S) else (f_X6_keep_23 x1 (1 : Int32) S))))))
set_option maxHeartbeats 4000000 in
set_option maxRecDepth 100000 in
theorem L_X6_keep_23 {E : zEnv} {Γ : zG} (a : Nat → Nat) (C : zC E Γ cX6_keep RX6 3 rm_X6_keep wsX6_keep) {res : (Int32 × St)} (R : zRi E Γ cX6_keep 3 .int (wEA E a res.2) res.1) (x1 : Int32) (y0 : Int32) (S : St) (h : f_X6_keep_23 x1 y0 S = some res) : Zt E Γ 3 0 0 (wEA E a S) [(0, .ref (a 0)), (1, .int x1)] 23 [.int y0] := by
  unfold f_X6_keep_23 at h
  refine z_istore_n C [(2, .int y0), (0, .ref (a 0)), (1, .int x1)] rfl (by decide) rfl dX6_keep_23 ?_
  refine z_aload_n C 1 rfl rfl dX6_keep_24 ?_
  refine z_get C 0 rfl (C := RX6) (T := TX6) (N := 11) (ci := 6) rfl inw_X6_keep_X6 2 (by decide) (ref := "EldestAge") (List.mem_of_getElem? (i := 2) rfl) rfl (v := .ref (a 65)) rfl dX6_keep_25 ?_
  refine z_iload_n C 2 rfl rfl dX6_keep_28 ?_
  by_cases hc : x1 = 0
  · replace h := (if_e h).1 hc
    refine z_aldrT C 33 rfl (by rw [hc]; exact vp_in_iff.mpr (by decide)) (v := .ref (a 33)) (by rw [hc]; rfl) dX6_keep_29 ?_
    refine z_aload_n C 1 rfl rfl dX6_keep_30 ?_
    refine z_get C 0 rfl (C := RX6) (T := TX6) (N := 11) (ci := 6) rfl inw_X6_keep_X6 0 (by decide) (ref := "EldestAge") (List.mem_of_getElem? (i := 3) rfl) rfl (v := .ref (a 1)) rfl dX6_keep_31 ?_
    obtain ⟨q2, e2, h⟩ := bd_e h
    refine z_callVv C (b := a 33) (As := [.ref (a 1)]) (rest := []) (c_X5_copyOf E (ja 16 (fun k => a (33 + k)) (fun k => a (1 + k))) (jn 32 (sb 64 S) (sb 0 S)) e2) rfl gX6_keep_X5_copyOf rfl rfl rfl 1 rfl (by decide +kernel) ⟨Nat.le_of_ble_eq_true rfl, Nat.le_of_ble_eq_true rfl⟩ [69, 70, 71, 72, 73, 74, 75, 76, 77, 78, 79, 80, 81, 82, 83, 84, 1, 2, 3, 4, 5, 6, 7, 8, 9, 10, 11, 12, 13, 14, 15, 16] (wl_X6_keep_4 E a S) (by decide) (wl_X6_keep_5 E a _ _) (wEA E a (pt 0 32 (sb 32 q2) (pt 64 32 q2 S))) (wl_X6_keep_6 E a S q2) 0 5 rfl rfl rfl (Nat.le_of_ble_eq_true rfl) dX6_keep_34 ⟨Nat.zero_le _, Nat.zero_le _⟩ _ rfl ?_
    refine z_aload_n C 1 rfl rfl dX6_keep_37 ?_
    refine z_get C 0 rfl (C := RX6) (T := TX6) (N := 11) (ci := 6) rfl inw_X6_keep_X6 3 (by decide) (ref := "EldestAge") (List.mem_of_getElem? (i := 1) rfl) rfl (v := .ref (a 66)) rfl dX6_keep_38 ?_
    refine z_iload_n C 2 rfl rfl dX6_keep_41 ?_
    refine z_iconst C (v := (1 : Int32)) (by decide) dX6_keep_42 ?_
    refine z_zast C (N := 2) (f := (S 186)) 34 rfl h (wEA E a (st 186 (upd (S 186) (Int32.toNatClampNeg x1) (vp_nar .boolean (1 : Int32))) (pt 0 32 (sb 32 q2) (pt 64 32 q2 S)))) (wl_X6_keep_3 E a (pt 0 32 (sb 32 q2) (pt 64 32 q2 S)) (upd (S 186) (Int32.toNatClampNeg x1) (vp_nar .boolean (1 : Int32)))) dX6_keep_43 (fun h => ?_)
    refine z_iload_n C 0 rfl rfl dX6_keep_44 ?_
    obtain rfl := Option.some.inj h
    exact R rfl 45 _ dX6_keep_45
  · replace h := (if_e h).2 hc
    by_cases hc : x1 = 1
    · replace h := (if_e h).1 hc
      refine z_aldrT C 33 rfl (by rw [hc]; exact vp_in_iff.mpr (by decide)) (v := .ref (a 49)) (by rw [hc]; rfl) dX6_keep_29 ?_
      refine z_aload_n C 1 rfl rfl dX6_keep_30 ?_
      refine z_get C 0 rfl (C := RX6) (T := TX6) (N := 11) (ci := 6) rfl inw_X6_keep_X6 0 (by decide) (ref := "EldestAge") (List.mem_of_getElem? (i := 3) rfl) rfl (v := .ref (a 1)) rfl dX6_keep_31 ?_
      obtain ⟨q1, e1, h⟩ := bd_e h
      refine z_callVv C (b := a 49) (As := [.ref (a 1)]) (rest := []) (c_X5_copyOf E (ja 16 (fun k => a (49 + k)) (fun k => a (1 + k))) (jn 32 (sb 96 S) (sb 0 S)) e1) rfl gX6_keep_X5_copyOf rfl rfl rfl 1 rfl (by decide +kernel) ⟨Nat.le_of_ble_eq_true rfl, Nat.le_of_ble_eq_true rfl⟩ [85, 86, 87, 88, 89, 90, 91, 92, 93, 94, 95, 96, 97, 98, 99, 100, 1, 2, 3, 4, 5, 6, 7, 8, 9, 10, 11, 12, 13, 14, 15, 16] (wl_X6_keep_0 E a S) (by decide) (wl_X6_keep_1 E a _ _) (wEA E a (pt 0 32 (sb 32 q1) (pt 96 32 q1 S))) (wl_X6_keep_2 E a S q1) 0 5 rfl rfl rfl (Nat.le_of_ble_eq_true rfl) dX6_keep_34 ⟨Nat.zero_le _, Nat.zero_le _⟩ _ rfl ?_
      refine z_aload_n C 1 rfl rfl dX6_keep_37 ?_
      refine z_get C 0 rfl (C := RX6) (T := TX6) (N := 11) (ci := 6) rfl inw_X6_keep_X6 3 (by decide) (ref := "EldestAge") (List.mem_of_getElem? (i := 1) rfl) rfl (v := .ref (a 66)) rfl dX6_keep_38 ?_
      refine z_iload_n C 2 rfl rfl dX6_keep_41 ?_
      refine z_iconst C (v := (1 : Int32)) (by decide) dX6_keep_42 ?_
      refine z_zast C (N := 2) (f := (S 186)) 34 rfl h (wEA E a (st 186 (upd (S 186) (Int32.toNatClampNeg x1) (vp_nar .boolean (1 : Int32))) (pt 0 32 (sb 32 q1) (pt 96 32 q1 S)))) (wl_X6_keep_3 E a (pt 0 32 (sb 32 q1) (pt 96 32 q1 S)) (upd (S 186) (Int32.toNatClampNeg x1) (vp_nar .boolean (1 : Int32)))) dX6_keep_43 (fun h => ?_)
      refine z_iload_n C 0 rfl rfl dX6_keep_44 ?_
      obtain rfl := Option.some.inj h
      exact R rfl 45 _ dX6_keep_45
    · replace h := (if_e h).2 hc
      cases h

set_option maxHeartbeats 4000000 in
set_option maxRecDepth 100000 in
theorem L_X6_keep {E : zEnv} {Γ : zG} (a : Nat → Nat) (C : zC E Γ cX6_keep RX6 3 rm_X6_keep wsX6_keep) {res : (Int32 × St)} (R : zRi E Γ cX6_keep 3 .int (wEA E a res.2) res.1) (x1 : Int32) (S : St) (h : f_X6_keep x1 S = some res) : Zt E Γ 3 0 0 (wEA E a S) [(0, .ref (a 0)), (1, .int x1)] 0 [] := by
  unfold f_X6_keep at h
  refine z_iload_n C 1 rfl rfl dX6_keep_0 ?_
  obtain ⟨q3, e3, h⟩ := bd_e h
  refine z_callSi C (rest := []) (c_X6_isImage E x1 e3) gX6_keep_X6_isImage rfl rfl rfl 1 rfl (by decide +kernel) ⟨Nat.le_of_ble_eq_true rfl, Nat.le_of_ble_eq_true rfl⟩ [] rfl (by decide) rfl (wEA E a S) rfl (Nat.le_of_ble_eq_true rfl) dX6_keep_1 ⟨Nat.zero_le _, Nat.zero_le _⟩ _ rfl ?_
  refine z_if_ne C 9 (by decide) h dX6_keep_4 (fun hc h => ?_) (fun hc h => ?_)
  · refine z_iconst C (v := (-1 : Int32)) (by decide) dX6_keep_7 ?_
    obtain rfl := Option.some.inj h
    exact R rfl 8 _ dX6_keep_8
  · refine z_aload_n C 0 rfl rfl dX6_keep_9 ?_
    refine z_get C 0 rfl (C := RX6) (T := TX6) (N := 11) (ci := 6) rfl inw_X6_keep_X6 3 (by decide) (ref := "EldestAge") (List.mem_of_getElem? (i := 1) rfl) rfl (v := .ref (a 66)) rfl dX6_keep_10 ?_
    refine z_iload_n C 1 rfl rfl dX6_keep_13 ?_
    refine z_zald C (N := 2) (f := (S 186)) 34 rfl h dX6_keep_14 (fun h => ?_)
    refine z_if_eq C 22 (by decide) h dX6_keep_15 (fun hc h => ?_) (fun hc h => ?_)
    · refine z_iconst C (v := (0 : Int32)) (by decide) dX6_keep_22 ?_
      exact L_X6_keep_23 a C R x1 (0 : Int32) S h
    · refine z_iconst C (v := (1 : Int32)) (by decide) dX6_keep_18 ?_
      refine z_goto C 23 (by decide) dX6_keep_19 ?_
      exact L_X6_keep_23 a C R x1 (1 : Int32) S h

theorem c_X6_keep (E : zEnv) (a : Nat → Nat) (x1 : Int32) (S : St) {res : (Int32 × St)} (h : f_X6_keep x1 S = some res) : Kti E yX6_keep wsX6_keep rm_X6_keep (wEA E a S) (wEA E a res.2) [.ref (a 0), .int x1] res.1 :=
  z_enti (cc := cX6_keep) (maxL := 3) (rt := .int) (by decide +kernel) rfl (Nat.le_of_ble_eq_true rfl) (fun Γ C R => L_X6_keep a C R x1 S h)

abbrev rm_X6_back : Room := { frames := 2, cells := 0, slots := 0, locals := 47 }
theorem inw_X6_back_X6 : ∀ w ∈ wsX60, w ∈ wsX6_back := fun _ h => List.mem_cons_of_mem _ (List.mem_append_left _ (List.mem_append_right _ h))
theorem inw_X6_back_X5 : ∀ w ∈ wsX50, w ∈ wsX6_back := fun _ h => List.mem_cons_of_mem _ (List.mem_append_right _ h)
set_option maxHeartbeats 4000000 in
theorem wl_X6_back_0 (E : zEnv) (a : Nat → Nat) (S : St) : ([1, 2, 3, 4, 5, 6, 7, 8, 9, 10, 11, 12, 13, 14, 15, 16, 85, 86, 87, 88, 89, 90, 91, 92, 93, 94, 95, 96, 97, 98, 99, 100] : List Nat).map (fun i => (wEA E a S)[i]?) = (wTown2 E (ja 16 (fun k => a (1 + k)) (fun k => a (49 + k))) (jn 32 (sb 0 S) (sb 96 S))).map some := rfl
set_option maxHeartbeats 4000000 in
theorem wl_X6_back_1 (E : zEnv) (a : Nat → Nat) (S U : St) : (wTown2 E (ja 16 (fun k => a (1 + k)) (fun k => a (49 + k))) U).map (fun q => q.1) = (wTown2 E (ja 16 (fun k => a (1 + k)) (fun k => a (49 + k))) S).map (fun q => q.1) := rfl
set_option maxHeartbeats 4000000 in
theorem wl_X6_back_2 (E : zEnv) (a : Nat → Nat) (S U : St) : (wEA E a (pt 96 32 (sb 32 U) (pt 0 32 U S))) = zrep [1, 2, 3, 4, 5, 6, 7, 8, 9, 10, 11, 12, 13, 14, 15, 16, 85, 86, 87, 88, 89, 90, 91, 92, 93, 94, 95, 96, 97, 98, 99, 100] (wTown2 E (ja 16 (fun k => a (1 + k)) (fun k => a (49 + k))) U) (wEA E a S) := zrep_of (isR := [0, 17, 18, 19, 20, 21, 22, 23, 24, 25, 26, 27, 28, 29, 30, 31, 32, 33, 34, 35, 36, 37, 38, 39, 40, 41, 42, 43, 44, 45, 46, 47, 48, 49, 50, 51, 52, 53, 54, 55, 56, 57, 58, 59, 60, 61, 62, 63, 64, 65, 66, 67, 68, 69, 70, 71, 72, 73, 74, 75, 76, 77, 78, 79, 80, 81, 82, 83, 84]) 101 rfl [some (a 0, .inr (6, [.ref (a 1), .ref (a 17), .ref (a 65), .ref (a 66), .ref (a 67), .ref (a 69), .ref (a 73), .ref (a 77), .ref (a 93), .int (S 184 0), .int (S 185 0)])), some (a 17, .inr (5, [.int (S 32 0), .int (S 33 0), .int (S 34 0), .ref (a 18), .ref (a 19), .ref (a 20), .ref (a 21), .int (S 39 0), .ref (a 22), .ref (a 23), .ref (a 24), .int (S 43 0), .ref (a 25), .ref (a 26), .ref (a 27), .ref (a 28)])), some (a 18, .inl (zI E, 14, .inl (S 35))), some (a 19, .inl (zI E, 14, .inl (S 36))), some (a 20, .inl (zI E, 14, .inl (S 37))), some (a 21, .inl (zI E, 14, .inl (S 38))), some (a 22, .inl (zI E, 12, .inl (S 40))), some (a 23, .inl (zI E, 12, .inl (S 41))), some (a 24, .inl (zI E, 12, .inl (S 42))), some (a 25, .inl (zI E, 4, .inl (S 44))), some (a 26, .inl (zI E, 4, .inl (S 45))), some (a 27, .inl (zI E, 4, .inl (S 46))), some (a 28, .inr (2, [.ref (a 29), .ref (a 30), .ref (a 31), .ref (a 32)])), some (a 29, .inl (zI E, 8, .inl (S 48))), some (a 30, .inl (zI E, 8, .inl (S 49))), some (a 31, .inl (zI E, 8, .inl (S 50))), some (a 32, .inl (zI E, 8, .inl (S 51))), some (a 65, .inl (zT E, 2, .inr (.inr (.inr (.inr (va_up (va_up (fun _ => none) 0 (some (a 33))) 1 (some (a 49)))))))), some (a 66, .inl (zZ E, 2, .inl (S 186))), some (a 67, .inr (3, [.ref (a 68), .int (S 129 0), .int (S 130 0), .int (S 131 0), .int (S 132 0), .int (S 133 0), .int (S 134 0), .int (S 135 0), .int (S 136 0), .int (S 137 0), .int (S 138 0), .int (S 139 0)])), some (a 68, .inl (zI E, 400, .inl (S 128))), some (a 69, .inr (4, [.int (S 144 0), .ref (a 70), .ref (a 71), .ref (a 72), .int (S 148 0)])), some (a 70, .inl (zI E, 4, .inl (S 145))), some (a 71, .inl (zI E, 4, .inl (S 146))), some (a 72, .inl (zI E, 4, .inl (S 147))), some (a 73, .inr (4, [.int (S 152 0), .ref (a 74), .ref (a 75), .ref (a 76), .int (S 156 0)])), some (a 74, .inl (zI E, 8, .inl (S 153))), some (a 75, .inl (zI E, 8, .inl (S 154))), some (a 76, .inl (zI E, 8, .inl (S 155))), some (a 77, .inr (0, [.int (S 160 0), .ref (a 78), .ref (a 79), .ref (a 80), .ref (a 81), .ref (a 82), .ref (a 83), .ref (a 88)])), some (a 78, .inl (zI E, 4, .inl (S 161))), some (a 79, .inl (zI E, 4, .inl (S 162))), some (a 80, .inl (zI E, 4, .inl (S 163))), some (a 81, .inl (zI E, 4, .inl (S 164))), some (a 82, .inl (zI E, 4, .inl (S 165))), some (a 83, .inr (2, [.ref (a 84), .ref (a 85), .ref (a 86), .ref (a 87)])), some (a 84, .inl (zI E, 8, .inl (S 168))), some (a 85, .inl (zI E, 8, .inl (S 169))), some (a 86, .inl (zI E, 8, .inl (S 170))), some (a 87, .inl (zI E, 8, .inl (S 171))), some (a 88, .inr (2, [.ref (a 89), .ref (a 90), .ref (a 91), .ref (a 92)])), some (a 89, .inl (zI E, 8, .inl (S 172))), some (a 90, .inl (zI E, 8, .inl (S 173))), some (a 91, .inl (zI E, 8, .inl (S 174))), some (a 92, .inl (zI E, 8, .inl (S 175))), some (a 93, .inr (1, [.ref (a 94), .ref (a 99), .ref (a 100)])), some (a 94, .inl (zII E, 4, .inr (.inr (.inr (.inr (va_up (va_up (va_up (va_up (fun _ => none) 0 (some (a 95))) 1 (some (a 96))) 2 (some (a 97))) 3 (some (a 98)))))))), some (a 95, .inl (zI E, 40, .inl (S 176))), some (a 96, .inl (zI E, 40, .inl (S 177))), some (a 97, .inl (zI E, 40, .inl (S 178))), some (a 98, .inl (zI E, 40, .inl (S 179))), some (a 99, .inl (zI E, 4, .inl (S 180))), some (a 100, .inl (zI E, 4, .inl (S 181))), some (a 33, .inr (5, [.int (S 64 0), .int (S 65 0), .int (S 66 0), .ref (a 34), .ref (a 35), .ref (a 36), .ref (a 37), .int (S 71 0), .ref (a 38), .ref (a 39), .ref (a 40), .int (S 75 0), .ref (a 41), .ref (a 42), .ref (a 43), .ref (a 44)])), some (a 34, .inl (zI E, 14, .inl (S 67))), some (a 35, .inl (zI E, 14, .inl (S 68))), some (a 36, .inl (zI E, 14, .inl (S 69))), some (a 37, .inl (zI E, 14, .inl (S 70))), some (a 38, .inl (zI E, 12, .inl (S 72))), some (a 39, .inl (zI E, 12, .inl (S 73))), some (a 40, .inl (zI E, 12, .inl (S 74))), some (a 41, .inl (zI E, 4, .inl (S 76))), some (a 42, .inl (zI E, 4, .inl (S 77))), some (a 43, .inl (zI E, 4, .inl (S 78))), some (a 44, .inr (2, [.ref (a 45), .ref (a 46), .ref (a 47), .ref (a 48)])), some (a 45, .inl (zI E, 8, .inl (S 80))), some (a 46, .inl (zI E, 8, .inl (S 81))), some (a 47, .inl (zI E, 8, .inl (S 82))), some (a 48, .inl (zI E, 8, .inl (S 83)))] rfl rfl rfl rfl (by decide +kernel) (by decide +kernel)
set_option maxHeartbeats 4000000 in
theorem wl_X6_back_3 (E : zEnv) (a : Nat → Nat) (S : St) : ([1, 2, 3, 4, 5, 6, 7, 8, 9, 10, 11, 12, 13, 14, 15, 16, 69, 70, 71, 72, 73, 74, 75, 76, 77, 78, 79, 80, 81, 82, 83, 84] : List Nat).map (fun i => (wEA E a S)[i]?) = (wTown2 E (ja 16 (fun k => a (1 + k)) (fun k => a (33 + k))) (jn 32 (sb 0 S) (sb 64 S))).map some := rfl
set_option maxHeartbeats 4000000 in
theorem wl_X6_back_4 (E : zEnv) (a : Nat → Nat) (S U : St) : (wTown2 E (ja 16 (fun k => a (1 + k)) (fun k => a (33 + k))) U).map (fun q => q.1) = (wTown2 E (ja 16 (fun k => a (1 + k)) (fun k => a (33 + k))) S).map (fun q => q.1) := rfl
set_option maxHeartbeats 4000000 in
theorem wl_X6_back_5 (E : zEnv) (a : Nat → Nat) (S U : St) : (wEA E a (pt 64 32 (sb 32 U) (pt 0 32 U S))) = zrep [1, 2, 3, 4, 5, 6, 7, 8, 9, 10, 11, 12, 13, 14, 15, 16, 69, 70, 71, 72, 73, 74, 75, 76, 77, 78, 79, 80, 81, 82, 83, 84] (wTown2 E (ja 16 (fun k => a (1 + k)) (fun k => a (33 + k))) U) (wEA E a S) := zrep_of (isR := [0, 17, 18, 19, 20, 21, 22, 23, 24, 25, 26, 27, 28, 29, 30, 31, 32, 33, 34, 35, 36, 37, 38, 39, 40, 41, 42, 43, 44, 45, 46, 47, 48, 49, 50, 51, 52, 53, 54, 55, 56, 57, 58, 59, 60, 61, 62, 63, 64, 65, 66, 67, 68, 85, 86, 87, 88, 89, 90, 91, 92, 93, 94, 95, 96, 97, 98, 99, 100]) 101 rfl [some (a 0, .inr (6, [.ref (a 1), .ref (a 17), .ref (a 65), .ref (a 66), .ref (a 67), .ref (a 69), .ref (a 73), .ref (a 77), .ref (a 93), .int (S 184 0), .int (S 185 0)])), some (a 17, .inr (5, [.int (S 32 0), .int (S 33 0), .int (S 34 0), .ref (a 18), .ref (a 19), .ref (a 20), .ref (a 21), .int (S 39 0), .ref (a 22), .ref (a 23), .ref (a 24), .int (S 43 0), .ref (a 25), .ref (a 26), .ref (a 27), .ref (a 28)])), some (a 18, .inl (zI E, 14, .inl (S 35))), some (a 19, .inl (zI E, 14, .inl (S 36))), some (a 20, .inl (zI E, 14, .inl (S 37))), some (a 21, .inl (zI E, 14, .inl (S 38))), some (a 22, .inl (zI E, 12, .inl (S 40))), some (a 23, .inl (zI E, 12, .inl (S 41))), some (a 24, .inl (zI E, 12, .inl (S 42))), some (a 25, .inl (zI E, 4, .inl (S 44))), some (a 26, .inl (zI E, 4, .inl (S 45))), some (a 27, .inl (zI E, 4, .inl (S 46))), some (a 28, .inr (2, [.ref (a 29), .ref (a 30), .ref (a 31), .ref (a 32)])), some (a 29, .inl (zI E, 8, .inl (S 48))), some (a 30, .inl (zI E, 8, .inl (S 49))), some (a 31, .inl (zI E, 8, .inl (S 50))), some (a 32, .inl (zI E, 8, .inl (S 51))), some (a 65, .inl (zT E, 2, .inr (.inr (.inr (.inr (va_up (va_up (fun _ => none) 0 (some (a 33))) 1 (some (a 49)))))))), some (a 66, .inl (zZ E, 2, .inl (S 186))), some (a 67, .inr (3, [.ref (a 68), .int (S 129 0), .int (S 130 0), .int (S 131 0), .int (S 132 0), .int (S 133 0), .int (S 134 0), .int (S 135 0), .int (S 136 0), .int (S 137 0), .int (S 138 0), .int (S 139 0)])), some (a 68, .inl (zI E, 400, .inl (S 128))), some (a 69, .inr (4, [.int (S 144 0), .ref (a 70), .ref (a 71), .ref (a 72), .int (S 148 0)])), some (a 70, .inl (zI E, 4, .inl (S 145))), some (a 71, .inl (zI E, 4, .inl (S 146))), some (a 72, .inl (zI E, 4, .inl (S 147))), some (a 73, .inr (4, [.int (S 152 0), .ref (a 74), .ref (a 75), .ref (a 76), .int (S 156 0)])), some (a 74, .inl (zI E, 8, .inl (S 153))), some (a 75, .inl (zI E, 8, .inl (S 154))), some (a 76, .inl (zI E, 8, .inl (S 155))), some (a 77, .inr (0, [.int (S 160 0), .ref (a 78), .ref (a 79), .ref (a 80), .ref (a 81), .ref (a 82), .ref (a 83), .ref (a 88)])), some (a 78, .inl (zI E, 4, .inl (S 161))), some (a 79, .inl (zI E, 4, .inl (S 162))), some (a 80, .inl (zI E, 4, .inl (S 163))), some (a 81, .inl (zI E, 4, .inl (S 164))), some (a 82, .inl (zI E, 4, .inl (S 165))), some (a 83, .inr (2, [.ref (a 84), .ref (a 85), .ref (a 86), .ref (a 87)])), some (a 84, .inl (zI E, 8, .inl (S 168))), some (a 85, .inl (zI E, 8, .inl (S 169))), some (a 86, .inl (zI E, 8, .inl (S 170))), some (a 87, .inl (zI E, 8, .inl (S 171))), some (a 88, .inr (2, [.ref (a 89), .ref (a 90), .ref (a 91), .ref (a 92)])), some (a 89, .inl (zI E, 8, .inl (S 172))), some (a 90, .inl (zI E, 8, .inl (S 173))), some (a 91, .inl (zI E, 8, .inl (S 174))), some (a 92, .inl (zI E, 8, .inl (S 175))), some (a 93, .inr (1, [.ref (a 94), .ref (a 99), .ref (a 100)])), some (a 94, .inl (zII E, 4, .inr (.inr (.inr (.inr (va_up (va_up (va_up (va_up (fun _ => none) 0 (some (a 95))) 1 (some (a 96))) 2 (some (a 97))) 3 (some (a 98)))))))), some (a 95, .inl (zI E, 40, .inl (S 176))), some (a 96, .inl (zI E, 40, .inl (S 177))), some (a 97, .inl (zI E, 40, .inl (S 178))), some (a 98, .inl (zI E, 40, .inl (S 179))), some (a 99, .inl (zI E, 4, .inl (S 180))), some (a 100, .inl (zI E, 4, .inl (S 181))), some (a 49, .inr (5, [.int (S 96 0), .int (S 97 0), .int (S 98 0), .ref (a 50), .ref (a 51), .ref (a 52), .ref (a 53), .int (S 103 0), .ref (a 54), .ref (a 55), .ref (a 56), .int (S 107 0), .ref (a 57), .ref (a 58), .ref (a 59), .ref (a 60)])), some (a 50, .inl (zI E, 14, .inl (S 99))), some (a 51, .inl (zI E, 14, .inl (S 100))), some (a 52, .inl (zI E, 14, .inl (S 101))), some (a 53, .inl (zI E, 14, .inl (S 102))), some (a 54, .inl (zI E, 12, .inl (S 104))), some (a 55, .inl (zI E, 12, .inl (S 105))), some (a 56, .inl (zI E, 12, .inl (S 106))), some (a 57, .inl (zI E, 4, .inl (S 108))), some (a 58, .inl (zI E, 4, .inl (S 109))), some (a 59, .inl (zI E, 4, .inl (S 110))), some (a 60, .inr (2, [.ref (a 61), .ref (a 62), .ref (a 63), .ref (a 64)])), some (a 61, .inl (zI E, 8, .inl (S 112))), some (a 62, .inl (zI E, 8, .inl (S 113))), some (a 63, .inl (zI E, 8, .inl (S 114))), some (a 64, .inl (zI E, 8, .inl (S 115)))] rfl rfl rfl rfl (by decide +kernel) (by decide +kernel)
noncomputable def f_X6_back (x1 : Int32) (S : St) : Option (Int32 × St) := ((f_X6_isImage x1).bind (fun q1 => (if q1 = 0 then (some ((-1 : Int32), S)) else (ix x1 2 (if (S 186 (Int32.toNatClampNeg x1)) = 0 then (some ((-2 : Int32), S)) else (if x1 = 0 then ((f_X5_copyOf (jn 32 (sb 0 S) (sb 64 S))).bind (fun q3 => (some ((q3 2 0), (pt 64 32 (sb 32 q3) (pt 0 32 q3 S)))))) else (if x1 = 1 then ((f_X5_copyOf (jn 32 (sb 0 S) (sb 96 S))).bind (fun q2 => (some ((q2 2 0), (pt 96 32 (sb 32 q2) (pt 0 32 q2 S)))))) else none)))))))
set_option maxHeartbeats 4000000 in
set_option maxRecDepth 100000 in
theorem L_X6_back {E : zEnv} {Γ : zG} (a : Nat → Nat) (C : zC E Γ cX6_back RX6 2 rm_X6_back wsX6_back) {res : (Int32 × St)} (R : zRi E Γ cX6_back 2 .int (wEA E a res.2) res.1) (x1 : Int32) (S : St) (h : f_X6_back x1 S = some res) : Zt E Γ 2 0 0 (wEA E a S) [(0, .ref (a 0)), (1, .int x1)] 0 [] := by
  unfold f_X6_back at h
  refine z_iload_n C 1 rfl rfl dX6_back_0 ?_
  obtain ⟨q1, e1, h⟩ := bd_e h
  refine z_callSi C (rest := []) (c_X6_isImage E x1 e1) gX6_back_X6_isImage rfl rfl rfl 1 rfl (by decide +kernel) ⟨Nat.le_of_ble_eq_true rfl, Nat.le_of_ble_eq_true rfl⟩ [] rfl (by decide) rfl (wEA E a S) rfl (Nat.le_of_ble_eq_true rfl) dX6_back_1 ⟨Nat.zero_le _, Nat.zero_le _⟩ _ rfl ?_
  refine z_if_ne C 9 (by decide) h dX6_back_4 (fun hc h => ?_) (fun hc h => ?_)
  · refine z_iconst C (v := (-1 : Int32)) (by decide) dX6_back_7 ?_
    obtain rfl := Option.some.inj h
    exact R rfl 8 _ dX6_back_8
  · refine z_aload_n C 0 rfl rfl dX6_back_9 ?_
    refine z_get C 0 rfl (C := RX6) (T := TX6) (N := 11) (ci := 6) rfl inw_X6_back_X6 3 (by decide) (ref := "EldestAge") (List.mem_of_getElem? (i := 1) rfl) rfl (v := .ref (a 66)) rfl dX6_back_10 ?_
    refine z_iload_n C 1 rfl rfl dX6_back_13 ?_
    refine z_zald C (N := 2) (f := (S 186)) 34 rfl h dX6_back_14 (fun h => ?_)
    refine z_if_ne C 21 (by decide) h dX6_back_15 (fun hc h => ?_) (fun hc h => ?_)
    · refine z_bipush C (v := (-2 : Int32)) (by decide) dX6_back_18 ?_
      obtain rfl := Option.some.inj h
      exact R rfl 20 _ dX6_back_20
    · refine z_aload_n C 0 rfl rfl dX6_back_21 ?_
      refine z_get C 0 rfl (C := RX6) (T := TX6) (N := 11) (ci := 6) rfl inw_X6_back_X6 0 (by decide) (ref := "EldestAge") (List.mem_of_getElem? (i := 2) rfl) rfl (v := .ref (a 1)) rfl dX6_back_22 ?_
      refine z_aload_n C 0 rfl rfl dX6_back_25 ?_
      refine z_get C 0 rfl (C := RX6) (T := TX6) (N := 11) (ci := 6) rfl inw_X6_back_X6 2 (by decide) (ref := "EldestAge") (List.mem_of_getElem? (i := 3) rfl) rfl (v := .ref (a 65)) rfl dX6_back_26 ?_
      refine z_iload_n C 1 rfl rfl dX6_back_29 ?_
      by_cases hc : x1 = 0
      · replace h := (if_e h).1 hc
        refine z_aldrT C 33 rfl (by rw [hc]; exact vp_in_iff.mpr (by decide)) (v := .ref (a 33)) (by rw [hc]; rfl) dX6_back_30 ?_
        obtain ⟨q3, e3, h⟩ := bd_e h
        refine z_callVv C (b := a 1) (As := [.ref (a 33)]) (rest := []) (c_X5_copyOf E (ja 16 (fun k => a (1 + k)) (fun k => a (33 + k))) (jn 32 (sb 0 S) (sb 64 S)) e3) rfl gX6_back_X5_copyOf rfl rfl rfl 1 rfl (by decide +kernel) ⟨Nat.le_of_ble_eq_true rfl, Nat.le_of_ble_eq_true rfl⟩ [1, 2, 3, 4, 5, 6, 7, 8, 9, 10, 11, 12, 13, 14, 15, 16, 69, 70, 71, 72, 73, 74, 75, 76, 77, 78, 79, 80, 81, 82, 83, 84] (wl_X6_back_3 E a S) (by decide) (wl_X6_back_4 E a _ _) (wEA E a (pt 64 32 (sb 32 q3) (pt 0 32 q3 S))) (wl_X6_back_5 E a S q3) 0 5 rfl rfl rfl (Nat.le_of_ble_eq_true rfl) dX6_back_31 ⟨Nat.zero_le _, Nat.zero_le _⟩ _ rfl ?_
        refine z_aload_n C 0 rfl rfl dX6_back_34 ?_
        refine z_get C 0 rfl (C := RX6) (T := TX6) (N := 11) (ci := 6) rfl inw_X6_back_X6 0 (by decide) (ref := "EldestAge") (List.mem_of_getElem? (i := 2) rfl) rfl (v := .ref (a 1)) rfl dX6_back_35 ?_
        refine z_get C 1 rfl (C := RX5) (T := TX5) (N := 16) (ci := 5) rfl inw_X6_back_X5 2 (by decide) (ref := "EldestAge$Town") (List.mem_of_getElem? (i := 4) rfl) rfl (v := .int (q3 2 0)) rfl dX6_back_38 ?_
        obtain rfl := Option.some.inj h
        exact R rfl 41 _ dX6_back_41
      · replace h := (if_e h).2 hc
        by_cases hc : x1 = 1
        · replace h := (if_e h).1 hc
          refine z_aldrT C 33 rfl (by rw [hc]; exact vp_in_iff.mpr (by decide)) (v := .ref (a 49)) (by rw [hc]; rfl) dX6_back_30 ?_
          obtain ⟨q2, e2, h⟩ := bd_e h
          refine z_callVv C (b := a 1) (As := [.ref (a 49)]) (rest := []) (c_X5_copyOf E (ja 16 (fun k => a (1 + k)) (fun k => a (49 + k))) (jn 32 (sb 0 S) (sb 96 S)) e2) rfl gX6_back_X5_copyOf rfl rfl rfl 1 rfl (by decide +kernel) ⟨Nat.le_of_ble_eq_true rfl, Nat.le_of_ble_eq_true rfl⟩ [1, 2, 3, 4, 5, 6, 7, 8, 9, 10, 11, 12, 13, 14, 15, 16, 85, 86, 87, 88, 89, 90, 91, 92, 93, 94, 95, 96, 97, 98, 99, 100] (wl_X6_back_0 E a S) (by decide) (wl_X6_back_1 E a _ _) (wEA E a (pt 96 32 (sb 32 q2) (pt 0 32 q2 S))) (wl_X6_back_2 E a S q2) 0 5 rfl rfl rfl (Nat.le_of_ble_eq_true rfl) dX6_back_31 ⟨Nat.zero_le _, Nat.zero_le _⟩ _ rfl ?_
          refine z_aload_n C 0 rfl rfl dX6_back_34 ?_
          refine z_get C 0 rfl (C := RX6) (T := TX6) (N := 11) (ci := 6) rfl inw_X6_back_X6 0 (by decide) (ref := "EldestAge") (List.mem_of_getElem? (i := 2) rfl) rfl (v := .ref (a 1)) rfl dX6_back_35 ?_
          refine z_get C 1 rfl (C := RX5) (T := TX5) (N := 16) (ci := 5) rfl inw_X6_back_X5 2 (by decide) (ref := "EldestAge$Town") (List.mem_of_getElem? (i := 4) rfl) rfl (v := .int (q2 2 0)) rfl dX6_back_38 ?_
          obtain rfl := Option.some.inj h
          exact R rfl 41 _ dX6_back_41
        · replace h := (if_e h).2 hc
          cases h

theorem c_X6_back (E : zEnv) (a : Nat → Nat) (x1 : Int32) (S : St) {res : (Int32 × St)} (h : f_X6_back x1 S = some res) : Kti E yX6_back wsX6_back rm_X6_back (wEA E a S) (wEA E a res.2) [.ref (a 0), .int x1] res.1 :=
  z_enti (cc := cX6_back) (maxL := 2) (rt := .int) (by decide +kernel) rfl (Nat.le_of_ble_eq_true rfl) (fun Γ C R => L_X6_back a C R x1 S h)

abbrev rm_X6_sheet : Room := { frames := 1, cells := 0, slots := 0, locals := 24 }
theorem inw_X6_sheet_X6 : ∀ w ∈ wsX60, w ∈ wsX6_sheet := fun _ h => List.mem_cons_of_mem _ (List.mem_append_left _ (List.mem_append_right _ h))
theorem inw_X6_sheet_X1 : ∀ w ∈ wsX10, w ∈ wsX6_sheet := fun _ h => List.mem_cons_of_mem _ (List.mem_append_right _ h)
set_option maxHeartbeats 4000000 in
theorem wl_X6_sheet_0 (E : zEnv) (a : Nat → Nat) (S : St) : ([61, 62, 63, 64, 65, 66, 67, 68] : List Nat).map (fun i => (wEA E a S)[i]?) = (wSheets E (fun k => a (93 + k)) (sb 176 S)).map some := rfl
set_option maxHeartbeats 4000000 in
theorem wl_X6_sheet_1 (E : zEnv) (a : Nat → Nat) (S U : St) : (wSheets E (fun k => a (93 + k)) U).map (fun q => q.1) = (wSheets E (fun k => a (93 + k)) S).map (fun q => q.1) := rfl
set_option maxHeartbeats 4000000 in
theorem wl_X6_sheet_2 (E : zEnv) (a : Nat → Nat) (S U : St) : (wEA E a (pt 176 8 U S)) = zrep [61, 62, 63, 64, 65, 66, 67, 68] (wSheets E (fun k => a (93 + k)) U) (wEA E a S) := zrep_of (isR := [0, 1, 2, 3, 4, 5, 6, 7, 8, 9, 10, 11, 12, 13, 14, 15, 16, 17, 18, 19, 20, 21, 22, 23, 24, 25, 26, 27, 28, 29, 30, 31, 32, 33, 34, 35, 36, 37, 38, 39, 40, 41, 42, 43, 44, 45, 46, 47, 48, 49, 50, 51, 52, 53, 54, 55, 56, 57, 58, 59, 60, 69, 70, 71, 72, 73, 74, 75, 76, 77, 78, 79, 80, 81, 82, 83, 84, 85, 86, 87, 88, 89, 90, 91, 92, 93, 94, 95, 96, 97, 98, 99, 100]) 101 rfl [some (a 0, .inr (6, [.ref (a 1), .ref (a 17), .ref (a 65), .ref (a 66), .ref (a 67), .ref (a 69), .ref (a 73), .ref (a 77), .ref (a 93), .int (S 184 0), .int (S 185 0)])), some (a 1, .inr (5, [.int (S 0 0), .int (S 1 0), .int (S 2 0), .ref (a 2), .ref (a 3), .ref (a 4), .ref (a 5), .int (S 7 0), .ref (a 6), .ref (a 7), .ref (a 8), .int (S 11 0), .ref (a 9), .ref (a 10), .ref (a 11), .ref (a 12)])), some (a 2, .inl (zI E, 14, .inl (S 3))), some (a 3, .inl (zI E, 14, .inl (S 4))), some (a 4, .inl (zI E, 14, .inl (S 5))), some (a 5, .inl (zI E, 14, .inl (S 6))), some (a 6, .inl (zI E, 12, .inl (S 8))), some (a 7, .inl (zI E, 12, .inl (S 9))), some (a 8, .inl (zI E, 12, .inl (S 10))), some (a 9, .inl (zI E, 4, .inl (S 12))), some (a 10, .inl (zI E, 4, .inl (S 13))), some (a 11, .inl (zI E, 4, .inl (S 14))), some (a 12, .inr (2, [.ref (a 13), .ref (a 14), .ref (a 15), .ref (a 16)])), some (a 13, .inl (zI E, 8, .inl (S 16))), some (a 14, .inl (zI E, 8, .inl (S 17))), some (a 15, .inl (zI E, 8, .inl (S 18))), some (a 16, .inl (zI E, 8, .inl (S 19))), some (a 17, .inr (5, [.int (S 32 0), .int (S 33 0), .int (S 34 0), .ref (a 18), .ref (a 19), .ref (a 20), .ref (a 21), .int (S 39 0), .ref (a 22), .ref (a 23), .ref (a 24), .int (S 43 0), .ref (a 25), .ref (a 26), .ref (a 27), .ref (a 28)])), some (a 18, .inl (zI E, 14, .inl (S 35))), some (a 19, .inl (zI E, 14, .inl (S 36))), some (a 20, .inl (zI E, 14, .inl (S 37))), some (a 21, .inl (zI E, 14, .inl (S 38))), some (a 22, .inl (zI E, 12, .inl (S 40))), some (a 23, .inl (zI E, 12, .inl (S 41))), some (a 24, .inl (zI E, 12, .inl (S 42))), some (a 25, .inl (zI E, 4, .inl (S 44))), some (a 26, .inl (zI E, 4, .inl (S 45))), some (a 27, .inl (zI E, 4, .inl (S 46))), some (a 28, .inr (2, [.ref (a 29), .ref (a 30), .ref (a 31), .ref (a 32)])), some (a 29, .inl (zI E, 8, .inl (S 48))), some (a 30, .inl (zI E, 8, .inl (S 49))), some (a 31, .inl (zI E, 8, .inl (S 50))), some (a 32, .inl (zI E, 8, .inl (S 51))), some (a 65, .inl (zT E, 2, .inr (.inr (.inr (.inr (va_up (va_up (fun _ => none) 0 (some (a 33))) 1 (some (a 49)))))))), some (a 66, .inl (zZ E, 2, .inl (S 186))), some (a 67, .inr (3, [.ref (a 68), .int (S 129 0), .int (S 130 0), .int (S 131 0), .int (S 132 0), .int (S 133 0), .int (S 134 0), .int (S 135 0), .int (S 136 0), .int (S 137 0), .int (S 138 0), .int (S 139 0)])), some (a 68, .inl (zI E, 400, .inl (S 128))), some (a 69, .inr (4, [.int (S 144 0), .ref (a 70), .ref (a 71), .ref (a 72), .int (S 148 0)])), some (a 70, .inl (zI E, 4, .inl (S 145))), some (a 71, .inl (zI E, 4, .inl (S 146))), some (a 72, .inl (zI E, 4, .inl (S 147))), some (a 73, .inr (4, [.int (S 152 0), .ref (a 74), .ref (a 75), .ref (a 76), .int (S 156 0)])), some (a 74, .inl (zI E, 8, .inl (S 153))), some (a 75, .inl (zI E, 8, .inl (S 154))), some (a 76, .inl (zI E, 8, .inl (S 155))), some (a 77, .inr (0, [.int (S 160 0), .ref (a 78), .ref (a 79), .ref (a 80), .ref (a 81), .ref (a 82), .ref (a 83), .ref (a 88)])), some (a 78, .inl (zI E, 4, .inl (S 161))), some (a 79, .inl (zI E, 4, .inl (S 162))), some (a 80, .inl (zI E, 4, .inl (S 163))), some (a 81, .inl (zI E, 4, .inl (S 164))), some (a 82, .inl (zI E, 4, .inl (S 165))), some (a 83, .inr (2, [.ref (a 84), .ref (a 85), .ref (a 86), .ref (a 87)])), some (a 84, .inl (zI E, 8, .inl (S 168))), some (a 85, .inl (zI E, 8, .inl (S 169))), some (a 86, .inl (zI E, 8, .inl (S 170))), some (a 87, .inl (zI E, 8, .inl (S 171))), some (a 88, .inr (2, [.ref (a 89), .ref (a 90), .ref (a 91), .ref (a 92)])), some (a 89, .inl (zI E, 8, .inl (S 172))), some (a 90, .inl (zI E, 8, .inl (S 173))), some (a 91, .inl (zI E, 8, .inl (S 174))), some (a 92, .inl (zI E, 8, .inl (S 175))), some (a 33, .inr (5, [.int (S 64 0), .int (S 65 0), .int (S 66 0), .ref (a 34), .ref (a 35), .ref (a 36), .ref (a 37), .int (S 71 0), .ref (a 38), .ref (a 39), .ref (a 40), .int (S 75 0), .ref (a 41), .ref (a 42), .ref (a 43), .ref (a 44)])), some (a 34, .inl (zI E, 14, .inl (S 67))), some (a 35, .inl (zI E, 14, .inl (S 68))), some (a 36, .inl (zI E, 14, .inl (S 69))), some (a 37, .inl (zI E, 14, .inl (S 70))), some (a 38, .inl (zI E, 12, .inl (S 72))), some (a 39, .inl (zI E, 12, .inl (S 73))), some (a 40, .inl (zI E, 12, .inl (S 74))), some (a 41, .inl (zI E, 4, .inl (S 76))), some (a 42, .inl (zI E, 4, .inl (S 77))), some (a 43, .inl (zI E, 4, .inl (S 78))), some (a 44, .inr (2, [.ref (a 45), .ref (a 46), .ref (a 47), .ref (a 48)])), some (a 45, .inl (zI E, 8, .inl (S 80))), some (a 46, .inl (zI E, 8, .inl (S 81))), some (a 47, .inl (zI E, 8, .inl (S 82))), some (a 48, .inl (zI E, 8, .inl (S 83))), some (a 49, .inr (5, [.int (S 96 0), .int (S 97 0), .int (S 98 0), .ref (a 50), .ref (a 51), .ref (a 52), .ref (a 53), .int (S 103 0), .ref (a 54), .ref (a 55), .ref (a 56), .int (S 107 0), .ref (a 57), .ref (a 58), .ref (a 59), .ref (a 60)])), some (a 50, .inl (zI E, 14, .inl (S 99))), some (a 51, .inl (zI E, 14, .inl (S 100))), some (a 52, .inl (zI E, 14, .inl (S 101))), some (a 53, .inl (zI E, 14, .inl (S 102))), some (a 54, .inl (zI E, 12, .inl (S 104))), some (a 55, .inl (zI E, 12, .inl (S 105))), some (a 56, .inl (zI E, 12, .inl (S 106))), some (a 57, .inl (zI E, 4, .inl (S 108))), some (a 58, .inl (zI E, 4, .inl (S 109))), some (a 59, .inl (zI E, 4, .inl (S 110))), some (a 60, .inr (2, [.ref (a 61), .ref (a 62), .ref (a 63), .ref (a 64)])), some (a 61, .inl (zI E, 8, .inl (S 112))), some (a 62, .inl (zI E, 8, .inl (S 113))), some (a 63, .inl (zI E, 8, .inl (S 114))), some (a 64, .inl (zI E, 8, .inl (S 115)))] rfl rfl rfl rfl (by decide +kernel) (by decide +kernel)
noncomputable def f_X6_sheet (x1 : Int32) (x2 : Int32) (x3 : Int32) (S : St) : Option (Int32 × St) := ((f_X1_isSheet x1 (sb 176 S)).bind (fun q1 => (if q1 = 0 then (some ((-1 : Int32), S)) else ((f_X1_isLane x2 (sb 176 S)).bind (fun q2 => (if q2 = 0 then (some ((-1 : Int32), S)) else (if x3 ≤ (40 : Int32) then (if 0 ≤ x3 then ((f_X1_renew x1 x2 x3 (sb 176 S)).bind (fun q3 => (some ((1 : Int32), (pt 176 8 q3 S))))) else (some ((-14 : Int32), S))) else (some ((-1 : Int32), S)))))))))
set_option maxHeartbeats 4000000 in
set_option maxRecDepth 100000 in
theorem L_X6_sheet {E : zEnv} {Γ : zG} (a : Nat → Nat) (C : zC E Γ cX6_sheet RX6 4 rm_X6_sheet wsX6_sheet) {res : (Int32 × St)} (R : zRi E Γ cX6_sheet 4 .int (wEA E a res.2) res.1) (x1 : Int32) (x2 : Int32) (x3 : Int32) (S : St) (h : f_X6_sheet x1 x2 x3 S = some res) : Zt E Γ 4 0 0 (wEA E a S) [(0, .ref (a 0)), (1, .int x1), (2, .int x2), (3, .int x3)] 0 [] := by
  unfold f_X6_sheet at h
  refine z_aload_n C 0 rfl rfl dX6_sheet_0 ?_
  refine z_get C 0 rfl (C := RX6) (T := TX6) (N := 11) (ci := 6) rfl inw_X6_sheet_X6 8 (by decide) (ref := "EldestAge") (List.mem_of_getElem? (i := 1) rfl) rfl (v := .ref (a 93)) rfl dX6_sheet_1 ?_
  refine z_iload_n C 1 rfl rfl dX6_sheet_4 ?_
  obtain ⟨q1, e1, h⟩ := bd_e h
  refine z_callVi C (b := a 93) (As := [.int x1]) (rest := []) (c_X1_isSheet E (fun k => a (93 + k)) x1 (sb 176 S) e1) rfl gX6_sheet_X1_isSheet rfl rfl rfl 1 rfl (by decide +kernel) ⟨Nat.le_of_ble_eq_true rfl, Nat.le_of_ble_eq_true rfl⟩ [61, 62, 63, 64, 65, 66, 67, 68] (wl_X6_sheet_0 E a S) (by decide) rfl (wEA E a S) (zrep_self (wl_X6_sheet_0 E a S)) 0 1 rfl rfl rfl (Nat.le_of_ble_eq_true rfl) dX6_sheet_5 ⟨Nat.zero_le _, Nat.zero_le _⟩ _ rfl ?_
  refine z_if_eq C 28 (by decide) h dX6_sheet_8 (fun hc h => ?_) (fun hc h => ?_)
  · refine z_iconst C (v := (-1 : Int32)) (by decide) dX6_sheet_28 ?_
    obtain rfl := Option.some.inj h
    exact R rfl 29 _ dX6_sheet_29
  · refine z_aload_n C 0 rfl rfl dX6_sheet_11 ?_
    refine z_get C 0 rfl (C := RX6) (T := TX6) (N := 11) (ci := 6) rfl inw_X6_sheet_X6 8 (by decide) (ref := "EldestAge") (List.mem_of_getElem? (i := 1) rfl) rfl (v := .ref (a 93)) rfl dX6_sheet_12 ?_
    refine z_iload_n C 2 rfl rfl dX6_sheet_15 ?_
    obtain ⟨q2, e2, h⟩ := bd_e h
    refine z_callVi C (b := a 93) (As := [.int x2]) (rest := []) (c_X1_isLane E (fun k => a (93 + k)) x2 (sb 176 S) e2) rfl gX6_sheet_X1_isLane rfl rfl rfl 1 rfl (by decide +kernel) ⟨Nat.le_of_ble_eq_true rfl, Nat.le_of_ble_eq_true rfl⟩ [61, 62, 63, 64, 65, 66, 67, 68] (wl_X6_sheet_0 E a S) (by decide) rfl (wEA E a S) (zrep_self (wl_X6_sheet_0 E a S)) 0 1 rfl rfl rfl (Nat.le_of_ble_eq_true rfl) dX6_sheet_16 ⟨Nat.zero_le _, Nat.zero_le _⟩ _ rfl ?_
    refine z_if_eq C 28 (by decide) h dX6_sheet_19 (fun hc h => ?_) (fun hc h => ?_)
    · refine z_iconst C (v := (-1 : Int32)) (by decide) dX6_sheet_28 ?_
      obtain rfl := Option.some.inj h
      exact R rfl 29 _ dX6_sheet_29
    · refine z_iload_n C 3 rfl rfl dX6_sheet_22 ?_
      refine z_bipush C (v := (40 : Int32)) (by decide) dX6_sheet_23 ?_
      refine z_icmp_le C 30 (by decide) h dX6_sheet_25 (fun hc h => ?_) (fun hc h => ?_)
      · refine z_iload_n C 3 rfl rfl dX6_sheet_30 ?_
        refine z_if_ge C 37 (by decide) h dX6_sheet_31 (fun hc h => ?_) (fun hc h => ?_)
        · refine z_aload_n C 0 rfl rfl dX6_sheet_37 ?_
          refine z_get C 0 rfl (C := RX6) (T := TX6) (N := 11) (ci := 6) rfl inw_X6_sheet_X6 8 (by decide) (ref := "EldestAge") (List.mem_of_getElem? (i := 1) rfl) rfl (v := .ref (a 93)) rfl dX6_sheet_38 ?_
          refine z_iload_n C 1 rfl rfl dX6_sheet_41 ?_
          refine z_iload_n C 2 rfl rfl dX6_sheet_42 ?_
          refine z_iload_n C 3 rfl rfl dX6_sheet_43 ?_
          obtain ⟨q3, e3, h⟩ := bd_e h
          refine z_callVv C (b := a 93) (As := [.int x1, .int x2, .int x3]) (rest := []) (c_X1_renew E (fun k => a (93 + k)) x1 x2 x3 (sb 176 S) e3) rfl gX6_sheet_X1_renew rfl rfl rfl 3 rfl (by decide +kernel) ⟨Nat.le_of_ble_eq_true rfl, Nat.le_of_ble_eq_true rfl⟩ [61, 62, 63, 64, 65, 66, 67, 68] (wl_X6_sheet_0 E a S) (by decide) (wl_X6_sheet_1 E a _ _) (wEA E a (pt 176 8 q3 S)) (wl_X6_sheet_2 E a S q3) 0 1 rfl rfl rfl (Nat.le_of_ble_eq_true rfl) dX6_sheet_44 ⟨Nat.zero_le _, Nat.zero_le _⟩ _ rfl ?_
          refine z_iconst C (v := (1 : Int32)) (by decide) dX6_sheet_47 ?_
          obtain rfl := Option.some.inj h
          exact R rfl 48 _ dX6_sheet_48
        · refine z_bipush C (v := (-14 : Int32)) (by decide) dX6_sheet_34 ?_
          obtain rfl := Option.some.inj h
          exact R rfl 36 _ dX6_sheet_36
      · refine z_iconst C (v := (-1 : Int32)) (by decide) dX6_sheet_28 ?_
        obtain rfl := Option.some.inj h
        exact R rfl 29 _ dX6_sheet_29

theorem c_X6_sheet (E : zEnv) (a : Nat → Nat) (x1 : Int32) (x2 : Int32) (x3 : Int32) (S : St) {res : (Int32 × St)} (h : f_X6_sheet x1 x2 x3 S = some res) : Kti E yX6_sheet wsX6_sheet rm_X6_sheet (wEA E a S) (wEA E a res.2) [.ref (a 0), .int x1, .int x2, .int x3] res.1 :=
  z_enti (cc := cX6_sheet) (maxL := 4) (rt := .int) (by decide +kernel) rfl (Nat.le_of_ble_eq_true rfl) (fun Γ C R => L_X6_sheet a C R x1 x2 x3 S h)

abbrev rm_X6_lay : Room := { frames := 1, cells := 0, slots := 0, locals := 23 }
theorem inw_X6_lay_X6 : ∀ w ∈ wsX60, w ∈ wsX6_lay := fun _ h => List.mem_cons_of_mem _ (List.mem_append_left _ (List.mem_append_right _ h))
theorem inw_X6_lay_X1 : ∀ w ∈ wsX10, w ∈ wsX6_lay := fun _ h => List.mem_cons_of_mem _ (List.mem_append_right _ h)
set_option maxHeartbeats 4000000 in
theorem wl_X6_lay_0 (E : zEnv) (a : Nat → Nat) (S : St) : ([61, 62, 63, 64, 65, 66, 67, 68] : List Nat).map (fun i => (wEA E a S)[i]?) = (wSheets E (fun k => a (93 + k)) (sb 176 S)).map some := rfl
set_option maxHeartbeats 4000000 in
theorem wl_X6_lay_1 (E : zEnv) (a : Nat → Nat) (S U : St) : (wSheets E (fun k => a (93 + k)) U).map (fun q => q.1) = (wSheets E (fun k => a (93 + k)) S).map (fun q => q.1) := rfl
set_option maxHeartbeats 4000000 in
theorem wl_X6_lay_2 (E : zEnv) (a : Nat → Nat) (S U : St) : (wEA E a (pt 176 8 U S)) = zrep [61, 62, 63, 64, 65, 66, 67, 68] (wSheets E (fun k => a (93 + k)) U) (wEA E a S) := zrep_of (isR := [0, 1, 2, 3, 4, 5, 6, 7, 8, 9, 10, 11, 12, 13, 14, 15, 16, 17, 18, 19, 20, 21, 22, 23, 24, 25, 26, 27, 28, 29, 30, 31, 32, 33, 34, 35, 36, 37, 38, 39, 40, 41, 42, 43, 44, 45, 46, 47, 48, 49, 50, 51, 52, 53, 54, 55, 56, 57, 58, 59, 60, 69, 70, 71, 72, 73, 74, 75, 76, 77, 78, 79, 80, 81, 82, 83, 84, 85, 86, 87, 88, 89, 90, 91, 92, 93, 94, 95, 96, 97, 98, 99, 100]) 101 rfl [some (a 0, .inr (6, [.ref (a 1), .ref (a 17), .ref (a 65), .ref (a 66), .ref (a 67), .ref (a 69), .ref (a 73), .ref (a 77), .ref (a 93), .int (S 184 0), .int (S 185 0)])), some (a 1, .inr (5, [.int (S 0 0), .int (S 1 0), .int (S 2 0), .ref (a 2), .ref (a 3), .ref (a 4), .ref (a 5), .int (S 7 0), .ref (a 6), .ref (a 7), .ref (a 8), .int (S 11 0), .ref (a 9), .ref (a 10), .ref (a 11), .ref (a 12)])), some (a 2, .inl (zI E, 14, .inl (S 3))), some (a 3, .inl (zI E, 14, .inl (S 4))), some (a 4, .inl (zI E, 14, .inl (S 5))), some (a 5, .inl (zI E, 14, .inl (S 6))), some (a 6, .inl (zI E, 12, .inl (S 8))), some (a 7, .inl (zI E, 12, .inl (S 9))), some (a 8, .inl (zI E, 12, .inl (S 10))), some (a 9, .inl (zI E, 4, .inl (S 12))), some (a 10, .inl (zI E, 4, .inl (S 13))), some (a 11, .inl (zI E, 4, .inl (S 14))), some (a 12, .inr (2, [.ref (a 13), .ref (a 14), .ref (a 15), .ref (a 16)])), some (a 13, .inl (zI E, 8, .inl (S 16))), some (a 14, .inl (zI E, 8, .inl (S 17))), some (a 15, .inl (zI E, 8, .inl (S 18))), some (a 16, .inl (zI E, 8, .inl (S 19))), some (a 17, .inr (5, [.int (S 32 0), .int (S 33 0), .int (S 34 0), .ref (a 18), .ref (a 19), .ref (a 20), .ref (a 21), .int (S 39 0), .ref (a 22), .ref (a 23), .ref (a 24), .int (S 43 0), .ref (a 25), .ref (a 26), .ref (a 27), .ref (a 28)])), some (a 18, .inl (zI E, 14, .inl (S 35))), some (a 19, .inl (zI E, 14, .inl (S 36))), some (a 20, .inl (zI E, 14, .inl (S 37))), some (a 21, .inl (zI E, 14, .inl (S 38))), some (a 22, .inl (zI E, 12, .inl (S 40))), some (a 23, .inl (zI E, 12, .inl (S 41))), some (a 24, .inl (zI E, 12, .inl (S 42))), some (a 25, .inl (zI E, 4, .inl (S 44))), some (a 26, .inl (zI E, 4, .inl (S 45))), some (a 27, .inl (zI E, 4, .inl (S 46))), some (a 28, .inr (2, [.ref (a 29), .ref (a 30), .ref (a 31), .ref (a 32)])), some (a 29, .inl (zI E, 8, .inl (S 48))), some (a 30, .inl (zI E, 8, .inl (S 49))), some (a 31, .inl (zI E, 8, .inl (S 50))), some (a 32, .inl (zI E, 8, .inl (S 51))), some (a 65, .inl (zT E, 2, .inr (.inr (.inr (.inr (va_up (va_up (fun _ => none) 0 (some (a 33))) 1 (some (a 49)))))))), some (a 66, .inl (zZ E, 2, .inl (S 186))), some (a 67, .inr (3, [.ref (a 68), .int (S 129 0), .int (S 130 0), .int (S 131 0), .int (S 132 0), .int (S 133 0), .int (S 134 0), .int (S 135 0), .int (S 136 0), .int (S 137 0), .int (S 138 0), .int (S 139 0)])), some (a 68, .inl (zI E, 400, .inl (S 128))), some (a 69, .inr (4, [.int (S 144 0), .ref (a 70), .ref (a 71), .ref (a 72), .int (S 148 0)])), some (a 70, .inl (zI E, 4, .inl (S 145))), some (a 71, .inl (zI E, 4, .inl (S 146))), some (a 72, .inl (zI E, 4, .inl (S 147))), some (a 73, .inr (4, [.int (S 152 0), .ref (a 74), .ref (a 75), .ref (a 76), .int (S 156 0)])), some (a 74, .inl (zI E, 8, .inl (S 153))), some (a 75, .inl (zI E, 8, .inl (S 154))), some (a 76, .inl (zI E, 8, .inl (S 155))), some (a 77, .inr (0, [.int (S 160 0), .ref (a 78), .ref (a 79), .ref (a 80), .ref (a 81), .ref (a 82), .ref (a 83), .ref (a 88)])), some (a 78, .inl (zI E, 4, .inl (S 161))), some (a 79, .inl (zI E, 4, .inl (S 162))), some (a 80, .inl (zI E, 4, .inl (S 163))), some (a 81, .inl (zI E, 4, .inl (S 164))), some (a 82, .inl (zI E, 4, .inl (S 165))), some (a 83, .inr (2, [.ref (a 84), .ref (a 85), .ref (a 86), .ref (a 87)])), some (a 84, .inl (zI E, 8, .inl (S 168))), some (a 85, .inl (zI E, 8, .inl (S 169))), some (a 86, .inl (zI E, 8, .inl (S 170))), some (a 87, .inl (zI E, 8, .inl (S 171))), some (a 88, .inr (2, [.ref (a 89), .ref (a 90), .ref (a 91), .ref (a 92)])), some (a 89, .inl (zI E, 8, .inl (S 172))), some (a 90, .inl (zI E, 8, .inl (S 173))), some (a 91, .inl (zI E, 8, .inl (S 174))), some (a 92, .inl (zI E, 8, .inl (S 175))), some (a 33, .inr (5, [.int (S 64 0), .int (S 65 0), .int (S 66 0), .ref (a 34), .ref (a 35), .ref (a 36), .ref (a 37), .int (S 71 0), .ref (a 38), .ref (a 39), .ref (a 40), .int (S 75 0), .ref (a 41), .ref (a 42), .ref (a 43), .ref (a 44)])), some (a 34, .inl (zI E, 14, .inl (S 67))), some (a 35, .inl (zI E, 14, .inl (S 68))), some (a 36, .inl (zI E, 14, .inl (S 69))), some (a 37, .inl (zI E, 14, .inl (S 70))), some (a 38, .inl (zI E, 12, .inl (S 72))), some (a 39, .inl (zI E, 12, .inl (S 73))), some (a 40, .inl (zI E, 12, .inl (S 74))), some (a 41, .inl (zI E, 4, .inl (S 76))), some (a 42, .inl (zI E, 4, .inl (S 77))), some (a 43, .inl (zI E, 4, .inl (S 78))), some (a 44, .inr (2, [.ref (a 45), .ref (a 46), .ref (a 47), .ref (a 48)])), some (a 45, .inl (zI E, 8, .inl (S 80))), some (a 46, .inl (zI E, 8, .inl (S 81))), some (a 47, .inl (zI E, 8, .inl (S 82))), some (a 48, .inl (zI E, 8, .inl (S 83))), some (a 49, .inr (5, [.int (S 96 0), .int (S 97 0), .int (S 98 0), .ref (a 50), .ref (a 51), .ref (a 52), .ref (a 53), .int (S 103 0), .ref (a 54), .ref (a 55), .ref (a 56), .int (S 107 0), .ref (a 57), .ref (a 58), .ref (a 59), .ref (a 60)])), some (a 50, .inl (zI E, 14, .inl (S 99))), some (a 51, .inl (zI E, 14, .inl (S 100))), some (a 52, .inl (zI E, 14, .inl (S 101))), some (a 53, .inl (zI E, 14, .inl (S 102))), some (a 54, .inl (zI E, 12, .inl (S 104))), some (a 55, .inl (zI E, 12, .inl (S 105))), some (a 56, .inl (zI E, 12, .inl (S 106))), some (a 57, .inl (zI E, 4, .inl (S 108))), some (a 58, .inl (zI E, 4, .inl (S 109))), some (a 59, .inl (zI E, 4, .inl (S 110))), some (a 60, .inr (2, [.ref (a 61), .ref (a 62), .ref (a 63), .ref (a 64)])), some (a 61, .inl (zI E, 8, .inl (S 112))), some (a 62, .inl (zI E, 8, .inl (S 113))), some (a 63, .inl (zI E, 8, .inl (S 114))), some (a 64, .inl (zI E, 8, .inl (S 115)))] rfl rfl rfl rfl (by decide +kernel) (by decide +kernel)
noncomputable def f_X6_lay (x1 : Int32) (x2 : Int32) (x3 : Int32) (S : St) : Option (Int32 × St) := ((f_X1_isSheet x1 (sb 176 S)).bind (fun q1 => (if q1 = 0 then (some ((-1 : Int32), S)) else (ix x1 4 ((f_X1_faultAt x1 (S 180 (Int32.toNatClampNeg x1)) x2 (sb 176 S)).bind (fun q2 => (if q2 = 0 then ((f_X1_put x1 x2 x3 (sb 176 S)).bind (fun q3 => (some ((1 : Int32), (pt 176 8 q3 S))))) else (some (((-10 : Int32) - q2), S)))))))))
set_option maxHeartbeats 4000000 in
set_option maxRecDepth 100000 in
theorem L_X6_lay {E : zEnv} {Γ : zG} (a : Nat → Nat) (C : zC E Γ cX6_lay RX6 5 rm_X6_lay wsX6_lay) {res : (Int32 × St)} (R : zRi E Γ cX6_lay 5 .int (wEA E a res.2) res.1) (x1 : Int32) (x2 : Int32) (x3 : Int32) (S : St) (h : f_X6_lay x1 x2 x3 S = some res) : Zt E Γ 5 0 0 (wEA E a S) [(0, .ref (a 0)), (1, .int x1), (2, .int x2), (3, .int x3)] 0 [] := by
  unfold f_X6_lay at h
  refine z_aload_n C 0 rfl rfl dX6_lay_0 ?_
  refine z_get C 0 rfl (C := RX6) (T := TX6) (N := 11) (ci := 6) rfl inw_X6_lay_X6 8 (by decide) (ref := "EldestAge") (List.mem_of_getElem? (i := 1) rfl) rfl (v := .ref (a 93)) rfl dX6_lay_1 ?_
  refine z_iload_n C 1 rfl rfl dX6_lay_4 ?_
  obtain ⟨q1, e1, h⟩ := bd_e h
  refine z_callVi C (b := a 93) (As := [.int x1]) (rest := []) (c_X1_isSheet E (fun k => a (93 + k)) x1 (sb 176 S) e1) rfl gX6_lay_X1_isSheet rfl rfl rfl 1 rfl (by decide +kernel) ⟨Nat.le_of_ble_eq_true rfl, Nat.le_of_ble_eq_true rfl⟩ [61, 62, 63, 64, 65, 66, 67, 68] (wl_X6_lay_0 E a S) (by decide) rfl (wEA E a S) (zrep_self (wl_X6_lay_0 E a S)) 0 1 rfl rfl rfl (Nat.le_of_ble_eq_true rfl) dX6_lay_5 ⟨Nat.zero_le _, Nat.zero_le _⟩ _ rfl ?_
  refine z_if_ne C 13 (by decide) h dX6_lay_8 (fun hc h => ?_) (fun hc h => ?_)
  · refine z_iconst C (v := (-1 : Int32)) (by decide) dX6_lay_11 ?_
    obtain rfl := Option.some.inj h
    exact R rfl 12 _ dX6_lay_12
  · refine z_aload_n C 0 rfl rfl dX6_lay_13 ?_
    refine z_get C 0 rfl (C := RX6) (T := TX6) (N := 11) (ci := 6) rfl inw_X6_lay_X6 8 (by decide) (ref := "EldestAge") (List.mem_of_getElem? (i := 1) rfl) rfl (v := .ref (a 93)) rfl dX6_lay_14 ?_
    refine z_iload_n C 1 rfl rfl dX6_lay_17 ?_
    refine z_aload_n C 0 rfl rfl dX6_lay_18 ?_
    refine z_get C 0 rfl (C := RX6) (T := TX6) (N := 11) (ci := 6) rfl inw_X6_lay_X6 8 (by decide) (ref := "EldestAge") (List.mem_of_getElem? (i := 1) rfl) rfl (v := .ref (a 93)) rfl dX6_lay_19 ?_
    refine z_get C 61 rfl (C := RX1) (T := TX1) (N := 3) (ci := 1) rfl inw_X6_lay_X1 1 (by decide) (ref := "EldestAge$Sheets") (List.mem_of_getElem? (i := 2) rfl) rfl (v := .ref (a 99)) rfl dX6_lay_22 ?_
    refine z_iload_n C 1 rfl rfl dX6_lay_25 ?_
    refine z_iald C (N := 4) (f := (S 180)) 67 rfl h dX6_lay_26 (fun h => ?_)
    refine z_iload_n C 2 rfl rfl dX6_lay_27 ?_
    obtain ⟨q2, e2, h⟩ := bd_e h
    refine z_callVi C (b := a 93) (As := [.int x1, .int (S 180 (Int32.toNatClampNeg x1)), .int x2]) (rest := []) (c_X1_faultAt E (fun k => a (93 + k)) x1 (S 180 (Int32.toNatClampNeg x1)) x2 (sb 176 S) e2) rfl gX6_lay_X1_faultAt rfl rfl rfl 3 rfl (by decide +kernel) ⟨Nat.le_of_ble_eq_true rfl, Nat.le_of_ble_eq_true rfl⟩ [61, 62, 63, 64, 65, 66, 67, 68] (wl_X6_lay_0 E a S) (by decide) rfl (wEA E a S) (zrep_self (wl_X6_lay_0 E a S)) 0 1 rfl rfl rfl (Nat.le_of_ble_eq_true rfl) dX6_lay_28 ⟨Nat.zero_le _, Nat.zero_le _⟩ _ rfl ?_
    refine z_istore C [(4, .int q2), (0, .ref (a 0)), (1, .int x1), (2, .int x2), (3, .int x3)] (by decide) rfl dX6_lay_31 ?_
    refine z_iload C 0 rfl dX6_lay_33 ?_
    refine z_if_eq C 44 (by decide) h dX6_lay_35 (fun hc h => ?_) (fun hc h => ?_)
    · refine z_aload_n C 1 rfl rfl dX6_lay_44 ?_
      refine z_get C 0 rfl (C := RX6) (T := TX6) (N := 11) (ci := 6) rfl inw_X6_lay_X6 8 (by decide) (ref := "EldestAge") (List.mem_of_getElem? (i := 1) rfl) rfl (v := .ref (a 93)) rfl dX6_lay_45 ?_
      refine z_iload_n C 2 rfl rfl dX6_lay_48 ?_
      refine z_iload_n C 3 rfl rfl dX6_lay_49 ?_
      refine z_iload_n C 4 rfl rfl dX6_lay_50 ?_
      obtain ⟨q3, e3, h⟩ := bd_e h
      refine z_callVv C (b := a 93) (As := [.int x1, .int x2, .int x3]) (rest := []) (c_X1_put E (fun k => a (93 + k)) x1 x2 x3 (sb 176 S) e3) rfl gX6_lay_X1_put rfl rfl rfl 3 rfl (by decide +kernel) ⟨Nat.le_of_ble_eq_true rfl, Nat.le_of_ble_eq_true rfl⟩ [61, 62, 63, 64, 65, 66, 67, 68] (wl_X6_lay_0 E a S) (by decide) (wl_X6_lay_1 E a _ _) (wEA E a (pt 176 8 q3 S)) (wl_X6_lay_2 E a S q3) 0 1 rfl rfl rfl (Nat.le_of_ble_eq_true rfl) dX6_lay_51 ⟨Nat.zero_le _, Nat.zero_le _⟩ _ rfl ?_
      refine z_iconst C (v := (1 : Int32)) (by decide) dX6_lay_54 ?_
      obtain rfl := Option.some.inj h
      exact R rfl 55 _ dX6_lay_55
    · refine z_bipush C (v := (-10 : Int32)) (by decide) dX6_lay_38 ?_
      refine z_iload C 0 rfl dX6_lay_40 ?_
      refine z_isub C dX6_lay_42 ?_
      obtain rfl := Option.some.inj h
      exact R rfl 43 _ dX6_lay_43

theorem c_X6_lay (E : zEnv) (a : Nat → Nat) (x1 : Int32) (x2 : Int32) (x3 : Int32) (S : St) {res : (Int32 × St)} (h : f_X6_lay x1 x2 x3 S = some res) : Kti E yX6_lay wsX6_lay rm_X6_lay (wEA E a S) (wEA E a res.2) [.ref (a 0), .int x1, .int x2, .int x3] res.1 :=
  z_enti (cc := cX6_lay) (maxL := 5) (rt := .int) (by decide +kernel) rfl (Nat.le_of_ble_eq_true rfl) (fun Γ C R => L_X6_lay a C R x1 x2 x3 S h)

abbrev rm_X6_read : Room := { frames := 2, cells := 0, slots := 0, locals := 48 }
theorem inw_X6_read_X6 : ∀ w ∈ wsX60, w ∈ wsX6_read := fun _ h => List.mem_cons_of_mem _ (List.mem_append_left _ (List.mem_append_left _ (List.mem_append_right _ h)))
theorem inw_X6_read_X5 : ∀ w ∈ wsX50, w ∈ wsX6_read := fun _ h => List.mem_cons_of_mem _ (List.mem_append_left _ (List.mem_append_right _ h))
theorem inw_X6_read_X1 : ∀ w ∈ wsX10, w ∈ wsX6_read := fun _ h => List.mem_cons_of_mem _ (List.mem_append_right _ h)
set_option maxHeartbeats 4000000 in
theorem wl_X6_read_0 (E : zEnv) (a : Nat → Nat) (S : St) (v : Int32) : (wEA E a (st 7 (fun _ => v) S)) = (wEA E a S).set 1 (a 1, .inr (5, List.set [.int (S 0 0), .int (S 1 0), .int (S 2 0), .ref (a 2), .ref (a 3), .ref (a 4), .ref (a 5), .int (S 7 0), .ref (a 6), .ref (a 7), .ref (a 8), .int (S 11 0), .ref (a 9), .ref (a 10), .ref (a 11), .ref (a 12)] 7 (.int v))) := rfl
set_option maxHeartbeats 4000000 in
theorem wl_X6_read_1 (E : zEnv) (a : Nat → Nat) (S : St) (v : Int32) : (wEA E a (st 185 (fun _ => v) S)) = (wEA E a S).set 0 (a 0, .inr (6, List.set [.ref (a 1), .ref (a 17), .ref (a 65), .ref (a 66), .ref (a 67), .ref (a 69), .ref (a 73), .ref (a 77), .ref (a 93), .int (S 184 0), .int (S 185 0)] 10 (.int v))) := rfl
set_option maxHeartbeats 4000000 in
theorem wl_X6_read_2 (E : zEnv) (a : Nat → Nat) (S : St) : ([61, 62, 63, 64, 65, 66, 67, 68] : List Nat).map (fun i => (wEA E a S)[i]?) = (wSheets E (fun k => a (93 + k)) (sb 176 S)).map some := rfl
set_option maxHeartbeats 4000000 in
theorem wl_X6_read_3 (E : zEnv) (a : Nat → Nat) (S U : St) : (wSheets E (fun k => a (93 + k)) U).map (fun q => q.1) = (wSheets E (fun k => a (93 + k)) S).map (fun q => q.1) := rfl
set_option maxHeartbeats 4000000 in
theorem wl_X6_read_4 (E : zEnv) (a : Nat → Nat) (S : St) : ([1, 2, 3, 4, 5, 6, 7, 8, 9, 10, 11, 12, 13, 14, 15, 16] : List Nat).map (fun i => (wEA E a S)[i]?) = (wTown E (fun k => a (1 + k)) (sb 0 S)).map some := rfl
set_option maxHeartbeats 4000000 in
theorem wl_X6_read_5 (E : zEnv) (a : Nat → Nat) (S U : St) : (wTown E (fun k => a (1 + k)) U).map (fun q => q.1) = (wTown E (fun k => a (1 + k)) S).map (fun q => q.1) := rfl
set_option maxHeartbeats 4000000 in
theorem wl_X6_read_6 (E : zEnv) (a : Nat → Nat) (S U : St) : (wEA E a (pt 0 32 U S)) = zrep [1, 2, 3, 4, 5, 6, 7, 8, 9, 10, 11, 12, 13, 14, 15, 16] (wTown E (fun k => a (1 + k)) U) (wEA E a S) := zrep_of (isR := [0, 17, 18, 19, 20, 21, 22, 23, 24, 25, 26, 27, 28, 29, 30, 31, 32, 33, 34, 35, 36, 37, 38, 39, 40, 41, 42, 43, 44, 45, 46, 47, 48, 49, 50, 51, 52, 53, 54, 55, 56, 57, 58, 59, 60, 61, 62, 63, 64, 65, 66, 67, 68, 69, 70, 71, 72, 73, 74, 75, 76, 77, 78, 79, 80, 81, 82, 83, 84, 85, 86, 87, 88, 89, 90, 91, 92, 93, 94, 95, 96, 97, 98, 99, 100]) 101 rfl [some (a 0, .inr (6, [.ref (a 1), .ref (a 17), .ref (a 65), .ref (a 66), .ref (a 67), .ref (a 69), .ref (a 73), .ref (a 77), .ref (a 93), .int (S 184 0), .int (S 185 0)])), some (a 17, .inr (5, [.int (S 32 0), .int (S 33 0), .int (S 34 0), .ref (a 18), .ref (a 19), .ref (a 20), .ref (a 21), .int (S 39 0), .ref (a 22), .ref (a 23), .ref (a 24), .int (S 43 0), .ref (a 25), .ref (a 26), .ref (a 27), .ref (a 28)])), some (a 18, .inl (zI E, 14, .inl (S 35))), some (a 19, .inl (zI E, 14, .inl (S 36))), some (a 20, .inl (zI E, 14, .inl (S 37))), some (a 21, .inl (zI E, 14, .inl (S 38))), some (a 22, .inl (zI E, 12, .inl (S 40))), some (a 23, .inl (zI E, 12, .inl (S 41))), some (a 24, .inl (zI E, 12, .inl (S 42))), some (a 25, .inl (zI E, 4, .inl (S 44))), some (a 26, .inl (zI E, 4, .inl (S 45))), some (a 27, .inl (zI E, 4, .inl (S 46))), some (a 28, .inr (2, [.ref (a 29), .ref (a 30), .ref (a 31), .ref (a 32)])), some (a 29, .inl (zI E, 8, .inl (S 48))), some (a 30, .inl (zI E, 8, .inl (S 49))), some (a 31, .inl (zI E, 8, .inl (S 50))), some (a 32, .inl (zI E, 8, .inl (S 51))), some (a 65, .inl (zT E, 2, .inr (.inr (.inr (.inr (va_up (va_up (fun _ => none) 0 (some (a 33))) 1 (some (a 49)))))))), some (a 66, .inl (zZ E, 2, .inl (S 186))), some (a 67, .inr (3, [.ref (a 68), .int (S 129 0), .int (S 130 0), .int (S 131 0), .int (S 132 0), .int (S 133 0), .int (S 134 0), .int (S 135 0), .int (S 136 0), .int (S 137 0), .int (S 138 0), .int (S 139 0)])), some (a 68, .inl (zI E, 400, .inl (S 128))), some (a 69, .inr (4, [.int (S 144 0), .ref (a 70), .ref (a 71), .ref (a 72), .int (S 148 0)])), some (a 70, .inl (zI E, 4, .inl (S 145))), some (a 71, .inl (zI E, 4, .inl (S 146))), some (a 72, .inl (zI E, 4, .inl (S 147))), some (a 73, .inr (4, [.int (S 152 0), .ref (a 74), .ref (a 75), .ref (a 76), .int (S 156 0)])), some (a 74, .inl (zI E, 8, .inl (S 153))), some (a 75, .inl (zI E, 8, .inl (S 154))), some (a 76, .inl (zI E, 8, .inl (S 155))), some (a 77, .inr (0, [.int (S 160 0), .ref (a 78), .ref (a 79), .ref (a 80), .ref (a 81), .ref (a 82), .ref (a 83), .ref (a 88)])), some (a 78, .inl (zI E, 4, .inl (S 161))), some (a 79, .inl (zI E, 4, .inl (S 162))), some (a 80, .inl (zI E, 4, .inl (S 163))), some (a 81, .inl (zI E, 4, .inl (S 164))), some (a 82, .inl (zI E, 4, .inl (S 165))), some (a 83, .inr (2, [.ref (a 84), .ref (a 85), .ref (a 86), .ref (a 87)])), some (a 84, .inl (zI E, 8, .inl (S 168))), some (a 85, .inl (zI E, 8, .inl (S 169))), some (a 86, .inl (zI E, 8, .inl (S 170))), some (a 87, .inl (zI E, 8, .inl (S 171))), some (a 88, .inr (2, [.ref (a 89), .ref (a 90), .ref (a 91), .ref (a 92)])), some (a 89, .inl (zI E, 8, .inl (S 172))), some (a 90, .inl (zI E, 8, .inl (S 173))), some (a 91, .inl (zI E, 8, .inl (S 174))), some (a 92, .inl (zI E, 8, .inl (S 175))), some (a 93, .inr (1, [.ref (a 94), .ref (a 99), .ref (a 100)])), some (a 94, .inl (zII E, 4, .inr (.inr (.inr (.inr (va_up (va_up (va_up (va_up (fun _ => none) 0 (some (a 95))) 1 (some (a 96))) 2 (some (a 97))) 3 (some (a 98)))))))), some (a 95, .inl (zI E, 40, .inl (S 176))), some (a 96, .inl (zI E, 40, .inl (S 177))), some (a 97, .inl (zI E, 40, .inl (S 178))), some (a 98, .inl (zI E, 40, .inl (S 179))), some (a 99, .inl (zI E, 4, .inl (S 180))), some (a 100, .inl (zI E, 4, .inl (S 181))), some (a 33, .inr (5, [.int (S 64 0), .int (S 65 0), .int (S 66 0), .ref (a 34), .ref (a 35), .ref (a 36), .ref (a 37), .int (S 71 0), .ref (a 38), .ref (a 39), .ref (a 40), .int (S 75 0), .ref (a 41), .ref (a 42), .ref (a 43), .ref (a 44)])), some (a 34, .inl (zI E, 14, .inl (S 67))), some (a 35, .inl (zI E, 14, .inl (S 68))), some (a 36, .inl (zI E, 14, .inl (S 69))), some (a 37, .inl (zI E, 14, .inl (S 70))), some (a 38, .inl (zI E, 12, .inl (S 72))), some (a 39, .inl (zI E, 12, .inl (S 73))), some (a 40, .inl (zI E, 12, .inl (S 74))), some (a 41, .inl (zI E, 4, .inl (S 76))), some (a 42, .inl (zI E, 4, .inl (S 77))), some (a 43, .inl (zI E, 4, .inl (S 78))), some (a 44, .inr (2, [.ref (a 45), .ref (a 46), .ref (a 47), .ref (a 48)])), some (a 45, .inl (zI E, 8, .inl (S 80))), some (a 46, .inl (zI E, 8, .inl (S 81))), some (a 47, .inl (zI E, 8, .inl (S 82))), some (a 48, .inl (zI E, 8, .inl (S 83))), some (a 49, .inr (5, [.int (S 96 0), .int (S 97 0), .int (S 98 0), .ref (a 50), .ref (a 51), .ref (a 52), .ref (a 53), .int (S 103 0), .ref (a 54), .ref (a 55), .ref (a 56), .int (S 107 0), .ref (a 57), .ref (a 58), .ref (a 59), .ref (a 60)])), some (a 50, .inl (zI E, 14, .inl (S 99))), some (a 51, .inl (zI E, 14, .inl (S 100))), some (a 52, .inl (zI E, 14, .inl (S 101))), some (a 53, .inl (zI E, 14, .inl (S 102))), some (a 54, .inl (zI E, 12, .inl (S 104))), some (a 55, .inl (zI E, 12, .inl (S 105))), some (a 56, .inl (zI E, 12, .inl (S 106))), some (a 57, .inl (zI E, 4, .inl (S 108))), some (a 58, .inl (zI E, 4, .inl (S 109))), some (a 59, .inl (zI E, 4, .inl (S 110))), some (a 60, .inr (2, [.ref (a 61), .ref (a 62), .ref (a 63), .ref (a 64)])), some (a 61, .inl (zI E, 8, .inl (S 112))), some (a 62, .inl (zI E, 8, .inl (S 113))), some (a 63, .inl (zI E, 8, .inl (S 114))), some (a 64, .inl (zI E, 8, .inl (S 115)))] rfl rfl rfl rfl (by decide +kernel) (by decide +kernel)
noncomputable def f_X6_read_129 (x5 : Int32) (x7 : Int32) (S : St) : Option (Int32 × St) := (some (((-20 : Int32) - x7), (st 7 (fun _ => x5) S)))
noncomputable def f_X6_read_147 (k51 : Int32 → Int32 → Int32 → Int32 → Int32 → Int32 → Int32 → St → Option (Int32 × St)) (x1 : Int32) (x2 : Int32) (x3 : Int32) (x4 : Int32) (x5 : Int32) (x6 : Int32) (x7 : Int32) (S : St) : Option (Int32 × St) := (k51 x1 x2 x3 x4 x5 x6 x7 S)
noncomputable def f_X6_read_150 (x6 : Int32) (x7 : Int32) (S : St) : Option (Int32 × St) := (some (x7, (st 185 (fun _ => x6) S)))
noncomputable def f_X6_read_51 (n : Nat) : Int32 → Int32 → Int32 → Int32 → Int32 → Int32 → Int32 → St → Option (Int32 × St) := Nat.rec (motive := fun _ => Int32 → Int32 → Int32 → Int32 → Int32 → Int32 → Int32 → St → Option (Int32 × St)) (fun _ _ _ _ _ _ _ _ => none) (fun _ ih => fun x1 x2 x3 x4 x5 x6 x7 S => (if x4 ≤ x7 then (f_X6_read_150 x6 x7 S) else (if x6 = 0 then ((f_X1_faultOfThree x1 x2 (x3 + ((3 : Int32) * x7)) (sb 176 S)).bind (fun q1 => (if q1 = 0 then (if x1 = 0 then (ix (x3 + ((3 : Int32) * x7)) 40 (ix ((x3 + ((3 : Int32) * x7)) + (1 : Int32)) 40 (ix ((x3 + ((3 : Int32) * x7)) + (2 : Int32)) 40 ((f_X5_addMove (S 176 (Int32.toNatClampNeg (x3 + ((3 : Int32) * x7)))) (S 176 (Int32.toNatClampNeg ((x3 + ((3 : Int32) * x7)) + (1 : Int32)))) (S 176 (Int32.toNatClampNeg ((x3 + ((3 : Int32) * x7)) + (2 : Int32)))) (sb 0 S)).bind (fun q5 => (if 0 ≤ q5.1 then (f_X6_read_147 ih x1 x2 x3 x4 x5 q1 (x7 + (1 : Int32)) (pt 0 32 q5.2 S)) else (f_X6_read_129 x5 x7 (pt 0 32 q5.2 S)))))))) else (if x1 = 1 then (ix (x3 + ((3 : Int32) * x7)) 40 (ix ((x3 + ((3 : Int32) * x7)) + (1 : Int32)) 40 (ix ((x3 + ((3 : Int32) * x7)) + (2 : Int32)) 40 ((f_X5_addMove (S 177 (Int32.toNatClampNeg (x3 + ((3 : Int32) * x7)))) (S 177 (Int32.toNatClampNeg ((x3 + ((3 : Int32) * x7)) + (1 : Int32)))) (S 177 (Int32.toNatClampNeg ((x3 + ((3 : Int32) * x7)) + (2 : Int32)))) (sb 0 S)).bind (fun q4 => (if 0 ≤ q4.1 then (f_X6_read_147 ih x1 x2 x3 x4 x5 q1 (x7 + (1 : Int32)) (pt 0 32 q4.2 S)) else (f_X6_read_129 x5 x7 (pt 0 32 q4.2 S)))))))) else (if x1 = 2 then (ix (x3 + ((3 : Int32) * x7)) 40 (ix ((x3 + ((3 : Int32) * x7)) + (1 : Int32)) 40 (ix ((x3 + ((3 : Int32) * x7)) + (2 : Int32)) 40 ((f_X5_addMove (S 178 (Int32.toNatClampNeg (x3 + ((3 : Int32) * x7)))) (S 178 (Int32.toNatClampNeg ((x3 + ((3 : Int32) * x7)) + (1 : Int32)))) (S 178 (Int32.toNatClampNeg ((x3 + ((3 : Int32) * x7)) + (2 : Int32)))) (sb 0 S)).bind (fun q3 => (if 0 ≤ q3.1 then (f_X6_read_147 ih x1 x2 x3 x4 x5 q1 (x7 + (1 : Int32)) (pt 0 32 q3.2 S)) else (f_X6_read_129 x5 x7 (pt 0 32 q3.2 S)))))))) else (if x1 = 3 then (ix (x3 + ((3 : Int32) * x7)) 40 (ix ((x3 + ((3 : Int32) * x7)) + (1 : Int32)) 40 (ix ((x3 + ((3 : Int32) * x7)) + (2 : Int32)) 40 ((f_X5_addMove (S 179 (Int32.toNatClampNeg (x3 + ((3 : Int32) * x7)))) (S 179 (Int32.toNatClampNeg ((x3 + ((3 : Int32) * x7)) + (1 : Int32)))) (S 179 (Int32.toNatClampNeg ((x3 + ((3 : Int32) * x7)) + (2 : Int32)))) (sb 0 S)).bind (fun q2 => (if 0 ≤ q2.1 then (f_X6_read_147 ih x1 x2 x3 x4 x5 q1 (x7 + (1 : Int32)) (pt 0 32 q2.2 S)) else (f_X6_read_129 x5 x7 (pt 0 32 q2.2 S)))))))) else none)))) else (f_X6_read_147 ih x1 x2 x3 x4 x5 q1 x7 S)))) else (f_X6_read_150 x6 x7 S)))) n
theorem f_X6_read_51_s (n : Nat) (x1 : Int32) (x2 : Int32) (x3 : Int32) (x4 : Int32) (x5 : Int32) (x6 : Int32) (x7 : Int32) (S : St) : f_X6_read_51 (n + 1) x1 x2 x3 x4 x5 x6 x7 S = (if x4 ≤ x7 then (f_X6_read_150 x6 x7 S) else (if x6 = 0 then ((f_X1_faultOfThree x1 x2 (x3 + ((3 : Int32) * x7)) (sb 176 S)).bind (fun q1 => (if q1 = 0 then (if x1 = 0 then (ix (x3 + ((3 : Int32) * x7)) 40 (ix ((x3 + ((3 : Int32) * x7)) + (1 : Int32)) 40 (ix ((x3 + ((3 : Int32) * x7)) + (2 : Int32)) 40 ((f_X5_addMove (S 176 (Int32.toNatClampNeg (x3 + ((3 : Int32) * x7)))) (S 176 (Int32.toNatClampNeg ((x3 + ((3 : Int32) * x7)) + (1 : Int32)))) (S 176 (Int32.toNatClampNeg ((x3 + ((3 : Int32) * x7)) + (2 : Int32)))) (sb 0 S)).bind (fun q5 => (if 0 ≤ q5.1 then (f_X6_read_147 (f_X6_read_51 n) x1 x2 x3 x4 x5 q1 (x7 + (1 : Int32)) (pt 0 32 q5.2 S)) else (f_X6_read_129 x5 x7 (pt 0 32 q5.2 S)))))))) else (if x1 = 1 then (ix (x3 + ((3 : Int32) * x7)) 40 (ix ((x3 + ((3 : Int32) * x7)) + (1 : Int32)) 40 (ix ((x3 + ((3 : Int32) * x7)) + (2 : Int32)) 40 ((f_X5_addMove (S 177 (Int32.toNatClampNeg (x3 + ((3 : Int32) * x7)))) (S 177 (Int32.toNatClampNeg ((x3 + ((3 : Int32) * x7)) + (1 : Int32)))) (S 177 (Int32.toNatClampNeg ((x3 + ((3 : Int32) * x7)) + (2 : Int32)))) (sb 0 S)).bind (fun q4 => (if 0 ≤ q4.1 then (f_X6_read_147 (f_X6_read_51 n) x1 x2 x3 x4 x5 q1 (x7 + (1 : Int32)) (pt 0 32 q4.2 S)) else (f_X6_read_129 x5 x7 (pt 0 32 q4.2 S)))))))) else (if x1 = 2 then (ix (x3 + ((3 : Int32) * x7)) 40 (ix ((x3 + ((3 : Int32) * x7)) + (1 : Int32)) 40 (ix ((x3 + ((3 : Int32) * x7)) + (2 : Int32)) 40 ((f_X5_addMove (S 178 (Int32.toNatClampNeg (x3 + ((3 : Int32) * x7)))) (S 178 (Int32.toNatClampNeg ((x3 + ((3 : Int32) * x7)) + (1 : Int32)))) (S 178 (Int32.toNatClampNeg ((x3 + ((3 : Int32) * x7)) + (2 : Int32)))) (sb 0 S)).bind (fun q3 => (if 0 ≤ q3.1 then (f_X6_read_147 (f_X6_read_51 n) x1 x2 x3 x4 x5 q1 (x7 + (1 : Int32)) (pt 0 32 q3.2 S)) else (f_X6_read_129 x5 x7 (pt 0 32 q3.2 S)))))))) else (if x1 = 3 then (ix (x3 + ((3 : Int32) * x7)) 40 (ix ((x3 + ((3 : Int32) * x7)) + (1 : Int32)) 40 (ix ((x3 + ((3 : Int32) * x7)) + (2 : Int32)) 40 ((f_X5_addMove (S 179 (Int32.toNatClampNeg (x3 + ((3 : Int32) * x7)))) (S 179 (Int32.toNatClampNeg ((x3 + ((3 : Int32) * x7)) + (1 : Int32)))) (S 179 (Int32.toNatClampNeg ((x3 + ((3 : Int32) * x7)) + (2 : Int32)))) (sb 0 S)).bind (fun q2 => (if 0 ≤ q2.1 then (f_X6_read_147 (f_X6_read_51 n) x1 x2 x3 x4 x5 q1 (x7 + (1 : Int32)) (pt 0 32 q2.2 S)) else (f_X6_read_129 x5 x7 (pt 0 32 q2.2 S)))))))) else none)))) else (f_X6_read_147 (f_X6_read_51 n) x1 x2 x3 x4 x5 q1 x7 S)))) else (f_X6_read_150 x6 x7 S))) := rfl
noncomputable def f_X6_read (x1 : Int32) (x2 : Int32) (x3 : Int32) (x4 : Int32) (S : St) : Option (Int32 × St) := ((f_X1_isSheet x1 (sb 176 S)).bind (fun q6 => (if q6 = 0 then (some ((-1 : Int32), S)) else ((f_X1_isLane x2 (sb 176 S)).bind (fun q7 => (if q7 = 0 then (some ((-1 : Int32), S)) else (if x4 < 0 then (some ((-1 : Int32), S)) else (if x4 ≤ (13 : Int32) then (f_X6_read_51 1000 x1 x2 x3 x4 (S 7 0) (0 : Int32) (0 : Int32) S) else (some ((-1 : Int32), S))))))))))
set_option maxHeartbeats 4000000 in
set_option maxRecDepth 100000 in
theorem L_X6_read_129 {E : zEnv} {Γ : zG} (a : Nat → Nat) (C : zC E Γ cX6_read RX6 10 rm_X6_read wsX6_read) {res : (Int32 × St)} (R : zRi E Γ cX6_read 10 .int (wEA E a res.2) res.1) (x5 : Int32) (x7 : Int32) (S : St) (h : f_X6_read_129 x5 x7 S = some res) : Zt E Γ 10 0 0 (wEA E a S) [(0, .ref (a 0)), (5, .int x5), (7, .int x7)] 129 [] := by
  unfold f_X6_read_129 at h
  refine z_aload_n C 0 rfl rfl dX6_read_129 ?_
  refine z_get C 0 rfl (C := RX6) (T := TX6) (N := 11) (ci := 6) rfl inw_X6_read_X6 0 (by decide) (ref := "EldestAge") (List.mem_of_getElem? (i := 2) rfl) rfl (v := .ref (a 1)) rfl dX6_read_130 ?_
  refine z_iload C 1 rfl dX6_read_133 ?_
  refine z_put C 1 rfl (C := RX5) (T := TX5) (N := 16) (ci := 5) rfl inw_X6_read_X5 tyX5 tyX5_ok nmX5 7 (by decide) (ref := "EldestAge$Town") (List.mem_of_getElem? (i := 3) rfl) rfl rfl (ty := .int) (v := .int x5) (by decide +kernel) rfl rfl (Nat.le_of_ble_eq_true rfl) (wEA E a (st 7 (fun _ => x5) S)) (wl_X6_read_0 E a S x5) dX6_read_135 ?_
  refine z_bipush C (v := (-20 : Int32)) (by decide) dX6_read_138 ?_
  refine z_iload C 2 rfl dX6_read_140 ?_
  refine z_isub C dX6_read_142 ?_
  obtain rfl := Option.some.inj h
  exact R rfl 143 _ dX6_read_143

set_option maxHeartbeats 4000000 in
set_option maxRecDepth 100000 in
theorem L_X6_read_147 {E : zEnv} {Γ : zG} (a : Nat → Nat) (C : zC E Γ cX6_read RX6 10 rm_X6_read wsX6_read) {res : (Int32 × St)} (R : zRi E Γ cX6_read 10 .int (wEA E a res.2) res.1) (k51 : Int32 → Int32 → Int32 → Int32 → Int32 → Int32 → Int32 → St → Option (Int32 × St)) (hk51 : ∀ (x1 : Int32) (x2 : Int32) (x3 : Int32) (x4 : Int32) (x5 : Int32) (x6 : Int32) (x7 : Int32) (S : St), k51 x1 x2 x3 x4 x5 x6 x7 S = some res → Zt E Γ 10 0 0 (wEA E a S) [(0, .ref (a 0)), (1, .int x1), (2, .int x2), (3, .int x3), (4, .int x4), (5, .int x5), (6, .int x6), (7, .int x7)] 51 []) (x1 : Int32) (x2 : Int32) (x3 : Int32) (x4 : Int32) (x5 : Int32) (x6 : Int32) (x7 : Int32) (S : St) (h : f_X6_read_147 k51 x1 x2 x3 x4 x5 x6 x7 S = some res) : Zt E Γ 10 0 0 (wEA E a S) [(0, .ref (a 0)), (1, .int x1), (2, .int x2), (3, .int x3), (4, .int x4), (5, .int x5), (6, .int x6), (7, .int x7)] 147 [] := by
  unfold f_X6_read_147 at h
  refine z_goto C 51 (by decide) dX6_read_147 ?_
  exact hk51 x1 x2 x3 x4 x5 x6 x7 S h

set_option maxHeartbeats 4000000 in
set_option maxRecDepth 100000 in
theorem L_X6_read_150 {E : zEnv} {Γ : zG} (a : Nat → Nat) (C : zC E Γ cX6_read RX6 10 rm_X6_read wsX6_read) {res : (Int32 × St)} (R : zRi E Γ cX6_read 10 .int (wEA E a res.2) res.1) (x6 : Int32) (x7 : Int32) (S : St) (h : f_X6_read_150 x6 x7 S = some res) : Zt E Γ 10 0 0 (wEA E a S) [(0, .ref (a 0)), (6, .int x6), (7, .int x7)] 150 [] := by
  unfold f_X6_read_150 at h
  refine z_aload_n C 0 rfl rfl dX6_read_150 ?_
  refine z_iload C 1 rfl dX6_read_151 ?_
  refine z_put C 0 rfl (C := RX6) (T := TX6) (N := 11) (ci := 6) rfl inw_X6_read_X6 tyX6 tyX6_ok nmX6 10 (by decide) (ref := "EldestAge") (List.mem_of_getElem? (i := 5) rfl) rfl rfl (ty := .int) (v := .int x6) (by decide +kernel) rfl rfl (Nat.le_of_ble_eq_true rfl) (wEA E a (st 185 (fun _ => x6) S)) (wl_X6_read_1 E a S x6) dX6_read_153 ?_
  refine z_iload C 2 rfl dX6_read_156 ?_
  obtain rfl := Option.some.inj h
  exact R rfl 158 _ dX6_read_158

set_option maxHeartbeats 4000000 in
set_option maxRecDepth 100000 in
theorem L_X6_read_51 {E : zEnv} {Γ : zG} (a : Nat → Nat) (C : zC E Γ cX6_read RX6 10 rm_X6_read wsX6_read) {res : (Int32 × St)} (R : zRi E Γ cX6_read 10 .int (wEA E a res.2) res.1) : ∀ (n : Nat) (x1 : Int32) (x2 : Int32) (x3 : Int32) (x4 : Int32) (x5 : Int32) (x6 : Int32) (x7 : Int32) (S : St), f_X6_read_51 n x1 x2 x3 x4 x5 x6 x7 S = some res → Zt E Γ 10 0 0 (wEA E a S) [(0, .ref (a 0)), (1, .int x1), (2, .int x2), (3, .int x3), (4, .int x4), (5, .int x5), (6, .int x6), (7, .int x7)] 51 [] := by
  intro n
  induction n with
  | zero =>
    intro x1 x2 x3 x4 x5 x6 x7 S h
    cases h
  | succ n ih =>
    intro x1 x2 x3 x4 x5 x6 x7 S h
    rw [f_X6_read_51_s] at h
    refine z_iload C 7 rfl dX6_read_51 ?_
    refine z_iload C 4 rfl dX6_read_53 ?_
    refine z_icmp_ge C 150 (by decide) h dX6_read_55 (fun hc h => ?_) (fun hc h => ?_)
    · refine Zt_l [(0, .ref (a 0)), (6, .int x6), (7, .int x7)] [0, 6, 7] rfl ?_
      exact L_X6_read_150 a C R x6 x7 S h
    · refine z_iload C 6 rfl dX6_read_58 ?_
      refine z_if_ne C 150 (by decide) h dX6_read_60 (fun hc h => ?_) (fun hc h => ?_)
      · refine z_iload_n C 3 rfl rfl dX6_read_63 ?_
        refine z_iconst C (v := (3 : Int32)) (by decide) dX6_read_64 ?_
        refine z_iload C 7 rfl dX6_read_65 ?_
        refine z_imul C dX6_read_67 ?_
        refine z_iadd C dX6_read_68 ?_
        refine z_istore C [(8, .int (x3 + ((3 : Int32) * x7))), (0, .ref (a 0)), (1, .int x1), (2, .int x2), (3, .int x3), (4, .int x4), (5, .int x5), (6, .int x6), (7, .int x7)] (by decide) rfl dX6_read_69 ?_
        refine z_aload_n C 1 rfl rfl dX6_read_71 ?_
        refine z_get C 0 rfl (C := RX6) (T := TX6) (N := 11) (ci := 6) rfl inw_X6_read_X6 8 (by decide) (ref := "EldestAge") (List.mem_of_getElem? (i := 1) rfl) rfl (v := .ref (a 93)) rfl dX6_read_72 ?_
        refine z_iload_n C 2 rfl rfl dX6_read_75 ?_
        refine z_iload_n C 3 rfl rfl dX6_read_76 ?_
        refine z_iload C 0 rfl dX6_read_77 ?_
        obtain ⟨q1, e1, h⟩ := bd_e h
        refine z_callVi C (b := a 93) (As := [.int x1, .int x2, .int (x3 + ((3 : Int32) * x7))]) (rest := []) (c_X1_faultOfThree E (fun k => a (93 + k)) x1 x2 (x3 + ((3 : Int32) * x7)) (sb 176 S) e1) rfl gX6_read_X1_faultOfThree rfl rfl rfl 3 rfl (by decide +kernel) ⟨Nat.le_of_ble_eq_true rfl, Nat.le_of_ble_eq_true rfl⟩ [61, 62, 63, 64, 65, 66, 67, 68] (wl_X6_read_2 E a S) (by decide) rfl (wEA E a S) (zrep_self (wl_X6_read_2 E a S)) 0 1 rfl rfl rfl (Nat.le_of_ble_eq_true rfl) dX6_read_79 ⟨Nat.zero_le _, Nat.zero_le _⟩ _ rfl ?_
        refine z_istore C [(6, .int q1), (8, .int (x3 + ((3 : Int32) * x7))), (0, .ref (a 0)), (1, .int x1), (2, .int x2), (3, .int x3), (4, .int x4), (5, .int x5), (7, .int x7)] (by decide) rfl dX6_read_82 ?_
        refine z_iload C 0 rfl dX6_read_84 ?_
        refine z_if_ne C 147 (by decide) h dX6_read_86 (fun hc h => ?_) (fun hc h => ?_)
        · refine z_aload_n C 2 rfl rfl dX6_read_89 ?_
          refine z_get C 0 rfl (C := RX6) (T := TX6) (N := 11) (ci := 6) rfl inw_X6_read_X6 8 (by decide) (ref := "EldestAge") (List.mem_of_getElem? (i := 1) rfl) rfl (v := .ref (a 93)) rfl dX6_read_90 ?_
          refine z_get C 61 rfl (C := RX1) (T := TX1) (N := 3) (ci := 1) rfl inw_X6_read_X1 0 (by decide) (ref := "EldestAge$Sheets") (List.mem_of_getElem? (i := 4) rfl) rfl (v := .ref (a 94)) rfl dX6_read_93 ?_
          refine z_iload_n C 3 rfl rfl dX6_read_96 ?_
          by_cases hc : x1 = 0
          · replace h := (if_e h).1 hc
            refine z_aldrII C 62 rfl (by rw [hc]; exact vp_in_iff.mpr (by decide)) (v := .ref (a 95)) (by rw [hc]; rfl) dX6_read_97 ?_
            refine z_astore C [(9, .ref (a 95)), (6, .int q1), (8, .int (x3 + ((3 : Int32) * x7))), (0, .ref (a 0)), (1, .int x1), (2, .int x2), (3, .int x3), (4, .int x4), (5, .int x5), (7, .int x7)] (by decide) rfl dX6_read_98 ?_
            refine z_aload_n C 3 rfl rfl dX6_read_100 ?_
            refine z_get C 0 rfl (C := RX6) (T := TX6) (N := 11) (ci := 6) rfl inw_X6_read_X6 0 (by decide) (ref := "EldestAge") (List.mem_of_getElem? (i := 2) rfl) rfl (v := .ref (a 1)) rfl dX6_read_101 ?_
            refine z_aload C 0 rfl dX6_read_104 ?_
            refine z_iload C 2 rfl dX6_read_106 ?_
            refine z_iald C (N := 40) (f := (S 176)) 63 rfl h dX6_read_108 (fun h => ?_)
            refine z_aload C 0 rfl dX6_read_109 ?_
            refine z_iload C 2 rfl dX6_read_111 ?_
            refine z_iconst C (v := (1 : Int32)) (by decide) dX6_read_113 ?_
            refine z_iadd C dX6_read_114 ?_
            refine z_iald C (N := 40) (f := (S 176)) 63 rfl h dX6_read_115 (fun h => ?_)
            refine z_aload C 0 rfl dX6_read_116 ?_
            refine z_iload C 2 rfl dX6_read_118 ?_
            refine z_iconst C (v := (2 : Int32)) (by decide) dX6_read_120 ?_
            refine z_iadd C dX6_read_121 ?_
            refine z_iald C (N := 40) (f := (S 176)) 63 rfl h dX6_read_122 (fun h => ?_)
            obtain ⟨q5, e5, h⟩ := bd_e h
            refine z_callVi C (b := a 1) (As := [.int (S 176 (Int32.toNatClampNeg (x3 + ((3 : Int32) * x7)))), .int (S 176 (Int32.toNatClampNeg ((x3 + ((3 : Int32) * x7)) + (1 : Int32)))), .int (S 176 (Int32.toNatClampNeg ((x3 + ((3 : Int32) * x7)) + (2 : Int32))))]) (rest := []) (c_X5_addMove E (fun k => a (1 + k)) (S 176 (Int32.toNatClampNeg (x3 + ((3 : Int32) * x7)))) (S 176 (Int32.toNatClampNeg ((x3 + ((3 : Int32) * x7)) + (1 : Int32)))) (S 176 (Int32.toNatClampNeg ((x3 + ((3 : Int32) * x7)) + (2 : Int32)))) (sb 0 S) e5) rfl gX6_read_X5_addMove rfl rfl rfl 3 rfl (by decide +kernel) ⟨Nat.le_of_ble_eq_true rfl, Nat.le_of_ble_eq_true rfl⟩ [1, 2, 3, 4, 5, 6, 7, 8, 9, 10, 11, 12, 13, 14, 15, 16] (wl_X6_read_4 E a S) (by decide) (wl_X6_read_5 E a _ _) (wEA E a (pt 0 32 q5.2 S)) (wl_X6_read_6 E a S q5.2) 0 5 rfl rfl rfl (Nat.le_of_ble_eq_true rfl) dX6_read_123 ⟨Nat.zero_le _, Nat.zero_le _⟩ _ rfl ?_
            refine z_if_ge C 144 (by decide) h dX6_read_126 (fun hc h => ?_) (fun hc h => ?_)
            · refine z_iinc C [(7, .int (x7 + (1 : Int32))), (9, .ref (a 95)), (6, .int q1), (8, .int (x3 + ((3 : Int32) * x7))), (0, .ref (a 0)), (1, .int x1), (2, .int x2), (3, .int x3), (4, .int x4), (5, .int x5)] 9 rfl (by first | rfl | decide) (by decide) rfl dX6_read_144 ?_
              refine Zt_l [(0, .ref (a 0)), (1, .int x1), (2, .int x2), (3, .int x3), (4, .int x4), (5, .int x5), (6, .int q1), (7, .int (x7 + (1 : Int32)))] [4, 5, 6, 7, 8, 9, 2, 0] rfl ?_
              exact L_X6_read_147 a C R _ ih x1 x2 x3 x4 x5 q1 (x7 + (1 : Int32)) (pt 0 32 q5.2 S) h
            · refine Zt_l [(0, .ref (a 0)), (5, .int x5), (7, .int x7)] [3, 8, 9] rfl ?_
              exact L_X6_read_129 a C R x5 x7 (pt 0 32 q5.2 S) h
          · replace h := (if_e h).2 hc
            by_cases hc : x1 = 1
            · replace h := (if_e h).1 hc
              refine z_aldrII C 62 rfl (by rw [hc]; exact vp_in_iff.mpr (by decide)) (v := .ref (a 96)) (by rw [hc]; rfl) dX6_read_97 ?_
              refine z_astore C [(9, .ref (a 96)), (6, .int q1), (8, .int (x3 + ((3 : Int32) * x7))), (0, .ref (a 0)), (1, .int x1), (2, .int x2), (3, .int x3), (4, .int x4), (5, .int x5), (7, .int x7)] (by decide) rfl dX6_read_98 ?_
              refine z_aload_n C 3 rfl rfl dX6_read_100 ?_
              refine z_get C 0 rfl (C := RX6) (T := TX6) (N := 11) (ci := 6) rfl inw_X6_read_X6 0 (by decide) (ref := "EldestAge") (List.mem_of_getElem? (i := 2) rfl) rfl (v := .ref (a 1)) rfl dX6_read_101 ?_
              refine z_aload C 0 rfl dX6_read_104 ?_
              refine z_iload C 2 rfl dX6_read_106 ?_
              refine z_iald C (N := 40) (f := (S 177)) 64 rfl h dX6_read_108 (fun h => ?_)
              refine z_aload C 0 rfl dX6_read_109 ?_
              refine z_iload C 2 rfl dX6_read_111 ?_
              refine z_iconst C (v := (1 : Int32)) (by decide) dX6_read_113 ?_
              refine z_iadd C dX6_read_114 ?_
              refine z_iald C (N := 40) (f := (S 177)) 64 rfl h dX6_read_115 (fun h => ?_)
              refine z_aload C 0 rfl dX6_read_116 ?_
              refine z_iload C 2 rfl dX6_read_118 ?_
              refine z_iconst C (v := (2 : Int32)) (by decide) dX6_read_120 ?_
              refine z_iadd C dX6_read_121 ?_
              refine z_iald C (N := 40) (f := (S 177)) 64 rfl h dX6_read_122 (fun h => ?_)
              obtain ⟨q4, e4, h⟩ := bd_e h
              refine z_callVi C (b := a 1) (As := [.int (S 177 (Int32.toNatClampNeg (x3 + ((3 : Int32) * x7)))), .int (S 177 (Int32.toNatClampNeg ((x3 + ((3 : Int32) * x7)) + (1 : Int32)))), .int (S 177 (Int32.toNatClampNeg ((x3 + ((3 : Int32) * x7)) + (2 : Int32))))]) (rest := []) (c_X5_addMove E (fun k => a (1 + k)) (S 177 (Int32.toNatClampNeg (x3 + ((3 : Int32) * x7)))) (S 177 (Int32.toNatClampNeg ((x3 + ((3 : Int32) * x7)) + (1 : Int32)))) (S 177 (Int32.toNatClampNeg ((x3 + ((3 : Int32) * x7)) + (2 : Int32)))) (sb 0 S) e4) rfl gX6_read_X5_addMove rfl rfl rfl 3 rfl (by decide +kernel) ⟨Nat.le_of_ble_eq_true rfl, Nat.le_of_ble_eq_true rfl⟩ [1, 2, 3, 4, 5, 6, 7, 8, 9, 10, 11, 12, 13, 14, 15, 16] (wl_X6_read_4 E a S) (by decide) (wl_X6_read_5 E a _ _) (wEA E a (pt 0 32 q4.2 S)) (wl_X6_read_6 E a S q4.2) 0 5 rfl rfl rfl (Nat.le_of_ble_eq_true rfl) dX6_read_123 ⟨Nat.zero_le _, Nat.zero_le _⟩ _ rfl ?_
              refine z_if_ge C 144 (by decide) h dX6_read_126 (fun hc h => ?_) (fun hc h => ?_)
              · refine z_iinc C [(7, .int (x7 + (1 : Int32))), (9, .ref (a 96)), (6, .int q1), (8, .int (x3 + ((3 : Int32) * x7))), (0, .ref (a 0)), (1, .int x1), (2, .int x2), (3, .int x3), (4, .int x4), (5, .int x5)] 9 rfl (by first | rfl | decide) (by decide) rfl dX6_read_144 ?_
                refine Zt_l [(0, .ref (a 0)), (1, .int x1), (2, .int x2), (3, .int x3), (4, .int x4), (5, .int x5), (6, .int q1), (7, .int (x7 + (1 : Int32)))] [4, 5, 6, 7, 8, 9, 2, 0] rfl ?_
                exact L_X6_read_147 a C R _ ih x1 x2 x3 x4 x5 q1 (x7 + (1 : Int32)) (pt 0 32 q4.2 S) h
              · refine Zt_l [(0, .ref (a 0)), (5, .int x5), (7, .int x7)] [3, 8, 9] rfl ?_
                exact L_X6_read_129 a C R x5 x7 (pt 0 32 q4.2 S) h
            · replace h := (if_e h).2 hc
              by_cases hc : x1 = 2
              · replace h := (if_e h).1 hc
                refine z_aldrII C 62 rfl (by rw [hc]; exact vp_in_iff.mpr (by decide)) (v := .ref (a 97)) (by rw [hc]; rfl) dX6_read_97 ?_
                refine z_astore C [(9, .ref (a 97)), (6, .int q1), (8, .int (x3 + ((3 : Int32) * x7))), (0, .ref (a 0)), (1, .int x1), (2, .int x2), (3, .int x3), (4, .int x4), (5, .int x5), (7, .int x7)] (by decide) rfl dX6_read_98 ?_
                refine z_aload_n C 3 rfl rfl dX6_read_100 ?_
                refine z_get C 0 rfl (C := RX6) (T := TX6) (N := 11) (ci := 6) rfl inw_X6_read_X6 0 (by decide) (ref := "EldestAge") (List.mem_of_getElem? (i := 2) rfl) rfl (v := .ref (a 1)) rfl dX6_read_101 ?_
                refine z_aload C 0 rfl dX6_read_104 ?_
                refine z_iload C 2 rfl dX6_read_106 ?_
                refine z_iald C (N := 40) (f := (S 178)) 65 rfl h dX6_read_108 (fun h => ?_)
                refine z_aload C 0 rfl dX6_read_109 ?_
                refine z_iload C 2 rfl dX6_read_111 ?_
                refine z_iconst C (v := (1 : Int32)) (by decide) dX6_read_113 ?_
                refine z_iadd C dX6_read_114 ?_
                refine z_iald C (N := 40) (f := (S 178)) 65 rfl h dX6_read_115 (fun h => ?_)
                refine z_aload C 0 rfl dX6_read_116 ?_
                refine z_iload C 2 rfl dX6_read_118 ?_
                refine z_iconst C (v := (2 : Int32)) (by decide) dX6_read_120 ?_
                refine z_iadd C dX6_read_121 ?_
                refine z_iald C (N := 40) (f := (S 178)) 65 rfl h dX6_read_122 (fun h => ?_)
                obtain ⟨q3, e3, h⟩ := bd_e h
                refine z_callVi C (b := a 1) (As := [.int (S 178 (Int32.toNatClampNeg (x3 + ((3 : Int32) * x7)))), .int (S 178 (Int32.toNatClampNeg ((x3 + ((3 : Int32) * x7)) + (1 : Int32)))), .int (S 178 (Int32.toNatClampNeg ((x3 + ((3 : Int32) * x7)) + (2 : Int32))))]) (rest := []) (c_X5_addMove E (fun k => a (1 + k)) (S 178 (Int32.toNatClampNeg (x3 + ((3 : Int32) * x7)))) (S 178 (Int32.toNatClampNeg ((x3 + ((3 : Int32) * x7)) + (1 : Int32)))) (S 178 (Int32.toNatClampNeg ((x3 + ((3 : Int32) * x7)) + (2 : Int32)))) (sb 0 S) e3) rfl gX6_read_X5_addMove rfl rfl rfl 3 rfl (by decide +kernel) ⟨Nat.le_of_ble_eq_true rfl, Nat.le_of_ble_eq_true rfl⟩ [1, 2, 3, 4, 5, 6, 7, 8, 9, 10, 11, 12, 13, 14, 15, 16] (wl_X6_read_4 E a S) (by decide) (wl_X6_read_5 E a _ _) (wEA E a (pt 0 32 q3.2 S)) (wl_X6_read_6 E a S q3.2) 0 5 rfl rfl rfl (Nat.le_of_ble_eq_true rfl) dX6_read_123 ⟨Nat.zero_le _, Nat.zero_le _⟩ _ rfl ?_
                refine z_if_ge C 144 (by decide) h dX6_read_126 (fun hc h => ?_) (fun hc h => ?_)
                · refine z_iinc C [(7, .int (x7 + (1 : Int32))), (9, .ref (a 97)), (6, .int q1), (8, .int (x3 + ((3 : Int32) * x7))), (0, .ref (a 0)), (1, .int x1), (2, .int x2), (3, .int x3), (4, .int x4), (5, .int x5)] 9 rfl (by first | rfl | decide) (by decide) rfl dX6_read_144 ?_
                  refine Zt_l [(0, .ref (a 0)), (1, .int x1), (2, .int x2), (3, .int x3), (4, .int x4), (5, .int x5), (6, .int q1), (7, .int (x7 + (1 : Int32)))] [4, 5, 6, 7, 8, 9, 2, 0] rfl ?_
                  exact L_X6_read_147 a C R _ ih x1 x2 x3 x4 x5 q1 (x7 + (1 : Int32)) (pt 0 32 q3.2 S) h
                · refine Zt_l [(0, .ref (a 0)), (5, .int x5), (7, .int x7)] [3, 8, 9] rfl ?_
                  exact L_X6_read_129 a C R x5 x7 (pt 0 32 q3.2 S) h
              · replace h := (if_e h).2 hc
                by_cases hc : x1 = 3
                · replace h := (if_e h).1 hc
                  refine z_aldrII C 62 rfl (by rw [hc]; exact vp_in_iff.mpr (by decide)) (v := .ref (a 98)) (by rw [hc]; rfl) dX6_read_97 ?_
                  refine z_astore C [(9, .ref (a 98)), (6, .int q1), (8, .int (x3 + ((3 : Int32) * x7))), (0, .ref (a 0)), (1, .int x1), (2, .int x2), (3, .int x3), (4, .int x4), (5, .int x5), (7, .int x7)] (by decide) rfl dX6_read_98 ?_
                  refine z_aload_n C 3 rfl rfl dX6_read_100 ?_
                  refine z_get C 0 rfl (C := RX6) (T := TX6) (N := 11) (ci := 6) rfl inw_X6_read_X6 0 (by decide) (ref := "EldestAge") (List.mem_of_getElem? (i := 2) rfl) rfl (v := .ref (a 1)) rfl dX6_read_101 ?_
                  refine z_aload C 0 rfl dX6_read_104 ?_
                  refine z_iload C 2 rfl dX6_read_106 ?_
                  refine z_iald C (N := 40) (f := (S 179)) 66 rfl h dX6_read_108 (fun h => ?_)
                  refine z_aload C 0 rfl dX6_read_109 ?_
                  refine z_iload C 2 rfl dX6_read_111 ?_
                  refine z_iconst C (v := (1 : Int32)) (by decide) dX6_read_113 ?_
                  refine z_iadd C dX6_read_114 ?_
                  refine z_iald C (N := 40) (f := (S 179)) 66 rfl h dX6_read_115 (fun h => ?_)
                  refine z_aload C 0 rfl dX6_read_116 ?_
                  refine z_iload C 2 rfl dX6_read_118 ?_
                  refine z_iconst C (v := (2 : Int32)) (by decide) dX6_read_120 ?_
                  refine z_iadd C dX6_read_121 ?_
                  refine z_iald C (N := 40) (f := (S 179)) 66 rfl h dX6_read_122 (fun h => ?_)
                  obtain ⟨q2, e2, h⟩ := bd_e h
                  refine z_callVi C (b := a 1) (As := [.int (S 179 (Int32.toNatClampNeg (x3 + ((3 : Int32) * x7)))), .int (S 179 (Int32.toNatClampNeg ((x3 + ((3 : Int32) * x7)) + (1 : Int32)))), .int (S 179 (Int32.toNatClampNeg ((x3 + ((3 : Int32) * x7)) + (2 : Int32))))]) (rest := []) (c_X5_addMove E (fun k => a (1 + k)) (S 179 (Int32.toNatClampNeg (x3 + ((3 : Int32) * x7)))) (S 179 (Int32.toNatClampNeg ((x3 + ((3 : Int32) * x7)) + (1 : Int32)))) (S 179 (Int32.toNatClampNeg ((x3 + ((3 : Int32) * x7)) + (2 : Int32)))) (sb 0 S) e2) rfl gX6_read_X5_addMove rfl rfl rfl 3 rfl (by decide +kernel) ⟨Nat.le_of_ble_eq_true rfl, Nat.le_of_ble_eq_true rfl⟩ [1, 2, 3, 4, 5, 6, 7, 8, 9, 10, 11, 12, 13, 14, 15, 16] (wl_X6_read_4 E a S) (by decide) (wl_X6_read_5 E a _ _) (wEA E a (pt 0 32 q2.2 S)) (wl_X6_read_6 E a S q2.2) 0 5 rfl rfl rfl (Nat.le_of_ble_eq_true rfl) dX6_read_123 ⟨Nat.zero_le _, Nat.zero_le _⟩ _ rfl ?_
                  refine z_if_ge C 144 (by decide) h dX6_read_126 (fun hc h => ?_) (fun hc h => ?_)
                  · refine z_iinc C [(7, .int (x7 + (1 : Int32))), (9, .ref (a 98)), (6, .int q1), (8, .int (x3 + ((3 : Int32) * x7))), (0, .ref (a 0)), (1, .int x1), (2, .int x2), (3, .int x3), (4, .int x4), (5, .int x5)] 9 rfl (by first | rfl | decide) (by decide) rfl dX6_read_144 ?_
                    refine Zt_l [(0, .ref (a 0)), (1, .int x1), (2, .int x2), (3, .int x3), (4, .int x4), (5, .int x5), (6, .int q1), (7, .int (x7 + (1 : Int32)))] [4, 5, 6, 7, 8, 9, 2, 0] rfl ?_
                    exact L_X6_read_147 a C R _ ih x1 x2 x3 x4 x5 q1 (x7 + (1 : Int32)) (pt 0 32 q2.2 S) h
                  · refine Zt_l [(0, .ref (a 0)), (5, .int x5), (7, .int x7)] [3, 8, 9] rfl ?_
                    exact L_X6_read_129 a C R x5 x7 (pt 0 32 q2.2 S) h
                · replace h := (if_e h).2 hc
                  cases h
        · refine Zt_l [(0, .ref (a 0)), (1, .int x1), (2, .int x2), (3, .int x3), (4, .int x4), (5, .int x5), (6, .int q1), (7, .int x7)] [2, 3, 4, 5, 6, 7, 0, 8] rfl ?_
          exact L_X6_read_147 a C R _ ih x1 x2 x3 x4 x5 q1 x7 S h
      · refine Zt_l [(0, .ref (a 0)), (6, .int x6), (7, .int x7)] [0, 6, 7] rfl ?_
        exact L_X6_read_150 a C R x6 x7 S h

set_option maxHeartbeats 4000000 in
set_option maxRecDepth 100000 in
theorem L_X6_read {E : zEnv} {Γ : zG} (a : Nat → Nat) (C : zC E Γ cX6_read RX6 10 rm_X6_read wsX6_read) {res : (Int32 × St)} (R : zRi E Γ cX6_read 10 .int (wEA E a res.2) res.1) (x1 : Int32) (x2 : Int32) (x3 : Int32) (x4 : Int32) (S : St) (h : f_X6_read x1 x2 x3 x4 S = some res) : Zt E Γ 10 0 0 (wEA E a S) [(0, .ref (a 0)), (1, .int x1), (2, .int x2), (3, .int x3), (4, .int x4)] 0 [] := by
  unfold f_X6_read at h
  refine z_aload_n C 0 rfl rfl dX6_read_0 ?_
  refine z_get C 0 rfl (C := RX6) (T := TX6) (N := 11) (ci := 6) rfl inw_X6_read_X6 8 (by decide) (ref := "EldestAge") (List.mem_of_getElem? (i := 1) rfl) rfl (v := .ref (a 93)) rfl dX6_read_1 ?_
  refine z_iload_n C 1 rfl rfl dX6_read_4 ?_
  obtain ⟨q6, e6, h⟩ := bd_e h
  refine z_callVi C (b := a 93) (As := [.int x1]) (rest := []) (c_X1_isSheet E (fun k => a (93 + k)) x1 (sb 176 S) e6) rfl gX6_read_X1_isSheet rfl rfl rfl 1 rfl (by decide +kernel) ⟨Nat.le_of_ble_eq_true rfl, Nat.le_of_ble_eq_true rfl⟩ [61, 62, 63, 64, 65, 66, 67, 68] (wl_X6_read_2 E a S) (by decide) rfl (wEA E a S) (zrep_self (wl_X6_read_2 E a S)) 0 1 rfl rfl rfl (Nat.le_of_ble_eq_true rfl) dX6_read_5 ⟨Nat.zero_le _, Nat.zero_le _⟩ _ rfl ?_
  refine z_if_eq C 34 (by decide) h dX6_read_8 (fun hc h => ?_) (fun hc h => ?_)
  · refine z_iconst C (v := (-1 : Int32)) (by decide) dX6_read_34 ?_
    obtain rfl := Option.some.inj h
    exact R rfl 35 _ dX6_read_35
  · refine z_aload_n C 0 rfl rfl dX6_read_11 ?_
    refine z_get C 0 rfl (C := RX6) (T := TX6) (N := 11) (ci := 6) rfl inw_X6_read_X6 8 (by decide) (ref := "EldestAge") (List.mem_of_getElem? (i := 1) rfl) rfl (v := .ref (a 93)) rfl dX6_read_12 ?_
    refine z_iload_n C 2 rfl rfl dX6_read_15 ?_
    obtain ⟨q7, e7, h⟩ := bd_e h
    refine z_callVi C (b := a 93) (As := [.int x2]) (rest := []) (c_X1_isLane E (fun k => a (93 + k)) x2 (sb 176 S) e7) rfl gX6_read_X1_isLane rfl rfl rfl 1 rfl (by decide +kernel) ⟨Nat.le_of_ble_eq_true rfl, Nat.le_of_ble_eq_true rfl⟩ [61, 62, 63, 64, 65, 66, 67, 68] (wl_X6_read_2 E a S) (by decide) rfl (wEA E a S) (zrep_self (wl_X6_read_2 E a S)) 0 1 rfl rfl rfl (Nat.le_of_ble_eq_true rfl) dX6_read_16 ⟨Nat.zero_le _, Nat.zero_le _⟩ _ rfl ?_
    refine z_if_eq C 34 (by decide) h dX6_read_19 (fun hc h => ?_) (fun hc h => ?_)
    · refine z_iconst C (v := (-1 : Int32)) (by decide) dX6_read_34 ?_
      obtain rfl := Option.some.inj h
      exact R rfl 35 _ dX6_read_35
    · refine z_iload C 4 rfl dX6_read_22 ?_
      refine z_if_lt C 34 (by decide) h dX6_read_24 (fun hc h => ?_) (fun hc h => ?_)
      · refine z_iconst C (v := (-1 : Int32)) (by decide) dX6_read_34 ?_
        obtain rfl := Option.some.inj h
        exact R rfl 35 _ dX6_read_35
      · refine z_iload C 4 rfl dX6_read_27 ?_
        refine z_bipush C (v := (13 : Int32)) (by decide) dX6_read_29 ?_
        refine z_icmp_le C 36 (by decide) h dX6_read_31 (fun hc h => ?_) (fun hc h => ?_)
        · refine z_aload_n C 0 rfl rfl dX6_read_36 ?_
          refine z_get C 0 rfl (C := RX6) (T := TX6) (N := 11) (ci := 6) rfl inw_X6_read_X6 0 (by decide) (ref := "EldestAge") (List.mem_of_getElem? (i := 2) rfl) rfl (v := .ref (a 1)) rfl dX6_read_37 ?_
          refine z_get C 1 rfl (C := RX5) (T := TX5) (N := 16) (ci := 5) rfl inw_X6_read_X5 7 (by decide) (ref := "EldestAge$Town") (List.mem_of_getElem? (i := 3) rfl) rfl (v := .int (S 7 0)) rfl dX6_read_40 ?_
          refine z_istore C [(5, .int (S 7 0)), (0, .ref (a 0)), (1, .int x1), (2, .int x2), (3, .int x3), (4, .int x4)] (by decide) rfl dX6_read_43 ?_
          refine z_iconst C (v := (0 : Int32)) (by decide) dX6_read_45 ?_
          refine z_istore C [(6, .int (0 : Int32)), (5, .int (S 7 0)), (0, .ref (a 0)), (1, .int x1), (2, .int x2), (3, .int x3), (4, .int x4)] (by decide) rfl dX6_read_46 ?_
          refine z_iconst C (v := (0 : Int32)) (by decide) dX6_read_48 ?_
          refine z_istore C [(7, .int (0 : Int32)), (6, .int (0 : Int32)), (5, .int (S 7 0)), (0, .ref (a 0)), (1, .int x1), (2, .int x2), (3, .int x3), (4, .int x4)] (by decide) rfl dX6_read_49 ?_
          refine Zt_l [(0, .ref (a 0)), (1, .int x1), (2, .int x2), (3, .int x3), (4, .int x4), (5, .int (S 7 0)), (6, .int (0 : Int32)), (7, .int (0 : Int32))] [3, 4, 5, 6, 7, 2, 1, 0] rfl ?_
          exact L_X6_read_51 a C R 1000 x1 x2 x3 x4 (S 7 0) (0 : Int32) (0 : Int32) S h
        · refine z_iconst C (v := (-1 : Int32)) (by decide) dX6_read_34 ?_
          obtain rfl := Option.some.inj h
          exact R rfl 35 _ dX6_read_35

theorem c_X6_read (E : zEnv) (a : Nat → Nat) (x1 : Int32) (x2 : Int32) (x3 : Int32) (x4 : Int32) (S : St) {res : (Int32 × St)} (h : f_X6_read x1 x2 x3 x4 S = some res) : Kti E yX6_read wsX6_read rm_X6_read (wEA E a S) (wEA E a res.2) [.ref (a 0), .int x1, .int x2, .int x3, .int x4] res.1 :=
  z_enti (cc := cX6_read) (maxL := 10) (rt := .int) (by decide +kernel) rfl (Nat.le_of_ble_eq_true rfl) (fun Γ C R => L_X6_read a C R x1 x2 x3 x4 S h)

abbrev rm_X6_torn : Room := { frames := 0, cells := 0, slots := 0, locals := 0 }
theorem inw_X6_torn_X6 : ∀ w ∈ wsX60, w ∈ wsX6_torn := fun _ h => List.mem_cons_of_mem _ (List.mem_append_right _ h)
noncomputable def f_X6_torn (S : St) : Option Int32 := (some (S 185 0))
set_option maxHeartbeats 4000000 in
set_option maxRecDepth 100000 in
theorem L_X6_torn {E : zEnv} {Γ : zG} (a : Nat → Nat) (C : zC E Γ cX6_torn RX6 1 rm_X6_torn wsX6_torn) {res : Int32} {S : St} (R : zRi E Γ cX6_torn 1 .int (wEA E a S) res) (h : f_X6_torn S = some res) : Zt E Γ 1 0 0 (wEA E a S) [(0, .ref (a 0))] 0 [] := by
  unfold f_X6_torn at h
  refine z_aload_n C 0 rfl rfl dX6_torn_0 ?_
  refine z_get C 0 rfl (C := RX6) (T := TX6) (N := 11) (ci := 6) rfl inw_X6_torn_X6 10 (by decide) (ref := "EldestAge") (List.mem_of_getElem? (i := 1) rfl) rfl (v := .int (S 185 0)) rfl dX6_torn_1 ?_
  obtain rfl := Option.some.inj h
  exact R rfl 4 _ dX6_torn_4

theorem c_X6_torn (E : zEnv) (a : Nat → Nat) (S : St) {res : Int32} (h : f_X6_torn S = some res) : Kti E yX6_torn wsX6_torn rm_X6_torn (wEA E a S) (wEA E a S) [.ref (a 0)] res :=
  z_enti (cc := cX6_torn) (maxL := 1) (rt := .int) (by decide +kernel) rfl (Nat.le_of_ble_eq_true rfl) (fun Γ C R => L_X6_torn a C R h)

abbrev rm_X6_count : Room := { frames := 0, cells := 0, slots := 0, locals := 0 }
theorem inw_X6_count_X6 : ∀ w ∈ wsX60, w ∈ wsX6_count := fun _ h => List.mem_cons_of_mem _ (List.mem_append_left _ (List.mem_append_left _ (List.mem_append_left _ (List.mem_append_right _ h))))
theorem inw_X6_count_X4 : ∀ w ∈ wsX40, w ∈ wsX6_count := fun _ h => List.mem_cons_of_mem _ (List.mem_append_left _ (List.mem_append_left _ (List.mem_append_right _ h)))
theorem inw_X6_count_X3 : ∀ w ∈ wsX30, w ∈ wsX6_count := fun _ h => List.mem_cons_of_mem _ (List.mem_append_left _ (List.mem_append_right _ h))
theorem inw_X6_count_X1 : ∀ w ∈ wsX10, w ∈ wsX6_count := fun _ h => List.mem_cons_of_mem _ (List.mem_append_right _ h)
noncomputable def f_X6_count_66 (y0 : Int32) (S : St) : Option Int32 := (ix (1 : Int32) 2 (if (S 186 (Int32.toNatClampNeg (1 : Int32))) = 0 then (some (y0 + (0 : Int32))) else (some (y0 + (1 : Int32)))))
noncomputable def f_X6_count (x1 : Int32) (S : St) : Option Int32 := (if x1 = (0 : Int32) then (some (S 156 0)) else (if x1 = (1 : Int32) then (some (S 148 0)) else (if x1 = (2 : Int32) then (ix (0 : Int32) 2 (if (S 186 (Int32.toNatClampNeg (0 : Int32))) = 0 then (f_X6_count_66 (0 : Int32) S) else (f_X6_count_66 (1 : Int32) S))) else (if x1 = (3 : Int32) then (some (S 129 0)) else (if x1 = (4 : Int32) then (ix (0 : Int32) 4 (if 0 ≤ (S 181 (Int32.toNatClampNeg (0 : Int32))) then (ix (0 : Int32) 4 (some (S 181 (Int32.toNatClampNeg (0 : Int32))))) else (some (-4 : Int32)))) else (some (-1 : Int32)))))))
set_option maxHeartbeats 4000000 in
set_option maxRecDepth 100000 in
theorem L_X6_count_66 {E : zEnv} {Γ : zG} (a : Nat → Nat) (C : zC E Γ cX6_count RX6 2 rm_X6_count wsX6_count) {res : Int32} {S : St} (R : zRi E Γ cX6_count 2 .int (wEA E a S) res) (y0 : Int32) (h : f_X6_count_66 y0 S = some res) : Zt E Γ 2 0 0 (wEA E a S) [(0, .ref (a 0))] 66 [.int y0] := by
  unfold f_X6_count_66 at h
  refine z_aload_n C 0 rfl rfl dX6_count_66 ?_
  refine z_get C 0 rfl (C := RX6) (T := TX6) (N := 11) (ci := 6) rfl inw_X6_count_X6 3 (by decide) (ref := "EldestAge") (List.mem_of_getElem? (i := 4) rfl) rfl (v := .ref (a 66)) rfl dX6_count_67 ?_
  refine z_iconst C (v := (1 : Int32)) (by decide) dX6_count_70 ?_
  refine z_zald C (N := 2) (f := (S 186)) 34 rfl h dX6_count_71 (fun h => ?_)
  refine z_if_eq C 79 (by decide) h dX6_count_72 (fun hc h => ?_) (fun hc h => ?_)
  · refine z_iconst C (v := (0 : Int32)) (by decide) dX6_count_79 ?_
    refine z_iadd C dX6_count_80 ?_
    obtain rfl := Option.some.inj h
    exact R rfl 81 _ dX6_count_81
  · refine z_iconst C (v := (1 : Int32)) (by decide) dX6_count_75 ?_
    refine z_goto C 80 (by decide) dX6_count_76 ?_
    refine z_iadd C dX6_count_80 ?_
    obtain rfl := Option.some.inj h
    exact R rfl 81 _ dX6_count_81

set_option maxHeartbeats 4000000 in
set_option maxRecDepth 100000 in
theorem L_X6_count {E : zEnv} {Γ : zG} (a : Nat → Nat) (C : zC E Γ cX6_count RX6 2 rm_X6_count wsX6_count) {res : Int32} {S : St} (R : zRi E Γ cX6_count 2 .int (wEA E a S) res) (x1 : Int32) (h : f_X6_count x1 S = some res) : Zt E Γ 2 0 0 (wEA E a S) [(0, .ref (a 0)), (1, .int x1)] 0 [] := by
  unfold f_X6_count at h
  refine z_iload_n C 1 rfl rfl dX6_count_0 ?_
  by_cases hc : x1 = (0 : Int32)
  · replace h := (if_e h).1 hc
    refine z_tableIn C 36 (by rw [hc]; decide) (by rw [hc]; decide) (off := 35) (by rw [hc]; rfl) (by decide) dX6_count_1 ?_
    refine z_aload_n C 0 rfl rfl dX6_count_36 ?_
    refine z_get C 0 rfl (C := RX6) (T := TX6) (N := 11) (ci := 6) rfl inw_X6_count_X6 6 (by decide) (ref := "EldestAge") (List.mem_of_getElem? (i := 1) rfl) rfl (v := .ref (a 73)) rfl dX6_count_37 ?_
    refine z_get C 41 rfl (C := RX4) (T := TX4) (N := 5) (ci := 4) rfl inw_X6_count_X4 4 (by decide) (ref := "EldestAge$Told") (List.mem_of_getElem? (i := 2) rfl) rfl (v := .int (S 156 0)) rfl dX6_count_40 ?_
    obtain rfl := Option.some.inj h
    exact R rfl 43 _ dX6_count_43
  · replace h := (if_e h).2 hc
    have n1_0 := hc
    by_cases hc : x1 = (1 : Int32)
    · replace h := (if_e h).1 hc
      refine z_tableIn C 44 (by rw [hc]; decide) (by rw [hc]; decide) (off := 43) (by rw [hc]; rfl) (by decide) dX6_count_1 ?_
      refine z_aload_n C 0 rfl rfl dX6_count_44 ?_
      refine z_get C 0 rfl (C := RX6) (T := TX6) (N := 11) (ci := 6) rfl inw_X6_count_X6 5 (by decide) (ref := "EldestAge") (List.mem_of_getElem? (i := 3) rfl) rfl (v := .ref (a 69)) rfl dX6_count_45 ?_
      refine z_get C 37 rfl (C := RX4) (T := TX4) (N := 5) (ci := 4) rfl inw_X6_count_X4 4 (by decide) (ref := "EldestAge$Told") (List.mem_of_getElem? (i := 2) rfl) rfl (v := .int (S 148 0)) rfl dX6_count_48 ?_
      obtain rfl := Option.some.inj h
      exact R rfl 51 _ dX6_count_51
    · replace h := (if_e h).2 hc
      have n1_1 := hc
      by_cases hc : x1 = (2 : Int32)
      · replace h := (if_e h).1 hc
        refine z_tableIn C 52 (by rw [hc]; decide) (by rw [hc]; decide) (off := 51) (by rw [hc]; rfl) (by decide) dX6_count_1 ?_
        refine z_aload_n C 0 rfl rfl dX6_count_52 ?_
        refine z_get C 0 rfl (C := RX6) (T := TX6) (N := 11) (ci := 6) rfl inw_X6_count_X6 3 (by decide) (ref := "EldestAge") (List.mem_of_getElem? (i := 4) rfl) rfl (v := .ref (a 66)) rfl dX6_count_53 ?_
        refine z_iconst C (v := (0 : Int32)) (by decide) dX6_count_56 ?_
        refine z_zald C (N := 2) (f := (S 186)) 34 rfl h dX6_count_57 (fun h => ?_)
        refine z_if_eq C 65 (by decide) h dX6_count_58 (fun hc h => ?_) (fun hc h => ?_)
        · refine z_iconst C (v := (0 : Int32)) (by decide) dX6_count_65 ?_
          refine Zt_l [(0, .ref (a 0))] [0] rfl ?_
          exact L_X6_count_66 a C R (0 : Int32) h
        · refine z_iconst C (v := (1 : Int32)) (by decide) dX6_count_61 ?_
          refine z_goto C 66 (by decide) dX6_count_62 ?_
          refine Zt_l [(0, .ref (a 0))] [0] rfl ?_
          exact L_X6_count_66 a C R (1 : Int32) h
      · replace h := (if_e h).2 hc
        have n1_2 := hc
        by_cases hc : x1 = (3 : Int32)
        · replace h := (if_e h).1 hc
          refine z_tableIn C 82 (by rw [hc]; decide) (by rw [hc]; decide) (off := 81) (by rw [hc]; rfl) (by decide) dX6_count_1 ?_
          refine z_aload_n C 0 rfl rfl dX6_count_82 ?_
          refine z_get C 0 rfl (C := RX6) (T := TX6) (N := 11) (ci := 6) rfl inw_X6_count_X6 4 (by decide) (ref := "EldestAge") (List.mem_of_getElem? (i := 5) rfl) rfl (v := .ref (a 67)) rfl dX6_count_83 ?_
          refine z_get C 35 rfl (C := RX3) (T := TX3) (N := 12) (ci := 3) rfl inw_X6_count_X3 1 (by decide) (ref := "EldestAge$Tape") (List.mem_of_getElem? (i := 6) rfl) rfl (v := .int (S 129 0)) rfl dX6_count_86 ?_
          obtain rfl := Option.some.inj h
          exact R rfl 89 _ dX6_count_89
        · replace h := (if_e h).2 hc
          have n1_3 := hc
          by_cases hc : x1 = (4 : Int32)
          · replace h := (if_e h).1 hc
            refine z_tableIn C 90 (by rw [hc]; decide) (by rw [hc]; decide) (off := 89) (by rw [hc]; rfl) (by decide) dX6_count_1 ?_
            refine z_aload_n C 0 rfl rfl dX6_count_90 ?_
            refine z_get C 0 rfl (C := RX6) (T := TX6) (N := 11) (ci := 6) rfl inw_X6_count_X6 8 (by decide) (ref := "EldestAge") (List.mem_of_getElem? (i := 7) rfl) rfl (v := .ref (a 93)) rfl dX6_count_91 ?_
            refine z_get C 61 rfl (C := RX1) (T := TX1) (N := 3) (ci := 1) rfl inw_X6_count_X1 2 (by decide) (ref := "EldestAge$Sheets") (List.mem_of_getElem? (i := 8) rfl) rfl (v := .ref (a 100)) rfl dX6_count_94 ?_
            refine z_iconst C (v := (0 : Int32)) (by decide) dX6_count_97 ?_
            refine z_iald C (N := 4) (f := (S 181)) 68 rfl h dX6_count_98 (fun h => ?_)
            refine z_if_ge C 107 (by decide) h dX6_count_99 (fun hc h => ?_) (fun hc h => ?_)
            · refine z_aload_n C 0 rfl rfl dX6_count_107 ?_
              refine z_get C 0 rfl (C := RX6) (T := TX6) (N := 11) (ci := 6) rfl inw_X6_count_X6 8 (by decide) (ref := "EldestAge") (List.mem_of_getElem? (i := 7) rfl) rfl (v := .ref (a 93)) rfl dX6_count_108 ?_
              refine z_get C 61 rfl (C := RX1) (T := TX1) (N := 3) (ci := 1) rfl inw_X6_count_X1 2 (by decide) (ref := "EldestAge$Sheets") (List.mem_of_getElem? (i := 8) rfl) rfl (v := .ref (a 100)) rfl dX6_count_111 ?_
              refine z_iconst C (v := (0 : Int32)) (by decide) dX6_count_114 ?_
              refine z_iald C (N := 4) (f := (S 181)) 68 rfl h dX6_count_115 (fun h => ?_)
              obtain rfl := Option.some.inj h
              exact R rfl 116 _ dX6_count_116
            · refine z_bipush C (v := (-4 : Int32)) (by decide) dX6_count_102 ?_
              refine z_goto C 116 (by decide) dX6_count_104 ?_
              obtain rfl := Option.some.inj h
              exact R rfl 116 _ dX6_count_116
          · replace h := (if_e h).2 hc
            have n1_4 := hc
            refine z_tableOut C 117 (z_out5 n1_0 n1_1 n1_2 n1_3 n1_4) (by decide) dX6_count_1 ?_
            refine z_iconst C (v := (-1 : Int32)) (by decide) dX6_count_117 ?_
            obtain rfl := Option.some.inj h
            exact R rfl 118 _ dX6_count_118

theorem c_X6_count (E : zEnv) (a : Nat → Nat) (x1 : Int32) (S : St) {res : Int32} (h : f_X6_count x1 S = some res) : Kti E yX6_count wsX6_count rm_X6_count (wEA E a S) (wEA E a S) [.ref (a 0), .int x1] res :=
  z_enti (cc := cX6_count) (maxL := 2) (rt := .int) (by decide +kernel) rfl (Nat.le_of_ble_eq_true rfl) (fun Γ C R => L_X6_count a C R x1 h)
