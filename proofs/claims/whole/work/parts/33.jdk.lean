def zlen (i : Nat) : Int32 := Int32.ofNat (zLen.getD i 0)
def zch (i : Nat) (j : Int32) : Int32 := (zByt.getD i []).getD j.toNatClampNeg 0
/-- the String constant of that number there is -/
def sx {α : Type} (i : Nat) (k : Option α) : Option α := if i < 15 then k else none
theorem sx_e {α : Type} {i : Nat} {k : Option α} {r : α} (h : sx i k = some r) : i < 15 ∧ k = some r := by
  unfold sx at h
  by_cases c : i < 15
  · rw [if_pos c] at h
    exact ⟨c, h⟩
  · rw [if_neg c] at h
    cases h
theorem z_gsC {E : zEnv} {Γ : zG} {cc : ByteArray} {own : String} {nL : Nat} {rm : Room} {Ts : List Cond} {k n : Nat} {ws : va_W} {lv : List (Nat × Value)} {pc : Nat} {rest : List Value} {index : Nat} (C : zC E Γ cc own nL rm Ts) (hl : Cond.fieldLink own index "java/lang/String" "COMPACT_STRINGS" "Z" ∈ Ts) (hd : decode cc pc = .ok (.getstatic index, 3)) (K : Zt E Γ nL k n ws (lv) (pc + 3) (.int 1 :: rest)) : Zt E Γ nL k n ws (lv) (pc) (rest) := by
  obtain ⟨p, l, e, R, s, m, args, below, meth, c, A, Q⟩ := Γ
  obtain ⟨hx, hb, hml, hown, hts, hK, hA, hlk, hR, hE, hG⟩ := C
  intro H locs ls hP hD hS hll
  exact va_gets hx hb hG.2.1 hS hown (hts _ hl) (fun _ h => h) hd (K H locs ls hP hD hS (by assumption))
theorem z_gsF {E : zEnv} {Γ : zG} {cc : ByteArray} {own : String} {nL : Nat} {rm : Room} {Ts : List Cond} {k n : Nat} {ws : va_W} {lv : List (Nat × Value)} {pc : Nat} {rest : List Value} {index : Nat} (C : zC E Γ cc own nL rm Ts) (hl : Cond.fieldLink own index "jdk/internal/util/Preconditions" "SIOOBE_FORMATTER" "Ljava/util/function/BiFunction;" ∈ Ts) (hd : decode cc pc = .ok (.getstatic index, 3)) (K : ∀ v : Value, (v = .null ∨ ∃ t, v = .ref t) → Zt E Γ nL k n ws (lv) (pc + 3) (v :: rest)) : Zt E Γ nL k n ws (lv) (pc) (rest) := by
  obtain ⟨p, l, e, R, s, m, args, below, meth, c, A, Q⟩ := Γ
  obtain ⟨hx, hb, hml, hown, hts, hK, hA, hlk, hR, hE, hG⟩ := C
  intro H locs ls hP hD hS hll
  rcases hG.2.2.1 with hz | ⟨t, hz⟩
  · exact va_gets hx hb hz hS hown (hts _ hl) (fun _ h => h) hd (K _ (Or.inl rfl) H locs ls hP hD hS hll)
  · exact va_gets hx hb hz hS hown (hts _ hl) (fun _ h => h) hd (K _ (Or.inr ⟨_, rfl⟩) H locs ls hP hD hS hll)
theorem z_strv {E : zEnv} {Γ : zG} {cc : ByteArray} {own : String} {nL : Nat} {rm : Room} {Ts : List Cond} {k n : Nat} {ws : va_W} {lv : List (Nat × Value)} {pc : Nat} {rest : List Value} {index i : Nat} (C : zC E Γ cc own nL rm Ts) (hi : i < 15) (hl : Cond.fieldLink own index "java/lang/String" "value" "[B" ∈ Ts) (hd : decode cc pc = .ok (.getfield index, 3)) (K : Zt E Γ nL k n ws (lv) (pc + 3) (.ref (E.2.2.2.2 i) :: rest)) : Zt E Γ nL k n ws (lv) (pc) (.ref (E.2.2.2.1 i) :: rest) := by
  obtain ⟨p, l, e, R, s, m, args, below, meth, c, A, Q⟩ := Γ
  obtain ⟨hx, hb, hml, hown, hts, hK, hA, hlk, hR, hE, hG⟩ := C
  intro H locs ls hP hD hS hll
  exact vk_getf hx hb (hG.2.2.2.1.1 i hi).2.2.1 hS hown (hts _ hl) (fun _ h => h) hd (K H locs ls hP hD hS hll)
theorem z_strc {E : zEnv} {Γ : zG} {cc : ByteArray} {own : String} {nL : Nat} {rm : Room} {Ts : List Cond} {k n : Nat} {ws : va_W} {lv : List (Nat × Value)} {pc : Nat} {rest : List Value} {index i : Nat} (C : zC E Γ cc own nL rm Ts) (hi : i < 15) (hl : Cond.fieldLink own index "java/lang/String" "coder" "B" ∈ Ts) (hd : decode cc pc = .ok (.getfield index, 3)) (K : Zt E Γ nL k n ws (lv) (pc + 3) (.int 0 :: rest)) : Zt E Γ nL k n ws (lv) (pc) (.ref (E.2.2.2.1 i) :: rest) := by
  obtain ⟨p, l, e, R, s, m, args, below, meth, c, A, Q⟩ := Γ
  obtain ⟨hx, hb, hml, hown, hts, hK, hA, hlk, hR, hE, hG⟩ := C
  intro H locs ls hP hD hS hll
  exact vk_getf hx hb (hG.2.2.2.1.1 i hi).2.1 hS hown (hts _ hl) (fun _ h => h) hd (K H locs ls hP hD hS hll)
theorem z_strn {E : zEnv} {Γ : zG} {cc : ByteArray} {own : String} {nL : Nat} {rm : Room} {Ts : List Cond} {k n : Nat} {ws : va_W} {lv : List (Nat × Value)} {pc : Nat} {rest : List Value} {i : Nat} (C : zC E Γ cc own nL rm Ts) (hi : i < 15) (hd : decode cc pc = .ok (.arraylength, 1)) (K : Zt E Γ nL k n ws (lv) (pc + 1) (.int (zlen i) :: rest)) : Zt E Γ nL k n ws (lv) (pc) (.ref (E.2.2.2.2 i) :: rest) := by
  obtain ⟨p, l, e, R, s, m, args, below, meth, c, A, Q⟩ := Γ
  obtain ⟨hx, hb, hml, hown, hts, hK, hA, hlk, hR, hE, hG⟩ := C
  intro H locs ls hP hD hS hll
  exact va_tlen hx hb (hG.2.2.2.1.1 i hi).2.2.2 hS rfl hd (K H locs ls hP hD hS hll)
theorem z_strb {E : zEnv} {Γ : zG} {cc : ByteArray} {own : String} {nL : Nat} {rm : Room} {Ts : List Cond} {k n : Nat} {ws : va_W} {lv : List (Nat × Value)} {pc : Nat} {rest : List Value} {i : Nat} {j : Int32} (C : zC E Γ cc own nL rm Ts) (hi : i < 15) (hj : vp_in j (zLen.getD i 0)) (hd : decode cc pc = .ok (.baload, 1)) (K : Zt E Γ nL k n ws (lv) (pc + 1) (.int (zch i j) :: rest)) : Zt E Γ nL k n ws (lv) (pc) (.int j :: .ref (E.2.2.2.2 i) :: rest) := by
  obtain ⟨p, l, e, R, s, m, args, below, meth, c, A, Q⟩ := Γ
  obtain ⟨hx, hb, hml, hown, hts, hK, hA, hlk, hR, hE, hG⟩ := C
  intro H locs ls hP hD hS hll
  exact va_tb hx hb (hG.2.2.2.1.1 i hi).2.2.2 hS hj rfl hd (K H locs ls hP hD hS hll)
theorem z_i2c {E : zEnv} {Γ : zG} {cc : ByteArray} {own : String} {nL : Nat} {rm : Room} {Ts : List Cond} {k n : Nat} {ws : va_W} {lv : List (Nat × Value)} {pc : Nat} {rest : List Value} {x : Int32} (C : zC E Γ cc own nL rm Ts) (hd : decode cc pc = .ok (.i2c, 1)) (K : Zt E Γ nL k n ws (lv) (pc + 1) (.int (x.toUInt32 % 65536).toInt32 :: rest)) : Zt E Γ nL k n ws (lv) (pc) (.int x :: rest) := by
  obtain ⟨p, l, e, R, s, m, args, below, meth, c, A, Q⟩ := Γ
  obtain ⟨hx, hb, hml, hown, hts, hK, hA, hlk, hR, hE, hG⟩ := C
  intro H locs ls hP hD hS hll
  exact lv_i2c hx hb hd rfl (K H locs ls hP hD hS hll)
theorem z_ldcS {E : zEnv} {Γ : zG} {cc : ByteArray} {nL : Nat} {rm : Room} {Ts : List Cond} {k n : Nat} {ws : va_W} {lv : List (Nat × Value)} {pc : Nat} {rest : List Value} {index : Nat} (C : zC E Γ cc "EldestAge$Tape" nL rm Ts) (i : Nat) {tx : String} (hq : zStr[i]? = some (index, tx)) (hd : decode cc pc = .ok (.ldc index, 2)) (K : Zt E Γ nL k n ws (lv) (pc + 2) (.ref (E.2.2.2.1 i) :: rest)) : Zt E Γ nL k n ws (lv) (pc) (rest) := by
  obtain ⟨p, l, e, R, s, m, args, below, meth, c, A, Q⟩ := Γ
  obtain ⟨hx, hb, hml, hown, hts, hK, hA, hlk, hR, hE, hG⟩ := C
  intro H locs ls hP hD hS hll
  exact va_ldcS hx hb hown (hG.2.2.2.2 i _ hq) hd (K H locs ls hP hD hS hll)
theorem z_callVsi {E : zEnv} {Γ : zG} {cc : ByteArray} {own : String} {nL : Nat} {rm : Room} {Ts : List Cond} {k n : Nat} {ws : va_W} {lv : List (Nat × Value)} {pc : Nat} {rest : List Value} {y : MethodName} {wy wy' : List Cond} {rmy : Room} {As : List Value} {bytes : ByteArray} {maxL idx i : Nat} {ret : Option FieldType} {r : Int32} (C : zC E Γ cc own nL rm Ts) (hi : i < 15) (Kc : Kti E y wy rmy [] [] (.ref (E.2.2.2.1 i) :: As) r) (G : GoodIn Ts (wsV own idx "java/lang/String" y wy)) (hwy : wy = Cond.code y bytes maxL ret :: wy') (hrc : rmy.cells = 0) (hrs : rmy.slots = 0) (nn : Nat) (hnn : As.length = nn) (hdd : y.cls = "java/lang/String" ∧ y.cls ≠ "java/lang/invoke/MethodHandle" ∧ y.cls ≠ "java/lang/invoke/VarHandle" ∧ (parseMethodDescriptor y.desc).map (fun d => d.parameters.length) = some nn) (hRR : rmy.frames + 1 ≤ rm.frames ∧ 8 + (maxL + 11) + rmy.locals ≤ rm.locals) (hst : (rest.map fun v => v.category).sum ≤ 8) (hd : decode cc pc = .ok (.invokevirtual idx, 3)) (hkk : k ≤ rm.cells ∧ n ≤ rm.slots) (stk : List Value) (hstk : stk = As.reverse ++ .ref (E.2.2.2.1 i) :: rest) (K : Zt E Γ nL k n ws (lv) (pc + 3) (.int r :: rest)) : Zt E Γ nL k n ws (lv) (pc) (stk) := by
  obtain ⟨p, l, e, R, s, m, args, below, meth, c, A, Q⟩ := Γ
  obtain ⟨hx, hb, hml, hown, hts, hK, hA, hlk, hR, hE, hG⟩ := C
  intro H locs ls hP hD hS hl
  subst hR
  subst hE
  subst hstk
  have hPc : va_P E.2.1 vwCl [] H := fun k q h => by simp at h
  have hDc : va_D A [] := ⟨fun i j p q h => by simp at h, fun k q h => by simp at h⟩
  have hFc := va_free (wc := []) hD hS hA [] rfl
  have hpre : ∀ U : State, U.heap = H → s.WarmedH U.vm → zPc E [] (.ref (E.2.2.2.1 i) :: As) H.size (Value.ref (E.2.2.2.1 i) :: As).toArray U := fun U hU hW => ⟨rfl, by rw [hU], by rw [hU]; exact hPc, va_K.moved hW.alike hK, hDc.weaken (fun _ _ _ _ => trivial), by rw [hU]; exact ((hG.kept hS.2.1).narrow hFc).warm hW⟩
  refine va_calli (va_runV (As := As) (rest := rest) ⟨hx, hb, hml, hown, hts⟩ (Kc H.size) (cwV nn hts G hwy hrc hrs hdd hRR) ⟨zPc_blind, vk_recv hG.2.2.2.1 hi hS, hpre⟩ rfl hnn hl.1 rfl (lv_room hst) hd hkk) hS (fun q _ h => hFc q h) hFc (fun r u t H1 locs1 ht hvm hw hB hz1 hk1 hS => ?_)
  subst hw
  have hP2 := zrep_P (is := []) (w1 := []) hP hD rfl rfl rfl hk1 (fun k q h => by simp at h)
  exact K H1 locs1 ls hP2.1 hP2.2 hS hl
abbrev rm_J0_coder_7d493 : Room := { frames := 0, cells := 0, slots := 0, locals := 0 }
abbrev rm_J0_length_8abf5 : Room := { frames := 1, cells := 0, slots := 0, locals := 20 }
abbrev rm_J0_isLatin1_aae02 : Room := { frames := 0, cells := 0, slots := 0, locals := 0 }
abbrev rm_J3_checkIndex_8e157 : Room := { frames := 0, cells := 0, slots := 0, locals := 0 }
abbrev rm_J0_checkIndex_df160 : Room := { frames := 1, cells := 0, slots := 0, locals := 22 }
abbrev rm_J1_charAt_3b067 : Room := { frames := 2, cells := 0, slots := 0, locals := 43 }
abbrev rm_J0_charAt_5068e : Room := { frames := 3, cells := 0, slots := 0, locals := 64 }
theorem c_J0_coder_7d493 (E : zEnv) {i : Nat} (hi : i < 15) : Kti E yJ0_coder_7d493 wsJ0_coder_7d493 rm_J0_coder_7d493 [] [] [.ref (E.2.2.2.1 i)] 0 := z_enti (cc := cJ0_coder_7d493) (maxL := 1) (rt := .byte) (by decide +kernel) rfl (Nat.le_of_ble_eq_true rfl) (fun Γ C R => by
  refine z_gsC C (List.mem_of_getElem? (i := 1) rfl) dJ0_coder_7d493_0 ?_
  refine z_if_eqF C 13 (by decide) (by decide) dJ0_coder_7d493_3 ?_
  refine z_aload_n C 0 rfl rfl dJ0_coder_7d493_6 ?_
  refine z_strc C hi (List.mem_of_getElem? (i := 2) rfl) dJ0_coder_7d493_7 ?_
  refine z_goto C 14 (by decide) dJ0_coder_7d493_10 ?_
  exact R (by decide +kernel) 14 _ dJ0_coder_7d493_14)
theorem c_J0_isLatin1_aae02 (E : zEnv) {i : Nat} (hi : i < 15) : Kti E yJ0_isLatin1_aae02 wsJ0_isLatin1_aae02 rm_J0_isLatin1_aae02 [] [] [.ref (E.2.2.2.1 i)] 1 := z_enti (cc := cJ0_isLatin1_aae02) (maxL := 1) (rt := .boolean) (by decide +kernel) rfl (Nat.le_of_ble_eq_true rfl) (fun Γ C R => by
  refine z_gsC C (List.mem_of_getElem? (i := 1) rfl) dJ0_isLatin1_aae02_0 ?_
  refine z_if_eqF C 17 (by decide) (by decide) dJ0_isLatin1_aae02_3 ?_
  refine z_aload_n C 0 rfl rfl dJ0_isLatin1_aae02_6 ?_
  refine z_strc C hi (List.mem_of_getElem? (i := 2) rfl) dJ0_isLatin1_aae02_7 ?_
  refine z_if_neF C 17 (by decide) rfl dJ0_isLatin1_aae02_10 ?_
  refine z_iconst C (v := 1) (by decide) dJ0_isLatin1_aae02_13 ?_
  refine z_goto C 18 (by decide) dJ0_isLatin1_aae02_14 ?_
  exact R (by decide +kernel) 18 _ dJ0_isLatin1_aae02_18)
theorem zlen_shr : ∀ i, i < 15 → zlen i >>> ((0 : Int32) &&& 31) = zlen i := by decide +kernel
theorem zch_fit : ∀ i, i < 15 → ∀ n, n < zLen.getD i 0 → ((((zByt.getD i []).getD n 0) &&& 255).toUInt32 % 65536).toInt32 = (zByt.getD i []).getD n 0 ∧ narrow .char (.int ((zByt.getD i []).getD n 0)) = .int ((zByt.getD i []).getD n 0) := by decide +kernel
theorem zlen_i : ∀ i, i < 15 → (zlen i).toInt = (zLen.getD i 0 : Nat) := by decide +kernel
theorem c_J0_length_8abf5 (E : zEnv) {i : Nat} (hi : i < 15) : Kti E yJ0_length_8abf5 wsJ0_length_8abf5 rm_J0_length_8abf5 [] [] [.ref (E.2.2.2.1 i)] (zlen i) := z_enti (cc := cJ0_length_8abf5) (maxL := 1) (rt := .int) (by decide +kernel) rfl (Nat.le_of_ble_eq_true rfl) (fun Γ C R => by
  refine z_aload_n C 0 rfl rfl dJ0_length_8abf5_0 ?_
  refine z_strv C hi (List.mem_of_getElem? (i := 1) rfl) dJ0_length_8abf5_1 ?_
  refine z_strn C hi dJ0_length_8abf5_4 ?_
  refine z_aload_n C 0 rfl rfl dJ0_length_8abf5_5 ?_
  refine z_callVsi C (rest := [.int (zlen i)]) (As := []) hi (c_J0_coder_7d493 E hi) gJ0_length_8abf5_J0_coder_7d493 rfl rfl rfl 0 rfl (by decide +kernel) ⟨Nat.le_of_ble_eq_true rfl, Nat.le_of_ble_eq_true rfl⟩ (Nat.le_of_ble_eq_true rfl) dJ0_length_8abf5_6 ⟨Nat.zero_le _, Nat.zero_le _⟩ _ rfl ?_
  refine z_ishr C dJ0_length_8abf5_9 ?_
  rw [zlen_shr i hi]
  exact R rfl 10 _ dJ0_length_8abf5_10)
theorem c_J3_checkIndex_8e157 (E : zEnv) {j n : Int32} (v : Value) (hv : v = .null ∨ ∃ t, v = .ref t) (h0 : ¬ j < 0) (h1 : j < n) : Kti E yJ3_checkIndex_8e157 wsJ3_checkIndex_8e157 rm_J3_checkIndex_8e157 [] [] [.int j, .int n, v] j := by
  rcases hv with rfl | ⟨t, rfl⟩ <;> exact z_enti (cc := cJ3_checkIndex_8e157) (maxL := 3) (rt := .int) (by decide +kernel) rfl (Nat.le_of_ble_eq_true rfl) (fun Γ C R => by
  refine z_iload_n C 0 rfl rfl dJ3_checkIndex_8e157_0 ?_
  refine z_if_ltF C 9 (by decide) h0 dJ3_checkIndex_8e157_1 ?_
  refine z_iload_n C 0 rfl rfl dJ3_checkIndex_8e157_4 ?_
  refine z_iload_n C 1 rfl rfl dJ3_checkIndex_8e157_5 ?_
  refine z_icmp_lt C 16 (by decide) (F1 := some ()) (F2 := none) (r := ()) (if_pos h1) dJ3_checkIndex_8e157_6 (fun _ _ => ?_) (fun _ h => ?_)
  · refine z_iload_n C 0 rfl rfl dJ3_checkIndex_8e157_16 ?_
    exact R rfl 17 _ dJ3_checkIndex_8e157_17
  · cases h)
theorem c_J0_checkIndex_df160 (E : zEnv) {j n : Int32} (h0 : ¬ j < 0) (h1 : j < n) : Ktv E yJ0_checkIndex_df160 wsJ0_checkIndex_df160 rm_J0_checkIndex_df160 [] [] [.int j, .int n] := z_entv (cc := cJ0_checkIndex_df160) (maxL := 2) (by decide +kernel) rfl (Nat.le_of_ble_eq_true rfl) (fun Γ C R => by
  refine z_iload_n C 0 rfl rfl dJ0_checkIndex_df160_0 ?_
  refine z_iload_n C 1 rfl rfl dJ0_checkIndex_df160_1 ?_
  refine z_gsF C (List.mem_of_getElem? (i := 1) rfl) dJ0_checkIndex_df160_2 (fun v hv => ?_)
  refine z_callSi C (rest := []) (c_J3_checkIndex_8e157 E v hv h0 h1) gJ0_checkIndex_df160_J3_checkIndex_8e157 rfl rfl rfl 3 rfl (by decide +kernel) ⟨Nat.le_of_ble_eq_true rfl, Nat.le_of_ble_eq_true rfl⟩ [] rfl rfl rfl [] rfl (Nat.le_of_ble_eq_true rfl) dJ0_checkIndex_df160_5 ⟨Nat.zero_le _, Nat.zero_le _⟩ _ rfl ?_
  refine z_pop C rfl dJ0_checkIndex_df160_8 ?_
  exact R 9 _ dJ0_checkIndex_df160_9)
theorem zin_lt {i : Nat} {j : Int32} (hi : i < 15) (hj : vp_in j (zLen.getD i 0)) : ¬ j < 0 ∧ j < zlen i := by
  obtain ⟨a, b⟩ := vp_in_iff.mp hj
  refine ⟨fun h => ?_, ?_⟩
  · have := Int32.lt_iff_toInt_lt.mp h
    have e : (0 : Int32).toInt = 0 := by decide
    omega
  · rw [Int32.lt_iff_toInt_lt, zlen_i i hi]
    exact b
theorem c_J1_charAt_3b067 (E : zEnv) {i : Nat} {j : Int32} (hi : i < 15) (hj : vp_in j (zLen.getD i 0)) : Kti E yJ1_charAt_3b067 wsJ1_charAt_3b067 rm_J1_charAt_3b067 [] [] [.ref (E.2.2.2.2 i), .int j] (zch i j) := z_enti (cc := cJ1_charAt_3b067) (maxL := 2) (rt := .char) (by decide +kernel) rfl (Nat.le_of_ble_eq_true rfl) (fun Γ C R => by
  have hlt : j.toNatClampNeg < zLen.getD i 0 := Nat.not_le.mp fun q => hj (Or.inr q)
  obtain ⟨h0, h1⟩ := zin_lt hi hj
  obtain ⟨g1, g2⟩ := zch_fit i hi j.toNatClampNeg hlt
  refine z_iload_n C 1 rfl rfl dJ1_charAt_3b067_0 ?_
  refine z_aload_n C 0 rfl rfl dJ1_charAt_3b067_1 ?_
  refine z_strn C hi dJ1_charAt_3b067_2 ?_
  refine z_callSv C (rest := []) (c_J0_checkIndex_df160 E h0 h1) gJ1_charAt_3b067_J0_checkIndex_df160 rfl rfl rfl 2 rfl (by decide +kernel) ⟨Nat.le_of_ble_eq_true rfl, Nat.le_of_ble_eq_true rfl⟩ [] rfl rfl rfl [] rfl (Nat.le_of_ble_eq_true rfl) dJ1_charAt_3b067_3 ⟨Nat.zero_le _, Nat.zero_le _⟩ _ rfl ?_
  refine z_aload_n C 0 rfl rfl dJ1_charAt_3b067_6 ?_
  refine z_iload_n C 1 rfl rfl dJ1_charAt_3b067_7 ?_
  refine z_strb C hi hj dJ1_charAt_3b067_8 ?_
  refine z_sipush C (v := 255) (by decide) dJ1_charAt_3b067_9 ?_
  refine z_iand C dJ1_charAt_3b067_12 ?_
  refine z_i2c C dJ1_charAt_3b067_13 ?_
  have g3 : ((zch i j &&& 255).toUInt32 % 65536).toInt32 = zch i j := g1
  rw [g3]
  exact R g2 14 _ dJ1_charAt_3b067_14)
theorem c_J0_charAt_5068e (E : zEnv) {i : Nat} {j : Int32} (hi : i < 15) (hj : vp_in j (zLen.getD i 0)) : Kti E yJ0_charAt_5068e wsJ0_charAt_5068e rm_J0_charAt_5068e [] [] [.ref (E.2.2.2.1 i), .int j] (zch i j) := z_enti (cc := cJ0_charAt_5068e) (maxL := 2) (rt := .char) (by decide +kernel) rfl (Nat.le_of_ble_eq_true rfl) (fun Γ C R => by
  have hlt : j.toNatClampNeg < zLen.getD i 0 := Nat.not_le.mp fun q => hj (Or.inr q)
  obtain ⟨g1, g2⟩ := zch_fit i hi j.toNatClampNeg hlt
  refine z_aload_n C 0 rfl rfl dJ0_charAt_5068e_0 ?_
  refine z_callVsi C (rest := []) (As := []) hi (c_J0_isLatin1_aae02 E hi) gJ0_charAt_5068e_J0_isLatin1_aae02 rfl rfl rfl 0 rfl (by decide +kernel) ⟨Nat.le_of_ble_eq_true rfl, Nat.le_of_ble_eq_true rfl⟩ (Nat.le_of_ble_eq_true rfl) dJ0_charAt_5068e_1 ⟨Nat.zero_le _, Nat.zero_le _⟩ _ rfl ?_
  refine z_if_eqF C 16 (by decide) (by decide) dJ0_charAt_5068e_4 ?_
  refine z_aload_n C 0 rfl rfl dJ0_charAt_5068e_7 ?_
  refine z_strv C hi (List.mem_of_getElem? (i := 1) rfl) dJ0_charAt_5068e_8 ?_
  refine z_iload_n C 1 rfl rfl dJ0_charAt_5068e_11 ?_
  refine z_callSi C (rest := []) (c_J1_charAt_3b067 E hi hj) gJ0_charAt_5068e_J1_charAt_3b067 rfl rfl rfl 2 rfl (by decide +kernel) ⟨Nat.le_of_ble_eq_true rfl, Nat.le_of_ble_eq_true rfl⟩ [] rfl rfl rfl [] rfl (Nat.le_of_ble_eq_true rfl) dJ0_charAt_5068e_12 ⟨Nat.zero_le _, Nat.zero_le _⟩ _ rfl ?_
  exact R g2 15 _ dJ0_charAt_5068e_15)
