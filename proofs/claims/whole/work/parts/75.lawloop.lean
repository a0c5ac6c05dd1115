theorem zsub5 {L : Nat} (h : L ≤ 2560) : (Int32.ofNat L - 5).toInt = (L : Int) - 5 := by
  have e : (Int32.ofNat L).toInt = (L : Int) := nI_toInt (n := L) (by omega)
  have e2 : (5 : Int32).toInt = 5 := by decide
  rw [Int32.toInt_sub, e, e2]
  exact Int.bmod_eq_of_le (by omega) (by omega)
set_option maxHeartbeats 8000000 in
set_option maxRecDepth 100000 in
theorem law_loop {E : zEnv} {Γ : zG} {a mb : Nat → Nat} {b L : Nat} {xs : Nat → Int32} {Rel : St → St → Prop} (hO : Ops Rel) (C : zC E Γ code RL 4 room_1 lw_tbl) (hZ : zS Γ b L xs) (hLw : zLw Γ b) (hcl : Jvm.Cond.constantLong RL 13 4294967295 ∈ lw_tbl) (hL : L ≤ 2560) : ∀ (n i : Nat) (G M : St), (i < n + i ∧ L + 5 < n + i ∧ i ≤ L + 5) → Rel G M → Zt E Γ 4 600000 7302250 (wEA E a G ++ wModel E mb M) [(0, .ref b), (1, .ref (a 0)), (2, .ref (mb 0)), (3, .int (nI i))] 18 [] := by
  intro n
  induction n with
  | zero => intro i G M h; omega
  | succ n ih =>
    intro i G M hn hRel
    refine z_iload_n C 3 rfl rfl dL_law_18 ?_
    refine z_aload_n C 0 rfl rfl dL_law_19 ?_
    refine z_slen C hZ dL_law_20 ?_
    refine z_iconst C (v := (5 : Int32)) (by decide) dL_law_21 ?_
    refine z_isub C dL_law_22 ?_
    have e5 : (Int32.ofNat L - 5).toInt = (L : Int) - 5 := zsub5 hL
    have ei : (nI i).toInt = (i : Int) := nI_toInt (by omega)
    by_cases hi : i + 5 ≤ L
    · refine z_icmp_gt C 1520 (by decide) (F1 := none) (F2 := some ()) (r := ()) (if_neg (by rw [Int32.lt_iff_toInt_lt, e5, ei]; omega)) dL_law_23 (fun _ h => by cases h) (fun _ _ => ?_)
      refine z_aload_n C 0 rfl rfl dL_law_26 ?_
      refine z_iload_n C 3 rfl rfl dL_law_27 ?_
      refine z_sld C hZ (vp_in_nI (by omega) (by omega)) dL_law_28 ?_
      refine z_bipush C (v := (63 : Int32)) (by decide) dL_law_29 ?_
      refine z_iand C dL_law_31 ?_
      have hk : ∀ G2 M2 : St, Rel G2 M2 → Zt E Γ 4 600000 7302250 (wEA E a G2 ++ wModel E mb M2) [(0, .ref b), (1, .ref (a 0)), (2, .ref (mb 0)), (3, .int (nI i))] 1514 [] := by
        intro G2 M2 h2
        refine z_iinc C (v := nI (i + 5)) [(3, .int (nI (i + 5))), (0, .ref b), (1, .ref (a 0)), (2, .ref (mb 0))] 3 rfl (z := 5) (by rw [show Int32.ofInt 5 = nI 5 from by decide]; exact nI_add i 5) (by decide) rfl dL_law_1514 ?_
        refine z_goto C 18 (by decide) dL_law_1517 ?_
        refine Zt_l [(0, .ref b), (1, .ref (a 0)), (2, .ref (mb 0)), (3, .int (nI (i + 5)))] [1, 2, 3, 0] rfl ?_
        exact ih (i + 5) G2 M2 (by omega) h2
      obtain ⟨v, hv⟩ : ∃ v : Int32, v = xs (nI i).toNatClampNeg &&& 63 := ⟨_, rfl⟩
      rw [← hv]
      by_cases hr : v.toInt < 0 ∨ 39 < v.toInt
      · refine z_tableOut C 1514 hr (by decide) dL_law_32 ?_
        exact hk G M hRel
      · rcases (show v.toInt = 0 ∨ v.toInt = 1 ∨ v.toInt = 2 ∨ v.toInt = 3 ∨ v.toInt = 4 ∨ v.toInt = 5 ∨ v.toInt = 6 ∨ v.toInt = 7 ∨ v.toInt = 8 ∨ v.toInt = 9 ∨ v.toInt = 10 ∨ v.toInt = 11 ∨ v.toInt = 12 ∨ v.toInt = 13 ∨ v.toInt = 14 ∨ v.toInt = 15 ∨ v.toInt = 16 ∨ v.toInt = 17 ∨ v.toInt = 18 ∨ v.toInt = 19 ∨ v.toInt = 20 ∨ v.toInt = 21 ∨ v.toInt = 22 ∨ v.toInt = 23 ∨ v.toInt = 24 ∨ v.toInt = 25 ∨ v.toInt = 26 ∨ v.toInt = 27 ∨ v.toInt = 28 ∨ v.toInt = 29 ∨ v.toInt = 30 ∨ v.toInt = 31 ∨ v.toInt = 32 ∨ v.toInt = 33 ∨ v.toInt = 34 ∨ v.toInt = 35 ∨ v.toInt = 36 ∨ v.toInt = 37 ∨ v.toInt = 38 ∨ v.toInt = 39 by omega) with h | h | h | h | h | h | h | h | h | h | h | h | h | h | h | h | h | h | h | h | h | h | h | h | h | h | h | h | h | h | h | h | h | h | h | h | h | h | h | h
        · refine z_tableIn C 208 (by rw [h]; decide) (by rw [h]; decide) (off := 176) (by rw [h]; rfl) (by decide) dL_law_32 ?_
          exact law_feed hO.1 C hZ hcl hL hi hRel hk
        · refine z_tableIn C 261 (by rw [h]; decide) (by rw [h]; decide) (off := 229) (by rw [h]; rfl) (by decide) dL_law_32 ?_
          exact law_end hO.2.1 C hZ hcl hL hi hRel hk
        · refine z_tableIn C 284 (by rw [h]; decide) (by rw [h]; decide) (off := 252) (by rw [h]; rfl) (by decide) dL_law_32 ?_
          exact law_street hO.2.2.1 C hZ hcl hL hi hRel hk
        · refine z_tableIn C 297 (by rw [h]; decide) (by rw [h]; decide) (off := 265) (by rw [h]; rfl) (by decide) dL_law_32 ?_
          exact law_fault hO.2.2.2.1 C hZ hcl hL hi hRel hk
        · refine z_tableIn C 310 (by rw [h]; decide) (by rw [h]; decide) (off := 278) (by rw [h]; rfl) (by decide) dL_law_32 ?_
          exact law_rule hO.2.2.2.2.1 C hZ hcl hL hi hRel hk
        · refine z_tableIn C 333 (by rw [h]; decide) (by rw [h]; decide) (off := 301) (by rw [h]; rfl) (by decide) dL_law_32 ?_
          exact law_one hO.2.2.2.2.2.1 C hZ hcl hL hi hRel hk
        · refine z_tableIn C 366 (by rw [h]; decide) (by rw [h]; decide) (off := 334) (by rw [h]; rfl) (by decide) dL_law_32 ?_
          exact law_moved hO.2.2.2.2.2.2.1 C hZ hcl hL hi hRel hk
        · refine z_tableIn C 399 (by rw [h]; decide) (by rw [h]; decide) (off := 367) (by rw [h]; rfl) (by decide) dL_law_32 ?_
          exact law_expected hO.2.2.2.2.2.2.2.1 C hZ hcl hL hi hRel hk
        · refine z_tableIn C 432 (by rw [h]; decide) (by rw [h]; decide) (off := 400) (by rw [h]; rfl) (by decide) dL_law_32 ?_
          exact law_law hO.2.2.2.2.2.2.2.2.1 C hZ hcl hL hi hRel hk
        · refine z_tableIn C 455 (by rw [h]; decide) (by rw [h]; decide) (off := 423) (by rw [h]; rfl) (by decide) dL_law_32 ?_
          exact law_bear hO.2.2.2.2.2.2.2.2.2.1 C hZ hcl hL hi hRel hk
        · refine z_tableIn C 498 (by rw [h]; decide) (by rw [h]; decide) (off := 466) (by rw [h]; rfl) (by decide) dL_law_32 ?_
          exact law_die hO.2.2.2.2.2.2.2.2.2.2.1 C hZ hcl hL hi hRel hk
        · refine z_tableIn C 531 (by rw [h]; decide) (by rw [h]; decide) (off := 499) (by rw [h]; rfl) (by decide) dL_law_32 ?_
          exact law_move hO.2.2.2.2.2.2.2.2.2.2.2.1 C hZ hcl hL hi hRel hk
        · refine z_tableIn C 574 (by rw [h]; decide) (by rw [h]; decide) (off := 542) (by rw [h]; rfl) (by decide) dL_law_32 ?_
          exact law_undo hO.2.2.2.2.2.2.2.2.2.2.2.2.1 C hZ hcl hL hi hRel hk
        · refine z_tableIn C 597 (by rw [h]; decide) (by rw [h]; decide) (off := 565) (by rw [h]; rfl) (by decide) dL_law_32 ?_
          exact law_years hO.2.2.2.2.2.2.2.2.2.2.2.2.2.1 C hZ hcl hL hi hRel hk
        · refine z_tableIn C 630 (by rw [h]; decide) (by rw [h]; decide) (off := 598) (by rw [h]; rfl) (by decide) dL_law_32 ?_
          exact law_lives hO.2.2.2.2.2.2.2.2.2.2.2.2.2.2.1 C hZ hcl hL hi hRel hk
        · refine z_tableIn C 663 (by rw [h]; decide) (by rw [h]; decide) (off := 631) (by rw [h]; rfl) (by decide) dL_law_32 ?_
          exact law_number hO.2.2.2.2.2.2.2.2.2.2.2.2.2.2.2.1 C hZ hcl hL hi hRel hk
        · refine z_tableIn C 696 (by rw [h]; decide) (by rw [h]; decide) (off := 664) (by rw [h]; rfl) (by decide) dL_law_32 ?_
          exact law_at hO.2.2.2.2.2.2.2.2.2.2.2.2.2.2.2.2.1 C hZ hcl hL hi hRel hk
        · refine z_tableIn C 729 (by rw [h]; decide) (by rw [h]; decide) (off := 697) (by rw [h]; rfl) (by decide) dL_law_32 ?_
          exact law_twins hO.2.2.2.2.2.2.2.2.2.2.2.2.2.2.2.2.2.1 C hZ hcl hL hi hRel hk
        · refine z_tableIn C 752 (by rw [h]; decide) (by rw [h]; decide) (off := 720) (by rw [h]; rfl) (by decide) dL_law_32 ?_
          exact law_changes hO.2.2.2.2.2.2.2.2.2.2.2.2.2.2.2.2.2.2.1 C hZ hcl hL hi hRel hk
        · refine z_tableIn C 785 (by rw [h]; decide) (by rw [h]; decide) (off := 753) (by rw [h]; rfl) (by decide) dL_law_32 ?_
          exact law_descending hO.2.2.2.2.2.2.2.2.2.2.2.2.2.2.2.2.2.2.2.1 C hZ hcl hL hi hRel hk
        · refine z_tableIn C 818 (by rw [h]; decide) (by rw [h]; decide) (off := 786) (by rw [h]; rfl) (by decide) dL_law_32 ?_
          exact law_all hO.2.2.2.2.2.2.2.2.2.2.2.2.2.2.2.2.2.2.2.2.1 C hZ hcl hL hi hRel hk
        · refine z_tableIn C 851 (by rw [h]; decide) (by rw [h]; decide) (off := 819) (by rw [h]; rfl) (by decide) dL_law_32 ?_
          exact law_letter hO.2.2.2.2.2.2.2.2.2.2.2.2.2.2.2.2.2.2.2.2.2.1 C hZ hcl hL hi hRel hk
        · refine z_tableIn C 904 (by rw [h]; decide) (by rw [h]; decide) (off := 872) (by rw [h]; rfl) (by decide) dL_law_32 ?_
          exact law_round hO.2.2.2.2.2.2.2.2.2.2.2.2.2.2.2.2.2.2.2.2.2.2.1 C hZ hcl hL hi hRel hk
        · refine z_tableIn C 937 (by rw [h]; decide) (by rw [h]; decide) (off := 905) (by rw [h]; rfl) (by decide) dL_law_32 ?_
          exact law_want hO.2.2.2.2.2.2.2.2.2.2.2.2.2.2.2.2.2.2.2.2.2.2.2.1 C hZ hcl hL hi hRel hk
        · refine z_tableIn C 970 (by rw [h]; decide) (by rw [h]; decide) (off := 938) (by rw [h]; rfl) (by decide) dL_law_32 ?_
          exact law_content hO.2.2.2.2.2.2.2.2.2.2.2.2.2.2.2.2.2.2.2.2.2.2.2.2.1 C hZ hcl hL hi hRel hk
        · refine z_tableIn C 983 (by rw [h]; decide) (by rw [h]; decide) (off := 951) (by rw [h]; rfl) (by decide) dL_law_32 ?_
          exact law_fetch hO.2.2.2.2.2.2.2.2.2.2.2.2.2.2.2.2.2.2.2.2.2.2.2.2.2.1 C hZ hcl hL hi hRel hk
        · refine z_tableIn C 1042 (by rw [h]; decide) (by rw [h]; decide) (off := 1010) (by rw [h]; rfl) (by decide) dL_law_32 ?_
          exact law_expect hO.2.2.2.2.2.2.2.2.2.2.2.2.2.2.2.2.2.2.2.2.2.2.2.2.2.2.1 C hZ hcl hL hi hRel hk
        · refine z_tableIn C 1085 (by rw [h]; decide) (by rw [h]; decide) (off := 1053) (by rw [h]; rfl) (by decide) dL_law_32 ?_
          exact law_can hO.2.2.2.2.2.2.2.2.2.2.2.2.2.2.2.2.2.2.2.2.2.2.2.2.2.2.2.1 C hZ hcl hL hi hRel hk
        · refine z_tableIn C 1128 (by rw [h]; decide) (by rw [h]; decide) (off := 1096) (by rw [h]; rfl) (by decide) dL_law_32 ?_
          exact law_see hO.2.2.2.2.2.2.2.2.2.2.2.2.2.2.2.2.2.2.2.2.2.2.2.2.2.2.2.2.1 C hZ hcl hL hi hRel hk
        · refine z_tableIn C 1171 (by rw [h]; decide) (by rw [h]; decide) (off := 1139) (by rw [h]; rfl) (by decide) dL_law_32 ?_
          exact law_forget hO.2.2.2.2.2.2.2.2.2.2.2.2.2.2.2.2.2.2.2.2.2.2.2.2.2.2.2.2.2.1 C hZ hcl hL hi hRel hk
        · refine z_tableIn C 1194 (by rw [h]; decide) (by rw [h]; decide) (off := 1162) (by rw [h]; rfl) (by decide) dL_law_32 ?_
          exact law_lie hO.2.2.2.2.2.2.2.2.2.2.2.2.2.2.2.2.2.2.2.2.2.2.2.2.2.2.2.2.2.2.1 C hZ hcl hL hi hRel hk
        · refine z_tableIn C 1207 (by rw [h]; decide) (by rw [h]; decide) (off := 1175) (by rw [h]; rfl) (by decide) dL_law_32 ?_
          exact law_born hO.2.2.2.2.2.2.2.2.2.2.2.2.2.2.2.2.2.2.2.2.2.2.2.2.2.2.2.2.2.2.2.1 C hZ hcl hL hi hRel hk
        · refine z_tableIn C 1240 (by rw [h]; decide) (by rw [h]; decide) (off := 1208) (by rw [h]; rfl) (by decide) dL_law_32 ?_
          exact law_later hO.2.2.2.2.2.2.2.2.2.2.2.2.2.2.2.2.2.2.2.2.2.2.2.2.2.2.2.2.2.2.2.2.1 C hZ hcl hL hi hRel hk
        · refine z_tableIn C 1293 (by rw [h]; decide) (by rw [h]; decide) (off := 1261) (by rw [h]; rfl) (by decide) dL_law_32 ?_
          exact law_keep hO.2.2.2.2.2.2.2.2.2.2.2.2.2.2.2.2.2.2.2.2.2.2.2.2.2.2.2.2.2.2.2.2.2.1 C hZ hcl hL hi hRel hk
        · refine z_tableIn C 1316 (by rw [h]; decide) (by rw [h]; decide) (off := 1284) (by rw [h]; rfl) (by decide) dL_law_32 ?_
          exact law_back hO.2.2.2.2.2.2.2.2.2.2.2.2.2.2.2.2.2.2.2.2.2.2.2.2.2.2.2.2.2.2.2.2.2.2.1 C hZ hcl hL hi hRel hk
        · refine z_tableIn C 1339 (by rw [h]; decide) (by rw [h]; decide) (off := 1307) (by rw [h]; rfl) (by decide) dL_law_32 ?_
          exact law_sheet hO.2.2.2.2.2.2.2.2.2.2.2.2.2.2.2.2.2.2.2.2.2.2.2.2.2.2.2.2.2.2.2.2.2.2.2.1 C hZ hcl hL hi hRel hk
        · refine z_tableIn C 1382 (by rw [h]; decide) (by rw [h]; decide) (off := 1350) (by rw [h]; rfl) (by decide) dL_law_32 ?_
          exact law_lay hO.2.2.2.2.2.2.2.2.2.2.2.2.2.2.2.2.2.2.2.2.2.2.2.2.2.2.2.2.2.2.2.2.2.2.2.2.1 C hZ hcl hL hi hRel hk
        · refine z_tableIn C 1425 (by rw [h]; decide) (by rw [h]; decide) (off := 1393) (by rw [h]; rfl) (by decide) dL_law_32 ?_
          exact law_read hO.2.2.2.2.2.2.2.2.2.2.2.2.2.2.2.2.2.2.2.2.2.2.2.2.2.2.2.2.2.2.2.2.2.2.2.2.2.1 C hZ hcl hL hi hRel hk
        · refine z_tableIn C 1478 (by rw [h]; decide) (by rw [h]; decide) (off := 1446) (by rw [h]; rfl) (by decide) dL_law_32 ?_
          exact law_torn hO.2.2.2.2.2.2.2.2.2.2.2.2.2.2.2.2.2.2.2.2.2.2.2.2.2.2.2.2.2.2.2.2.2.2.2.2.2.2.1 C hZ hcl hL hi hRel hk
        · refine z_tableIn C 1491 (by rw [h]; decide) (by rw [h]; decide) (off := 1459) (by rw [h]; rfl) (by decide) dL_law_32 ?_
          exact law_count hO.2.2.2.2.2.2.2.2.2.2.2.2.2.2.2.2.2.2.2.2.2.2.2.2.2.2.2.2.2.2.2.2.2.2.2.2.2.2.2 C hZ hcl hL hi hRel hk
    · refine z_icmp_gt C 1520 (by decide) (F1 := some ()) (F2 := none) (r := ()) (if_pos (by rw [Int32.lt_iff_toInt_lt, e5, ei]; omega)) dL_law_23 (fun _ _ => ?_) (fun _ h => by cases h)
      refine z_iconst C (v := (1 : Int32)) (by decide) dL_law_1520 ?_
      exact z_lwret C hLw dL_law_1521

