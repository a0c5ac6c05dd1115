def ztm (i : Nat) : Term := .string "EldestAge$Tape" ((zStr.getD i (0, "")).1)
theorem zflat1 : ∀ i, i < 15 → Cond.exactly (ztm i) "java/lang/String" ∈ flatC (Jvm.Cond.and given_1 narrow_1) ∧ Cond.eq (.field (ztm i) "java/lang/String" "coder" "B") (.int 0) ∈ flatC (Jvm.Cond.and given_1 narrow_1) ∧ Cond.arrayOf (.field (ztm i) "java/lang/String" "value" "[B") .byte ∈ flatC (Jvm.Cond.and given_1 narrow_1) ∧ Cond.eq (.length (.field (ztm i) "java/lang/String" "value" "[B")) (.int (Int32.ofNat (zLen.getD i 0))) ∈ flatC (Jvm.Cond.and given_1 narrow_1) := by decide +kernel
theorem zflat2 : ∀ i, i < 15 → ∀ j, j < zLen.getD i 0 → Cond.eq (.elem (.field (ztm i) "java/lang/String" "value" "[B") (.int (Int32.ofNat j))) (.int ((zByt.getD i []).getD j 0)) ∈ flatC (Jvm.Cond.and given_1 narrow_1) := by decide +kernel
def zprs : List (Nat × Nat) := [(0, 1), (0, 6), (1, 6), (0, 7), (1, 7), (6, 7), (0, 8), (1, 8), (6, 8), (7, 8), (0, 9), (1, 9), (6, 9), (7, 9), (8, 9), (0, 2), (1, 2), (6, 2), (7, 2), (8, 2), (9, 2), (0, 10), (1, 10), (6, 10), (7, 10), (8, 10), (9, 10), (2, 10), (0, 11), (1, 11), (6, 11), (7, 11), (8, 11), (9, 11), (2, 11), (10, 11), (0, 12), (1, 12), (6, 12), (7, 12), (8, 12), (9, 12), (2, 12), (10, 12), (11, 12), (0, 13), (1, 13), (6, 13), (7, 13), (8, 13), (9, 13), (2, 13), (10, 13), (11, 13), (12, 13), (0, 14), (1, 14), (6, 14), (7, 14), (8, 14), (9, 14), (2, 14), (10, 14), (11, 14), (12, 14), (13, 14), (0, 5), (1, 5), (6, 5), (7, 5), (8, 5), (9, 5), (2, 5), (10, 5), (11, 5), (12, 5), (13, 5), (14, 5), (0, 3), (1, 3), (6, 3), (7, 3), (8, 3), (9, 3), (2, 3), (10, 3), (11, 3), (12, 3), (13, 3), (14, 3), (5, 3), (0, 4), (1, 4), (6, 4), (7, 4), (8, 4), (9, 4), (2, 4), (10, 4), (11, 4), (12, 4), (13, 4), (14, 4), (5, 4), (3, 4)]
theorem zprs_c : ∀ i, i < 15 → ∀ j, j < 15 → (i = j ∨ (i, j) ∈ zprs ∨ (j, i) ∈ zprs) := by decide +kernel
theorem zprs_f : zprs.map (fun q => Cond.not (Cond.eq (ztm q.1) (ztm q.2))) = [26, 37, 38, 51, 52, 53, 61, 62, 63, 64, 73, 74, 75, 76, 77, 85, 86, 87, 88, 89, 90, 100, 101, 102, 103, 104, 105, 106, 115, 116, 117, 118, 119, 120, 121, 122, 131, 132, 133, 134, 135, 136, 137, 138, 139, 150, 151, 152, 153, 154, 155, 156, 157, 158, 159, 170, 171, 172, 173, 174, 175, 176, 177, 178, 179, 180, 189, 190, 191, 192, 193, 194, 195, 196, 197, 198, 199, 200, 209, 210, 211, 212, 213, 214, 215, 216, 217, 218, 219, 220, 221, 232, 233, 234, 235, 236, 237, 238, 239, 240, 241, 242, 243, 244, 245].filterMap (fun i => (flatC (Jvm.Cond.and given_1 narrow_1))[i]?) := by decide +kernel
theorem zprs_m : ∀ q ∈ zprs, Cond.not (Cond.eq (ztm q.1) (ztm q.2)) ∈ flatC (Jvm.Cond.and given_1 narrow_1) := by
  intro q hq
  have h1 : Cond.not (Cond.eq (ztm q.1) (ztm q.2)) ∈ zprs.map (fun q => Cond.not (Cond.eq (ztm q.1) (ztm q.2))) := List.mem_map.mpr ⟨q, hq, rfl⟩
  rw [zprs_f] at h1
  obtain ⟨i, -, hi⟩ := List.mem_filterMap.mp h1
  exact List.mem_of_getElem? hi
theorem zflat3 (i : Nat) (hi : i < 15) (j : Nat) (hj : j < 15) (hij : i ≠ j) : Cond.not (Cond.eq (ztm i) (ztm j)) ∈ flatC (Jvm.Cond.and given_1 narrow_1) ∨ Cond.not (Cond.eq (ztm j) (ztm i)) ∈ flatC (Jvm.Cond.and given_1 narrow_1) := ((zprs_c i hi j hj).resolve_left hij).imp (zprs_m _) (zprs_m _)
theorem zflat4 : Cond.eq (.static "java/lang/String" "COMPACT_STRINGS" "Z") (.int 1) ∈ flatC (Jvm.Cond.and given_1 narrow_1) ∧ Cond.isRef (.static "jdk/internal/util/Preconditions" "SIOOBE_FORMATTER" "Ljava/util/function/BiFunction;") ∈ flatC (Jvm.Cond.and given_1 narrow_1) := by decide +kernel
theorem zlen31 : ∀ i, i < 15 → zLen.getD i 0 < 2 ^ 31 := by decide +kernel
theorem zsref : ∀ i, i < 15 → Cond.stringRef "EldestAge$Tape" ((zStr.getD i (0, "")).1) ((zStr.getD i (0, "")).2) ∈ lw_tbl := by
  intro i hi
  match i, hi with
  | 0, _ => exact wsL_tb_in 2 _ (List.mem_of_getElem? (i := 107) rfl)
  | 1, _ => exact wsL_tb_in 2 _ (List.mem_of_getElem? (i := 172) rfl)
  | 2, _ => exact wsL_tb_in 2 _ (List.mem_of_getElem? (i := 185) rfl)
  | 3, _ => exact wsL_tb_in 2 _ (List.mem_of_getElem? (i := 209) rfl)
  | 4, _ => exact wsL_tb_in 2 _ (List.mem_of_getElem? (i := 222) rfl)
  | 5, _ => exact wsL_tb_in 2 _ (List.mem_of_getElem? (i := 203) rfl)
  | 6, _ => exact wsL_tb_in 2 _ (List.mem_of_getElem? (i := 181) rfl)
  | 7, _ => exact wsL_tb_in 2 _ (List.mem_of_getElem? (i := 182) rfl)
  | 8, _ => exact wsL_tb_in 2 _ (List.mem_of_getElem? (i := 183) rfl)
  | 9, _ => exact wsL_tb_in 2 _ (List.mem_of_getElem? (i := 184) rfl)
  | 10, _ => exact wsL_tb_in 2 _ (List.mem_of_getElem? (i := 194) rfl)
  | 11, _ => exact wsL_tb_in 2 _ (List.mem_of_getElem? (i := 195) rfl)
  | 12, _ => exact wsL_tb_in 2 _ (List.mem_of_getElem? (i := 196) rfl)
  | 13, _ => exact wsL_tb_in 2 _ (List.mem_of_getElem? (i := 197) rfl)
  | 14, _ => exact wsL_tb_in 2 _ (List.mem_of_getElem? (i := 198) rfl)
  | i + 15, h => exact absurd h (by omega)
theorem zArr {s : State} {c comp : ClassId} {k : Class} {ty : FieldType} (hk : s.vm.classes[c]? = some k) (h : k.kind = .array comp ty) : ArrOfT s c ty := fun _ _ => ⟨(fun q hq => by cases hq), k, hk, comp, h⟩
set_option maxHeartbeats 8000000 in
set_option maxRecDepth 100000 in
/-- the surroundings at the law's entry -/
theorem law_env {s : State} {b : Nat} (l : Launch) (hts : ∀ w ∈ lw_tbl, w.before #[Value.ref b] s = true) (hgv : (Jvm.Cond.and given_1 narrow_1).before #[Value.ref b] s = true) : ∃ E : zEnv, E.1 = l ∧ va_K E.2.1 vwCl (zTys E) s ∧ Gd E (fun q : Nat => s.heap.size ≤ q) s s.heap ∧ zX s := by
  have hfl := flat_of_before _ hgv
  obtain ⟨c0, iS0, hKn0⟩ := u_known (C := RX0) (T := TX0) (N := 8) (n := 8) hts inX0 (hts (Cond.instantiable RX0 8) (wsL_tb_in 1 _ (List.mem_of_getElem? (i := 205) rfl)))
  obtain ⟨c1, iS1, hKn1⟩ := u_known (C := RX1) (T := TX1) (N := 3) (n := 3) hts inX1 (hts (Cond.instantiable RX1 3) (wsL_tb_in 1 _ (List.mem_of_getElem? (i := 238) rfl)))
  obtain ⟨c2, iS2, hKn2⟩ := u_known (C := RX2) (T := TX2) (N := 4) (n := 4) hts inX2 (hts (Cond.instantiable RX2 4) (wsL_tb_in 1 _ (List.mem_of_getElem? (i := 30) rfl)))
  obtain ⟨c3, iS3, hKn3⟩ := u_known (C := RX3) (T := TX3) (N := 12) (n := 12) hts inX3 (hts (Cond.instantiable RX3 12) (wsL_tb_in 1 _ (List.mem_of_getElem? (i := 128) rfl)))
  obtain ⟨c4, iS4, hKn4⟩ := u_known (C := RX4) (T := TX4) (N := 5) (n := 5) hts inX4 (hts (Cond.instantiable RX4 5) (wsL_tb_in 1 _ (List.mem_of_getElem? (i := 176) rfl)))
  obtain ⟨c5, iS5, hKn5⟩ := u_known (C := RX5) (T := TX5) (N := 16) (n := 16) hts inX5 (hts (Cond.instantiable RX5 16) (wsL_tb_in 1 _ (List.mem_of_getElem? (i := 24) rfl)))
  obtain ⟨c6, iS6, hKn6⟩ := u_known (C := RX6) (T := TX6) (N := 11) (n := 11) hts inX6 (hts (Cond.instantiable RX6 11) (wsL_tb_in 1 _ (List.mem_of_getElem? (i := 16) rfl)))
  obtain ⟨c7, iS7, hKn7⟩ := u_known (C := RX7) (T := TX7) (N := 38) (n := 38) hts inX7 (hts (Cond.instantiable RX7 38) (wsL_tb_in 4 _ (List.mem_of_getElem? (i := 106) rfl)))
  obtain ⟨dC, dI, hKc⟩ : ∃ (dC : Nat → ClassId) (dI : Nat → Nat → Nat), ∀ (k : Nat) (q : vw_C), vwCl[k]? = some q → u_Kn s q.1 q.2.1 q.2.2 (dC k) (dI k) := by
    refine ⟨fun k => if k = 0 then c0 else if k = 1 then c1 else if k = 2 then c2 else if k = 3 then c3 else if k = 4 then c4 else if k = 5 then c5 else if k = 6 then c6 else c7, fun k => if k = 0 then iS0 else if k = 1 then iS1 else if k = 2 then iS2 else if k = 3 then iS3 else if k = 4 then iS4 else if k = 5 then iS5 else if k = 6 then iS6 else iS7, ?_⟩
    intro k q hq
    match k, hq with
    | 0, hq => cases hq; exact hKn0
    | 1, hq => cases hq; exact hKn1
    | 2, hq => cases hq; exact hKn2
    | 3, hq => cases hq; exact hKn3
    | 4, hq => cases hq; exact hKn4
    | 5, hq => cases hq; exact hKn5
    | 6, hq => cases hq; exact hKn6
    | 7, hq => cases hq; exact hKn7
    | k + 8, hq => simp [vwCl] at hq
  obtain ⟨kI, kkI, cmI, i1, i2, i3⟩ := Cond.arrayClass_spec (hts (Cond.arrayClass .int) (wsL_tb_in 1 _ (List.mem_of_getElem? (i := 48) rfl)))
  obtain ⟨kZ, kkZ, cmZ, z1, z2, z3⟩ := Cond.arrayClass_spec (hts (Cond.arrayClass .boolean) (wsL_tb_in 1 _ (List.mem_of_getElem? (i := 174) rfl)))
  have hAO : va_AO "EldestAge$Town" s := (hts (Cond.arrayOver (.object "EldestAge$Town")) (wsL_tb_in 1 _ (List.mem_of_getElem? (i := 126) rfl)))
  have hAA : zAA s := (hts (Cond.arrayOver (.array .int)) (wsL_tb_in 2 _ (List.mem_of_getElem? (i := 4) rfl)))
  obtain ⟨tc, kT, kkT, t1, t2, t3, t4, t5⟩ := Cond.arrayOver_spec hAO
  obtain ⟨ac, kA, kkA, a1, a2, a3, a4, a5⟩ := zAA_spec hAA
  have hA : ∀ a : Nat, a < s.heap.size → ¬ (fun q : Nat => s.heap.size ≤ q) a := fun a h => Nat.not_le.mpr h
  obtain ⟨adK, adV, hS, hev⟩ := vk_Sof (args := #[Value.ref b]) (s := s) (N := 15) (tm := ztm) (len := zLen) (byt := zByt) (A := fun q : Nat => s.heap.size ≤ q) zlen31 (fun i hi => hfl _ (zflat1 i hi).1) (fun i hi => hfl _ (zflat1 i hi).2.1) (fun i hi => hfl _ (zflat1 i hi).2.2.1) (fun i hi => hfl _ (zflat1 i hi).2.2.2) (fun i hi j hj => hfl _ (zflat2 i hi j hj)) (fun i j hi hj hij => (zflat3 i hi j hj hij).elim (fun h => Or.inl (hfl _ h)) (fun h => Or.inr (hfl _ h))) hA
  refine ⟨(l, (dC, dI), (kI, kZ, kT, kA), adK, adV), rfl, ⟨hKc, ?_⟩, ⟨?_, ?_, ?_, hS, ?_⟩, hAO, hAA⟩
  · intro k q hq
    match k, hq with
    | 0, hq => cases hq; exact ⟨zArr i2 i3, i1⟩
    | 1, hq => cases hq; exact ⟨zArr z2 z3, z1⟩
    | 2, hq => cases hq; exact ⟨zArr t3 t4, kkT, tc, t3, t4, t1, t5⟩
    | 3, hq => cases hq; exact ⟨zArr a3 a4, a5⟩
    | k + 4, hq => simp [zTys] at hq
  · intro w hw
    simp only [zNest, List.mem_cons, List.not_mem_nil, or_false] at hw
    rcases hw with rfl | rfl | rfl | rfl | rfl | rfl | rfl
    · exact va_Nw.of rfl (hts _ (wsL_tb_in 1 _ (List.mem_of_getElem? (i := 25) rfl)))
    · exact va_Nw.of rfl (hts _ (wsL_tb_in 1 _ (List.mem_of_getElem? (i := 31) rfl)))
    · exact va_Nw.of rfl (hts _ (wsL_tb_in 1 _ (List.mem_of_getElem? (i := 129) rfl)))
    · exact va_Nw.of rfl (hts _ (wsL_tb_in 1 _ (List.mem_of_getElem? (i := 206) rfl)))
    · exact va_Nw.of rfl (hts _ (wsL_tb_in 1 _ (List.mem_of_getElem? (i := 211) rfl)))
    · exact va_Nw.of rfl (hts _ (wsL_tb_in 1 _ (List.mem_of_getElem? (i := 239) rfl)))
    · exact va_Nw.of rfl (hts _ (wsL_tb_in 3 _ (List.mem_of_getElem? (i := 54) rfl)))
  · exact va_Zof (hts (Cond.laysStatic "java/lang/String" "COMPACT_STRINGS" "Z") (wsL_tb_in 2 _ (List.mem_of_getElem? (i := 121) rfl))) (hts (Cond.initialized "java/lang/String") (wsL_tb_in 1 _ (List.mem_of_getElem? (i := 10) rfl))) (va_eqi (hfl _ zflat4.1)) hA
  · exact va_Zqof (hts (Cond.laysStatic "jdk/internal/util/Preconditions" "SIOOBE_FORMATTER" "Ljava/util/function/BiFunction;") (wsL_tb_in 2 _ (List.mem_of_getElem? (i := 137) rfl))) (hts (Cond.initialized "jdk/internal/util/Preconditions") (wsL_tb_in 1 _ (List.mem_of_getElem? (i := 12) rfl))) (hfl _ zflat4.2) hA
  · intro i q hq
    have hi : i < 15 := (List.getElem?_eq_some_iff.mp hq).1
    have e : zStr.getD i (0, "") = q := by rw [List.getD_eq_getElem?_getD, hq]; rfl
    have h1 := hts _ (zsref i hi)
    have h2 := hev i hi
    rw [e] at h1
    unfold ztm at h2
    rw [e] at h2
    exact vk_R.of h1 h2
set_option maxHeartbeats 8000000 in
set_option maxRecDepth 100000 in
theorem law_from {Rel : St → St → Prop} (hO : Ops Rel) (hRel0 : Rel zEA0 zM0) {E : zEnv} {Γ : zG} {b L : Nat} {xs : Nat → Int32} (hL : L ≤ 2560) (C : zC E Γ code RL 4 room_1 lw_tbl) (hZ : zS Γ b L xs) (hLw : zLw Γ b) (hXs : zXs Γ) : Zt E Γ 4 0 0 [] [(0, .ref b)] 0 [] := by
  refine z_new C (C := RX6) (T := TX6) (N := 11) (ci := 6) rfl inX6 tyX6 tyX6_ok (wsL_tb_in 1 _ (List.mem_of_getElem? (i := 15) rfl)) (wsL_tb_in 1 _ (List.mem_of_getElem? (i := 16) rfl)) (wsL_tb_in 1 _ (List.mem_of_getElem? (i := 1) rfl)) [.null, .null, .null, .null, .null, .null, .null, .null, .null, .int 0, .int 0] zdef_X6 (Nat.le_of_ble_eq_true rfl) (Nat.le_of_ble_eq_true rfl) dL_law_0 (fun q1 => ?_)
  refine z_dup C rfl dL_law_3 ?_
  refine z_callIe C (rest := [.ref q1]) (As := []) hXs (c_X6_init E q1) (wsL_tb_in 1 _ (List.mem_of_getElem? (i := 17) rfl)) (wsL_tb_in 1 _ (List.mem_of_getElem? (i := 1) rfl)) (wsL_tb_in 1 _ (List.mem_of_getElem? (i := 18) rfl)) gT_X6_init rfl rfl rfl rfl 0 rfl (by decide +kernel) ⟨Nat.le_of_ble_eq_true rfl, Nat.le_of_ble_eq_true rfl⟩ (Nat.le_of_ble_eq_true rfl) dL_law_4 ⟨Nat.le_of_ble_eq_true rfl, Nat.le_of_ble_eq_true rfl⟩ _ rfl (fun u1 hu1 => ?_)
  subst hu1
  refine Zt_w (wEA E u1 zEA0) rfl ?_
  refine z_astore_n C [(1, .ref (u1 0)), (0, .ref b)] rfl (by decide) rfl dL_law_7 ?_
  refine z_new C (C := RX7) (T := TX7) (N := 38) (ci := 7) rfl inX7 tyX7 tyX7_ok (wsL_tb_in 4 _ (List.mem_of_getElem? (i := 105) rfl)) (wsL_tb_in 4 _ (List.mem_of_getElem? (i := 106) rfl)) (wsL_tb_in 1 _ (List.mem_of_getElem? (i := 9) rfl)) [.null, .int 0, .null, .int 0, .int 0, .int 0, .int 0, .int 0, .null, .int 0, .int 0, .int 0, .int 0, .int 0, .int 0, .int 0, .int 0, .null, .null, .int 0, .int 0, .int 0, .int 0, .null, .int 0, .null, .int 0, .null, .null, .null, .null, .null, .int 0, .null, .null, .null, .null, .int 0] zdef_X7 (Nat.le_of_ble_eq_true rfl) (Nat.le_of_ble_eq_true rfl) dL_law_8 (fun q2 => ?_)
  refine z_dup C rfl dL_law_11 ?_
  refine z_callIe C (rest := [.ref q2]) (As := []) hXs (c_X7_init E q2) (wsL_tb_in 4 _ (List.mem_of_getElem? (i := 107) rfl)) (wsL_tb_in 1 _ (List.mem_of_getElem? (i := 9) rfl)) (wsL_tb_in 4 _ (List.mem_of_getElem? (i := 108) rfl)) gT_X7_init rfl rfl rfl rfl 0 rfl (by decide +kernel) ⟨Nat.le_of_ble_eq_true rfl, Nat.le_of_ble_eq_true rfl⟩ (Nat.le_of_ble_eq_true rfl) dL_law_12 ⟨Nat.le_of_ble_eq_true rfl, Nat.le_of_ble_eq_true rfl⟩ _ rfl (fun u2 hu2 => ?_)
  subst hu2
  refine z_astore_n C [(2, .ref (u2 0)), (1, .ref (u1 0)), (0, .ref b)] rfl (by decide) rfl dL_law_15 ?_
  refine z_iconst C (v := nI 0) rfl dL_law_16 ?_
  refine z_istore_n C [(3, .int (nI 0)), (2, .ref (u2 0)), (1, .ref (u1 0)), (0, .ref b)] rfl (by decide) rfl dL_law_17 ?_
  refine Zt_l [(0, .ref b), (1, .ref (u1 0)), (2, .ref (u2 0)), (3, .int (nI 0))] [3, 2, 1, 0] rfl ?_
  refine Zt_k (k2 := 600000) (n2 := 7302250) (Nat.le_of_ble_eq_true rfl) (Nat.le_of_ble_eq_true rfl) ?_
  exact law_loop hO C hZ hLw (wsL_tb_in 6 _ (List.mem_of_getElem? (i := 68) rfl)) hL (L + 6) 0 zEA0 zM0 (by omega) hRel0
set_option maxHeartbeats 8000000 in
set_option maxRecDepth 100000 in
/-- the law from its entry, over a relation that all operations keep -/
theorem whole_of {Rel : St → St → Prop} (hO : Ops Rel) (hRel0 : Rel zEA0 zM0) {p : Program} {e : Env} {s : State} {m : MethodId} {below : List Frame} {meth : Method} {c : Code} (l : Launch) {b L : Nat} {xs : Nat → Int32} (hL : L ≤ 2560) (C0 : lw_At p s m meth c b L xs) : W p l e room_1 s m #[Value.ref b] below meth c s.heap [] 0 0 (lw_Z below #[Value.ref b] s) (entryFrame m ([Value.ref b] : List Value).toArray 4) := by
  obtain ⟨hx, hb, hr, hml, hown, hts, hX, hbl, hlocks, hgv⟩ := id C0
  obtain ⟨E, hE, hK, hG, hXX⟩ := law_env l hts hgv
  have hA : ∀ q : Nat, s.heap.size ≤ q → (fun q : Nat => s.heap.size ≤ q) q := fun _ h => h
  have C : zC E (p, l, e, room_1, s, m, #[Value.ref b], below, meth, c, (fun q : Nat => s.heap.size ≤ q), lw_Z below #[Value.ref b] s) code RL 4 room_1 lw_tbl := ⟨hx, hb, hml, hown, hts, hK, hA, hlocks, rfl, hE.symm, hG⟩
  have hZ : zS (p, l, e, room_1, s, m, #[Value.ref b], below, meth, c, (fun q : Nat => s.heap.size ≤ q), lw_Z below #[Value.ref b] s) b L xs := ⟨hX, hbl, Nat.not_le.mpr hbl⟩
  have hLw : zLw (p, l, e, room_1, s, m, #[Value.ref b], below, meth, c, (fun q : Nat => s.heap.size ≤ q), lw_Z below #[Value.ref b] s) b := ⟨rfl, rfl, hr, rfl⟩
  have hXs : zXs (p, l, e, room_1, s, m, #[Value.ref b], below, meth, c, (fun q : Nat => s.heap.size ≤ q), lw_Z below #[Value.ref b] s) := hXX
  have hP : va_P E.2.1 vwCl [] s.heap := fun k q h => by simp at h
  have hD : va_D (fun q : Nat => s.heap.size ≤ q) [] := ⟨fun i j p q h => by simp at h, fun k q h => by simp at h⟩
  have hS : va_S (fun q : Nat => s.heap.size ≤ q) s.heap s.heap [] := va_S.rf
  have hl := lv_entry ([.ref b]) (n := 4) (Nat.le_of_ble_eq_true rfl)
  rw [lg_entry_eq]
  generalize (lg_sl ([.ref b]) ++ List.replicate (4 - (lg_sl ([.ref b])).length) Slot.unset).toArray = ls at hl ⊢
  exact law_from hO hRel0 hL C hZ hLw hXs s.heap [] ls hP hD hS hl
