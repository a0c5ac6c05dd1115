-- rows that make cells: constructors
def zAA (U : State) : Prop := (Cond.arrayOver (.array .int)).before #[] U = true
abbrev zPr (comp : ClassId) : Class → Bool := fun x => match x.kind with | .array component _ => component == comp | _ => false
theorem zAA_spec {U : State} (h : zAA U) : ∃ (comp c : ClassId) (k : Class), U.vm.findClass (FieldType.array .int).toString = some comp ∧ U.vm.classes.findIdx? (zPr comp) = some c ∧ U.vm.classes[c]? = some k ∧ k.kind = .array comp (.array .int) ∧ U.vm.findClass ("[" ++ (FieldType.array .int).toString) = some c := by
  unfold zAA Cond.before Cond.holds at h
  simp only [Cond.value, beq_iff_eq] at h
  obtain ⟨comp, hc, h⟩ := Option.bind_eq_some_iff.mp h
  obtain ⟨c, hi, h⟩ := Option.bind_eq_some_iff.mp h
  obtain ⟨k, hk, hb⟩ := Option.map_eq_some_iff.mp h
  obtain ⟨hlt, hp, -⟩ := Array.findIdx?_eq_some_iff_getElem.mp hi
  have e : U.vm.classes[c] = k := (Array.getElem?_eq_some_iff.mp hk).2
  rw [e] at hp
  refine ⟨comp, c, k, hc, hi, hk, ?_⟩
  cases hkd : k.kind with
  | array x ty =>
    rw [hkd] at hb hp
    simp only [Bool.and_eq_true, decide_eq_true_eq, beq_iff_eq] at hb hp
    exact ⟨by rw [hp, hb.1], hb.2⟩
  | _ =>
    rw [hkd] at hb
    simp at hb
theorem zAA_moved {u U : State} (hvm : u.vm.Alike U.vm) (h : zAA u) : zAA U := by
  obtain ⟨comp, c, k, h1, h2, h3, h4, h5⟩ := zAA_spec h
  obtain ⟨k', hk', he⟩ := hvm.2.2 _ _ h3
  have hi : U.vm.classes.findIdx? (zPr comp) = some c := by
    have e1 := va_idx_bare U.vm comp
    have e2 := va_idx_bare u.vm comp
    have e3 : U.vm.bare = u.vm.bare := by first | exact hvm.bare_eq | exact hvm.bare_eq.symm
    exact e1.symm.trans (by rw [e3]; exact e2.trans h2)
  have hkd : k'.kind = .array comp (.array .int) := by rw [he]; exact h4
  have f1 : U.vm.findClass (FieldType.array .int).toString = some comp := by rw [hvm.findClass]; exact h1
  have f2 : U.vm.findClass ("[" ++ (FieldType.array .int).toString) = some c := by rw [hvm.findClass]; exact h5
  unfold zAA Cond.before Cond.holds
  simp only [Cond.value, beq_iff_eq]
  refine Option.bind_eq_some_iff.mpr ⟨comp, f1, Option.bind_eq_some_iff.mpr ⟨c, hi, Option.map_eq_some_iff.mpr ⟨k', hk', ?_⟩⟩⟩
  rw [hkd]
  simp [f2]
/-- words that no list of a method's own holds: the classes of Town[] and int[][] -/
def zX (U : State) : Prop := va_AO "EldestAge$Town" U ∧ zAA U
theorem zX_moved {u U : State} (hvm : u.vm.Alike U.vm) (h : zX u) : zX U := ⟨va_AO.moved hvm h.1, zAA_moved hvm h.2⟩
def zXs (Γ : zG) : Prop := match Γ with
  | (_, _, _, _, s, _, _, _, _, _, _, _) => zX s
def zI0 (Γ : zG) : Prop := match Γ with
  | (_, _, _, _, s, _, _, _, meth, _, _, _) => meth.name = "<init>" ∧ zX s
theorem zcls {E : zEnv} {s : State} (hK : va_K E.2.1 vwCl (zTys E) s) {cA : ClassId} {t : FieldType} {k : Nat} {c : ClassId} (hk : (zTys E)[k]? = some (c, t)) (ht : t = .int ∨ t = .boolean) (h : va_RA s cA t) : cA = c := by
  have h2 := (hK.2 k _ hk).2
  rcases ht with rfl | rfl
  · exact Option.some.inj (h.symm.trans h2)
  · exact Option.some.inj (h.symm.trans h2)
theorem zclsT {E : zEnv} {s : State} (hK : va_K E.2.1 vwCl (zTys E) s) {cA : ClassId} (h : va_RA s cA (.object "EldestAge$Town")) : cA = zT E := by
  obtain ⟨_, _, -, -, -, h1⟩ := h
  obtain ⟨_, _, -, -, -, h2⟩ := (hK.2 2 (zT E, .object "EldestAge$Town") rfl).2
  exact Option.some.inj (h1.symm.trans h2)
theorem z_newi {E : zEnv} {Γ : zG} {cc : ByteArray} {own : String} {nL : Nat} {rm : Room} {Ts : List Cond} {k n : Nat} {ws : va_W} {lv : List (Nat × Value)} {pc : Nat} {rest : List Value} (C0 : zC E Γ cc own nL rm Ts) {x : Int32} (N : Nat) (hx0 : ¬ x < 0) (hN : x.toNatClampNeg = N) (hac : Cond.arrayClass .int ∈ Ts) (hby : N * 4 ≤ 536870912) (hkc : k + 1 ≤ rm.cells) (hks : n + N ≤ rm.slots) (hd : decode cc pc = .ok (.newarray .int, 2)) (K : ∀ q : Nat, Zt E Γ nL (k + 1) (n + N) (ws ++ [(q, .inl (zI E, N, .inl (fun _ => 0)))]) (lv) (pc + 2) (.ref q :: rest)) : Zt E Γ nL (k) (n) ws (lv) (pc) (.int x :: rest) := by
  obtain ⟨p, l, e, R, s, m, args, below, meth, c, A, Q⟩ := Γ
  obtain ⟨hx, hb, hml, hown, hts, hK, hA, hlk, hR, hE, hG⟩ := C0
  intro H locs ls hP hD hS hl
  subst hR
  refine va_newa (atype := .int) (ty := .int) (a0 := (N, .inl (fun _ => 0))) hx hb (hts _ hac) rfl hK hP hD hS hA (fun _ => rfl) hx0 hN (Nat.le_trans (Nat.mul_le_mul_left N (by decide)) hby) hkc hks hd (fun q cA H1 hK2 hP hD hS => ?_)
  have e : cA = zI E := zcls hK (k := 0) rfl (Or.inl rfl) (hK2.2 4 (cA, .int) rfl).2
  subst e
  exact K q H1 locs ls hP hD hS hl
theorem z_newz {E : zEnv} {Γ : zG} {cc : ByteArray} {own : String} {nL : Nat} {rm : Room} {Ts : List Cond} {k n : Nat} {ws : va_W} {lv : List (Nat × Value)} {pc : Nat} {rest : List Value} (C0 : zC E Γ cc own nL rm Ts) {x : Int32} (N : Nat) (hx0 : ¬ x < 0) (hN : x.toNatClampNeg = N) (hac : Cond.arrayClass .boolean ∈ Ts) (hby : N * 4 ≤ 536870912) (hkc : k + 1 ≤ rm.cells) (hks : n + N ≤ rm.slots) (hd : decode cc pc = .ok (.newarray .boolean, 2)) (K : ∀ q : Nat, Zt E Γ nL (k + 1) (n + N) (ws ++ [(q, .inl (zZ E, N, .inl (fun _ => 0)))]) (lv) (pc + 2) (.ref q :: rest)) : Zt E Γ nL (k) (n) ws (lv) (pc) (.int x :: rest) := by
  obtain ⟨p, l, e, R, s, m, args, below, meth, c, A, Q⟩ := Γ
  obtain ⟨hx, hb, hml, hown, hts, hK, hA, hlk, hR, hE, hG⟩ := C0
  intro H locs ls hP hD hS hl
  subst hR
  refine va_newa (atype := .boolean) (ty := .boolean) (a0 := (N, .inl (fun _ => 0))) hx hb (hts _ hac) rfl hK hP hD hS hA (fun _ => rfl) hx0 hN (Nat.le_trans (Nat.mul_le_mul_left N (by decide)) hby) hkc hks hd (fun q cA H1 hK2 hP hD hS => ?_)
  have e : cA = zZ E := zcls hK (k := 1) rfl (Or.inr rfl) (hK2.2 4 (cA, .boolean) rfl).2
  subst e
  exact K q H1 locs ls hP hD hS hl
theorem z_newq {E : zEnv} {Γ : zG} {cc : ByteArray} {own : String} {nL : Nat} {rm : Room} {Ts : List Cond} {k n : Nat} {ws : va_W} {lv : List (Nat × Value)} {pc : Nat} {rest : List Value} {index : Nat} (C0 : zC E Γ cc own nL rm Ts) (hI : zI0 Γ) {x : Int32} (N : Nat) (hx0 : ¬ x < 0) (hN : x.toNatClampNeg = N) (hcl : Cond.classLink own index "EldestAge$Town" ∈ Ts) (hby : N * 4 ≤ 536870912) (hkc : k + 1 ≤ rm.cells) (hks : n + N ≤ rm.slots) (hd : decode cc pc = .ok (.anewarray index, 3)) (K : ∀ q : Nat, Zt E Γ nL (k + 1) (n + N) (ws ++ [(q, .inl (zT E, N, .inr (.inr (.inr (.inr (fun _ => none))))))]) (lv) (pc + 3) (.ref q :: rest)) : Zt E Γ nL (k) (n) ws (lv) (pc) (.int x :: rest) := by
  obtain ⟨p, l, e, R, s, m, args, below, meth, c, A, Q⟩ := Γ
  obtain ⟨hx, hb, hml, hown, hts, hK, hA, hlk, hR, hE, hG⟩ := C0
  intro H locs ls hP hD hS hl
  subst hR
  refine va_newq hx hb hown (hts _ hcl) hI.2.1 hK hP hD hS hA hx0 hN hby hkc hks hd (fun q cA H1 hK2 hP hD hS => ?_)
  have e : cA = zT E := zclsT hK (hK2.2 4 (cA, .object "EldestAge$Town") rfl).2
  subst e
  exact K q H1 locs ls hP hD hS hl
theorem z_new {E : zEnv} {Γ : zG} {cc : ByteArray} {own : String} {nL : Nat} {rm : Room} {Ts : List Cond} {k n : Nat} {ws : va_W} {lv : List (Nat × Value)} {pc : Nat} {rest : List Value} {C : String} {T : u_T} {N ci index : Nat} (C0 : zC E Γ cc own nL rm Ts) (hc : vwCl[ci]? = some (C, T, N)) (hin : ∀ w ∈ u_ws C T N, w ∈ Ts) (ty : Nat → FieldType) (hty : ∀ k, k < N → parseFieldDescriptor (T k).2.2.1 = some (ty k)) (h1 : Cond.classLink own index C ∈ Ts) (h2 : Cond.instantiable C N ∈ Ts) (h3 : Cond.initialized C ∈ Ts) (fs : List Value) (hfs : ∀ j, j < N → defaultValue (ty j) = vp_V fs j) (hkc : k + 1 ≤ rm.cells) (hks : n + N ≤ rm.slots) (hd : decode cc pc = .ok (.new index, 3)) (K : ∀ q : Nat, Zt E Γ nL (k + 1) (n + N) (ws ++ [(q, .inr (ci, fs))]) (lv) (pc + 3) (.ref q :: rest)) : Zt E Γ nL (k) (n) ws (lv) (pc) (rest) := by
  obtain ⟨p, l, e, R, s, m, args, below, meth, c, A, Q⟩ := Γ
  obtain ⟨hx, hb, hml, hown, hts, hK, hA, hlk, hR, hE, hG⟩ := C0
  intro H locs ls hP hD hS hl
  subst hR
  exact va_new hx hb hts hin ty hty hown (hts _ h1) (hts _ h2) (hts _ h3) hK hP hD hS hA hc hfs hkc hks hd (fun q H1 hP hD hS => K q H1 locs ls hP hD hS hl)
theorem z_putF {E : zEnv} {Γ : zG} {cc : ByteArray} {own : String} {nL : Nat} {rm : Room} {Ts : List Cond} {k n : Nat} {ws : va_W} {lv : List (Nat × Value)} {pc : Nat} {rest : List Value} {a : Nat} {ref C : String} {T : u_T} {N ci index : Nat} (C0 : zC E Γ cc own nL rm Ts) (hI : zI0 Γ) (q0 : Nat) {fs : List Value} (he : ws[q0]? = some (a, .inr (ci, fs))) (hc : vwCl[ci]? = some (C, T, N)) (hin : ∀ w ∈ u_ws C T N, w ∈ Ts) (ty0 : Nat → FieldType) (hty : ∀ k, k < N → parseFieldDescriptor (T k).2.2.1 = some (ty0 k)) (hnm : ∀ a, a < N → ∀ b, b < N → a ≠ b → (T a).2.1 ≠ (T b).2.1) (kf : Nat) (hk : kf < N) (hl : Cond.fieldLink own index ref (T kf).2.1 (T kf).2.2.1 ∈ Ts) (hr : (T kf).1 = ref) (hro : (T kf).1 = own) (hfin : (T kf).2.2.2 = true) {ty : FieldType} {v : Value} (hpd : parseFieldDescriptor (T kf).2.2.1 = some ty) (hn : narrow ty v = v) (hfit : fits ty v = true) (hlen : kf < fs.length) (ws' : va_W) (hw : ws' = ws.set q0 (a, .inr (ci, fs.set kf v))) (hd : decode cc pc = .ok (.putfield index, 3)) (K : Zt E Γ nL (k) (n) ws' (lv) (pc + 3) (rest)) : Zt E Γ nL (k) (n) ws (lv) (pc) (v :: .ref a :: rest) := by
  obtain ⟨p, l, e, R, s, m, args, below, meth, c, A, Q⟩ := Γ
  obtain ⟨hx, hb, hml, hown, hts, hK, hA, hlk, hR, hE, hG⟩ := C0
  intro H locs ls hP hD hS hll
  subst hw
  exact va_putF (ref := ref) hx hb hts hin ty0 hty hnm hown hK hP hD hS q0 he hc kf hk (hts _ hl) (fun x h => by rw [← hr]; exact h) hfin hI.1 hro hpd hn hfit hlen hd (fun H1 locs1 hP hD hS => K H1 locs1 ls hP hD hS hll)
theorem z_objInit {E : zEnv} {Γ : zG} {cc : ByteArray} {own : String} {nL : Nat} {rm : Room} {Ts : List Cond} {k n : Nat} {ws : va_W} {lv : List (Nat × Value)} {pc : Nat} {rest : List Value} {a index : Nat} (C0 : zC E Γ cc own nL rm Ts) (h1 : Cond.methodLink own index objectInit ∈ Ts) (h2 : Cond.instanceMethod objectInit ∈ Ts) (h3 : Cond.code objectInit ⟨#[0xb1]⟩ 1 none ∈ Ts) (hf : 1 ≤ rm.frames) (hlo : (rest.map fun v => v.category).sum + 12 ≤ rm.locals) (hd : decode cc pc = .ok (.invokespecial index, 3)) (K : Zt E Γ nL (k) (n) ws (lv) (pc + 3) (rest)) : Zt E Γ nL (k) (n) ws (lv) (pc) (.ref a :: rest) := by
  obtain ⟨p, l, e, R, s, m, args, below, meth, c, A, Q⟩ := Γ
  obtain ⟨hx, hb, hml, hown, hts, hK, hA, hlk, hR, hE, hG⟩ := C0
  intro H locs ls hP hD hS hl
  subst hR
  refine W.objInit hx hb hown (hts _ h1) (hts _ h2) (hts _ h3) rfl (by rw [hml]; exact hl.1) rfl hd hf (by show 2 * 0 + _ + 12 ≤ _; omega) ?_
  exact K H locs ls hP hD hS hl
theorem z_astq {E : zEnv} {Γ : zG} {cc : ByteArray} {own : String} {nL : Nat} {rm : Room} {Ts : List Cond} {k n : Nat} {ws : va_W} {lv : List (Nat × Value)} {pc : Nat} {rest : List Value} {a v N : Nat} {f : Nat → Option Nat} {vs : List Value} {i : Int32} (C0 : zC E Γ cc own nL rm Ts) (q0 qk : Nat) (ha : ws[q0]? = some (a, .inl (zT E, N, .inr (.inr (.inr (.inr f)))))) (hv : ws[qk]? = some (v, .inr (5, vs))) (hin : vp_in i N) (ws' : va_W) (hw : ws' = ws.set q0 (a, .inl (zT E, N, .inr (.inr (.inr (.inr (va_up f i.toNatClampNeg (some v)))))))) (hd : decode cc pc = .ok (.aastore, 1)) (K : Zt E Γ nL (k) (n) ws' (lv) (pc + 1) (rest)) : Zt E Γ nL (k) (n) ws (lv) (pc) (.ref v :: .int i :: .ref a :: rest) := by
  obtain ⟨p, l, e, R, s, m, args, below, meth, c, A, Q⟩ := Γ
  obtain ⟨hx, hb, hml, hown, hts, hK, hA, hlk, hR, hE, hG⟩ := C0
  intro H locs ls hP hD hS hl
  subst hw
  exact va_astq hx hb hK hP hD hS q0 2 qk 5 (r := (RX5, TX5, 16)) ha rfl hv rfl hin hd (fun H1 locs1 hP hD hS => K H1 locs1 ls hP hD hS hl)
theorem Zt_p {E : zEnv} {Γ : zG} {nL k n : Nat} {ws : va_W} {lv : List (Nat × Value)} {pc : Nat} {st : List Value} (is : List Nat) (ws' : va_W) (h : is.map (fun i => ws[i]?) = ws'.map some) (hn : va_nd is = true) (K : Zt E Γ nL (k) (n) ws' (lv) (pc) (st)) : Zt E Γ nL (k) (n) ws (lv) (pc) (st) := by
  obtain ⟨p, l, e, R, s, m, args, below, meth, c, A, Q⟩ := Γ
  intro H locs ls hP hD hS hl
  exact K H locs ls (hP.sub is (zfm h)) (hD.sub is hn h) hS hl
theorem Zt_k {E : zEnv} {Γ : zG} {nL k n k2 n2 : Nat} {ws : va_W} {lv : List (Nat × Value)} {pc : Nat} {st : List Value} (h1 : k ≤ k2) (h2 : n ≤ n2) (K : Zt E Γ nL k2 n2 ws lv pc st) : Zt E Γ nL k n ws lv pc st := by
  obtain ⟨p, l, e, R, s, m, args, below, meth, c, A, Q⟩ := Γ
  intro H locs ls hP hD hS hl
  exact W.widen h1 h2 (K H locs ls hP hD hS hl)
/-- a constructor's contract: called on the cells wc it leaves w' u, for some addresses u with 'ok' -/
def zPx (E : zEnv) (wc : va_W) (av : List Value) (sz : Nat) : Array Value → State → Prop := va_Pc av (fun U => U.heap.size = sz ∧ va_P E.2.1 vwCl wc U.heap ∧ va_K E.2.1 vwCl (zTys E) U ∧ va_D (fun _ => True) wc ∧ Gd E (va_A wc sz) U U.heap ∧ zX U)
def Kta (E : zEnv) (y : MethodName) (wy : List Cond) (rm : Room) (mc ms : Nat) (wc : va_W) (w' : (Nat → Nat) → va_W) (ok : (Nat → Nat) → Prop) (av : List Value) : Prop := ∀ sz : Nat, Met E.1 y wy rm (zPx E wc av sz) (va_Qv (S := Nat → Nat) ok (fun u t => va_P E.2.1 vwCl (w' u) t.heap ∧ va_K E.2.1 vwCl (zTys E) t ∧ va_D (va_A wc sz) (w' u)) (va_A wc sz)) mc ms (va_A wc sz)
def zRa (E : zEnv) (Γ : zG) (cc : ByteArray) (nL mc ms : Nat) (w' : (Nat → Nat) → va_W) (ok : (Nat → Nat) → Prop) : Prop := ∀ u : Nat → Nat, ok u → ∀ (pc : Nat) (lv : List (Nat × Value)), decode cc pc = .ok (.return_, 1) → Zt E Γ nL mc ms (w' u) lv pc []
theorem zPx_blind {E : zEnv} {wc : va_W} {av : List Value} {sz : Nat} : FrameBlind (zPx E wc av sz) := by
  intro a U g mk h
  obtain ⟨h1, h2, h3, h4, h5, h6, h7⟩ := h
  exact ⟨h1, h2, h3, va_K.moved (u := U) (U := U.calling g mk a) (Vm.Alike.refl U.vm) h4, h5, h6.calling, zX_moved (u := U) (U := U.calling g mk a) (Vm.Alike.refl U.vm) h7⟩
theorem z_enta {E : zEnv} {y : MethodName} {wy wy' : List Cond} {rm : Room} {mc ms : Nat} {wc : va_W} {w' : (Nat → Nat) → va_W} {ok : (Nat → Nat) → Prop} {av : List Value} {cc : ByteArray} {maxL : Nat} (hy : plainName y.cls = true) (hyn : y.name = "<init>") (hw : wy = Cond.code y cc maxL none :: wy') (hlen : (lg_sl av).length ≤ maxL)
    (body : ∀ Γ : zG, zC E Γ cc y.cls maxL rm wy → zI0 Γ → zRa E Γ cc maxL mc ms w' ok → Zt E Γ maxL 0 0 wc (lv_args 0 av) 0 []) : Kta E y wy rm mc ms wc w' ok av := by
  intro sz
  refine Met.ofW (cc := cc) (maxL := maxL) (ret := none) hy hw ?_
  intro p e s m args below meth c s₁ B hml hv
  obtain ⟨rfl, hsz, hP, hK, hD0, hG, hXX⟩ := hv
  have hx := B.exec
  have hb := B.bytes
  have hr := B.returns
  have hts := atoms_spec (ws := wy) B.pre
  have hown : s.vm.findClass y.cls = some m.cls := findClass_of_methodNamed B.named
  have hlocks := B.notSynchronized
  have hin : meth.name = "<init>" := (name_of_methodNamed B.named B.method).1.trans hyn
  subst hsz
  have hD := hD0.self (sz := s.heap.size)
  have hA : ∀ q : Nat, s.heap.size ≤ q → va_A wc s.heap.size q := fun q h => Or.inr h
  have hS : va_S (va_A wc s.heap.size) s.heap s.heap [] := va_S.rf
  have hl := lv_entry av (n := maxL) hlen
  rw [lg_entry_eq]
  generalize (lg_sl av ++ List.replicate (maxL - (lg_sl av).length) Slot.unset).toArray = ls at hl ⊢
  have C : zC E (p, E.1, e, (headSpec wy rm).room, s, m, av.toArray, below, meth, c, va_A wc s.heap.size, MQ below (va_Qv (S := Nat → Nat) ok (fun u t => va_P E.2.1 vwCl (w' u) t.heap ∧ va_K E.2.1 vwCl (zTys E) t ∧ va_D (va_A wc s.heap.size) (w' u)) (va_A wc s.heap.size)) av.toArray s mc ms (va_A wc s.heap.size)) cc y.cls maxL rm wy := ⟨hx, hb, hml, hown, hts, hK, hA, hlocks, rfl, rfl, hG⟩
  refine body _ C ⟨hin, hXX⟩ ?_ s.heap [] ls hP hD hS hl
  intro u hu pc lv hd H locs ls hP hD hS hl
  exact W.vret hx hb hr (fun t ht hW => ⟨⟨u, rfl, hu, by rw [ht]; exact hP, va_K.moved hW.alike hK, hD⟩, hS.F ht⟩) hS.2.2 hd hlocks
theorem z_callIN {E : zEnv} {Γ : zG} {cc : ByteArray} {own : String} {nL : Nat} {rm : Room} {Ts : List Cond} {k n : Nat} {ws : va_W} {lv : List (Nat × Value)} {pc : Nat} {rest : List Value} {y : MethodName} {wy wy' : List Cond} {rmy : Room} {mc ms : Nat} {wc wr : va_W} {w1 : (Nat → Nat) → va_W} {ok : (Nat → Nat) → Prop} {As : List Value} {bytes : ByteArray} {maxL idx b : Nat} (C0 : zC E Γ cc own nL rm Ts) (hI : zI0 Γ) (Kc : Kta E y wy rmy mc ms wc w1 ok (.ref b :: As)) (host : String) (hnest : Cond.methodLinkNest own idx y host ∈ zNest) (hini : Cond.initialized y.cls ∈ Ts) (hins : Cond.instanceMethod y ∈ Ts) (G : GoodIn Ts wy) (hwy : wy = Cond.code y bytes maxL none :: wy') (hyn : y.name = "<init>") (hrc : rmy.cells = mc) (hrs : rmy.slots = ms) (nn : Nat) (hnn : As.length = nn) (hdd : y.cls ≠ "java/lang/invoke/MethodHandle" ∧ y.cls ≠ "java/lang/invoke/VarHandle" ∧ (parseMethodDescriptor y.desc).map (fun d => d.parameters.length) = some nn) (hRR : rmy.frames + 1 ≤ rm.frames ∧ 8 + (maxL + 11) + rmy.locals ≤ rm.locals) (is isR : List Nat) (hC : is.map (fun i => ws[i]?) = wc.map some) (hR2 : isR.map (fun i => ws[i]?) = wr.map some) (hn : va_nd is = true) (hnR : va_nd isR = true) (hdis : ∀ i ∈ isR, i ∉ is) (hst : (rest.map fun v => v.category).sum ≤ 8) (hd : decode cc pc = .ok (.invokespecial idx, 3)) (hkk : k + mc ≤ rm.cells ∧ n + ms ≤ rm.slots) (stk : List Value) (hstk : stk = As.reverse ++ .ref b :: rest) (K : ∀ u : Nat → Nat, ok u → Zt E Γ nL (k + mc) (n + ms) (wr ++ w1 u) (lv) (pc + 3) (rest)) : Zt E Γ nL (k) (n) ws (lv) (pc) (stk) := by
  have hXs : zI0 Γ := hI
  obtain ⟨p, l, e, R, s, m, args, below, meth, c, A, Q⟩ := Γ
  obtain ⟨hx, hb, hml, hown, hts, hK, hA, hlk, hR, hE, hG⟩ := C0
  intro H locs ls hP hD hS hl
  subst hR
  subst hE
  have hPc := hP.sub (ws' := wc) is (zfm hC)
  have hDc := hD.sub (ws' := wc) is hn hC
  have hFc := va_free (wc := wc) hD hS hA is hC
  have hpre : ∀ U : State, U.heap = H → s.WarmedH U.vm → zPx E wc (.ref b :: As) H.size (Value.ref b :: As).toArray U := fun U hU hW => ⟨rfl, by rw [hU], by rw [hU]; exact hPc, va_K.moved hW.alike hK, hDc.weaken (fun _ _ _ _ => trivial), by rw [hU]; exact ((hG.kept hS.2.1).narrow hFc).warm hW, zX_moved hW.alike hXs.2⟩
  subst hstk
  refine va_callv (va_runIN (As := As) (rest := rest) (host := host) ⟨hx, hb, hml, hown, hts⟩ (Kc H.size) ⟨va_cnB nn hts G hwy hrc hrs (hG.1 _ hnest) (hts _ hini) hdd hRR, hyn, hts _ hins⟩ ⟨zPx_blind, hpre⟩ rfl hnn hl.1 rfl (lv_room hst) hd hkk) hS (fun q _ h => hFc q h) hFc (fun u t H1 locs1 ht hvm hw hB hz1 hk1 hS => ?_)
  obtain ⟨hP1, hK1, hD1⟩ := hB
  rw [ht] at hP1
  obtain ⟨hP2, hD2⟩ := va_join (wr := wr) (w1 := w1 u) hP hD is isR hC hR2 hnR hdis hk1 hFc hP1 hD1
  exact K u hw H1 locs1 ls hP2 hD2 hS hl
theorem z_callI {E : zEnv} {Γ : zG} {cc : ByteArray} {own : String} {nL : Nat} {rm : Room} {Ts : List Cond} {k n : Nat} {ws : va_W} {lv : List (Nat × Value)} {pc : Nat} {rest : List Value} {y : MethodName} {wy wy' : List Cond} {rmy : Room} {mc ms : Nat} {wc wr : va_W} {w1 : (Nat → Nat) → va_W} {ok : (Nat → Nat) → Prop} {As : List Value} {bytes : ByteArray} {maxL idx b : Nat} (C0 : zC E Γ cc own nL rm Ts) (hXs : zXs Γ) (Kc : Kta E y wy rmy mc ms wc w1 ok (.ref b :: As)) (hlk9 : Cond.methodLink own idx y ∈ Ts) (hini : Cond.initialized y.cls ∈ Ts) (hins : Cond.instanceMethod y ∈ Ts) (G : GoodIn Ts wy) (hwy : wy = Cond.code y bytes maxL none :: wy') (hyn : y.name = "<init>") (hrc : rmy.cells = mc) (hrs : rmy.slots = ms) (nn : Nat) (hnn : As.length = nn) (hdd : y.cls ≠ "java/lang/invoke/MethodHandle" ∧ y.cls ≠ "java/lang/invoke/VarHandle" ∧ (parseMethodDescriptor y.desc).map (fun d => d.parameters.length) = some nn) (hRR : rmy.frames + 1 ≤ rm.frames ∧ 8 + (maxL + 11) + rmy.locals ≤ rm.locals) (is isR : List Nat) (hC : is.map (fun i => ws[i]?) = wc.map some) (hR2 : isR.map (fun i => ws[i]?) = wr.map some) (hn : va_nd is = true) (hnR : va_nd isR = true) (hdis : ∀ i ∈ isR, i ∉ is) (hst : (rest.map fun v => v.category).sum ≤ 8) (hd : decode cc pc = .ok (.invokespecial idx, 3)) (hkk : k + mc ≤ rm.cells ∧ n + ms ≤ rm.slots) (stk : List Value) (hstk : stk = As.reverse ++ .ref b :: rest) (K : ∀ u : Nat → Nat, ok u → Zt E Γ nL (k + mc) (n + ms) (wr ++ w1 u) (lv) (pc + 3) (rest)) : Zt E Γ nL (k) (n) ws (lv) (pc) (stk) := by
  obtain ⟨p, l, e, R, s, m, args, below, meth, c, A, Q⟩ := Γ
  obtain ⟨hx, hb, hml, hown, hts, hK, hA, hlk, hR, hE, hG⟩ := C0
  intro H locs ls hP hD hS hl
  subst hR
  subst hE
  have hPc := hP.sub (ws' := wc) is (zfm hC)
  have hDc := hD.sub (ws' := wc) is hn hC
  have hFc := va_free (wc := wc) hD hS hA is hC
  have hpre : ∀ U : State, U.heap = H → s.WarmedH U.vm → zPx E wc (.ref b :: As) H.size (Value.ref b :: As).toArray U := fun U hU hW => ⟨rfl, by rw [hU], by rw [hU]; exact hPc, va_K.moved hW.alike hK, hDc.weaken (fun _ _ _ _ => trivial), by rw [hU]; exact ((hG.kept hS.2.1).narrow hFc).warm hW, zX_moved hW.alike hXs⟩
  subst hstk
  refine va_callv (va_runI (As := As) (rest := rest) ⟨hx, hb, hml, hown, hts⟩ (Kc H.size) (cwI nn hts G hwy hrc hrs (hts _ hini) (hts _ hlk9) (hts _ hins) hyn hdd hRR) ⟨zPx_blind, hpre⟩ rfl hnn hl.1 rfl (lv_room hst) hd hkk) hS (fun q _ h => hFc q h) hFc (fun u t H1 locs1 ht hvm hw hB hz1 hk1 hS => ?_)
  obtain ⟨hP1, hK1, hD1⟩ := hB
  rw [ht] at hP1
  obtain ⟨hP2, hD2⟩ := va_join (wr := wr) (w1 := w1 u) hP hD is isR hC hR2 hnR hdis hk1 hFc hP1 hD1
  exact K u hw H1 locs1 ls hP2 hD2 hS hl
