-- my own layer over the kit: the judgement Zt (a walk's goal with heap, slots, frame packed away), a row an instruction; contracts Kti, Ktv, Ktr
abbrev St : Type := Nat → Nat → Int32
def st (k : Nat) (f : Nat → Int32) (S : St) : St := fun a => if a = k then f else S a
def sb (o : Nat) (S : St) : St := fun a => S (o + a)
def pt (o w : Nat) (U S : St) : St := fun a => if o ≤ a then (if a < o + w then U (a - o) else S a) else S a
/-- the index i lies in a row of n cells: else nothing -/
def ix {α : Type} (i : Int32) (n : Nat) (k : Option α) : Option α := if 0 ≤ i.toInt ∧ i.toInt < n then k else none
/-- y is no 0: else nothing -/
def nz {α : Type} (y : Int32) (k : Option α) : Option α := if y = 0 then none else k
/-- r is 0 or 1: else nothing -/
def zb {α : Type} (r : Int32) (k : Option α) : Option α := if r = 0 ∨ r = 1 then k else none
abbrev zrem (x y : Int32) : Int32 := x - x / y * y
abbrev zushr (x y : Int32) : Int32 := (x.toUInt32 >>> (y.toUInt32 &&& Int32.toUInt32 31)).toInt32
abbrev zlushr (x : Int64) (y : Int32) : Int64 := (x.toUInt64 >>> (y.toInt64.toUInt64 &&& Int64.toUInt64 63)).toInt64
abbrev zmax (x y : Int32) : Int32 := if x < y then y else x
abbrev zmin (x y : Int32) : Int32 := if y < x then y else x
theorem ix_e {α : Type} {i : Int32} {n : Nat} {k : Option α} {r : α} (h : ix i n k = some r) : vp_in i n ∧ k = some r := by
  unfold ix at h
  by_cases c : 0 ≤ i.toInt ∧ i.toInt < n
  · rw [if_pos c] at h
    exact ⟨vp_in_iff.mpr c, h⟩
  · rw [if_neg c] at h
    cases h
theorem nz_e {α : Type} {y : Int32} {k : Option α} {r : α} (h : nz y k = some r) : ¬ y = 0 ∧ k = some r := by
  unfold nz at h
  by_cases c : y = 0
  · rw [if_pos c] at h
    cases h
  · rw [if_neg c] at h
    exact ⟨c, h⟩
theorem zb_e {α : Type} {y : Int32} {k : Option α} {r : α} (h : zb y k = some r) : (y = 0 ∨ y = 1) ∧ k = some r := by
  unfold zb at h
  by_cases c : y = 0 ∨ y = 1
  · rw [if_pos c] at h
    exact ⟨c, h⟩
  · rw [if_neg c] at h
    cases h
theorem zb_n {r : Int32} (h : r = 0 ∨ r = 1) : narrow .boolean (.int r) = .int r := by
  rcases h with rfl | rfl <;> decide +kernel
theorem bd_e {α β : Type} {x : Option α} {f : α → Option β} {r : β} (h : x.bind f = some r) : ∃ q : α, x = some q ∧ f q = some r := Option.bind_eq_some_iff.mp h
theorem if_e {α : Type} {c : Prop} [Decidable c] {x y : Option α} {r : α} (h : (if c then x else y) = some r) : (c → x = some r) ∧ (¬ c → y = some r) := ⟨fun q => by rw [if_pos q] at h; exact h, fun q => by rw [if_neg q] at h; exact h⟩
/-- launch; tables; the classes of int[], boolean[], Town[], int[][]; the cells of the String constants and of their bytes -/
abbrev zEnv : Type := Launch × va_G × (ClassId × ClassId × ClassId × ClassId) × (Nat → Nat) × (Nat → Nat)
abbrev zI (E : zEnv) : ClassId := E.2.2.1.1
abbrev zZ (E : zEnv) : ClassId := E.2.2.1.2.1
abbrev zT (E : zEnv) : ClassId := E.2.2.1.2.2.1
abbrev zII (E : zEnv) : ClassId := E.2.2.1.2.2.2
def zTys (E : zEnv) : List (ClassId × FieldType) := [(zI E, .int), (zZ E, .boolean), (zT E, .object "EldestAge$Town"), (zII E, .array .int)]
def zNest : List Cond := [.methodLinkNest RX6 11 yX5_init "EldestAge", .methodLinkNest RX5 60 yX2_init "EldestAge", .methodLinkNest RX6 29 yX3_init "EldestAge", .methodLinkNest RX6 48 yX0_init "EldestAge", .methodLinkNest RX0 33 yX2_init "EldestAge", .methodLinkNest RX6 55 yX1_init "EldestAge", .methodLinkNest RX5 71 yX6_isDay "EldestAge"]

def zStr : List (Nat × String) := [(70, "houses"), (79, "law"), (84, "one"), (89, "move"), (94, "expect"), (122, "died"), (164, "eldest"), (166, "youngest"), (168, "sum"), (170, "mean"), (172, "plain"), (174, "aunt"), (176, "vain"), (178, "double"), (180, "lodger")]
def zLen : List Nat := [6, 3, 3, 4, 6, 4, 6, 8, 3, 4, 5, 4, 4, 6, 6]
def zByt : List (List Int32) := [[104, 111, 117, 115, 101, 115], [108, 97, 119], [111, 110, 101], [109, 111, 118, 101], [101, 120, 112, 101, 99, 116], [100, 105, 101, 100], [101, 108, 100, 101, 115, 116], [121, 111, 117, 110, 103, 101, 115, 116], [115, 117, 109], [109, 101, 97, 110], [112, 108, 97, 105, 110], [97, 117, 110, 116], [118, 97, 105, 110], [100, 111, 117, 98, 108, 101], [108, 111, 100, 103, 101, 114]]
/-- what lies outside of what a walk may write: links within the nest, statics of the JDK, String constants -/
def Gd (E : zEnv) (A : Nat → Prop) (U : State) (H : Heap) : Prop := (∀ w ∈ zNest, va_Nw w U) ∧ va_Z "java/lang/String" "COMPACT_STRINGS" "Z" (.int 1) A U H ∧ va_Zq "jdk/internal/util/Preconditions" "SIOOBE_FORMATTER" "Ljava/util/function/BiFunction;" A U H ∧ vk_S 15 zLen zByt E.2.2.2.1 E.2.2.2.2 A U H ∧ ∀ (i : Nat) (q : Nat × String), zStr[i]? = some q → vk_R "EldestAge$Tape" q.1 q.2 (E.2.2.2.1 i) U
theorem zNest_f : ∀ w ∈ zNest, ∃ (a : String) (i : Nat) (y : MethodName) (h : String), w = .methodLinkNest a i y h := by
  intro w hw
  simp only [zNest, List.mem_cons, List.not_mem_nil, or_false] at hw
  rcases hw with rfl | rfl | rfl | rfl | rfl | rfl | rfl <;> exact ⟨_, _, _, _, rfl⟩
theorem Gd.kept {E : zEnv} {A : Nat → Prop} {U : State} {H H1 : Heap} (h : Gd E A U H) (hq : ∀ a : Nat, a < H.size → ¬ A a → H1[a]? = H[a]?) : Gd E A U H1 := ⟨h.1, h.2.1.kept hq, h.2.2.1.kept hq, h.2.2.2.1.kept hq, h.2.2.2.2⟩
theorem Gd.narrow {E : zEnv} {A B : Nat → Prop} {U : State} {H : Heap} (h : Gd E A U H) (hAB : ∀ q, B q → A q) : Gd E B U H := ⟨h.1, h.2.1.narrow hAB, h.2.2.1.narrow hAB, h.2.2.2.1.narrow hAB, h.2.2.2.2⟩
theorem Gd.warm {E : zEnv} {A : Nat → Prop} {s U : State} {H : Heap} (hW : s.WarmedH U.vm) (h : Gd E A s H) : Gd E A U H := by
  refine ⟨fun w hw => ?_, va_Z.moved hW.alike h.2.1, va_Zq.moved hW.alike h.2.2.1, vk_S.moved hW.alike h.2.2.2.1, fun i q hq => vk_R.warm hW (h.2.2.2.2 i q hq)⟩
  obtain ⟨a, i, y, b, rfl⟩ := zNest_f w hw
  exact va_Nw.warmM hW (h.1 _ hw)
theorem Gd.calling {E : zEnv} {A : Nat → Prop} {U : State} {H : Heap} {g : JFrame} {mk : MethodId} {a : Array Value} (h : Gd E A U H) : Gd E A (U.calling g mk a) H := by
  refine ⟨fun w hw => ?_, va_Z.moved (u := U) (U := U.calling g mk a) (Vm.Alike.refl U.vm) h.2.1, va_Zq.moved (u := U) (U := U.calling g mk a) (Vm.Alike.refl U.vm) h.2.2.1, vk_S.moved (u := U) (U := U.calling g mk a) (Vm.Alike.refl U.vm) h.2.2.2.1, fun i q hq => vk_R.same (u := U) (U := U.calling g mk a) rfl (h.2.2.2.2 i q hq)⟩
  obtain ⟨a, i, y, b, rfl⟩ := zNest_f w hw
  exact va_Nw.same rfl (u := U) (U := U.calling g mk _) rfl (h.1 _ hw)
/-- the fixed surroundings of a walk: program, launch, environment, room, entry state, method, arguments, frames below, method and code, what may be written, the goal -/
abbrev zG : Type := Program × Launch × Env × Room × State × MethodId × Array Value × List Frame × Method × Code × (Nat → Prop) × (State → Prop)
def Zt (E : zEnv) (Γ : zG) (nL k n : Nat) (ws : va_W) (lv : List (Nat × Value)) (pc : Nat) (st : List Value) : Prop := match Γ with
  | (p, l, e, R, s, m, args, below, meth, c, A, Q) => ∀ (H : Heap) (locs : List Loc) (ls : Array Slot), va_P E.2.1 vwCl ws H → va_D A ws → va_S A s.heap H locs → lv_has ls nL lv → W p l e R s m args below meth c H locs k n Q (F0 m pc ls st)
def zC (E : zEnv) (Γ : zG) (cc : ByteArray) (own : String) (nL : Nat) (rm : Room) (Ts : List Cond) : Prop := match Γ with
  | (p, l, _, R, s, m, args, _, meth, c, A, _) => p.tables.exec = Jvm.exec ∧ c.code = cc ∧ c.maxLocals = nL ∧ s.vm.findClass own = some m.cls ∧ (∀ w ∈ Ts, w.before args s = true) ∧ va_K E.2.1 vwCl (zTys E) s ∧ (∀ q, s.heap.size ≤ q → A q) ∧ meth.locks = false ∧ R = rm ∧ l = E.1 ∧ Gd E A s s.heap
theorem Zt_w {E : zEnv} {Γ : zG} {nL k n : Nat} {ws : va_W} {lv : List (Nat × Value)} {pc : Nat} {st : List Value} (ws' : va_W) (h : ws' = ws) (K : Zt E Γ nL k n ws' lv pc st) : Zt E Γ nL k n ws lv pc st := h ▸ K
theorem Zt_l {E : zEnv} {Γ : zG} {nL k n : Nat} {ws : va_W} {lv : List (Nat × Value)} {pc : Nat} {st : List Value} (lv' : List (Nat × Value)) (ks : List Nat) (h : lv_pick lv ks = lv') (K : Zt E Γ nL k n ws lv' pc st) : Zt E Γ nL k n ws lv pc st := by
  obtain ⟨p, l, e, R, s, m, args, below, meth, c, A, Q⟩ := Γ
  intro H locs ls hP hD hS hl
  exact K H locs ls hP hD hS (lv_sub hl ks h)

theorem z_tz {x : Int32} {v : Int32} (h : ¬ x = v) : ¬ x.toInt = v.toInt := fun e => h (Int32.toInt_inj.mp e)
theorem z_lko2 {x : Int32} {a b d : Int} (h0 : ¬ x = 0) (h1 : ¬ x = 1) : Op.lookupswitch.offset (#[((0 : Int), a), ((1 : Int), b)] : Array (Int × Int)).toList d x.toInt = d := by
  have a0 : ¬ x.toInt = 0 := z_tz h0
  have a1 : ¬ x.toInt = 1 := z_tz h1
  simp [Op.lookupswitch.offset, List.find?, a0, a1, eq_comm, Ne.symm]
  try omega
theorem z_n0 : narrow .boolean (.int 0) = .int 0 := by decide +kernel
theorem z_n1 : narrow .boolean (.int 1) = .int 1 := by decide +kernel
theorem z_out2 {x : Int32} (h0 : ¬ x = 0) (h1 : ¬ x = 1) : x.toInt < 0 ∨ 1 < x.toInt := by
  have a0 : ¬ x.toInt = 0 := z_tz h0
  have a1 : ¬ x.toInt = 1 := z_tz h1
  omega
theorem z_out3 {x : Int32} (h0 : ¬ x = 0) (h1 : ¬ x = 1) (h2 : ¬ x = 2) : x.toInt < 0 ∨ 2 < x.toInt := by
  have a0 : ¬ x.toInt = 0 := z_tz h0
  have a1 : ¬ x.toInt = 1 := z_tz h1
  have a2 : ¬ x.toInt = 2 := z_tz h2
  omega
theorem z_out4 {x : Int32} (h0 : ¬ x = 0) (h1 : ¬ x = 1) (h2 : ¬ x = 2) (h3 : ¬ x = 3) : x.toInt < 0 ∨ 3 < x.toInt := by
  have := z_out3 h0 h1 h2
  have a3 : ¬ x.toInt = 3 := z_tz h3
  omega
theorem z_out5 {x : Int32} (h0 : ¬ x = 0) (h1 : ¬ x = 1) (h2 : ¬ x = 2) (h3 : ¬ x = 3) (h4 : ¬ x = 4) : x.toInt < 0 ∨ 4 < x.toInt := by
  have := z_out4 h0 h1 h2 h3
  have a4 : ¬ x.toInt = 4 := z_tz h4
  omega
section ZROWS
theorem z_iadd {E : zEnv} {Γ : zG} {cc : ByteArray} {own : String} {nL : Nat} {rm : Room} {Ts : List Cond} {k n : Nat} {ws : va_W} {lv : List (Nat × Value)} {pc : Nat} {rest : List Value} (C : zC E Γ cc own nL rm Ts) {x y : Int32} (hd : decode cc pc = .ok (.iadd, 1)) (K : Zt E Γ nL k n ws (lv) (pc + 1) (.int (x + y) :: rest)) : Zt E Γ nL k n ws (lv) (pc) (.int y :: .int x :: rest) := by
  obtain ⟨p, l, e, R, s, m, args, below, meth, c, A, Q⟩ := Γ
  obtain ⟨hx, hb, hml, hown, hts, hK, hA, hlk, hR, hE, hG⟩ := C
  intro H locs ls hP hD hS hl
  exact lv_iadd hx hb hd (K H locs ls hP hD hS hl)
theorem z_isub {E : zEnv} {Γ : zG} {cc : ByteArray} {own : String} {nL : Nat} {rm : Room} {Ts : List Cond} {k n : Nat} {ws : va_W} {lv : List (Nat × Value)} {pc : Nat} {rest : List Value} (C : zC E Γ cc own nL rm Ts) {x y : Int32} (hd : decode cc pc = .ok (.isub, 1)) (K : Zt E Γ nL k n ws (lv) (pc + 1) (.int (x - y) :: rest)) : Zt E Γ nL k n ws (lv) (pc) (.int y :: .int x :: rest) := by
  obtain ⟨p, l, e, R, s, m, args, below, meth, c, A, Q⟩ := Γ
  obtain ⟨hx, hb, hml, hown, hts, hK, hA, hlk, hR, hE, hG⟩ := C
  intro H locs ls hP hD hS hl
  exact lv_isub hx hb hd (K H locs ls hP hD hS hl)
theorem z_imul {E : zEnv} {Γ : zG} {cc : ByteArray} {own : String} {nL : Nat} {rm : Room} {Ts : List Cond} {k n : Nat} {ws : va_W} {lv : List (Nat × Value)} {pc : Nat} {rest : List Value} (C : zC E Γ cc own nL rm Ts) {x y : Int32} (hd : decode cc pc = .ok (.imul, 1)) (K : Zt E Γ nL k n ws (lv) (pc + 1) (.int (x * y) :: rest)) : Zt E Γ nL k n ws (lv) (pc) (.int y :: .int x :: rest) := by
  obtain ⟨p, l, e, R, s, m, args, below, meth, c, A, Q⟩ := Γ
  obtain ⟨hx, hb, hml, hown, hts, hK, hA, hlk, hR, hE, hG⟩ := C
  intro H locs ls hP hD hS hl
  exact lv_imul hx hb hd (K H locs ls hP hD hS hl)
theorem z_iand {E : zEnv} {Γ : zG} {cc : ByteArray} {own : String} {nL : Nat} {rm : Room} {Ts : List Cond} {k n : Nat} {ws : va_W} {lv : List (Nat × Value)} {pc : Nat} {rest : List Value} (C : zC E Γ cc own nL rm Ts) {x y : Int32} (hd : decode cc pc = .ok (.iand, 1)) (K : Zt E Γ nL k n ws (lv) (pc + 1) (.int (x &&& y) :: rest)) : Zt E Γ nL k n ws (lv) (pc) (.int y :: .int x :: rest) := by
  obtain ⟨p, l, e, R, s, m, args, below, meth, c, A, Q⟩ := Γ
  obtain ⟨hx, hb, hml, hown, hts, hK, hA, hlk, hR, hE, hG⟩ := C
  intro H locs ls hP hD hS hl
  exact lv_iand hx hb hd (K H locs ls hP hD hS hl)
theorem z_ior {E : zEnv} {Γ : zG} {cc : ByteArray} {own : String} {nL : Nat} {rm : Room} {Ts : List Cond} {k n : Nat} {ws : va_W} {lv : List (Nat × Value)} {pc : Nat} {rest : List Value} (C : zC E Γ cc own nL rm Ts) {x y : Int32} (hd : decode cc pc = .ok (.ior, 1)) (K : Zt E Γ nL k n ws (lv) (pc + 1) (.int (x ||| y) :: rest)) : Zt E Γ nL k n ws (lv) (pc) (.int y :: .int x :: rest) := by
  obtain ⟨p, l, e, R, s, m, args, below, meth, c, A, Q⟩ := Γ
  obtain ⟨hx, hb, hml, hown, hts, hK, hA, hlk, hR, hE, hG⟩ := C
  intro H locs ls hP hD hS hl
  exact lv_ior hx hb hd (K H locs ls hP hD hS hl)
theorem z_ixor {E : zEnv} {Γ : zG} {cc : ByteArray} {own : String} {nL : Nat} {rm : Room} {Ts : List Cond} {k n : Nat} {ws : va_W} {lv : List (Nat × Value)} {pc : Nat} {rest : List Value} (C : zC E Γ cc own nL rm Ts) {x y : Int32} (hd : decode cc pc = .ok (.ixor, 1)) (K : Zt E Γ nL k n ws (lv) (pc + 1) (.int (x ^^^ y) :: rest)) : Zt E Γ nL k n ws (lv) (pc) (.int y :: .int x :: rest) := by
  obtain ⟨p, l, e, R, s, m, args, below, meth, c, A, Q⟩ := Γ
  obtain ⟨hx, hb, hml, hown, hts, hK, hA, hlk, hR, hE, hG⟩ := C
  intro H locs ls hP hD hS hl
  exact lv_ixor hx hb hd (K H locs ls hP hD hS hl)
theorem z_idiv {E : zEnv} {Γ : zG} {cc : ByteArray} {own : String} {nL : Nat} {rm : Room} {Ts : List Cond} {k n : Nat} {ws : va_W} {lv : List (Nat × Value)} {pc : Nat} {rest : List Value} (C : zC E Γ cc own nL rm Ts) {x y : Int32} (hn : ¬ y = 0) (hd : decode cc pc = .ok (.idiv, 1)) (K : Zt E Γ nL k n ws (lv) (pc + 1) (.int (x / y) :: rest)) : Zt E Γ nL k n ws (lv) (pc) (.int y :: .int x :: rest) := by
  obtain ⟨p, l, e, R, s, m, args, below, meth, c, A, Q⟩ := Γ
  obtain ⟨hx, hb, hml, hown, hts, hK, hA, hlk, hR, hE, hG⟩ := C
  intro H locs ls hP hD hS hl
  exact lv_idiv hx hb hd hn (K H locs ls hP hD hS hl)
theorem z_irem {E : zEnv} {Γ : zG} {cc : ByteArray} {own : String} {nL : Nat} {rm : Room} {Ts : List Cond} {k n : Nat} {ws : va_W} {lv : List (Nat × Value)} {pc : Nat} {rest : List Value} (C : zC E Γ cc own nL rm Ts) {x y : Int32} (hn : ¬ y = 0) (hd : decode cc pc = .ok (.irem, 1)) (K : Zt E Γ nL k n ws (lv) (pc + 1) (.int (zrem x y) :: rest)) : Zt E Γ nL k n ws (lv) (pc) (.int y :: .int x :: rest) := by
  obtain ⟨p, l, e, R, s, m, args, below, meth, c, A, Q⟩ := Γ
  obtain ⟨hx, hb, hml, hown, hts, hK, hA, hlk, hR, hE, hG⟩ := C
  intro H locs ls hP hD hS hl
  exact lv_irem hx hb hd hn (K H locs ls hP hD hS hl)
theorem z_ishl {E : zEnv} {Γ : zG} {cc : ByteArray} {own : String} {nL : Nat} {rm : Room} {Ts : List Cond} {k n : Nat} {ws : va_W} {lv : List (Nat × Value)} {pc : Nat} {rest : List Value} (C : zC E Γ cc own nL rm Ts) {x y : Int32} (hd : decode cc pc = .ok (.ishl, 1)) (K : Zt E Γ nL k n ws (lv) (pc + 1) (.int (x <<< (y &&& 31)) :: rest)) : Zt E Γ nL k n ws (lv) (pc) (.int y :: .int x :: rest) := by
  obtain ⟨p, l, e, R, s, m, args, below, meth, c, A, Q⟩ := Γ
  obtain ⟨hx, hb, hml, hown, hts, hK, hA, hlk, hR, hE, hG⟩ := C
  intro H locs ls hP hD hS hl
  exact lv_ishl hx hb hd (K H locs ls hP hD hS hl)
theorem z_ishr {E : zEnv} {Γ : zG} {cc : ByteArray} {own : String} {nL : Nat} {rm : Room} {Ts : List Cond} {k n : Nat} {ws : va_W} {lv : List (Nat × Value)} {pc : Nat} {rest : List Value} (C : zC E Γ cc own nL rm Ts) {x y : Int32} (hd : decode cc pc = .ok (.ishr, 1)) (K : Zt E Γ nL k n ws (lv) (pc + 1) (.int (x >>> (y &&& 31)) :: rest)) : Zt E Γ nL k n ws (lv) (pc) (.int y :: .int x :: rest) := by
  obtain ⟨p, l, e, R, s, m, args, below, meth, c, A, Q⟩ := Γ
  obtain ⟨hx, hb, hml, hown, hts, hK, hA, hlk, hR, hE, hG⟩ := C
  intro H locs ls hP hD hS hl
  exact lv_ishr hx hb hd (K H locs ls hP hD hS hl)
theorem z_iushr {E : zEnv} {Γ : zG} {cc : ByteArray} {own : String} {nL : Nat} {rm : Room} {Ts : List Cond} {k n : Nat} {ws : va_W} {lv : List (Nat × Value)} {pc : Nat} {rest : List Value} (C : zC E Γ cc own nL rm Ts) {x y : Int32} (hd : decode cc pc = .ok (.iushr, 1)) (K : Zt E Γ nL k n ws (lv) (pc + 1) (.int (zushr x y) :: rest)) : Zt E Γ nL k n ws (lv) (pc) (.int y :: .int x :: rest) := by
  obtain ⟨p, l, e, R, s, m, args, below, meth, c, A, Q⟩ := Γ
  obtain ⟨hx, hb, hml, hown, hts, hK, hA, hlk, hR, hE, hG⟩ := C
  intro H locs ls hP hD hS hl
  exact lv_iushr hx hb hd rfl (K H locs ls hP hD hS hl)
theorem z_i2l {E : zEnv} {Γ : zG} {cc : ByteArray} {own : String} {nL : Nat} {rm : Room} {Ts : List Cond} {k n : Nat} {ws : va_W} {lv : List (Nat × Value)} {pc : Nat} {rest : List Value} (C : zC E Γ cc own nL rm Ts) {x : Int32} (hd : decode cc pc = .ok (.i2l, 1)) (K : Zt E Γ nL k n ws (lv) (pc + 1) (.long x.toInt64 :: rest)) : Zt E Γ nL k n ws (lv) (pc) (.int x :: rest) := by
  obtain ⟨p, l, e, R, s, m, args, below, meth, c, A, Q⟩ := Γ
  obtain ⟨hx, hb, hml, hown, hts, hK, hA, hlk, hR, hE, hG⟩ := C
  intro H locs ls hP hD hS hl
  exact lv_i2l hx hb hd rfl (K H locs ls hP hD hS hl)
theorem z_l2i {E : zEnv} {Γ : zG} {cc : ByteArray} {own : String} {nL : Nat} {rm : Room} {Ts : List Cond} {k n : Nat} {ws : va_W} {lv : List (Nat × Value)} {pc : Nat} {rest : List Value} (C : zC E Γ cc own nL rm Ts) {x : Int64} (hd : decode cc pc = .ok (.l2i, 1)) (K : Zt E Γ nL k n ws (lv) (pc + 1) (.int x.toInt32 :: rest)) : Zt E Γ nL k n ws (lv) (pc) (.long x :: rest) := by
  obtain ⟨p, l, e, R, s, m, args, below, meth, c, A, Q⟩ := Γ
  obtain ⟨hx, hb, hml, hown, hts, hK, hA, hlk, hR, hE, hG⟩ := C
  intro H locs ls hP hD hS hl
  exact lv_l2i hx hb hd rfl (K H locs ls hP hD hS hl)
theorem z_i2b {E : zEnv} {Γ : zG} {cc : ByteArray} {own : String} {nL : Nat} {rm : Room} {Ts : List Cond} {k n : Nat} {ws : va_W} {lv : List (Nat × Value)} {pc : Nat} {rest : List Value} (C : zC E Γ cc own nL rm Ts) {x : Int32} (hd : decode cc pc = .ok (.i2b, 1)) (K : Zt E Γ nL k n ws (lv) (pc + 1) (.int x.toInt8.toInt32 :: rest)) : Zt E Γ nL k n ws (lv) (pc) (.int x :: rest) := by
  obtain ⟨p, l, e, R, s, m, args, below, meth, c, A, Q⟩ := Γ
  obtain ⟨hx, hb, hml, hown, hts, hK, hA, hlk, hR, hE, hG⟩ := C
  intro H locs ls hP hD hS hl
  exact lv_i2b hx hb hd rfl (K H locs ls hP hD hS hl)
theorem z_i2s {E : zEnv} {Γ : zG} {cc : ByteArray} {own : String} {nL : Nat} {rm : Room} {Ts : List Cond} {k n : Nat} {ws : va_W} {lv : List (Nat × Value)} {pc : Nat} {rest : List Value} (C : zC E Γ cc own nL rm Ts) {x : Int32} (hd : decode cc pc = .ok (.i2s, 1)) (K : Zt E Γ nL k n ws (lv) (pc + 1) (.int x.toInt16.toInt32 :: rest)) : Zt E Γ nL k n ws (lv) (pc) (.int x :: rest) := by
  obtain ⟨p, l, e, R, s, m, args, below, meth, c, A, Q⟩ := Γ
  obtain ⟨hx, hb, hml, hown, hts, hK, hA, hlk, hR, hE, hG⟩ := C
  intro H locs ls hP hD hS hl
  exact lv_i2s hx hb hd rfl (K H locs ls hP hD hS hl)
theorem z_ladd {E : zEnv} {Γ : zG} {cc : ByteArray} {own : String} {nL : Nat} {rm : Room} {Ts : List Cond} {k n : Nat} {ws : va_W} {lv : List (Nat × Value)} {pc : Nat} {rest : List Value} (C : zC E Γ cc own nL rm Ts) {x y : Int64} (hd : decode cc pc = .ok (.ladd, 1)) (K : Zt E Γ nL k n ws (lv) (pc + 1) (.long (x + y) :: rest)) : Zt E Γ nL k n ws (lv) (pc) (.long y :: .long x :: rest) := by
  obtain ⟨p, l, e, R, s, m, args, below, meth, c, A, Q⟩ := Γ
  obtain ⟨hx, hb, hml, hown, hts, hK, hA, hlk, hR, hE, hG⟩ := C
  intro H locs ls hP hD hS hl
  exact lv_ladd hx hb hd (K H locs ls hP hD hS hl)
theorem z_land {E : zEnv} {Γ : zG} {cc : ByteArray} {own : String} {nL : Nat} {rm : Room} {Ts : List Cond} {k n : Nat} {ws : va_W} {lv : List (Nat × Value)} {pc : Nat} {rest : List Value} (C : zC E Γ cc own nL rm Ts) {x y : Int64} (hd : decode cc pc = .ok (.land, 1)) (K : Zt E Γ nL k n ws (lv) (pc + 1) (.long (x &&& y) :: rest)) : Zt E Γ nL k n ws (lv) (pc) (.long y :: .long x :: rest) := by
  obtain ⟨p, l, e, R, s, m, args, below, meth, c, A, Q⟩ := Γ
  obtain ⟨hx, hb, hml, hown, hts, hK, hA, hlk, hR, hE, hG⟩ := C
  intro H locs ls hP hD hS hl
  exact lv_land hx hb hd (K H locs ls hP hD hS hl)
theorem z_lor {E : zEnv} {Γ : zG} {cc : ByteArray} {own : String} {nL : Nat} {rm : Room} {Ts : List Cond} {k n : Nat} {ws : va_W} {lv : List (Nat × Value)} {pc : Nat} {rest : List Value} (C : zC E Γ cc own nL rm Ts) {x y : Int64} (hd : decode cc pc = .ok (.lor, 1)) (K : Zt E Γ nL k n ws (lv) (pc + 1) (.long (x ||| y) :: rest)) : Zt E Γ nL k n ws (lv) (pc) (.long y :: .long x :: rest) := by
  obtain ⟨p, l, e, R, s, m, args, below, meth, c, A, Q⟩ := Γ
  obtain ⟨hx, hb, hml, hown, hts, hK, hA, hlk, hR, hE, hG⟩ := C
  intro H locs ls hP hD hS hl
  exact lv_lor hx hb hd (K H locs ls hP hD hS hl)
theorem z_lshl {E : zEnv} {Γ : zG} {cc : ByteArray} {own : String} {nL : Nat} {rm : Room} {Ts : List Cond} {k n : Nat} {ws : va_W} {lv : List (Nat × Value)} {pc : Nat} {rest : List Value} (C : zC E Γ cc own nL rm Ts) {x : Int64} {y : Int32} (hd : decode cc pc = .ok (.lshl, 1)) (K : Zt E Γ nL k n ws (lv) (pc + 1) (.long (x <<< (y.toInt64 &&& 63)) :: rest)) : Zt E Γ nL k n ws (lv) (pc) (.int y :: .long x :: rest) := by
  obtain ⟨p, l, e, R, s, m, args, below, meth, c, A, Q⟩ := Γ
  obtain ⟨hx, hb, hml, hown, hts, hK, hA, hlk, hR, hE, hG⟩ := C
  intro H locs ls hP hD hS hl
  exact lv_lshl hx hb hd rfl (K H locs ls hP hD hS hl)
theorem z_lshr {E : zEnv} {Γ : zG} {cc : ByteArray} {own : String} {nL : Nat} {rm : Room} {Ts : List Cond} {k n : Nat} {ws : va_W} {lv : List (Nat × Value)} {pc : Nat} {rest : List Value} (C : zC E Γ cc own nL rm Ts) {x : Int64} {y : Int32} (hd : decode cc pc = .ok (.lshr, 1)) (K : Zt E Γ nL k n ws (lv) (pc + 1) (.long (x >>> (y.toInt64 &&& 63)) :: rest)) : Zt E Γ nL k n ws (lv) (pc) (.int y :: .long x :: rest) := by
  obtain ⟨p, l, e, R, s, m, args, below, meth, c, A, Q⟩ := Γ
  obtain ⟨hx, hb, hml, hown, hts, hK, hA, hlk, hR, hE, hG⟩ := C
  intro H locs ls hP hD hS hl
  exact lv_lshr hx hb hd rfl (K H locs ls hP hD hS hl)
theorem z_lushr {E : zEnv} {Γ : zG} {cc : ByteArray} {own : String} {nL : Nat} {rm : Room} {Ts : List Cond} {k n : Nat} {ws : va_W} {lv : List (Nat × Value)} {pc : Nat} {rest : List Value} (C : zC E Γ cc own nL rm Ts) {x : Int64} {y : Int32} (hd : decode cc pc = .ok (.lushr, 1)) (K : Zt E Γ nL k n ws (lv) (pc + 1) (.long (zlushr x y) :: rest)) : Zt E Γ nL k n ws (lv) (pc) (.int y :: .long x :: rest) := by
  obtain ⟨p, l, e, R, s, m, args, below, meth, c, A, Q⟩ := Γ
  obtain ⟨hx, hb, hml, hown, hts, hK, hA, hlk, hR, hE, hG⟩ := C
  intro H locs ls hP hD hS hl
  exact lv_lushr hx hb hd rfl (K H locs ls hP hD hS hl)
theorem z_lcmp {E : zEnv} {Γ : zG} {cc : ByteArray} {own : String} {nL : Nat} {rm : Room} {Ts : List Cond} {k n : Nat} {ws : va_W} {lv : List (Nat × Value)} {pc : Nat} {rest : List Value} (C : zC E Γ cc own nL rm Ts) {x y : Int64} (hd : decode cc pc = .ok (.lcmp, 1)) (K : Zt E Γ nL k n ws (lv) (pc + 1) (.int (lg_cmp x y) :: rest)) : Zt E Γ nL k n ws (lv) (pc) (.long y :: .long x :: rest) := by
  obtain ⟨p, l, e, R, s, m, args, below, meth, c, A, Q⟩ := Γ
  obtain ⟨hx, hb, hml, hown, hts, hK, hA, hlk, hR, hE, hG⟩ := C
  intro H locs ls hP hD hS hl
  exact W.lcmp hx hb hd (K H locs ls hP hD hS hl)
theorem z_dup {E : zEnv} {Γ : zG} {cc : ByteArray} {own : String} {nL : Nat} {rm : Room} {Ts : List Cond} {k n : Nat} {ws : va_W} {lv : List (Nat × Value)} {pc : Nat} {rest : List Value} (C : zC E Γ cc own nL rm Ts) {va : Value} (hv : va.category = 1) (hd : decode cc pc = .ok (.dup, 1)) (K : Zt E Γ nL k n ws (lv) (pc + 1) (va :: va :: rest)) : Zt E Γ nL k n ws (lv) (pc) (va :: rest) := by
  obtain ⟨p, l, e, R, s, m, args, below, meth, c, A, Q⟩ := Γ
  obtain ⟨hx, hb, hml, hown, hts, hK, hA, hlk, hR, hE, hG⟩ := C
  intro H locs ls hP hD hS hl
  exact lv_dup hx hb hd hv (K H locs ls hP hD hS hl)
theorem z_dup2 {E : zEnv} {Γ : zG} {cc : ByteArray} {own : String} {nL : Nat} {rm : Room} {Ts : List Cond} {k n : Nat} {ws : va_W} {lv : List (Nat × Value)} {pc : Nat} {rest : List Value} (C : zC E Γ cc own nL rm Ts) {va vb : Value} (hv : va.category = 1) (hw : vb.category = 1) (hd : decode cc pc = .ok (.dup2, 1)) (K : Zt E Γ nL k n ws (lv) (pc + 1) (va :: vb :: va :: vb :: rest)) : Zt E Γ nL k n ws (lv) (pc) (va :: vb :: rest) := by
  obtain ⟨p, l, e, R, s, m, args, below, meth, c, A, Q⟩ := Γ
  obtain ⟨hx, hb, hml, hown, hts, hK, hA, hlk, hR, hE, hG⟩ := C
  intro H locs ls hP hD hS hl
  exact lv_dup2_11 hx hb hd hv hw (K H locs ls hP hD hS hl)
theorem z_pop {E : zEnv} {Γ : zG} {cc : ByteArray} {own : String} {nL : Nat} {rm : Room} {Ts : List Cond} {k n : Nat} {ws : va_W} {lv : List (Nat × Value)} {pc : Nat} {rest : List Value} (C : zC E Γ cc own nL rm Ts) {va : Value} (hv : va.category = 1) (hd : decode cc pc = .ok (.pop, 1)) (K : Zt E Γ nL k n ws (lv) (pc + 1) (rest)) : Zt E Γ nL k n ws (lv) (pc) (va :: rest) := by
  obtain ⟨p, l, e, R, s, m, args, below, meth, c, A, Q⟩ := Γ
  obtain ⟨hx, hb, hml, hown, hts, hK, hA, hlk, hR, hE, hG⟩ := C
  intro H locs ls hP hD hS hl
  exact lv_pop hx hb hd hv (K H locs ls hP hD hS hl)
theorem z_iconst {E : zEnv} {Γ : zG} {cc : ByteArray} {own : String} {nL : Nat} {rm : Room} {Ts : List Cond} {k n : Nat} {ws : va_W} {lv : List (Nat × Value)} {pc : Nat} {rest : List Value} (C : zC E Γ cc own nL rm Ts) {z : Int} {v : Int32} (hv : Int32.ofInt z = v) (hd : decode cc pc = .ok (.iconst z, 1)) (K : Zt E Γ nL k n ws (lv) (pc + 1) (.int v :: rest)) : Zt E Γ nL k n ws (lv) (pc) (rest) := by
  obtain ⟨p, l, e, R, s, m, args, below, meth, c, A, Q⟩ := Γ
  obtain ⟨hx, hb, hml, hown, hts, hK, hA, hlk, hR, hE, hG⟩ := C
  intro H locs ls hP hD hS hl
  exact lv_iconst hx hb hd hv (K H locs ls hP hD hS hl)
theorem z_bipush {E : zEnv} {Γ : zG} {cc : ByteArray} {own : String} {nL : Nat} {rm : Room} {Ts : List Cond} {k n : Nat} {ws : va_W} {lv : List (Nat × Value)} {pc : Nat} {rest : List Value} (C : zC E Γ cc own nL rm Ts) {z : Int} {v : Int32} (hv : (Int8.ofInt z).toInt32 = v) (hd : decode cc pc = .ok (.bipush z, 2)) (K : Zt E Γ nL k n ws (lv) (pc + 2) (.int v :: rest)) : Zt E Γ nL k n ws (lv) (pc) (rest) := by
  obtain ⟨p, l, e, R, s, m, args, below, meth, c, A, Q⟩ := Γ
  obtain ⟨hx, hb, hml, hown, hts, hK, hA, hlk, hR, hE, hG⟩ := C
  intro H locs ls hP hD hS hl
  exact lv_bipush hx hb hd hv (K H locs ls hP hD hS hl)
theorem z_sipush {E : zEnv} {Γ : zG} {cc : ByteArray} {own : String} {nL : Nat} {rm : Room} {Ts : List Cond} {k n : Nat} {ws : va_W} {lv : List (Nat × Value)} {pc : Nat} {rest : List Value} (C : zC E Γ cc own nL rm Ts) {z : Int} {v : Int32} (hv : (Int16.ofInt z).toInt32 = v) (hd : decode cc pc = .ok (.sipush z, 3)) (K : Zt E Γ nL k n ws (lv) (pc + 3) (.int v :: rest)) : Zt E Γ nL k n ws (lv) (pc) (rest) := by
  obtain ⟨p, l, e, R, s, m, args, below, meth, c, A, Q⟩ := Γ
  obtain ⟨hx, hb, hml, hown, hts, hK, hA, hlk, hR, hE, hG⟩ := C
  intro H locs ls hP hD hS hl
  exact lv_sipush hx hb hd hv (K H locs ls hP hD hS hl)
theorem z_lconst {E : zEnv} {Γ : zG} {cc : ByteArray} {own : String} {nL : Nat} {rm : Room} {Ts : List Cond} {k n : Nat} {ws : va_W} {lv : List (Nat × Value)} {pc : Nat} {rest : List Value} (C : zC E Γ cc own nL rm Ts) {z : Fin 2} {v : Int64} (hv : Int64.ofNat (z : Nat) = v) (hd : decode cc pc = .ok (.lconst z, 1)) (K : Zt E Γ nL k n ws (lv) (pc + 1) (.long v :: rest)) : Zt E Γ nL k n ws (lv) (pc) (rest) := by
  obtain ⟨p, l, e, R, s, m, args, below, meth, c, A, Q⟩ := Γ
  obtain ⟨hx, hb, hml, hown, hts, hK, hA, hlk, hR, hE, hG⟩ := C
  intro H locs ls hP hD hS hl
  exact lv_lconst hx hb hd hv (K H locs ls hP hD hS hl)
theorem z_ldc {E : zEnv} {Γ : zG} {cc : ByteArray} {own : String} {nL : Nat} {rm : Room} {Ts : List Cond} {k n : Nat} {ws : va_W} {lv : List (Nat × Value)} {pc : Nat} {rest : List Value} (C : zC E Γ cc own nL rm Ts) {ix : Nat} {v : Int32} (hc : Jvm.Cond.constant own ix v ∈ Ts) (hd : decode cc pc = .ok (.ldc ix, 2)) (K : Zt E Γ nL k n ws (lv) (pc + 2) (.int v :: rest)) : Zt E Γ nL k n ws (lv) (pc) (rest) := by
  obtain ⟨p, l, e, R, s, m, args, below, meth, c, A, Q⟩ := Γ
  obtain ⟨hx, hb, hml, hown, hts, hK, hA, hlk, hR, hE, hG⟩ := C
  intro H locs ls hP hD hS hl
  exact lv_ldc hx hb hown (hts _ hc) hd (K H locs ls hP hD hS hl)
theorem z_ldc_w {E : zEnv} {Γ : zG} {cc : ByteArray} {own : String} {nL : Nat} {rm : Room} {Ts : List Cond} {k n : Nat} {ws : va_W} {lv : List (Nat × Value)} {pc : Nat} {rest : List Value} (C : zC E Γ cc own nL rm Ts) {ix : Nat} {v : Int32} (hc : Jvm.Cond.constant own ix v ∈ Ts) (hd : decode cc pc = .ok (.ldc_w ix, 3)) (K : Zt E Γ nL k n ws (lv) (pc + 3) (.int v :: rest)) : Zt E Γ nL k n ws (lv) (pc) (rest) := by
  obtain ⟨p, l, e, R, s, m, args, below, meth, c, A, Q⟩ := Γ
  obtain ⟨hx, hb, hml, hown, hts, hK, hA, hlk, hR, hE, hG⟩ := C
  intro H locs ls hP hD hS hl
  exact lv_ldcw hx hb hown (hts _ hc) hd (K H locs ls hP hD hS hl)
theorem z_ldc2 {E : zEnv} {Γ : zG} {cc : ByteArray} {own : String} {nL : Nat} {rm : Room} {Ts : List Cond} {k n : Nat} {ws : va_W} {lv : List (Nat × Value)} {pc : Nat} {rest : List Value} (C : zC E Γ cc own nL rm Ts) {ix : Nat} {v : Int64} (hc : Jvm.Cond.constantLong own ix v ∈ Ts) (hd : decode cc pc = .ok (.ldc2_w ix, 3)) (K : Zt E Γ nL k n ws (lv) (pc + 3) (.long v :: rest)) : Zt E Γ nL k n ws (lv) (pc) (rest) := by
  obtain ⟨p, l, e, R, s, m, args, below, meth, c, A, Q⟩ := Γ
  obtain ⟨hx, hb, hml, hown, hts, hK, hA, hlk, hR, hE, hG⟩ := C
  intro H locs ls hP hD hS hl
  exact lv_ldc2 hx hb hown (hts _ hc) hd (K H locs ls hP hD hS hl)
theorem z_iload_n {E : zEnv} {Γ : zG} {cc : ByteArray} {own : String} {nL : Nat} {rm : Room} {Ts : List Cond} {k n : Nat} {ws : va_W} {lv : List (Nat × Value)} {pc : Nat} {rest : List Value} (C : zC E Γ cc own nL rm Ts) {j : Fin 4} {i : Nat} {x : Int32} (k9 : Nat) (hi : (j : Nat) = i) (hk : lv[k9]? = some (i, .int x)) (hd : decode cc pc = .ok (.iload_n j, 1)) (K : Zt E Γ nL k n ws (lv) (pc + 1) (.int x :: rest)) : Zt E Γ nL k n ws (lv) (pc) (rest) := by
  obtain ⟨p, l, e, R, s, m, args, below, meth, c, A, Q⟩ := Γ
  obtain ⟨hx, hb, hml, hown, hts, hK, hA, hlk, hR, hE, hG⟩ := C
  intro H locs ls hP hD hS hl
  exact lv_iload_n hx hb hd hi (lv_at hl k9 hk) (K H locs ls hP hD hS hl)
theorem z_iload {E : zEnv} {Γ : zG} {cc : ByteArray} {own : String} {nL : Nat} {rm : Room} {Ts : List Cond} {k n : Nat} {ws : va_W} {lv : List (Nat × Value)} {pc : Nat} {rest : List Value} (C : zC E Γ cc own nL rm Ts) {i : Nat} {x : Int32} (k9 : Nat) (hk : lv[k9]? = some (i, .int x)) (hd : decode cc pc = .ok (.iload i, 2)) (K : Zt E Γ nL k n ws (lv) (pc + 2) (.int x :: rest)) : Zt E Γ nL k n ws (lv) (pc) (rest) := by
  obtain ⟨p, l, e, R, s, m, args, below, meth, c, A, Q⟩ := Γ
  obtain ⟨hx, hb, hml, hown, hts, hK, hA, hlk, hR, hE, hG⟩ := C
  intro H locs ls hP hD hS hl
  exact lv_iload hx hb hd (lv_at hl k9 hk) (K H locs ls hP hD hS hl)
theorem z_aload_n {E : zEnv} {Γ : zG} {cc : ByteArray} {own : String} {nL : Nat} {rm : Room} {Ts : List Cond} {k n : Nat} {ws : va_W} {lv : List (Nat × Value)} {pc : Nat} {rest : List Value} (C : zC E Γ cc own nL rm Ts) {j : Fin 4} {i : Nat} {x : Nat} (k9 : Nat) (hi : (j : Nat) = i) (hk : lv[k9]? = some (i, .ref x)) (hd : decode cc pc = .ok (.aload_n j, 1)) (K : Zt E Γ nL k n ws (lv) (pc + 1) (.ref x :: rest)) : Zt E Γ nL k n ws (lv) (pc) (rest) := by
  obtain ⟨p, l, e, R, s, m, args, below, meth, c, A, Q⟩ := Γ
  obtain ⟨hx, hb, hml, hown, hts, hK, hA, hlk, hR, hE, hG⟩ := C
  intro H locs ls hP hD hS hl
  exact lv_aload_n hx hb hd hi (lv_at hl k9 hk) (K H locs ls hP hD hS hl)
theorem z_aload {E : zEnv} {Γ : zG} {cc : ByteArray} {own : String} {nL : Nat} {rm : Room} {Ts : List Cond} {k n : Nat} {ws : va_W} {lv : List (Nat × Value)} {pc : Nat} {rest : List Value} (C : zC E Γ cc own nL rm Ts) {i : Nat} {x : Nat} (k9 : Nat) (hk : lv[k9]? = some (i, .ref x)) (hd : decode cc pc = .ok (.aload i, 2)) (K : Zt E Γ nL k n ws (lv) (pc + 2) (.ref x :: rest)) : Zt E Γ nL k n ws (lv) (pc) (rest) := by
  obtain ⟨p, l, e, R, s, m, args, below, meth, c, A, Q⟩ := Γ
  obtain ⟨hx, hb, hml, hown, hts, hK, hA, hlk, hR, hE, hG⟩ := C
  intro H locs ls hP hD hS hl
  exact lv_aload hx hb hd (lv_at hl k9 hk) (K H locs ls hP hD hS hl)
theorem z_lload_n {E : zEnv} {Γ : zG} {cc : ByteArray} {own : String} {nL : Nat} {rm : Room} {Ts : List Cond} {k n : Nat} {ws : va_W} {lv : List (Nat × Value)} {pc : Nat} {rest : List Value} (C : zC E Γ cc own nL rm Ts) {j : Fin 4} {i : Nat} {x : Int64} (k9 : Nat) (hi : (j : Nat) = i) (hk : lv[k9]? = some (i, .long x)) (hd : decode cc pc = .ok (.lload_n j, 1)) (K : Zt E Γ nL k n ws (lv) (pc + 1) (.long x :: rest)) : Zt E Γ nL k n ws (lv) (pc) (rest) := by
  obtain ⟨p, l, e, R, s, m, args, below, meth, c, A, Q⟩ := Γ
  obtain ⟨hx, hb, hml, hown, hts, hK, hA, hlk, hR, hE, hG⟩ := C
  intro H locs ls hP hD hS hl
  exact lv_lload_n hx hb hd hi (lv_at hl k9 hk) (K H locs ls hP hD hS hl)
theorem z_lload {E : zEnv} {Γ : zG} {cc : ByteArray} {own : String} {nL : Nat} {rm : Room} {Ts : List Cond} {k n : Nat} {ws : va_W} {lv : List (Nat × Value)} {pc : Nat} {rest : List Value} (C : zC E Γ cc own nL rm Ts) {i : Nat} {x : Int64} (k9 : Nat) (hk : lv[k9]? = some (i, .long x)) (hd : decode cc pc = .ok (.lload i, 2)) (K : Zt E Γ nL k n ws (lv) (pc + 2) (.long x :: rest)) : Zt E Γ nL k n ws (lv) (pc) (rest) := by
  obtain ⟨p, l, e, R, s, m, args, below, meth, c, A, Q⟩ := Γ
  obtain ⟨hx, hb, hml, hown, hts, hK, hA, hlk, hR, hE, hG⟩ := C
  intro H locs ls hP hD hS hl
  exact lv_lload hx hb hd (lv_at hl k9 hk) (K H locs ls hP hD hS hl)
theorem z_istore_n {E : zEnv} {Γ : zG} {cc : ByteArray} {own : String} {nL : Nat} {rm : Room} {Ts : List Cond} {k n : Nat} {ws : va_W} {lv : List (Nat × Value)} {pc : Nat} {rest : List Value} (C : zC E Γ cc own nL rm Ts) {j : Fin 4} {i : Nat} {x : Int32} (lv' : List (Nat × Value)) (hi : (j : Nat) = i) (hn : i < nL) (hf : (i, Value.int x) :: lv.filter (fun q => !(q.1 == i) && !(q.1 + 1 == i && q.2.category == 2)) = lv') (hd : decode cc pc = .ok (.istore_n j, 1)) (K : Zt E Γ nL k n ws (lv') (pc + 1) (rest)) : Zt E Γ nL k n ws (lv) (pc) (.int x :: rest) := by
  obtain ⟨p, l, e, R, s, m, args, below, meth, c, A, Q⟩ := Γ
  obtain ⟨hx, hb, hml, hown, hts, hK, hA, hlk, hR, hE, hG⟩ := C
  intro H locs ls hP hD hS hl
  exact lv_istore_n hx hb hd hi hl hn hf (fun ls hl => (K H locs ls hP hD hS hl))
theorem z_istore {E : zEnv} {Γ : zG} {cc : ByteArray} {own : String} {nL : Nat} {rm : Room} {Ts : List Cond} {k n : Nat} {ws : va_W} {lv : List (Nat × Value)} {pc : Nat} {rest : List Value} (C : zC E Γ cc own nL rm Ts) {i : Nat} {x : Int32} (lv' : List (Nat × Value)) (hn : i < nL) (hf : (i, Value.int x) :: lv.filter (fun q => !(q.1 == i) && !(q.1 + 1 == i && q.2.category == 2)) = lv') (hd : decode cc pc = .ok (.istore i, 2)) (K : Zt E Γ nL k n ws (lv') (pc + 2) (rest)) : Zt E Γ nL k n ws (lv) (pc) (.int x :: rest) := by
  obtain ⟨p, l, e, R, s, m, args, below, meth, c, A, Q⟩ := Γ
  obtain ⟨hx, hb, hml, hown, hts, hK, hA, hlk, hR, hE, hG⟩ := C
  intro H locs ls hP hD hS hl
  exact lv_istore hx hb hd hl hn hf (fun ls hl => (K H locs ls hP hD hS hl))
theorem z_astore_n {E : zEnv} {Γ : zG} {cc : ByteArray} {own : String} {nL : Nat} {rm : Room} {Ts : List Cond} {k n : Nat} {ws : va_W} {lv : List (Nat × Value)} {pc : Nat} {rest : List Value} (C : zC E Γ cc own nL rm Ts) {j : Fin 4} {i : Nat} {x : Nat} (lv' : List (Nat × Value)) (hi : (j : Nat) = i) (hn : i < nL) (hf : (i, Value.ref x) :: lv.filter (fun q => !(q.1 == i) && !(q.1 + 1 == i && q.2.category == 2)) = lv') (hd : decode cc pc = .ok (.astore_n j, 1)) (K : Zt E Γ nL k n ws (lv') (pc + 1) (rest)) : Zt E Γ nL k n ws (lv) (pc) (.ref x :: rest) := by
  obtain ⟨p, l, e, R, s, m, args, below, meth, c, A, Q⟩ := Γ
  obtain ⟨hx, hb, hml, hown, hts, hK, hA, hlk, hR, hE, hG⟩ := C
  intro H locs ls hP hD hS hl
  exact lv_astore_n hx hb hd hi hl hn hf (fun ls hl => (K H locs ls hP hD hS hl))
theorem z_astore {E : zEnv} {Γ : zG} {cc : ByteArray} {own : String} {nL : Nat} {rm : Room} {Ts : List Cond} {k n : Nat} {ws : va_W} {lv : List (Nat × Value)} {pc : Nat} {rest : List Value} (C : zC E Γ cc own nL rm Ts) {i : Nat} {x : Nat} (lv' : List (Nat × Value)) (hn : i < nL) (hf : (i, Value.ref x) :: lv.filter (fun q => !(q.1 == i) && !(q.1 + 1 == i && q.2.category == 2)) = lv') (hd : decode cc pc = .ok (.astore i, 2)) (K : Zt E Γ nL k n ws (lv') (pc + 2) (rest)) : Zt E Γ nL k n ws (lv) (pc) (.ref x :: rest) := by
  obtain ⟨p, l, e, R, s, m, args, below, meth, c, A, Q⟩ := Γ
  obtain ⟨hx, hb, hml, hown, hts, hK, hA, hlk, hR, hE, hG⟩ := C
  intro H locs ls hP hD hS hl
  exact lv_astore hx hb hd hl hn hf (fun ls hl => (K H locs ls hP hD hS hl))
theorem z_iinc {E : zEnv} {Γ : zG} {cc : ByteArray} {own : String} {nL : Nat} {rm : Room} {Ts : List Cond} {k n : Nat} {ws : va_W} {lv : List (Nat × Value)} {pc : Nat} {rest : List Value} (C : zC E Γ cc own nL rm Ts) {i : Nat} {z : Int} {x v : Int32} (lv' : List (Nat × Value)) (k9 : Nat) (hk : lv[k9]? = some (i, .int x)) (hv : x + Int32.ofInt z = v) (hn : i < nL) (hf : (i, Value.int v) :: lv.filter (fun q => !(q.1 == i) && !(q.1 + 1 == i && q.2.category == 2)) = lv') (hd : decode cc pc = .ok (.iinc i z, 3)) (K : Zt E Γ nL k n ws (lv') (pc + 3) (rest)) : Zt E Γ nL k n ws (lv) (pc) (rest) := by
  obtain ⟨p, l, e, R, s, m, args, below, meth, c, A, Q⟩ := Γ
  obtain ⟨hx, hb, hml, hown, hts, hK, hA, hlk, hR, hE, hG⟩ := C
  intro H locs ls hP hD hS hl
  exact lv_iinc hx hb hd hl hk hv hn hf (fun ls hl => (K H locs ls hP hD hS hl))
theorem z_if_eq {E : zEnv} {Γ : zG} {cc : ByteArray} {own : String} {nL : Nat} {rm : Room} {Ts : List Cond} {k n : Nat} {ws : va_W} {lv : List (Nat × Value)} {pc : Nat} {rest : List Value} (C : zC E Γ cc own nL rm Ts) {x : Int32} {α : Type} {off : Int} (tgt : Nat) (ht : (pc : Int) + off = (tgt : Int)) [Decidable (x = 0)] {F1 F2 : Option α} {r : α} (h : (if x = 0 then F1 else F2) = some r) (hd : decode cc pc = .ok (.ifCond .eq off, 3)) (K1 : x = 0 → F1 = some r → Zt E Γ nL k n ws (lv) (tgt) (rest)) (K2 : ¬ x = 0 → F2 = some r → Zt E Γ nL k n ws (lv) (pc + 3) (rest)) : Zt E Γ nL k n ws (lv) (pc) (.int x :: rest) := by
  obtain ⟨p, l, e, R, s, m, args, below, meth, c, A, Q⟩ := Γ
  obtain ⟨hx, hb, hml, hown, hts, hK, hA, hlk, hR, hE, hG⟩ := C
  intro H locs ls hP hD hS hl
  exact lv_if_eq hx hb hd ht (fun q => K1 q ((if_e h).1 q) H locs ls hP hD hS hl) (fun q => K2 q ((if_e h).2 q) H locs ls hP hD hS hl)
theorem z_icmp_eq {E : zEnv} {Γ : zG} {cc : ByteArray} {own : String} {nL : Nat} {rm : Room} {Ts : List Cond} {k n : Nat} {ws : va_W} {lv : List (Nat × Value)} {pc : Nat} {rest : List Value} (C : zC E Γ cc own nL rm Ts) {x y : Int32} {α : Type} {off : Int} (tgt : Nat) (ht : (pc : Int) + off = (tgt : Int)) [Decidable (x = y)] {F1 F2 : Option α} {r : α} (h : (if x = y then F1 else F2) = some r) (hd : decode cc pc = .ok (.if_icmp .eq off, 3)) (K1 : x = y → F1 = some r → Zt E Γ nL k n ws (lv) (tgt) (rest)) (K2 : ¬ x = y → F2 = some r → Zt E Γ nL k n ws (lv) (pc + 3) (rest)) : Zt E Γ nL k n ws (lv) (pc) (.int y :: .int x :: rest) := by
  obtain ⟨p, l, e, R, s, m, args, below, meth, c, A, Q⟩ := Γ
  obtain ⟨hx, hb, hml, hown, hts, hK, hA, hlk, hR, hE, hG⟩ := C
  intro H locs ls hP hD hS hl
  exact lv_icmp_eq hx hb hd ht (fun q => K1 q ((if_e h).1 q) H locs ls hP hD hS hl) (fun q => K2 q ((if_e h).2 q) H locs ls hP hD hS hl)
theorem z_if_ne {E : zEnv} {Γ : zG} {cc : ByteArray} {own : String} {nL : Nat} {rm : Room} {Ts : List Cond} {k n : Nat} {ws : va_W} {lv : List (Nat × Value)} {pc : Nat} {rest : List Value} (C : zC E Γ cc own nL rm Ts) {x : Int32} {α : Type} {off : Int} (tgt : Nat) (ht : (pc : Int) + off = (tgt : Int)) [Decidable (x = 0)] {F1 F2 : Option α} {r : α} (h : (if x = 0 then F1 else F2) = some r) (hd : decode cc pc = .ok (.ifCond .ne off, 3)) (K1 : x = 0 → F1 = some r → Zt E Γ nL k n ws (lv) (pc + 3) (rest)) (K2 : ¬ x = 0 → F2 = some r → Zt E Γ nL k n ws (lv) (tgt) (rest)) : Zt E Γ nL k n ws (lv) (pc) (.int x :: rest) := by
  obtain ⟨p, l, e, R, s, m, args, below, meth, c, A, Q⟩ := Γ
  obtain ⟨hx, hb, hml, hown, hts, hK, hA, hlk, hR, hE, hG⟩ := C
  intro H locs ls hP hD hS hl
  exact lv_if_ne hx hb hd ht (fun q => K2 q ((if_e h).2 q) H locs ls hP hD hS hl) (fun q => K1 q ((if_e h).1 q) H locs ls hP hD hS hl)
theorem z_icmp_ne {E : zEnv} {Γ : zG} {cc : ByteArray} {own : String} {nL : Nat} {rm : Room} {Ts : List Cond} {k n : Nat} {ws : va_W} {lv : List (Nat × Value)} {pc : Nat} {rest : List Value} (C : zC E Γ cc own nL rm Ts) {x y : Int32} {α : Type} {off : Int} (tgt : Nat) (ht : (pc : Int) + off = (tgt : Int)) [Decidable (x = y)] {F1 F2 : Option α} {r : α} (h : (if x = y then F1 else F2) = some r) (hd : decode cc pc = .ok (.if_icmp .ne off, 3)) (K1 : x = y → F1 = some r → Zt E Γ nL k n ws (lv) (pc + 3) (rest)) (K2 : ¬ x = y → F2 = some r → Zt E Γ nL k n ws (lv) (tgt) (rest)) : Zt E Γ nL k n ws (lv) (pc) (.int y :: .int x :: rest) := by
  obtain ⟨p, l, e, R, s, m, args, below, meth, c, A, Q⟩ := Γ
  obtain ⟨hx, hb, hml, hown, hts, hK, hA, hlk, hR, hE, hG⟩ := C
  intro H locs ls hP hD hS hl
  exact lv_icmp_ne hx hb hd ht (fun q => K2 q ((if_e h).2 q) H locs ls hP hD hS hl) (fun q => K1 q ((if_e h).1 q) H locs ls hP hD hS hl)
theorem z_if_lt {E : zEnv} {Γ : zG} {cc : ByteArray} {own : String} {nL : Nat} {rm : Room} {Ts : List Cond} {k n : Nat} {ws : va_W} {lv : List (Nat × Value)} {pc : Nat} {rest : List Value} (C : zC E Γ cc own nL rm Ts) {x : Int32} {α : Type} {off : Int} (tgt : Nat) (ht : (pc : Int) + off = (tgt : Int)) [Decidable (x < 0)] {F1 F2 : Option α} {r : α} (h : (if x < 0 then F1 else F2) = some r) (hd : decode cc pc = .ok (.ifCond .lt off, 3)) (K1 : x < 0 → F1 = some r → Zt E Γ nL k n ws (lv) (tgt) (rest)) (K2 : ¬ x < 0 → F2 = some r → Zt E Γ nL k n ws (lv) (pc + 3) (rest)) : Zt E Γ nL k n ws (lv) (pc) (.int x :: rest) := by
  obtain ⟨p, l, e, R, s, m, args, below, meth, c, A, Q⟩ := Γ
  obtain ⟨hx, hb, hml, hown, hts, hK, hA, hlk, hR, hE, hG⟩ := C
  intro H locs ls hP hD hS hl
  exact lv_if_lt hx hb hd ht (fun q => K1 q ((if_e h).1 q) H locs ls hP hD hS hl) (fun q => K2 q ((if_e h).2 q) H locs ls hP hD hS hl)
theorem z_icmp_lt {E : zEnv} {Γ : zG} {cc : ByteArray} {own : String} {nL : Nat} {rm : Room} {Ts : List Cond} {k n : Nat} {ws : va_W} {lv : List (Nat × Value)} {pc : Nat} {rest : List Value} (C : zC E Γ cc own nL rm Ts) {x y : Int32} {α : Type} {off : Int} (tgt : Nat) (ht : (pc : Int) + off = (tgt : Int)) [Decidable (x < y)] {F1 F2 : Option α} {r : α} (h : (if x < y then F1 else F2) = some r) (hd : decode cc pc = .ok (.if_icmp .lt off, 3)) (K1 : x < y → F1 = some r → Zt E Γ nL k n ws (lv) (tgt) (rest)) (K2 : ¬ x < y → F2 = some r → Zt E Γ nL k n ws (lv) (pc + 3) (rest)) : Zt E Γ nL k n ws (lv) (pc) (.int y :: .int x :: rest) := by
  obtain ⟨p, l, e, R, s, m, args, below, meth, c, A, Q⟩ := Γ
  obtain ⟨hx, hb, hml, hown, hts, hK, hA, hlk, hR, hE, hG⟩ := C
  intro H locs ls hP hD hS hl
  exact lv_icmp_lt hx hb hd ht (fun q => K1 q ((if_e h).1 q) H locs ls hP hD hS hl) (fun q => K2 q ((if_e h).2 q) H locs ls hP hD hS hl)
theorem z_if_ge {E : zEnv} {Γ : zG} {cc : ByteArray} {own : String} {nL : Nat} {rm : Room} {Ts : List Cond} {k n : Nat} {ws : va_W} {lv : List (Nat × Value)} {pc : Nat} {rest : List Value} (C : zC E Γ cc own nL rm Ts) {x : Int32} {α : Type} {off : Int} (tgt : Nat) (ht : (pc : Int) + off = (tgt : Int)) [Decidable (0 ≤ x)] {F1 F2 : Option α} {r : α} (h : (if 0 ≤ x then F1 else F2) = some r) (hd : decode cc pc = .ok (.ifCond .ge off, 3)) (K1 : 0 ≤ x → F1 = some r → Zt E Γ nL k n ws (lv) (tgt) (rest)) (K2 : ¬ 0 ≤ x → F2 = some r → Zt E Γ nL k n ws (lv) (pc + 3) (rest)) : Zt E Γ nL k n ws (lv) (pc) (.int x :: rest) := by
  obtain ⟨p, l, e, R, s, m, args, below, meth, c, A, Q⟩ := Γ
  obtain ⟨hx, hb, hml, hown, hts, hK, hA, hlk, hR, hE, hG⟩ := C
  intro H locs ls hP hD hS hl
  exact lv_if_ge hx hb hd ht (fun q => K1 q ((if_e h).1 q) H locs ls hP hD hS hl) (fun q => K2 q ((if_e h).2 q) H locs ls hP hD hS hl)
theorem z_icmp_ge {E : zEnv} {Γ : zG} {cc : ByteArray} {own : String} {nL : Nat} {rm : Room} {Ts : List Cond} {k n : Nat} {ws : va_W} {lv : List (Nat × Value)} {pc : Nat} {rest : List Value} (C : zC E Γ cc own nL rm Ts) {x y : Int32} {α : Type} {off : Int} (tgt : Nat) (ht : (pc : Int) + off = (tgt : Int)) [Decidable (y ≤ x)] {F1 F2 : Option α} {r : α} (h : (if y ≤ x then F1 else F2) = some r) (hd : decode cc pc = .ok (.if_icmp .ge off, 3)) (K1 : y ≤ x → F1 = some r → Zt E Γ nL k n ws (lv) (tgt) (rest)) (K2 : ¬ y ≤ x → F2 = some r → Zt E Γ nL k n ws (lv) (pc + 3) (rest)) : Zt E Γ nL k n ws (lv) (pc) (.int y :: .int x :: rest) := by
  obtain ⟨p, l, e, R, s, m, args, below, meth, c, A, Q⟩ := Γ
  obtain ⟨hx, hb, hml, hown, hts, hK, hA, hlk, hR, hE, hG⟩ := C
  intro H locs ls hP hD hS hl
  exact lv_icmp_ge hx hb hd ht (fun q => K1 q ((if_e h).1 q) H locs ls hP hD hS hl) (fun q => K2 q ((if_e h).2 q) H locs ls hP hD hS hl)
theorem z_if_gt {E : zEnv} {Γ : zG} {cc : ByteArray} {own : String} {nL : Nat} {rm : Room} {Ts : List Cond} {k n : Nat} {ws : va_W} {lv : List (Nat × Value)} {pc : Nat} {rest : List Value} (C : zC E Γ cc own nL rm Ts) {x : Int32} {α : Type} {off : Int} (tgt : Nat) (ht : (pc : Int) + off = (tgt : Int)) [Decidable (0 < x)] {F1 F2 : Option α} {r : α} (h : (if 0 < x then F1 else F2) = some r) (hd : decode cc pc = .ok (.ifCond .gt off, 3)) (K1 : 0 < x → F1 = some r → Zt E Γ nL k n ws (lv) (tgt) (rest)) (K2 : ¬ 0 < x → F2 = some r → Zt E Γ nL k n ws (lv) (pc + 3) (rest)) : Zt E Γ nL k n ws (lv) (pc) (.int x :: rest) := by
  obtain ⟨p, l, e, R, s, m, args, below, meth, c, A, Q⟩ := Γ
  obtain ⟨hx, hb, hml, hown, hts, hK, hA, hlk, hR, hE, hG⟩ := C
  intro H locs ls hP hD hS hl
  exact lv_if_gt hx hb hd ht (fun q => K1 q ((if_e h).1 q) H locs ls hP hD hS hl) (fun q => K2 q ((if_e h).2 q) H locs ls hP hD hS hl)
theorem z_icmp_gt {E : zEnv} {Γ : zG} {cc : ByteArray} {own : String} {nL : Nat} {rm : Room} {Ts : List Cond} {k n : Nat} {ws : va_W} {lv : List (Nat × Value)} {pc : Nat} {rest : List Value} (C : zC E Γ cc own nL rm Ts) {x y : Int32} {α : Type} {off : Int} (tgt : Nat) (ht : (pc : Int) + off = (tgt : Int)) [Decidable (y < x)] {F1 F2 : Option α} {r : α} (h : (if y < x then F1 else F2) = some r) (hd : decode cc pc = .ok (.if_icmp .gt off, 3)) (K1 : y < x → F1 = some r → Zt E Γ nL k n ws (lv) (tgt) (rest)) (K2 : ¬ y < x → F2 = some r → Zt E Γ nL k n ws (lv) (pc + 3) (rest)) : Zt E Γ nL k n ws (lv) (pc) (.int y :: .int x :: rest) := by
  obtain ⟨p, l, e, R, s, m, args, below, meth, c, A, Q⟩ := Γ
  obtain ⟨hx, hb, hml, hown, hts, hK, hA, hlk, hR, hE, hG⟩ := C
  intro H locs ls hP hD hS hl
  exact lv_icmp_gt hx hb hd ht (fun q => K1 q ((if_e h).1 q) H locs ls hP hD hS hl) (fun q => K2 q ((if_e h).2 q) H locs ls hP hD hS hl)
theorem z_if_le {E : zEnv} {Γ : zG} {cc : ByteArray} {own : String} {nL : Nat} {rm : Room} {Ts : List Cond} {k n : Nat} {ws : va_W} {lv : List (Nat × Value)} {pc : Nat} {rest : List Value} (C : zC E Γ cc own nL rm Ts) {x : Int32} {α : Type} {off : Int} (tgt : Nat) (ht : (pc : Int) + off = (tgt : Int)) [Decidable (x ≤ 0)] {F1 F2 : Option α} {r : α} (h : (if x ≤ 0 then F1 else F2) = some r) (hd : decode cc pc = .ok (.ifCond .le off, 3)) (K1 : x ≤ 0 → F1 = some r → Zt E Γ nL k n ws (lv) (tgt) (rest)) (K2 : ¬ x ≤ 0 → F2 = some r → Zt E Γ nL k n ws (lv) (pc + 3) (rest)) : Zt E Γ nL k n ws (lv) (pc) (.int x :: rest) := by
  obtain ⟨p, l, e, R, s, m, args, below, meth, c, A, Q⟩ := Γ
  obtain ⟨hx, hb, hml, hown, hts, hK, hA, hlk, hR, hE, hG⟩ := C
  intro H locs ls hP hD hS hl
  exact lv_if_le hx hb hd ht (fun q => K1 q ((if_e h).1 q) H locs ls hP hD hS hl) (fun q => K2 q ((if_e h).2 q) H locs ls hP hD hS hl)
theorem z_icmp_le {E : zEnv} {Γ : zG} {cc : ByteArray} {own : String} {nL : Nat} {rm : Room} {Ts : List Cond} {k n : Nat} {ws : va_W} {lv : List (Nat × Value)} {pc : Nat} {rest : List Value} (C : zC E Γ cc own nL rm Ts) {x y : Int32} {α : Type} {off : Int} (tgt : Nat) (ht : (pc : Int) + off = (tgt : Int)) [Decidable (x ≤ y)] {F1 F2 : Option α} {r : α} (h : (if x ≤ y then F1 else F2) = some r) (hd : decode cc pc = .ok (.if_icmp .le off, 3)) (K1 : x ≤ y → F1 = some r → Zt E Γ nL k n ws (lv) (tgt) (rest)) (K2 : ¬ x ≤ y → F2 = some r → Zt E Γ nL k n ws (lv) (pc + 3) (rest)) : Zt E Γ nL k n ws (lv) (pc) (.int y :: .int x :: rest) := by
  obtain ⟨p, l, e, R, s, m, args, below, meth, c, A, Q⟩ := Γ
  obtain ⟨hx, hb, hml, hown, hts, hK, hA, hlk, hR, hE, hG⟩ := C
  intro H locs ls hP hD hS hl
  exact lv_icmp_le hx hb hd ht (fun q => K1 q ((if_e h).1 q) H locs ls hP hD hS hl) (fun q => K2 q ((if_e h).2 q) H locs ls hP hD hS hl)
theorem z_goto {E : zEnv} {Γ : zG} {cc : ByteArray} {own : String} {nL : Nat} {rm : Room} {Ts : List Cond} {k n : Nat} {ws : va_W} {lv : List (Nat × Value)} {pc : Nat} {rest : List Value} (C : zC E Γ cc own nL rm Ts) {off : Int} (tgt : Nat) (ht : (pc : Int) + off = (tgt : Int)) (hd : decode cc pc = .ok (.goto off, 3)) (K : Zt E Γ nL k n ws (lv) (tgt) (rest)) : Zt E Γ nL k n ws (lv) (pc) (rest) := by
  obtain ⟨p, l, e, R, s, m, args, below, meth, c, A, Q⟩ := Γ
  obtain ⟨hx, hb, hml, hown, hts, hK, hA, hlk, hR, hE, hG⟩ := C
  intro H locs ls hP hD hS hl
  exact lv_goto hx hb hd ht (K H locs ls hP hD hS hl)
theorem z_if_eqT {E : zEnv} {Γ : zG} {cc : ByteArray} {own : String} {nL : Nat} {rm : Room} {Ts : List Cond} {k n : Nat} {ws : va_W} {lv : List (Nat × Value)} {pc : Nat} {rest : List Value} (C : zC E Γ cc own nL rm Ts) {x : Int32} {off : Int} (tgt : Nat) (ht : (pc : Int) + off = (tgt : Int)) (hc : x = 0) (hd : decode cc pc = .ok (.ifCond .eq off, 3)) (K : Zt E Γ nL k n ws (lv) (tgt) (rest)) : Zt E Γ nL k n ws (lv) (pc) (.int x :: rest) := by
  obtain ⟨p, l, e, R, s, m, args, below, meth, c, A, Q⟩ := Γ
  obtain ⟨hx, hb, hml, hown, hts, hK, hA, hlk, hR, hE, hG⟩ := C
  intro H locs ls hP hD hS hl
  exact lv_if_eq hx hb hd ht (fun q => K H locs ls hP hD hS hl) (fun q => absurd hc q)
theorem z_if_eqF {E : zEnv} {Γ : zG} {cc : ByteArray} {own : String} {nL : Nat} {rm : Room} {Ts : List Cond} {k n : Nat} {ws : va_W} {lv : List (Nat × Value)} {pc : Nat} {rest : List Value} (C : zC E Γ cc own nL rm Ts) {x : Int32} {off : Int} (tgt : Nat) (ht : (pc : Int) + off = (tgt : Int)) (hc : ¬ (x = 0)) (hd : decode cc pc = .ok (.ifCond .eq off, 3)) (K : Zt E Γ nL k n ws (lv) (pc + 3) (rest)) : Zt E Γ nL k n ws (lv) (pc) (.int x :: rest) := by
  obtain ⟨p, l, e, R, s, m, args, below, meth, c, A, Q⟩ := Γ
  obtain ⟨hx, hb, hml, hown, hts, hK, hA, hlk, hR, hE, hG⟩ := C
  intro H locs ls hP hD hS hl
  exact lv_if_eq hx hb hd ht (fun q => absurd q hc) (fun q => K H locs ls hP hD hS hl)
theorem z_if_neT {E : zEnv} {Γ : zG} {cc : ByteArray} {own : String} {nL : Nat} {rm : Room} {Ts : List Cond} {k n : Nat} {ws : va_W} {lv : List (Nat × Value)} {pc : Nat} {rest : List Value} (C : zC E Γ cc own nL rm Ts) {x : Int32} {off : Int} (tgt : Nat) (ht : (pc : Int) + off = (tgt : Int)) (hc : ¬ (x = 0)) (hd : decode cc pc = .ok (.ifCond .ne off, 3)) (K : Zt E Γ nL k n ws (lv) (tgt) (rest)) : Zt E Γ nL k n ws (lv) (pc) (.int x :: rest) := by
  obtain ⟨p, l, e, R, s, m, args, below, meth, c, A, Q⟩ := Γ
  obtain ⟨hx, hb, hml, hown, hts, hK, hA, hlk, hR, hE, hG⟩ := C
  intro H locs ls hP hD hS hl
  exact lv_if_ne hx hb hd ht (fun q => K H locs ls hP hD hS hl) (fun q => absurd q hc)
theorem z_if_neF {E : zEnv} {Γ : zG} {cc : ByteArray} {own : String} {nL : Nat} {rm : Room} {Ts : List Cond} {k n : Nat} {ws : va_W} {lv : List (Nat × Value)} {pc : Nat} {rest : List Value} (C : zC E Γ cc own nL rm Ts) {x : Int32} {off : Int} (tgt : Nat) (ht : (pc : Int) + off = (tgt : Int)) (hc : x = 0) (hd : decode cc pc = .ok (.ifCond .ne off, 3)) (K : Zt E Γ nL k n ws (lv) (pc + 3) (rest)) : Zt E Γ nL k n ws (lv) (pc) (.int x :: rest) := by
  obtain ⟨p, l, e, R, s, m, args, below, meth, c, A, Q⟩ := Γ
  obtain ⟨hx, hb, hml, hown, hts, hK, hA, hlk, hR, hE, hG⟩ := C
  intro H locs ls hP hD hS hl
  exact lv_if_ne hx hb hd ht (fun q => absurd hc q) (fun q => K H locs ls hP hD hS hl)
theorem z_if_ltT {E : zEnv} {Γ : zG} {cc : ByteArray} {own : String} {nL : Nat} {rm : Room} {Ts : List Cond} {k n : Nat} {ws : va_W} {lv : List (Nat × Value)} {pc : Nat} {rest : List Value} (C : zC E Γ cc own nL rm Ts) {x : Int32} {off : Int} (tgt : Nat) (ht : (pc : Int) + off = (tgt : Int)) (hc : x < 0) (hd : decode cc pc = .ok (.ifCond .lt off, 3)) (K : Zt E Γ nL k n ws (lv) (tgt) (rest)) : Zt E Γ nL k n ws (lv) (pc) (.int x :: rest) := by
  obtain ⟨p, l, e, R, s, m, args, below, meth, c, A, Q⟩ := Γ
  obtain ⟨hx, hb, hml, hown, hts, hK, hA, hlk, hR, hE, hG⟩ := C
  intro H locs ls hP hD hS hl
  exact lv_if_lt hx hb hd ht (fun q => K H locs ls hP hD hS hl) (fun q => absurd hc q)
theorem z_if_ltF {E : zEnv} {Γ : zG} {cc : ByteArray} {own : String} {nL : Nat} {rm : Room} {Ts : List Cond} {k n : Nat} {ws : va_W} {lv : List (Nat × Value)} {pc : Nat} {rest : List Value} (C : zC E Γ cc own nL rm Ts) {x : Int32} {off : Int} (tgt : Nat) (ht : (pc : Int) + off = (tgt : Int)) (hc : ¬ (x < 0)) (hd : decode cc pc = .ok (.ifCond .lt off, 3)) (K : Zt E Γ nL k n ws (lv) (pc + 3) (rest)) : Zt E Γ nL k n ws (lv) (pc) (.int x :: rest) := by
  obtain ⟨p, l, e, R, s, m, args, below, meth, c, A, Q⟩ := Γ
  obtain ⟨hx, hb, hml, hown, hts, hK, hA, hlk, hR, hE, hG⟩ := C
  intro H locs ls hP hD hS hl
  exact lv_if_lt hx hb hd ht (fun q => absurd q hc) (fun q => K H locs ls hP hD hS hl)
theorem z_if_geT {E : zEnv} {Γ : zG} {cc : ByteArray} {own : String} {nL : Nat} {rm : Room} {Ts : List Cond} {k n : Nat} {ws : va_W} {lv : List (Nat × Value)} {pc : Nat} {rest : List Value} (C : zC E Γ cc own nL rm Ts) {x : Int32} {off : Int} (tgt : Nat) (ht : (pc : Int) + off = (tgt : Int)) (hc : 0 ≤ x) (hd : decode cc pc = .ok (.ifCond .ge off, 3)) (K : Zt E Γ nL k n ws (lv) (tgt) (rest)) : Zt E Γ nL k n ws (lv) (pc) (.int x :: rest) := by
  obtain ⟨p, l, e, R, s, m, args, below, meth, c, A, Q⟩ := Γ
  obtain ⟨hx, hb, hml, hown, hts, hK, hA, hlk, hR, hE, hG⟩ := C
  intro H locs ls hP hD hS hl
  exact lv_if_ge hx hb hd ht (fun q => K H locs ls hP hD hS hl) (fun q => absurd hc q)
theorem z_if_geF {E : zEnv} {Γ : zG} {cc : ByteArray} {own : String} {nL : Nat} {rm : Room} {Ts : List Cond} {k n : Nat} {ws : va_W} {lv : List (Nat × Value)} {pc : Nat} {rest : List Value} (C : zC E Γ cc own nL rm Ts) {x : Int32} {off : Int} (tgt : Nat) (ht : (pc : Int) + off = (tgt : Int)) (hc : ¬ (0 ≤ x)) (hd : decode cc pc = .ok (.ifCond .ge off, 3)) (K : Zt E Γ nL k n ws (lv) (pc + 3) (rest)) : Zt E Γ nL k n ws (lv) (pc) (.int x :: rest) := by
  obtain ⟨p, l, e, R, s, m, args, below, meth, c, A, Q⟩ := Γ
  obtain ⟨hx, hb, hml, hown, hts, hK, hA, hlk, hR, hE, hG⟩ := C
  intro H locs ls hP hD hS hl
  exact lv_if_ge hx hb hd ht (fun q => absurd q hc) (fun q => K H locs ls hP hD hS hl)
theorem z_if_gtT {E : zEnv} {Γ : zG} {cc : ByteArray} {own : String} {nL : Nat} {rm : Room} {Ts : List Cond} {k n : Nat} {ws : va_W} {lv : List (Nat × Value)} {pc : Nat} {rest : List Value} (C : zC E Γ cc own nL rm Ts) {x : Int32} {off : Int} (tgt : Nat) (ht : (pc : Int) + off = (tgt : Int)) (hc : 0 < x) (hd : decode cc pc = .ok (.ifCond .gt off, 3)) (K : Zt E Γ nL k n ws (lv) (tgt) (rest)) : Zt E Γ nL k n ws (lv) (pc) (.int x :: rest) := by
  obtain ⟨p, l, e, R, s, m, args, below, meth, c, A, Q⟩ := Γ
  obtain ⟨hx, hb, hml, hown, hts, hK, hA, hlk, hR, hE, hG⟩ := C
  intro H locs ls hP hD hS hl
  exact lv_if_gt hx hb hd ht (fun q => K H locs ls hP hD hS hl) (fun q => absurd hc q)
theorem z_if_gtF {E : zEnv} {Γ : zG} {cc : ByteArray} {own : String} {nL : Nat} {rm : Room} {Ts : List Cond} {k n : Nat} {ws : va_W} {lv : List (Nat × Value)} {pc : Nat} {rest : List Value} (C : zC E Γ cc own nL rm Ts) {x : Int32} {off : Int} (tgt : Nat) (ht : (pc : Int) + off = (tgt : Int)) (hc : ¬ (0 < x)) (hd : decode cc pc = .ok (.ifCond .gt off, 3)) (K : Zt E Γ nL k n ws (lv) (pc + 3) (rest)) : Zt E Γ nL k n ws (lv) (pc) (.int x :: rest) := by
  obtain ⟨p, l, e, R, s, m, args, below, meth, c, A, Q⟩ := Γ
  obtain ⟨hx, hb, hml, hown, hts, hK, hA, hlk, hR, hE, hG⟩ := C
  intro H locs ls hP hD hS hl
  exact lv_if_gt hx hb hd ht (fun q => absurd q hc) (fun q => K H locs ls hP hD hS hl)
theorem z_if_leT {E : zEnv} {Γ : zG} {cc : ByteArray} {own : String} {nL : Nat} {rm : Room} {Ts : List Cond} {k n : Nat} {ws : va_W} {lv : List (Nat × Value)} {pc : Nat} {rest : List Value} (C : zC E Γ cc own nL rm Ts) {x : Int32} {off : Int} (tgt : Nat) (ht : (pc : Int) + off = (tgt : Int)) (hc : x ≤ 0) (hd : decode cc pc = .ok (.ifCond .le off, 3)) (K : Zt E Γ nL k n ws (lv) (tgt) (rest)) : Zt E Γ nL k n ws (lv) (pc) (.int x :: rest) := by
  obtain ⟨p, l, e, R, s, m, args, below, meth, c, A, Q⟩ := Γ
  obtain ⟨hx, hb, hml, hown, hts, hK, hA, hlk, hR, hE, hG⟩ := C
  intro H locs ls hP hD hS hl
  exact lv_if_le hx hb hd ht (fun q => K H locs ls hP hD hS hl) (fun q => absurd hc q)
theorem z_if_leF {E : zEnv} {Γ : zG} {cc : ByteArray} {own : String} {nL : Nat} {rm : Room} {Ts : List Cond} {k n : Nat} {ws : va_W} {lv : List (Nat × Value)} {pc : Nat} {rest : List Value} (C : zC E Γ cc own nL rm Ts) {x : Int32} {off : Int} (tgt : Nat) (ht : (pc : Int) + off = (tgt : Int)) (hc : ¬ (x ≤ 0)) (hd : decode cc pc = .ok (.ifCond .le off, 3)) (K : Zt E Γ nL k n ws (lv) (pc + 3) (rest)) : Zt E Γ nL k n ws (lv) (pc) (.int x :: rest) := by
  obtain ⟨p, l, e, R, s, m, args, below, meth, c, A, Q⟩ := Γ
  obtain ⟨hx, hb, hml, hown, hts, hK, hA, hlk, hR, hE, hG⟩ := C
  intro H locs ls hP hD hS hl
  exact lv_if_le hx hb hd ht (fun q => absurd q hc) (fun q => K H locs ls hP hD hS hl)
theorem z_get {E : zEnv} {Γ : zG} {cc : ByteArray} {own : String} {nL : Nat} {rm : Room} {Ts : List Cond} {k n : Nat} {ws : va_W} {lv : List (Nat × Value)} {pc : Nat} {rest : List Value} {a : Nat} {ref C : String} {T : u_T} {N ci index : Nat} (C0 : zC E Γ cc own nL rm Ts) (q0 : Nat) {fs : List Value} (he : ws[q0]? = some (a, .inr (ci, fs))) (hc : vwCl[ci]? = some (C, T, N)) (hin : ∀ w ∈ u_ws C T N, w ∈ Ts) (kf : Nat) (hk : kf < N) (hl : Cond.fieldLink own index ref (T kf).2.1 (T kf).2.2.1 ∈ Ts) (hr : (T kf).1 = ref) {v : Value} (hv : fs[kf]? = some v) (hd : decode cc pc = .ok (.getfield index, 3)) (K : Zt E Γ nL k n ws (lv) (pc + 3) (v :: rest)) : Zt E Γ nL k n ws (lv) (pc) (.ref a :: rest) := by
  obtain ⟨p, l, e, R, s, m, args, below, meth, c, A, Q⟩ := Γ
  obtain ⟨hx, hb, hml, hown, hts, hK, hA, hlk, hR, hE, hG⟩ := C0
  intro H locs ls hP hD hS hll
  exact va_get (ref := ref) hx hb hts hin hown hK hP q0 he hc kf hk (hts _ hl) (fun x h => by rw [← hr]; exact h) hv hd (K H locs ls hP hD hS hll)
theorem z_put {E : zEnv} {Γ : zG} {cc : ByteArray} {own : String} {nL : Nat} {rm : Room} {Ts : List Cond} {k n : Nat} {ws : va_W} {lv : List (Nat × Value)} {pc : Nat} {rest : List Value} {a : Nat} {ref C : String} {T : u_T} {N ci index : Nat} (C0 : zC E Γ cc own nL rm Ts) (q0 : Nat) {fs : List Value} (he : ws[q0]? = some (a, .inr (ci, fs))) (hc : vwCl[ci]? = some (C, T, N)) (hin : ∀ w ∈ u_ws C T N, w ∈ Ts) (ty0 : Nat → FieldType) (hty : ∀ k, k < N → parseFieldDescriptor (T k).2.2.1 = some (ty0 k)) (hnm : ∀ a, a < N → ∀ b, b < N → a ≠ b → (T a).2.1 ≠ (T b).2.1) (kf : Nat) (hk : kf < N) (hl : Cond.fieldLink own index ref (T kf).2.1 (T kf).2.2.1 ∈ Ts) (hr : (T kf).1 = ref) (hfin : (T kf).2.2.2 = false) {ty : FieldType} {v : Value} (hpd : parseFieldDescriptor (T kf).2.2.1 = some ty) (hn : narrow ty v = v) (hfit : fits ty v = true) (hlen : kf < fs.length) (ws' : va_W) (hw : ws' = ws.set q0 (a, .inr (ci, fs.set kf v))) (hd : decode cc pc = .ok (.putfield index, 3)) (K : Zt E Γ nL k n ws' (lv) (pc + 3) (rest)) : Zt E Γ nL k n ws (lv) (pc) (v :: .ref a :: rest) := by
  obtain ⟨p, l, e, R, s, m, args, below, meth, c, A, Q⟩ := Γ
  obtain ⟨hx, hb, hml, hown, hts, hK, hA, hlk, hR, hE, hG⟩ := C0
  intro H locs ls hP hD hS hll
  subst hw
  exact va_put (ref := ref) hx hb hts hin ty0 hty hnm hown hK hP hD hS q0 he hc kf hk (hts _ hl) (fun x h => by rw [← hr]; exact h) hfin hpd hn hfit hlen hd (fun H1 locs1 hP hD hS => K H1 locs1 ls hP hD hS hll)
theorem z_iald {E : zEnv} {Γ : zG} {cc : ByteArray} {own : String} {nL : Nat} {rm : Room} {Ts : List Cond} {k n : Nat} {ws : va_W} {lv : List (Nat × Value)} {pc : Nat} {rest : List Value} (C : zC E Γ cc own nL rm Ts) {a N : Nat} {f : Nat → Int32} {i : Int32} {α : Type} {X : Option α} {r : α} (q0 : Nat) (ha : ws[q0]? = some (a, .inl (zI E, N, .inl f))) (h : ix i N X = some r) (hd : decode cc pc = .ok (.iaload, 1)) (K : X = some r → Zt E Γ nL k n ws (lv) (pc + 1) (.int (f i.toNatClampNeg) :: rest)) : Zt E Γ nL k n ws (lv) (pc) (.int i :: .ref a :: rest) := by
  obtain ⟨p, l, e, R, s, m, args, below, meth, c, A, Q⟩ := Γ
  obtain ⟨hx, hb, hml, hown, hts, hK, hA, hlk, hR, hE, hG⟩ := C
  intro H locs ls hP hD hS hl
  exact va_iald hx hb hK hP q0 0 ha rfl (ix_e h).1 hd (K (ix_e h).2 H locs ls hP hD hS hl)
theorem z_zald {E : zEnv} {Γ : zG} {cc : ByteArray} {own : String} {nL : Nat} {rm : Room} {Ts : List Cond} {k n : Nat} {ws : va_W} {lv : List (Nat × Value)} {pc : Nat} {rest : List Value} (C : zC E Γ cc own nL rm Ts) {a N : Nat} {f : Nat → Int32} {i : Int32} {α : Type} {X : Option α} {r : α} (q0 : Nat) (ha : ws[q0]? = some (a, .inl (zZ E, N, .inl f))) (h : ix i N X = some r) (hd : decode cc pc = .ok (.baload, 1)) (K : X = some r → Zt E Γ nL k n ws (lv) (pc + 1) (.int (f i.toNatClampNeg) :: rest)) : Zt E Γ nL k n ws (lv) (pc) (.int i :: .ref a :: rest) := by
  obtain ⟨p, l, e, R, s, m, args, below, meth, c, A, Q⟩ := Γ
  obtain ⟨hx, hb, hml, hown, hts, hK, hA, hlk, hR, hE, hG⟩ := C
  intro H locs ls hP hD hS hl
  exact va_zald hx hb hK hP q0 1 ha rfl (ix_e h).1 hd (K (ix_e h).2 H locs ls hP hD hS hl)
theorem z_iast {E : zEnv} {Γ : zG} {cc : ByteArray} {own : String} {nL : Nat} {rm : Room} {Ts : List Cond} {k n : Nat} {ws : va_W} {lv : List (Nat × Value)} {pc : Nat} {rest : List Value} (C : zC E Γ cc own nL rm Ts) {a N : Nat} {f : Nat → Int32} {i x : Int32} {α : Type} {X : Option α} {r : α} (q0 : Nat) (ha : ws[q0]? = some (a, .inl (zI E, N, .inl f))) (h : ix i N X = some r) (ws' : va_W) (hw : ws' = ws.set q0 (a, .inl (zI E, N, .inl (upd f i.toNatClampNeg (x))))) (hd : decode cc pc = .ok (.iastore, 1)) (K : X = some r → Zt E Γ nL k n ws' (lv) (pc + 1) (rest)) : Zt E Γ nL k n ws (lv) (pc) (.int x :: .int i :: .ref a :: rest) := by
  obtain ⟨p, l, e, R, s, m, args, below, meth, c, A, Q⟩ := Γ
  obtain ⟨hx, hb, hml, hown, hts, hK, hA, hlk, hR, hE, hG⟩ := C
  intro H locs ls hP hD hS hl
  exact va_iast hx hb hK hP hD hS q0 0 ha rfl (ix_e h).1 hd (fun H1 locs1 hP hD hS => by subst hw; exact K (ix_e h).2 H1 locs1 ls hP hD hS hl)
theorem z_zast {E : zEnv} {Γ : zG} {cc : ByteArray} {own : String} {nL : Nat} {rm : Room} {Ts : List Cond} {k n : Nat} {ws : va_W} {lv : List (Nat × Value)} {pc : Nat} {rest : List Value} (C : zC E Γ cc own nL rm Ts) {a N : Nat} {f : Nat → Int32} {i x : Int32} {α : Type} {X : Option α} {r : α} (q0 : Nat) (ha : ws[q0]? = some (a, .inl (zZ E, N, .inl f))) (h : ix i N X = some r) (ws' : va_W) (hw : ws' = ws.set q0 (a, .inl (zZ E, N, .inl (upd f i.toNatClampNeg (vp_nar .boolean x))))) (hd : decode cc pc = .ok (.bastore, 1)) (K : X = some r → Zt E Γ nL k n ws' (lv) (pc + 1) (rest)) : Zt E Γ nL k n ws (lv) (pc) (.int x :: .int i :: .ref a :: rest) := by
  obtain ⟨p, l, e, R, s, m, args, below, meth, c, A, Q⟩ := Γ
  obtain ⟨hx, hb, hml, hown, hts, hK, hA, hlk, hR, hE, hG⟩ := C
  intro H locs ls hP hD hS hl
  exact va_zast hx hb hK hP hD hS q0 1 ha rfl (ix_e h).1 hd (fun H1 locs1 hP hD hS => by subst hw; exact K (ix_e h).2 H1 locs1 ls hP hD hS hl)
theorem z_alen {E : zEnv} {Γ : zG} {cc : ByteArray} {own : String} {nL : Nat} {rm : Room} {Ts : List Cond} {k n : Nat} {ws : va_W} {lv : List (Nat × Value)} {pc : Nat} {rest : List Value} {a : Nat} {cA : ClassId} {x : vp_A} (C : zC E Γ cc own nL rm Ts) (q0 t0 : Nat) (ha : ws[q0]? = some (a, .inl (cA, x))) {ty : FieldType} (ht : (zTys E)[t0]? = some (cA, ty)) {v : Int32} (hv : Int32.ofNat x.1 = v) (hd : decode cc pc = .ok (.arraylength, 1)) (K : Zt E Γ nL k n ws (lv) (pc + 1) (.int v :: rest)) : Zt E Γ nL k n ws (lv) (pc) (.ref a :: rest) := by
  obtain ⟨p, l, e, R, s, m, args, below, meth, c, A, Q⟩ := Γ
  obtain ⟨hx, hb, hml, hown, hts, hK, hA, hlk, hR, hE, hG⟩ := C
  intro H locs ls hP hD hS hl
  exact va_alen hx hb hK hP q0 t0 ha ht hv hd (K H locs ls hP hD hS hl)
theorem z_aldq {E : zEnv} {Γ : zG} {cc : ByteArray} {own : String} {nL : Nat} {rm : Room} {Ts : List Cond} {k n : Nat} {ws : va_W} {lv : List (Nat × Value)} {pc : Nat} {rest : List Value} {a N : Nat} {f : Nat → Option Nat} {i : Int32} {C9 : String} {cA : ClassId} (C : zC E Γ cc own nL rm Ts) (q0 t0 : Nat) (ha : ws[q0]? = some (a, .inl (cA, N, .inr (.inr (.inr (.inr f)))))) (ht : (zTys E)[t0]? = some (cA, .object C9)) (hin : vp_in i N) {v : Value} (hv : va_rf (f i.toNatClampNeg) = v) (hd : decode cc pc = .ok (.aaload, 1)) (K : Zt E Γ nL k n ws (lv) (pc + 1) (v :: rest)) : Zt E Γ nL k n ws (lv) (pc) (.int i :: .ref a :: rest) := by
  obtain ⟨p, l, e, R, s, m, args, below, meth, c, A, Q⟩ := Γ
  obtain ⟨hx, hb, hml, hown, hts, hK, hA, hlk, hR, hE, hG⟩ := C
  intro H locs ls hP hD hS hl
  subst hv
  exact va_aldq hx hb hK hP q0 t0 ha ht hin hd (K H locs ls hP hD hS hl)
theorem z_aldrT {E : zEnv} {Γ : zG} {cc : ByteArray} {own : String} {nL : Nat} {rm : Room} {Ts : List Cond} {k n : Nat} {ws : va_W} {lv : List (Nat × Value)} {pc : Nat} {rest : List Value} {a N : Nat} {f : Nat → Option Nat} {i : Int32} (C : zC E Γ cc own nL rm Ts) (q0 : Nat) (ha : ws[q0]? = some (a, .inl (zT E, N, .inr (.inr (.inr (.inr f)))))) (hin : vp_in i N) {v : Value} (hv : va_rf (f i.toNatClampNeg) = v) (hd : decode cc pc = .ok (.aaload, 1)) (K : Zt E Γ nL k n ws (lv) (pc + 1) (v :: rest)) : Zt E Γ nL k n ws (lv) (pc) (.int i :: .ref a :: rest) :=
  z_aldq C q0 2 ha rfl hin hv hd K
theorem z_aldrII {E : zEnv} {Γ : zG} {cc : ByteArray} {own : String} {nL : Nat} {rm : Room} {Ts : List Cond} {k n : Nat} {ws : va_W} {lv : List (Nat × Value)} {pc : Nat} {rest : List Value} {a N : Nat} {f : Nat → Option Nat} {i : Int32} (C : zC E Γ cc own nL rm Ts) (q0 : Nat) (ha : ws[q0]? = some (a, .inl (zII E, N, .inr (.inr (.inr (.inr f)))))) (hin : vp_in i N) {v : Value} (hv : va_rf (f i.toNatClampNeg) = v) (hd : decode cc pc = .ok (.aaload, 1)) (K : Zt E Γ nL k n ws (lv) (pc + 1) (v :: rest)) : Zt E Γ nL k n ws (lv) (pc) (.int i :: .ref a :: rest) := by
  obtain ⟨p, l, e, R, s, m, args, below, meth, c, A, Q⟩ := Γ
  obtain ⟨hx, hb, hml, hown, hts, hK, hA, hlk, hR, hE, hG⟩ := C
  intro H locs ls hP hD hS hl
  subst hv
  have hlt : i.toNatClampNeg < N := Nat.not_le.mp fun q => hin (Or.inr q)
  exact W.aald (v := va_rf (f i.toNatClampNeg)) (ty := .array .int) hx hb (hP q0 _ ha) ((hK.2 3 (zII E, .array .int) rfl).1 N (fun j => va_rf (f j))) rfl (fun q => by cases q) (by show ¬ (i < 0 ∨ (arrV _ _ _).slots.size ≤ _); rw [arrV_size]; exact hin) (by show (arrV _ _ _).slots[_]? = _; rw [arrV_read _ _ hlt]) rfl rfl hd (K H locs ls hP hD hS hl)
theorem z_max {E : zEnv} {Γ : zG} {cc : ByteArray} {own : String} {nL : Nat} {rm : Room} {Ts : List Cond} {k n : Nat} {ws : va_W} {lv : List (Nat × Value)} {pc : Nat} {rest : List Value} {x y : Int32} {index : Nat} (C : zC E Γ cc own nL rm Ts) (h1 : Cond.methodLink own index Lib.Math.max.name ∈ Ts) (h2 : Cond.static Lib.Math.max.name ∈ Ts) (h3 : Cond.initialized "java/lang/Math" ∈ Ts) (h4 : Cond.code Lib.Math.max.name Lib.Math.max.code 2 (some .int) ∈ Ts) (hf : 1 ≤ rm.frames) (hlo : (rest.map fun v => v.category).sum + 13 ≤ rm.locals) (hkc : k ≤ rm.cells) (hkn : n ≤ rm.slots) (hd : decode cc pc = .ok (.invokestatic index, 3)) (K : Zt E Γ nL k n ws (lv) (pc + 3) (.int (zmax x y) :: rest)) : Zt E Γ nL k n ws (lv) (pc) (.int y :: .int x :: rest) := by
  obtain ⟨p, l, e, R, s, m, args, below, meth, c, A, Q⟩ := Γ
  obtain ⟨hx, hb, hml, hown, hts, hK, hA, hlk, hR, hE, hG⟩ := C
  intro H locs ls hP hD hS hl
  subst hR
  exact va_mmax hx hb (hml.trans hl.1.symm) hown (hts _ h1) (hts _ h2) (hts _ h3) (hts _ h4) hf hlo hkc hkn hd (K H locs ls hP hD hS hl)
theorem z_min {E : zEnv} {Γ : zG} {cc : ByteArray} {own : String} {nL : Nat} {rm : Room} {Ts : List Cond} {k n : Nat} {ws : va_W} {lv : List (Nat × Value)} {pc : Nat} {rest : List Value} {x y : Int32} {index : Nat} (C : zC E Γ cc own nL rm Ts) (h1 : Cond.methodLink own index Lib.Math.min.name ∈ Ts) (h2 : Cond.static Lib.Math.min.name ∈ Ts) (h3 : Cond.initialized "java/lang/Math" ∈ Ts) (h4 : Cond.code Lib.Math.min.name Lib.Math.min.code 2 (some .int) ∈ Ts) (hf : 1 ≤ rm.frames) (hlo : (rest.map fun v => v.category).sum + 13 ≤ rm.locals) (hkc : k ≤ rm.cells) (hkn : n ≤ rm.slots) (hd : decode cc pc = .ok (.invokestatic index, 3)) (K : Zt E Γ nL k n ws (lv) (pc + 3) (.int (zmin x y) :: rest)) : Zt E Γ nL k n ws (lv) (pc) (.int y :: .int x :: rest) := by
  obtain ⟨p, l, e, R, s, m, args, below, meth, c, A, Q⟩ := Γ
  obtain ⟨hx, hb, hml, hown, hts, hK, hA, hlk, hR, hE, hG⟩ := C
  intro H locs ls hP hD hS hl
  subst hR
  exact va_mmin hx hb (hml.trans hl.1.symm) hown (hts _ h1) (hts _ h2) (hts _ h3) (hts _ h4) hf hlo hkc hkn hd (K H locs ls hP hD hS hl)
theorem z_copy {E : zEnv} {Γ : zG} {cc : ByteArray} {own : String} {nL : Nat} {rm : Room} {Ts : List Cond} {k n : Nat} {ws : va_W} {lv : List (Nat × Value)} {pc : Nat} {rest : List Value} {a a0 n0 n1 : Nat} {f g : Nat → Int32} {sp dp nn : Int32} {index : Nat} (C : zC E Γ cc own nL rm Ts) (g1 : Cond.methodLink own index arraycopyName ∈ Ts) (g2 : Cond.native arraycopyName ∈ Ts) (g3 : Cond.static arraycopyName ∈ Ts) (g4 : Cond.initialized "java/lang/System" ∈ Ts) (q0 q1 : Nat) (ha0 : ws[q0]? = some (a0, .inl (zI E, n0, .inl f))) (ha1 : ws[q1]? = some (a, .inl (zI E, n1, .inl g))) (h1 : ¬ sp < 0) (h2 : ¬ dp < 0) (h3 : ¬ nn < 0) (h4 : sp.toNatClampNeg + nn.toNatClampNeg ≤ n0) (h5 : dp.toNatClampNeg + nn.toNatClampNeg ≤ n1) (hf : 1 ≤ rm.frames) (hlo : (rest.map fun v => v.category).sum + (nativeFrameWords "java/lang/System" "arraycopy" 5 + 11) ≤ rm.locals) (ws' : va_W) (hw : ws' = ws.set q1 (a, .inl (zI E, n1, .inl (va_cpy f g sp.toNatClampNeg dp.toNatClampNeg nn.toNatClampNeg)))) (hd : decode cc pc = .ok (.invokestatic index, 3)) (K : Zt E Γ nL k n ws' (lv) (pc + 3) (rest)) : Zt E Γ nL k n ws (lv) (pc) (.int nn :: .int dp :: .ref a :: .int sp :: .ref a0 :: rest) := by
  obtain ⟨p, l, e, R, s, m, args, below, meth, c, A, Q⟩ := Γ
  obtain ⟨hx, hb, hml, hown, hts, hK, hA, hlk, hR, hE, hG⟩ := C
  intro H locs ls hP hD hS hl
  subst hR
  subst hw
  exact va_copyi hx hb (hml.trans hl.1.symm) hown (hts _ g1) (hts _ g2) (hts _ g3) (hts _ g4) hK hP hD hS q0 q1 0 0 ha0 ha1 rfl rfl rfl h1 h2 h3 h4 h5 (fun _ _ => rfl) hf hlo hd (fun H1 locs1 hP hD hS => K H1 locs1 ls hP hD hS hl)
theorem z_tableOut {E : zEnv} {Γ : zG} {cc : ByteArray} {own : String} {nL : Nat} {rm : Room} {Ts : List Cond} {k n : Nat} {ws : va_W} {lv : List (Nat × Value)} {pc : Nat} {rest : List Value} {dflt lo hi : Int} {offs : Array Int} {len : Nat} {x : Int32} (C : zC E Γ cc own nL rm Ts) (tgt : Nat) (h : x.toInt < lo ∨ hi < x.toInt) (ht : (pc : Int) + dflt = (tgt : Int)) (hd : decode cc pc = .ok (.tableswitch dflt lo hi offs, len)) (K : Zt E Γ nL k n ws (lv) (tgt) (rest)) : Zt E Γ nL k n ws (lv) (pc) (.int x :: rest) := by
  obtain ⟨p, l, e, R, s, m, args, below, meth, c, A, Q⟩ := Γ
  obtain ⟨hx, hb, hml, hown, hts, hK, hA, hlk, hR, hE, hG⟩ := C
  intro H locs ls hP hD hS hl
  exact lv_tableOut hx hb hd h ht (K H locs ls hP hD hS hl)
theorem z_tableIn {E : zEnv} {Γ : zG} {cc : ByteArray} {own : String} {nL : Nat} {rm : Room} {Ts : List Cond} {k n : Nat} {ws : va_W} {lv : List (Nat × Value)} {pc : Nat} {rest : List Value} {dflt lo hi : Int} {offs : Array Int} {len : Nat} {x : Int32} {off : Int} (C : zC E Γ cc own nL rm Ts) (tgt : Nat) (h1 : ¬ x.toInt < lo) (h2 : ¬ hi < x.toInt) (ho : offs[(x.toInt - lo).toNat]? = some off) (ht : (pc : Int) + off = (tgt : Int)) (hd : decode cc pc = .ok (.tableswitch dflt lo hi offs, len)) (K : Zt E Γ nL k n ws (lv) (tgt) (rest)) : Zt E Γ nL k n ws (lv) (pc) (.int x :: rest) := by
  obtain ⟨p, l, e, R, s, m, args, below, meth, c, A, Q⟩ := Γ
  obtain ⟨hx, hb, hml, hown, hts, hK, hA, hlk, hR, hE, hG⟩ := C
  intro H locs ls hP hD hS hl
  exact lv_tableIn hx hb hd h1 h2 ho ht (K H locs ls hP hD hS hl)
theorem z_lookup {E : zEnv} {Γ : zG} {cc : ByteArray} {own : String} {nL : Nat} {rm : Room} {Ts : List Cond} {k n : Nat} {ws : va_W} {lv : List (Nat × Value)} {pc : Nat} {rest : List Value} {dflt : Int} {ps : Array (Int × Int)} {len : Nat} {x : Int32} {off : Int} (C : zC E Γ cc own nL rm Ts) (tgt : Nat) (hp : (ps.toList.zip (ps.toList.drop 1)).all (fun (a, next) => a.1 < next.1) = true) (ho : Op.lookupswitch.offset ps.toList dflt x.toInt = off) (ht : (pc : Int) + off = (tgt : Int)) (hd : decode cc pc = .ok (.lookupswitch dflt ps, len)) (K : Zt E Γ nL k n ws (lv) (tgt) (rest)) : Zt E Γ nL k n ws (lv) (pc) (.int x :: rest) := by
  obtain ⟨p, l, e, R, s, m, args, below, meth, c, A, Q⟩ := Γ
  obtain ⟨hx, hb, hml, hown, hts, hK, hA, hlk, hR, hE, hG⟩ := C
  intro H locs ls hP hD hS hl
  exact lv_lookup hx hb hd hp ho ht (K H locs ls hP hD hS hl)
end ZROWS
-- a callee's cells among the caller's: what came back is laid in their places
def zrep : List Nat → va_W → va_W → va_W
  | i :: is, x :: xs, ws => zrep is xs (ws.set i x)
  | [], _, ws => ws
  | _ :: _, [], ws => ws
theorem zrep_len : ∀ (is : List Nat) (xs ws : va_W), (zrep is xs ws).length = ws.length
  | [], _, _ => rfl
  | _ :: _, [], _ => rfl
  | i :: is, x :: xs, ws => by
    show (zrep is xs (ws.set i x)).length = ws.length
    rw [zrep_len is xs, List.length_set]
theorem zrep_out : ∀ (is : List Nat) (xs ws : va_W) (j : Nat), j ∉ is → (zrep is xs ws)[j]? = ws[j]?
  | [], _, _, _, _ => rfl
  | _ :: _, [], _, _, _ => rfl
  | i :: is, x :: xs, ws, j, h => by
    show (zrep is xs (ws.set i x))[j]? = ws[j]?
    rw [zrep_out is xs _ j (fun q => h (List.mem_cons_of_mem _ q)), List.getElem?_set_ne (fun e => h (by rw [← e]; exact List.mem_cons_self))]
theorem zrep_in : ∀ (is : List Nat) (xs ws : va_W), va_nd is = true → is.length = xs.length → ∀ (k j : Nat), is[k]? = some j → j < ws.length → (zrep is xs ws)[j]? = xs[k]?
  | [], _, _, _, _, k, j, h, _ => by simp at h
  | i :: is, [], _, _, hl, _, _, _, _ => by simp at hl
  | i :: is, x :: xs, ws, hn, hl, k, j, h, hj => by
    have hn2 : i ∉ is ∧ va_nd is = true := by
      simpa [va_nd] using hn
    show (zrep is xs (ws.set i x))[j]? = (x :: xs)[k]?
    cases k with
    | zero =>
      have e : i = j := by simpa using h
      subst e
      rw [zrep_out is xs _ i hn2.1]
      simp [hj]
    | succ k =>
      have h2 : is[k]? = some j := by simpa using h
      rw [zrep_in is xs _ hn2.2 (by simpa using hl) k j h2 (by rw [List.length_set]; exact hj)]
      simp
theorem zset_self {α : Type} : ∀ (l : List α) (i : Nat) (x : α), l[i]? = some x → l.set i x = l
  | [], i, x, h => by simp at h
  | y :: ys, 0, x, h => by
    have e : y = x := by simpa using h
    rw [e]
    rfl
  | y :: ys, i + 1, x, h => by
    have e : ys[i]? = some x := by simpa using h
    show y :: ys.set i x = y :: ys
    rw [zset_self ys i x e]
theorem zrep_self : ∀ {is : List Nat} {ws wc : va_W}, is.map (fun i => ws[i]?) = wc.map some → ws = zrep is wc ws
  | [], _, _, _ => rfl
  | _ :: _, _, [], h => by simp at h
  | i :: is, ws, x :: xs, h => by
    have h1 : ws[i]? = some x ∧ is.map (fun i => ws[i]?) = xs.map some := by simpa using h
    show ws = zrep is xs (ws.set i x)
    rw [zset_self ws i x h1.1]
    exact zrep_self h1.2
theorem zrep_P {D : va_G} {cl : List vw_C} {A : Nat → Prop} {ws wc w1 : va_W} {H H1 : Heap} {is : List Nat} (hP : va_P D cl ws H) (hD : va_D A ws) (hC : is.map (fun i => ws[i]?) = wc.map some) (hn : va_nd is = true) (ha : w1.map (fun q => q.1) = wc.map (fun q => q.1))
    (hk : ∀ q : Nat, q < H.size → ¬ va_A wc H.size q → H1[q]? = H[q]?) (hP1 : va_P D cl w1 H1) : va_P D cl (zrep is w1 ws) H1 ∧ va_D A (zrep is w1 ws) := by
  have hlen : is.length = wc.length := by have := congrArg List.length hC; simpa using this
  have hlen1 : w1.length = wc.length := by have := congrArg List.length ha; simpa using this
  have hat : ∀ (k j : Nat), is[k]? = some j → ∃ q, ws[j]? = some q ∧ wc[k]? = some q := fun k j hkj => by
    have h1 : (is.map (fun i => ws[i]?))[k]? = some (ws[j]?) := by rw [List.getElem?_map, hkj]; rfl
    rw [hC, List.getElem?_map] at h1
    cases hq : wc[k]? with
    | none => rw [hq] at h1; cases h1
    | some q => rw [hq] at h1; exact ⟨q, (Option.some.inj h1).symm, rfl⟩
  have hadr : ∀ (k : Nat) (x : Nat × va_E), w1[k]? = some x → ∃ y, wc[k]? = some y ∧ x.1 = y.1 := fun k x hx => by
    have h1 : (w1.map (fun q => q.1))[k]? = some x.1 := by rw [List.getElem?_map, hx]; rfl
    rw [ha, List.getElem?_map] at h1
    cases hq : wc[k]? with
    | none => rw [hq] at h1; cases h1
    | some q => rw [hq] at h1; exact ⟨q, rfl, (Option.some.inj h1).symm⟩
  have key : ∀ (j : Nat) (x : Nat × va_E), (zrep is w1 ws)[j]? = some x → (j ∉ is ∧ ws[j]? = some x) ∨ ∃ k y, is[k]? = some j ∧ w1[k]? = some x ∧ ws[j]? = some y ∧ x.1 = y.1 := fun j x hx => by
    by_cases hj : j ∈ is
    · obtain ⟨k, hkj⟩ := List.mem_iff_getElem?.mp hj
      obtain ⟨q, hq, hq2⟩ := hat k j hkj
      rw [zrep_in is w1 ws hn (hlen.trans hlen1.symm) k j hkj (List.getElem?_eq_some_iff.mp hq).1] at hx
      obtain ⟨y, hy, hxy⟩ := hadr k x hx
      rw [hq2] at hy
      cases hy
      exact Or.inr ⟨k, q, hkj, hx, hq, hxy⟩
    · rw [zrep_out is w1 ws j hj] at hx
      exact Or.inl ⟨hj, hx⟩
  have adr : ∀ (j : Nat) (x : Nat × va_E), (zrep is w1 ws)[j]? = some x → ∃ y, ws[j]? = some y ∧ x.1 = y.1 := fun j x hx => by
    rcases key j x hx with ⟨-, h⟩ | ⟨k, y, -, -, h, e⟩
    · exact ⟨x, h, rfl⟩
    · exact ⟨y, h, e⟩
  refine ⟨fun j x hx => ?_, fun i j x y hi hj hxy => ?_, fun k x hx => ?_⟩
  · rcases key j x hx with ⟨hj, h⟩ | ⟨k, y, -, h, -, -⟩
    · have hnA : ¬ va_A wc H.size x.1 := by
        rintro (⟨k, e, hke⟩ | hge)
        · have hkl : k < is.length := by rw [hlen]; exact (List.getElem?_eq_some_iff.mp hke).1
          obtain ⟨i, hi⟩ : ∃ i, is[k]? = some i := ⟨is[k], List.getElem?_eq_getElem hkl⟩
          obtain ⟨q, hq, hq2⟩ := hat k i hi
          rw [hke] at hq2
          cases hq2
          have : j = i := hD.1 j i x _ h hq rfl
          exact hj (this ▸ List.mem_of_getElem? hi)
        · exact absurd (hP j x h).lt (Nat.not_lt.mpr hge)
      have hlt := (hP j x h).lt
      have e : va_P D cl [x] H1 := (show va_P D cl [x] H from fun k9 q hq => by
        have h0 : k9 < 1 := (List.getElem?_eq_some_iff.mp hq).1
        rw [show k9 = 0 by omega] at hq
        cases hq
        exact hP j x h).kept (fun k9 q hq => by
          have h0 : k9 < 1 := (List.getElem?_eq_some_iff.mp hq).1
          rw [show k9 = 0 by omega] at hq
          cases hq
          exact hk _ hlt hnA)
      exact e 0 x rfl
    · exact hP1 k x h
  · obtain ⟨x2, hx2, ex⟩ := adr i x hi
    obtain ⟨y2, hy2, ey⟩ := adr j y hj
    exact hD.1 i j x2 y2 hx2 hy2 (by rw [← ex, ← ey]; exact hxy)
  · obtain ⟨y, hy, e⟩ := adr k x hx
    rw [e]
    exact hD.2 k y hy

-- contracts
def zPc (E : zEnv) (wc : va_W) (av : List Value) (sz : Nat) : Array Value → State → Prop := va_Pc av (fun U => U.heap.size = sz ∧ va_P E.2.1 vwCl wc U.heap ∧ va_K E.2.1 vwCl (zTys E) U ∧ va_D (fun _ => True) wc ∧ Gd E (va_A wc sz) U U.heap)
def zB (E : zEnv) (wc wc' : va_W) (sz : Nat) : Unit → State → Prop := fun _ t => va_P E.2.1 vwCl wc' t.heap ∧ va_K E.2.1 vwCl (zTys E) t ∧ va_D (va_A wc sz) wc'
/-- method y, called with av over the cells wc, answers r and leaves the cells wc', all else as it was -/
def Kti (E : zEnv) (y : MethodName) (wy : List Cond) (rm : Room) (wc wc' : va_W) (av : List Value) (r : Int32) : Prop := ∀ sz : Nat, Met E.1 y wy rm (zPc E wc av sz) (va_Qi (S := Unit) (fun x _ => x = r) (zB E wc wc' sz) (va_A wc sz)) 0 0 (va_A wc sz)
def Ktv (E : zEnv) (y : MethodName) (wy : List Cond) (rm : Room) (wc wc' : va_W) (av : List Value) : Prop := ∀ sz : Nat, Met E.1 y wy rm (zPc E wc av sz) (va_Qv (S := Unit) (fun _ => True) (zB E wc wc' sz) (va_A wc sz)) 0 0 (va_A wc sz)
def Ktr (E : zEnv) (y : MethodName) (wy : List Cond) (rm : Room) (wc wc' : va_W) (av : List Value) (ra : Nat) : Prop := ∀ sz : Nat, Met E.1 y wy rm (zPc E wc av sz) (va_Qr (S := Unit) (fun _ => True) (fun u a t => a = ra ∧ zB E wc wc' sz u t) (va_A wc sz)) 0 0 (va_A wc sz)
def zRi (E : zEnv) (Γ : zG) (cc : ByteArray) (nL : Nat) (ty : FieldType) (w' : va_W) (r : Int32) : Prop := narrow ty (.int r) = .int r → ∀ (pc : Nat) (lv : List (Nat × Value)), decode cc pc = .ok (.ireturn, 1) → Zt E Γ nL 0 0 w' lv pc [.int r]
def zRv (E : zEnv) (Γ : zG) (cc : ByteArray) (nL : Nat) (w' : va_W) : Prop := ∀ (pc : Nat) (lv : List (Nat × Value)), decode cc pc = .ok (.return_, 1) → Zt E Γ nL 0 0 w' lv pc []
def zRr (E : zEnv) (Γ : zG) (cc : ByteArray) (nL : Nat) (w' : va_W) (ra : Nat) : Prop := ∀ (pc : Nat) (lv : List (Nat × Value)), decode cc pc = .ok (.areturn, 1) → Zt E Γ nL 0 0 w' lv pc [.ref ra]

theorem z_enti {E : zEnv} {y : MethodName} {wy wy' : List Cond} {rm : Room} {wc wc' : va_W} {av : List Value} {r : Int32} {cc : ByteArray} {maxL : Nat} (rt : FieldType) (hy : plainName y.cls = true) (hw : wy = Cond.code y cc maxL (some rt) :: wy') (hlen : (lg_sl av).length ≤ maxL) 
    (body : ∀ Γ : zG, zC E Γ cc y.cls maxL rm wy → zRi E Γ cc maxL rt wc' r → Zt E Γ maxL 0 0 wc (lv_args 0 av) 0 []) : Kti E y wy rm wc wc' av r := by
  intro sz
  refine Met.ofW (cc := cc) (maxL := maxL) (ret := some rt) hy hw ?_
  intro p e s m args below meth c s₁ B hml hv
  obtain ⟨rfl, hsz, hP, hK, hD0, hG⟩ := hv
  have hx := B.exec
  have hb := B.bytes
  have hr := B.returns
  have hts := atoms_spec (ws := wy) B.pre
  have hown : s.vm.findClass y.cls = some m.cls := findClass_of_methodNamed B.named
  have hlocks := B.notSynchronized
  subst hsz
  have hD := hD0.self (sz := s.heap.size)
  have hA : ∀ q : Nat, s.heap.size ≤ q → va_A wc s.heap.size q := fun q h => Or.inr h
  have hS : va_S (va_A wc s.heap.size) s.heap s.heap [] := va_S.rf
  have hl := lv_entry av (n := maxL) hlen
  rw [lg_entry_eq]
  generalize (lg_sl av ++ List.replicate (maxL - (lg_sl av).length) Slot.unset).toArray = ls at hl ⊢
  have C : zC E (p, E.1, e, (headSpec wy rm).room, s, m, av.toArray, below, meth, c, va_A wc s.heap.size, MQ below (va_Qi (S := Unit) (fun x _ => x = r) (zB E wc wc' s.heap.size) (va_A wc s.heap.size)) av.toArray s 0 0 (va_A wc s.heap.size)) cc y.cls maxL rm wy := ⟨hx, hb, hml, hown, hts, hK, hA, hlocks, rfl, rfl, hG⟩
  refine body _ C ?_ s.heap [] ls hP hD hS hl
  intro hnar pc lv hd H locs ls hP hD hS hl
  exact W.zret hx hb hr hnar (fun t ht hW => ⟨⟨r, (), rfl, rfl, by rw [ht]; exact hP, va_K.moved hW.alike hK, hD⟩, hS.F ht⟩) hS.2.2 hd hlocks
theorem z_entv {E : zEnv} {y : MethodName} {wy wy' : List Cond} {rm : Room} {wc wc' : va_W} {av : List Value} {cc : ByteArray} {maxL : Nat} (hy : plainName y.cls = true) (hw : wy = Cond.code y cc maxL none :: wy') (hlen : (lg_sl av).length ≤ maxL) 
    (body : ∀ Γ : zG, zC E Γ cc y.cls maxL rm wy → zRv E Γ cc maxL wc' → Zt E Γ maxL 0 0 wc (lv_args 0 av) 0 []) : Ktv E y wy rm wc wc' av := by
  intro sz
  refine Met.ofW (cc := cc) (maxL := maxL) (ret := none) hy hw ?_
  intro p e s m args below meth c s₁ B hml hv
  obtain ⟨rfl, hsz, hP, hK, hD0, hG⟩ := hv
  have hx := B.exec
  have hb := B.bytes
  have hr := B.returns
  have hts := atoms_spec (ws := wy) B.pre
  have hown : s.vm.findClass y.cls = some m.cls := findClass_of_methodNamed B.named
  have hlocks := B.notSynchronized
  subst hsz
  have hD := hD0.self (sz := s.heap.size)
  have hA : ∀ q : Nat, s.heap.size ≤ q → va_A wc s.heap.size q := fun q h => Or.inr h
  have hS : va_S (va_A wc s.heap.size) s.heap s.heap [] := va_S.rf
  have hl := lv_entry av (n := maxL) hlen
  rw [lg_entry_eq]
  generalize (lg_sl av ++ List.replicate (maxL - (lg_sl av).length) Slot.unset).toArray = ls at hl ⊢
  have C : zC E (p, E.1, e, (headSpec wy rm).room, s, m, av.toArray, below, meth, c, va_A wc s.heap.size, MQ below (va_Qv (S := Unit) (fun _ => True) (zB E wc wc' s.heap.size) (va_A wc s.heap.size)) av.toArray s 0 0 (va_A wc s.heap.size)) cc y.cls maxL rm wy := ⟨hx, hb, hml, hown, hts, hK, hA, hlocks, rfl, rfl, hG⟩
  refine body _ C ?_ s.heap [] ls hP hD hS hl
  intro pc lv hd H locs ls hP hD hS hl
  exact W.vret hx hb hr (fun t ht hW => ⟨⟨(), rfl, trivial, by rw [ht]; exact hP, va_K.moved hW.alike hK, hD⟩, hS.F ht⟩) hS.2.2 hd hlocks
theorem z_entr {E : zEnv} {y : MethodName} {wy wy' : List Cond} {rm : Room} {wc wc' : va_W} {av : List Value} {ra : Nat} {nm : String} {cc : ByteArray} {maxL : Nat} (hy : plainName y.cls = true) (hw : wy = Cond.code y cc maxL (some (.object nm)) :: wy') (hlen : (lg_sl av).length ≤ maxL) 
    (body : ∀ Γ : zG, zC E Γ cc y.cls maxL rm wy → zRr E Γ cc maxL wc' ra → Zt E Γ maxL 0 0 wc (lv_args 0 av) 0 []) : Ktr E y wy rm wc wc' av ra := by
  intro sz
  refine Met.ofW (cc := cc) (maxL := maxL) (ret := some (.object nm)) hy hw ?_
  intro p e s m args below meth c s₁ B hml hv
  obtain ⟨rfl, hsz, hP, hK, hD0, hG⟩ := hv
  have hx := B.exec
  have hb := B.bytes
  have hr := B.returns
  have hts := atoms_spec (ws := wy) B.pre
  have hown : s.vm.findClass y.cls = some m.cls := findClass_of_methodNamed B.named
  have hlocks := B.notSynchronized
  subst hsz
  have hD := hD0.self (sz := s.heap.size)
  have hA : ∀ q : Nat, s.heap.size ≤ q → va_A wc s.heap.size q := fun q h => Or.inr h
  have hS : va_S (va_A wc s.heap.size) s.heap s.heap [] := va_S.rf
  have hl := lv_entry av (n := maxL) hlen
  rw [lg_entry_eq]
  generalize (lg_sl av ++ List.replicate (maxL - (lg_sl av).length) Slot.unset).toArray = ls at hl ⊢
  have C : zC E (p, E.1, e, (headSpec wy rm).room, s, m, av.toArray, below, meth, c, va_A wc s.heap.size, MQ below (va_Qr (S := Unit) (fun _ => True) (fun u a t => a = ra ∧ zB E wc wc' s.heap.size u t) (va_A wc s.heap.size)) av.toArray s 0 0 (va_A wc s.heap.size)) cc y.cls maxL rm wy := ⟨hx, hb, hml, hown, hts, hK, hA, hlocks, rfl, rfl, hG⟩
  refine body _ C ?_ s.heap [] ls hP hD hS hl
  intro pc lv hd H locs ls hP hD hS hl
  exact W.aret hx hb hr (Or.inl ⟨nm, rfl⟩) (Or.inr ⟨ra, rfl⟩) (fun t ht hW => ⟨⟨(), ra, rfl, trivial, rfl, by rw [ht]; exact hP, va_K.moved hW.alike hK, hD⟩, hS.F ht⟩) hS.2.2 hd hlocks
theorem zPc_blind {E : zEnv} {wc : va_W} {av : List Value} {sz : Nat} : FrameBlind (zPc E wc av sz) := by
  intro a U g mk h
  obtain ⟨h1, h2, h3, h4, h5, h6⟩ := h
  exact ⟨h1, h2, h3, va_K.moved (u := U) (U := U.calling g mk a) (Vm.Alike.refl U.vm) h4, h5, h6.calling⟩
section ZCALL

theorem zfm {is : List Nat} {ws wc : va_W} (h : is.map (fun i => ws[i]?) = wc.map some) : is.filterMap (fun i => ws[i]?) = wc := by
  have h1 : is.filterMap (fun i => ws[i]?) = (is.map (fun i => ws[i]?)).filterMap id := by rw [List.filterMap_map]; rfl
  rw [h1, h, List.filterMap_map]
  simp
theorem z_callVi {E : zEnv} {Γ : zG} {cc : ByteArray} {own : String} {nL : Nat} {rm : Room} {Ts : List Cond} {k n : Nat} {ws : va_W} {lv : List (Nat × Value)} {pc : Nat} {rest : List Value} {y : MethodName} {wy wy' : List Cond} {rmy : Room} {wc w1 : va_W} {av As : List Value} {bytes : ByteArray} {maxL idx : Nat} {ret : Option FieldType} {r : Int32} {b : Nat} {Cn : String} (C0 : zC E Γ cc own nL rm Ts) (Kc : Kti E y wy rmy wc w1 av r) (hav : av = .ref b :: As) (G : GoodIn Ts (wsV own idx Cn y wy)) (hwy : wy = Cond.code y bytes maxL ret :: wy') (hrc : rmy.cells = 0) (hrs : rmy.slots = 0) (nn : Nat) (hnn : As.length = nn) (hdd : y.cls = Cn ∧ y.cls ≠ "java/lang/invoke/MethodHandle" ∧ y.cls ≠ "java/lang/invoke/VarHandle" ∧ (parseMethodDescriptor y.desc).map (fun d => d.parameters.length) = some nn) (hRR : rmy.frames + 1 ≤ rm.frames ∧ 8 + (maxL + 11) + rmy.locals ≤ rm.locals) (is : List Nat) (hC : is.map (fun i => ws[i]?) = wc.map some) (hn : va_nd is = true) (ha : w1.map (fun q => q.1) = wc.map (fun q => q.1)) (ws' : va_W) (hw' : ws' = zrep is w1 ws) (q0 ci : Nat) {q : vw_C} {fs : List Value} (hq : wc[q0]? = some (b, .inr (ci, fs))) (hcl : vwCl[ci]? = some q) (hqn : q.1 = Cn) (hst : (rest.map fun v => v.category).sum ≤ 8) (hd : decode cc pc = .ok (.invokevirtual idx, 3)) (hkk : k ≤ rm.cells ∧ n ≤ rm.slots) (stk : List Value) (hstk : stk = As.reverse ++ .ref b :: rest) (K : Zt E Γ nL k n ws' (lv) (pc + 3) (.int r :: rest)) : Zt E Γ nL k n ws (lv) (pc) (stk) := by
  obtain ⟨p, l, e, R, s, m, args, below, meth, c, A, Q⟩ := Γ
  obtain ⟨hx, hb, hml, hown, hts, hK, hA, hlk, hR, hE, hG⟩ := C0
  intro H locs ls hP hD hS hl
  subst hR
  subst hE
  have hPc := hP.sub (ws' := wc) is (zfm hC)
  have hDc := hD.sub (ws' := wc) is hn hC
  have hFc := va_free (wc := wc) hD hS hA is hC
  have hpre : ∀ U : State, U.heap = H → s.WarmedH U.vm → zPc E wc av H.size av.toArray U := fun U hU hW => ⟨rfl, by rw [hU], by rw [hU]; exact hPc, va_K.moved hW.alike hK, hDc.weaken (fun _ _ _ _ => trivial), by rw [hU]; exact ((hG.kept hS.2.1).narrow hFc).warm hW⟩
  subst hav
  subst hstk
  have hrecv := va_recv hK hPc hcl hq
  rw [hqn] at hrecv
  refine va_calli (va_runV (As := As) (rest := rest) ⟨hx, hb, hml, hown, hts⟩ (Kc H.size) (cwV nn hts G hwy hrc hrs hdd hRR) ⟨zPc_blind, hrecv, hpre⟩ rfl hnn hl.1 rfl (lv_room hst) hd hkk) hS (fun q _ h => hFc q h) hFc (fun r u t H1 locs1 ht hvm hw hB hz1 hk1 hS => ?_)
  subst hw
  obtain ⟨hP1, hK1, hD1⟩ := hB
  rw [ht] at hP1
  obtain ⟨hP2, hD2⟩ := zrep_P hP hD hC hn ha hk1 hP1
  subst hw'
  exact K H1 locs1 ls hP2 hD2 hS hl
theorem z_callSi {E : zEnv} {Γ : zG} {cc : ByteArray} {own : String} {nL : Nat} {rm : Room} {Ts : List Cond} {k n : Nat} {ws : va_W} {lv : List (Nat × Value)} {pc : Nat} {rest : List Value} {y : MethodName} {wy wy' : List Cond} {rmy : Room} {wc w1 : va_W} {av : List Value} {bytes : ByteArray} {maxL idx : Nat} {ret : Option FieldType} {r : Int32} (C0 : zC E Γ cc own nL rm Ts) (Kc : Kti E y wy rmy wc w1 av r) (G : GoodIn Ts (va_wsS own idx y wy)) (hwy : wy = Cond.code y bytes maxL ret :: wy') (hrc : rmy.cells = 0) (hrs : rmy.slots = 0) (nn : Nat) (hnn : av.length = nn) (hdd : y.cls ≠ "java/lang/invoke/MethodHandle" ∧ y.cls ≠ "java/lang/invoke/VarHandle" ∧ (parseMethodDescriptor y.desc).map (fun d => d.parameters.length) = some nn) (hRR : rmy.frames + 1 ≤ rm.frames ∧ 8 + (maxL + 11) + rmy.locals ≤ rm.locals) (is : List Nat) (hC : is.map (fun i => ws[i]?) = wc.map some) (hn : va_nd is = true) (ha : w1.map (fun q => q.1) = wc.map (fun q => q.1)) (ws' : va_W) (hw' : ws' = zrep is w1 ws) (hst : (rest.map fun v => v.category).sum ≤ 8) (hd : decode cc pc = .ok (.invokestatic idx, 3)) (hkk : k ≤ rm.cells ∧ n ≤ rm.slots) (stk : List Value) (hstk : stk = av.reverse ++ rest) (K : Zt E Γ nL k n ws' (lv) (pc + 3) (.int r :: rest)) : Zt E Γ nL k n ws (lv) (pc) (stk) := by
  obtain ⟨p, l, e, R, s, m, args, below, meth, c, A, Q⟩ := Γ
  obtain ⟨hx, hb, hml, hown, hts, hK, hA, hlk, hR, hE, hG⟩ := C0
  intro H locs ls hP hD hS hl
  subst hR
  subst hE
  have hPc := hP.sub (ws' := wc) is (zfm hC)
  have hDc := hD.sub (ws' := wc) is hn hC
  have hFc := va_free (wc := wc) hD hS hA is hC
  have hpre : ∀ U : State, U.heap = H → s.WarmedH U.vm → zPc E wc av H.size av.toArray U := fun U hU hW => ⟨rfl, by rw [hU], by rw [hU]; exact hPc, va_K.moved hW.alike hK, hDc.weaken (fun _ _ _ _ => trivial), by rw [hU]; exact ((hG.kept hS.2.1).narrow hFc).warm hW⟩
  subst hstk
  refine va_calli (va_runS (As := av) (rest := rest) ⟨hx, hb, hml, hown, hts⟩ (Kc H.size) (va_cwS nn hts G hwy hrc hrs hdd hRR) ⟨zPc_blind, hpre⟩ rfl hnn hl.1 rfl (lv_room hst) hd hkk) hS (fun q _ h => hFc q h) hFc (fun r u t H1 locs1 ht hvm hw hB hz1 hk1 hS => ?_)
  subst hw
  obtain ⟨hP1, hK1, hD1⟩ := hB
  rw [ht] at hP1
  obtain ⟨hP2, hD2⟩ := zrep_P hP hD hC hn ha hk1 hP1
  subst hw'
  exact K H1 locs1 ls hP2 hD2 hS hl
theorem z_callVv {E : zEnv} {Γ : zG} {cc : ByteArray} {own : String} {nL : Nat} {rm : Room} {Ts : List Cond} {k n : Nat} {ws : va_W} {lv : List (Nat × Value)} {pc : Nat} {rest : List Value} {y : MethodName} {wy wy' : List Cond} {rmy : Room} {wc w1 : va_W} {av As : List Value} {bytes : ByteArray} {maxL idx : Nat} {ret : Option FieldType} {b : Nat} {Cn : String} (C0 : zC E Γ cc own nL rm Ts) (Kc : Ktv E y wy rmy wc w1 av) (hav : av = .ref b :: As) (G : GoodIn Ts (wsV own idx Cn y wy)) (hwy : wy = Cond.code y bytes maxL ret :: wy') (hrc : rmy.cells = 0) (hrs : rmy.slots = 0) (nn : Nat) (hnn : As.length = nn) (hdd : y.cls = Cn ∧ y.cls ≠ "java/lang/invoke/MethodHandle" ∧ y.cls ≠ "java/lang/invoke/VarHandle" ∧ (parseMethodDescriptor y.desc).map (fun d => d.parameters.length) = some nn) (hRR : rmy.frames + 1 ≤ rm.frames ∧ 8 + (maxL + 11) + rmy.locals ≤ rm.locals) (is : List Nat) (hC : is.map (fun i => ws[i]?) = wc.map some) (hn : va_nd is = true) (ha : w1.map (fun q => q.1) = wc.map (fun q => q.1)) (ws' : va_W) (hw' : ws' = zrep is w1 ws) (q0 ci : Nat) {q : vw_C} {fs : List Value} (hq : wc[q0]? = some (b, .inr (ci, fs))) (hcl : vwCl[ci]? = some q) (hqn : q.1 = Cn) (hst : (rest.map fun v => v.category).sum ≤ 8) (hd : decode cc pc = .ok (.invokevirtual idx, 3)) (hkk : k ≤ rm.cells ∧ n ≤ rm.slots) (stk : List Value) (hstk : stk = As.reverse ++ .ref b :: rest) (K : Zt E Γ nL k n ws' (lv) (pc + 3) (rest)) : Zt E Γ nL k n ws (lv) (pc) (stk) := by
  obtain ⟨p, l, e, R, s, m, args, below, meth, c, A, Q⟩ := Γ
  obtain ⟨hx, hb, hml, hown, hts, hK, hA, hlk, hR, hE, hG⟩ := C0
  intro H locs ls hP hD hS hl
  subst hR
  subst hE
  have hPc := hP.sub (ws' := wc) is (zfm hC)
  have hDc := hD.sub (ws' := wc) is hn hC
  have hFc := va_free (wc := wc) hD hS hA is hC
  have hpre : ∀ U : State, U.heap = H → s.WarmedH U.vm → zPc E wc av H.size av.toArray U := fun U hU hW => ⟨rfl, by rw [hU], by rw [hU]; exact hPc, va_K.moved hW.alike hK, hDc.weaken (fun _ _ _ _ => trivial), by rw [hU]; exact ((hG.kept hS.2.1).narrow hFc).warm hW⟩
  subst hav
  subst hstk
  have hrecv := va_recv hK hPc hcl hq
  rw [hqn] at hrecv
  refine va_callv (va_runV (As := As) (rest := rest) ⟨hx, hb, hml, hown, hts⟩ (Kc H.size) (cwV nn hts G hwy hrc hrs hdd hRR) ⟨zPc_blind, hrecv, hpre⟩ rfl hnn hl.1 rfl (lv_room hst) hd hkk) hS (fun q _ h => hFc q h) hFc (fun u t H1 locs1 ht hvm hw hB hz1 hk1 hS => ?_)
  obtain ⟨hP1, hK1, hD1⟩ := hB
  rw [ht] at hP1
  obtain ⟨hP2, hD2⟩ := zrep_P hP hD hC hn ha hk1 hP1
  subst hw'
  exact K H1 locs1 ls hP2 hD2 hS hl
theorem z_callSv {E : zEnv} {Γ : zG} {cc : ByteArray} {own : String} {nL : Nat} {rm : Room} {Ts : List Cond} {k n : Nat} {ws : va_W} {lv : List (Nat × Value)} {pc : Nat} {rest : List Value} {y : MethodName} {wy wy' : List Cond} {rmy : Room} {wc w1 : va_W} {av : List Value} {bytes : ByteArray} {maxL idx : Nat} {ret : Option FieldType} (C0 : zC E Γ cc own nL rm Ts) (Kc : Ktv E y wy rmy wc w1 av) (G : GoodIn Ts (va_wsS own idx y wy)) (hwy : wy = Cond.code y bytes maxL ret :: wy') (hrc : rmy.cells = 0) (hrs : rmy.slots = 0) (nn : Nat) (hnn : av.length = nn) (hdd : y.cls ≠ "java/lang/invoke/MethodHandle" ∧ y.cls ≠ "java/lang/invoke/VarHandle" ∧ (parseMethodDescriptor y.desc).map (fun d => d.parameters.length) = some nn) (hRR : rmy.frames + 1 ≤ rm.frames ∧ 8 + (maxL + 11) + rmy.locals ≤ rm.locals) (is : List Nat) (hC : is.map (fun i => ws[i]?) = wc.map some) (hn : va_nd is = true) (ha : w1.map (fun q => q.1) = wc.map (fun q => q.1)) (ws' : va_W) (hw' : ws' = zrep is w1 ws) (hst : (rest.map fun v => v.category).sum ≤ 8) (hd : decode cc pc = .ok (.invokestatic idx, 3)) (hkk : k ≤ rm.cells ∧ n ≤ rm.slots) (stk : List Value) (hstk : stk = av.reverse ++ rest) (K : Zt E Γ nL k n ws' (lv) (pc + 3) (rest)) : Zt E Γ nL k n ws (lv) (pc) (stk) := by
  obtain ⟨p, l, e, R, s, m, args, below, meth, c, A, Q⟩ := Γ
  obtain ⟨hx, hb, hml, hown, hts, hK, hA, hlk, hR, hE, hG⟩ := C0
  intro H locs ls hP hD hS hl
  subst hR
  subst hE
  have hPc := hP.sub (ws' := wc) is (zfm hC)
  have hDc := hD.sub (ws' := wc) is hn hC
  have hFc := va_free (wc := wc) hD hS hA is hC
  have hpre : ∀ U : State, U.heap = H → s.WarmedH U.vm → zPc E wc av H.size av.toArray U := fun U hU hW => ⟨rfl, by rw [hU], by rw [hU]; exact hPc, va_K.moved hW.alike hK, hDc.weaken (fun _ _ _ _ => trivial), by rw [hU]; exact ((hG.kept hS.2.1).narrow hFc).warm hW⟩
  subst hstk
  refine va_callv (va_runS (As := av) (rest := rest) ⟨hx, hb, hml, hown, hts⟩ (Kc H.size) (va_cwS nn hts G hwy hrc hrs hdd hRR) ⟨zPc_blind, hpre⟩ rfl hnn hl.1 rfl (lv_room hst) hd hkk) hS (fun q _ h => hFc q h) hFc (fun u t H1 locs1 ht hvm hw hB hz1 hk1 hS => ?_)
  obtain ⟨hP1, hK1, hD1⟩ := hB
  rw [ht] at hP1
  obtain ⟨hP2, hD2⟩ := zrep_P hP hD hC hn ha hk1 hP1
  subst hw'
  exact K H1 locs1 ls hP2 hD2 hS hl
theorem z_callVr {E : zEnv} {Γ : zG} {cc : ByteArray} {own : String} {nL : Nat} {rm : Room} {Ts : List Cond} {k n : Nat} {ws : va_W} {lv : List (Nat × Value)} {pc : Nat} {rest : List Value} {y : MethodName} {wy wy' : List Cond} {rmy : Room} {wc w1 : va_W} {av As : List Value} {bytes : ByteArray} {maxL idx : Nat} {ret : Option FieldType} {ra : Nat} {b : Nat} {Cn : String} (C0 : zC E Γ cc own nL rm Ts) (Kc : Ktr E y wy rmy wc w1 av ra) (hav : av = .ref b :: As) (G : GoodIn Ts (wsV own idx Cn y wy)) (hwy : wy = Cond.code y bytes maxL ret :: wy') (hrc : rmy.cells = 0) (hrs : rmy.slots = 0) (nn : Nat) (hnn : As.length = nn) (hdd : y.cls = Cn ∧ y.cls ≠ "java/lang/invoke/MethodHandle" ∧ y.cls ≠ "java/lang/invoke/VarHandle" ∧ (parseMethodDescriptor y.desc).map (fun d => d.parameters.length) = some nn) (hRR : rmy.frames + 1 ≤ rm.frames ∧ 8 + (maxL + 11) + rmy.locals ≤ rm.locals) (is : List Nat) (hC : is.map (fun i => ws[i]?) = wc.map some) (hn : va_nd is = true) (ha : w1.map (fun q => q.1) = wc.map (fun q => q.1)) (ws' : va_W) (hw' : ws' = zrep is w1 ws) (q0 ci : Nat) {q : vw_C} {fs : List Value} (hq : wc[q0]? = some (b, .inr (ci, fs))) (hcl : vwCl[ci]? = some q) (hqn : q.1 = Cn) (hst : (rest.map fun v => v.category).sum ≤ 8) (hd : decode cc pc = .ok (.invokevirtual idx, 3)) (hkk : k ≤ rm.cells ∧ n ≤ rm.slots) (stk : List Value) (hstk : stk = As.reverse ++ .ref b :: rest) (K : Zt E Γ nL k n ws' (lv) (pc + 3) (.ref ra :: rest)) : Zt E Γ nL k n ws (lv) (pc) (stk) := by
  obtain ⟨p, l, e, R, s, m, args, below, meth, c, A, Q⟩ := Γ
  obtain ⟨hx, hb, hml, hown, hts, hK, hA, hlk, hR, hE, hG⟩ := C0
  intro H locs ls hP hD hS hl
  subst hR
  subst hE
  have hPc := hP.sub (ws' := wc) is (zfm hC)
  have hDc := hD.sub (ws' := wc) is hn hC
  have hFc := va_free (wc := wc) hD hS hA is hC
  have hpre : ∀ U : State, U.heap = H → s.WarmedH U.vm → zPc E wc av H.size av.toArray U := fun U hU hW => ⟨rfl, by rw [hU], by rw [hU]; exact hPc, va_K.moved hW.alike hK, hDc.weaken (fun _ _ _ _ => trivial), by rw [hU]; exact ((hG.kept hS.2.1).narrow hFc).warm hW⟩
  subst hav
  subst hstk
  have hrecv := va_recv hK hPc hcl hq
  rw [hqn] at hrecv
  refine va_callr (va_runV (As := As) (rest := rest) ⟨hx, hb, hml, hown, hts⟩ (Kc H.size) (cwV nn hts G hwy hrc hrs hdd hRR) ⟨zPc_blind, hrecv, hpre⟩ rfl hnn hl.1 rfl (lv_room hst) hd hkk) hS (fun q _ h => hFc q h) hFc (fun u ra' t H1 locs1 ht hvm hw hB hz1 hk1 hS => ?_)
  obtain ⟨rfl, hB⟩ := hB
  obtain ⟨hP1, hK1, hD1⟩ := hB
  rw [ht] at hP1
  obtain ⟨hP2, hD2⟩ := zrep_P hP hD hC hn ha hk1 hP1
  subst hw'
  exact K H1 locs1 ls hP2 hD2 hS hl
theorem z_callSN {E : zEnv} {Γ : zG} {cc : ByteArray} {own : String} {nL : Nat} {rm : Room} {Ts : List Cond} {k n : Nat} {ws : va_W} {lv : List (Nat × Value)} {pc : Nat} {rest : List Value} {y : MethodName} {wy wy' : List Cond} {rmy : Room} {wc w1 : va_W} {av : List Value} {bytes : ByteArray} {maxL idx : Nat} {ret : Option FieldType} {r : Int32} (C0 : zC E Γ cc own nL rm Ts) (Kc : Kti E y wy rmy wc w1 av r) (host : String) (hnest : Cond.methodLinkNest own idx y host ∈ zNest) (hini : Cond.initialized y.cls ∈ Ts) (hsta : Cond.static y ∈ Ts) (G : GoodIn Ts wy) (hwy : wy = Cond.code y bytes maxL ret :: wy') (hrc : rmy.cells = 0) (hrs : rmy.slots = 0) (nn : Nat) (hnn : av.length = nn) (hdd : y.cls ≠ "java/lang/invoke/MethodHandle" ∧ y.cls ≠ "java/lang/invoke/VarHandle" ∧ (parseMethodDescriptor y.desc).map (fun d => d.parameters.length) = some nn) (hRR : rmy.frames + 1 ≤ rm.frames ∧ 8 + (maxL + 11) + rmy.locals ≤ rm.locals) (is : List Nat) (hC : is.map (fun i => ws[i]?) = wc.map some) (hn : va_nd is = true) (ha : w1.map (fun q => q.1) = wc.map (fun q => q.1)) (ws' : va_W) (hw' : ws' = zrep is w1 ws) (hst : (rest.map fun v => v.category).sum ≤ 8) (hd : decode cc pc = .ok (.invokestatic idx, 3)) (hkk : k ≤ rm.cells ∧ n ≤ rm.slots) (stk : List Value) (hstk : stk = av.reverse ++ rest) (K : Zt E Γ nL k n ws' (lv) (pc + 3) (.int r :: rest)) : Zt E Γ nL k n ws (lv) (pc) (stk) := by
  obtain ⟨p, l, e, R, s, m, args, below, meth, c, A, Q⟩ := Γ
  obtain ⟨hx, hb, hml, hown, hts, hK, hA, hlk, hR, hE, hG⟩ := C0
  intro H locs ls hP hD hS hl
  subst hR
  subst hE
  have hPc := hP.sub (ws' := wc) is (zfm hC)
  have hDc := hD.sub (ws' := wc) is hn hC
  have hFc := va_free (wc := wc) hD hS hA is hC
  have hpre : ∀ U : State, U.heap = H → s.WarmedH U.vm → zPc E wc av H.size av.toArray U := fun U hU hW => ⟨rfl, by rw [hU], by rw [hU]; exact hPc, va_K.moved hW.alike hK, hDc.weaken (fun _ _ _ _ => trivial), by rw [hU]; exact ((hG.kept hS.2.1).narrow hFc).warm hW⟩
  subst hstk
  refine va_calli (va_runSN (As := av) (rest := rest) (host := host) ⟨hx, hb, hml, hown, hts⟩ (Kc H.size) ⟨va_cnB nn hts G hwy hrc hrs (hG.1 _ hnest) (hts _ hini) hdd hRR, hts _ hsta, trivial⟩ ⟨zPc_blind, hpre⟩ rfl hnn hl.1 rfl (lv_room hst) hd hkk) hS (fun q _ h => hFc q h) hFc (fun r u t H1 locs1 ht hvm hw hB hz1 hk1 hS => ?_)
  subst hw
  obtain ⟨hP1, hK1, hD1⟩ := hB
  rw [ht] at hP1
  obtain ⟨hP2, hD2⟩ := zrep_P hP hD hC hn ha hk1 hP1
  subst hw'
  exact K H1 locs1 ls hP2 hD2 hS hl
end ZCALL
