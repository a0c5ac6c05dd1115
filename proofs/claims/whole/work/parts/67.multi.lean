-- a new int[4][40]: the outer cell with i rows in place; a row; one row more
abbrev mO (cA : ClassId) (b i : Nat) : Cell := arrV cA 4 (fun j => if j < i then .ref (b + 1 + j) else .null)
abbrev mI (cC : ClassId) : Cell := arrV cC 40 (fun _ => .int 0)
def mT (cA cC : ClassId) (b i : Nat) (u : State) : State := (u.pushCell (mI cC)).setCell b (mO cA b (i + 1))
def mJ (cA cC : ClassId) (b i w : Nat) (vm : Vm) (H : Heap) (u : State) : Prop := u.heap.size = b + 1 + i ∧ u.heap[b]? = some (mO cA b i) ∧ u.vm = vm ∧ u.slotsUsed = w + 4 + i * 40 ∧ (∀ a : Nat, a < b → u.heap[a]? = H[a]?) ∧ ∀ j : Nat, j < i → u.heap[b + 1 + j]? = some (mI cC)
theorem mO_new (cA : ClassId) (b : Nat) : ({ cls := cA, slots := Array.replicate 4 .null, vm := .none } : Cell) = mO cA b 0 := by
  rw [arrV_new]
  unfold mO
  congr 1
theorem mO_step (cA : ClassId) (b i : Nat) : (mO cA b i).setSlot i (.ref (b + 1 + i)) = mO cA b (i + 1) := by
  unfold mO
  rw [arrV_store]
  congr 1
  funext j
  unfold updV
  by_cases h : j = i
  · subst h
    rw [if_pos rfl, if_pos (Nat.lt_succ_self j)]
  · rw [if_neg h]
    show (if j < i then Value.ref (b + 1 + j) else .null) = if j < i + 1 then Value.ref (b + 1 + j) else .null
    by_cases h2 : j < i
    · rw [if_pos h2, if_pos (by omega)]
    · rw [if_neg h2, if_neg (by omega)]
theorem mJ_zero (cA cC : ClassId) (s : State) : mJ cA cC s.heap.size 0 s.slotsUsed s.vm s.heap (s.pushCell (mO cA s.heap.size 0)) := by
  refine ⟨by simp, by simp, rfl, ?_, fun a ha => State.heap_pushCell_of_lt _ _ ha, fun j hj => absurd hj (Nat.not_lt_zero j)⟩
  show s.slotsUsed + (mO cA s.heap.size 0).slots.size = _
  rw [arrV_size]
theorem mJ_in {cA cC : ClassId} {b i w : Nat} {vm : Vm} {H : Heap} {u : State} (h : mJ cA cC b i w vm H u) : (u.pushCell (mI cC)).heap[b]? = some (mO cA b i) := by
  have hl : b < u.heap.size := by
    have := h.1
    omega
  exact (State.heap_pushCell_of_lt _ _ hl).trans h.2.1
theorem mJ_next {cA cC : ClassId} {b i w : Nat} {vm : Vm} {H : Heap} {u : State} (h : mJ cA cC b i w vm H u) : mJ cA cC b (i + 1) w vm H (mT cA cC b i u) := by
  have h0 := mJ_in h
  have hlt : b < (u.pushCell (mI cC)).heap.size := (Array.getElem?_eq_some_iff.mp h0).1
  obtain ⟨h1, h2, h3, h4, h5, h6⟩ := h
  unfold mT
  refine ⟨?_, heapAt_setCell_self _ hlt, h3, ?_, fun a ha => ?_, fun j hj => ?_⟩
  · rw [size_setCell, State.heap_size_pushCell, h1]
    omega
  · show u.slotsUsed + (mI cC).slots.size = _
    rw [arrV_size, h4]
    omega
  · have ne : b ≠ a := by omega
    have hl : a < u.heap.size := by omega
    exact (heapAt_setCell_ne _ ne).trans ((State.heap_pushCell_of_lt _ _ hl).trans (h5 a ha))
  · have ne : b ≠ b + 1 + j := by omega
    refine (heapAt_setCell_ne _ ne).trans ?_
    by_cases hji : j < i
    · have hl : b + 1 + j < u.heap.size := by omega
      exact (State.heap_pushCell_of_lt _ _ hl).trans (h6 j hji)
    · have e : b + 1 + j = u.heap.size := by omega
      rw [e]
      exact State.heap_pushCell_size _ _
theorem mT_top (cA cC : ClassId) (b i : Nat) (u : State) (f : JFrame) : mT cA cC b i (u.setTop f) = (mT cA cC b i u).setTop f := rfl
theorem mX_next {p : Program} {l : Launch} {e : Env} {R : Room} {s : State} {m : MethodId} {args : Array Value} {below : List Frame} {meth : Method} {c : Code} {locs : List Loc} {cells slots : Nat} {cA cC : ClassId} {b i w : Nat} {vm : Vm} {H : Heap} {u : State} (X : Stand p l e R s m args below meth c u locs cells slots) (h : mJ cA cC b i w vm H u) : Stand p l e R s m args below meth c (mT cA cC b i u) (locs ++ [⟨b, i⟩]) (cells + 1) (slots + 40) := by
  have h1 := X.pushed (mI cC)
  rw [arrV_size] at h1
  have h2 := h1.stored (mJ_in h) i (.ref (b + 1 + i))
  rw [mO_step] at h2
  exact h2
theorem m_top (cA cC : ClassId) (s : State) (f : JFrame) : mT cA cC (s.setTop f).heap.size 3 (mT cA cC (s.setTop f).heap.size 2 (mT cA cC (s.setTop f).heap.size 1 (mT cA cC (s.setTop f).heap.size 0 ((s.setTop f).pushCell (mO cA (s.setTop f).heap.size 0))))) = (mT cA cC s.heap.size 3 (mT cA cC s.heap.size 2 (mT cA cC s.heap.size 1 (mT cA cC s.heap.size 0 (s.pushCell (mO cA s.heap.size 0)))))).setTop f := by
  rw [State.heap_setTop, State.pushCell_setTop, mT_top, mT_top, mT_top, mT_top]
theorem m_row {Ec : CtlPost} {e : Env} {d : Bool} {acts : List Action} {u : State} {cC x : ClassId} {kC : Class} (hkC : u.vm.classes[cC]? = some kC) (hC : kC.kind = .array x .int) (hlim : 40 ≤ e.platform.arrayLengthLimit) (hheap : 160 ≤ e.platform.maxHeapBytes) (hc : u.heap.size < e.platform.maxCells) (hs : u.slotsUsed + 40 ≤ e.platform.maxSlots) {Q : Addr → Pre} (hq : ∀ acts', Q u.heap.size d acts' (u.pushCell (mI cC))) : wp (Op.multianewarray.make cC [40]) Q Ec e d acts u := by
  rw [Op.multianewarray.make]
  simp only [wp_bind', W.ite, show ¬ ((40 : Int32) < 0) from by decide, if_false, wp_pure', W.theClass, hkC, hC, Option.some.injEq, exists_eq_left']
  refine W.newArray_of (comp := x) (type := .int) hkC hC (fun h => absurd h (Nat.not_lt.mpr hlim)) (fun h => absurd h (Nat.not_lt.mpr hheap)) hc hs rfl (fun acts1 => ?_)
  have e1 : ({ cls := cC, slots := Array.replicate (Int32.toNatClampNeg 40) (defaultValue .int), vm := .none } : Cell) = mI cC := arrV_new cC 40 (.int 0)
  rw [e1]
  exact hq acts1
theorem m_all {Ec : CtlPost} {e : Env} {d : Bool} {acts : List Action} {s : State} {cA cC x : ClassId} {kA kC : Class} (hkA : s.vm.classes[cA]? = some kA) (hA : kA.kind = .array cC (.array .int)) (hkC : s.vm.classes[cC]? = some kC) (hC : kC.kind = .array x .int) (hlim : 40 ≤ e.platform.arrayLengthLimit) (hheap : 160 ≤ e.platform.maxHeapBytes) (hc : s.heap.size + 5 ≤ e.platform.maxCells) (hs : s.slotsUsed + 164 ≤ e.platform.maxSlots) {Q : Addr → Pre} (hq : ∀ d' acts', Q s.heap.size d' acts' (mT cA cC s.heap.size 3 (mT cA cC s.heap.size 2 (mT cA cC s.heap.size 1 (mT cA cC s.heap.size 0 (s.pushCell (mO cA s.heap.size 0))))))) : wp (Op.multianewarray.make cA [4, 40]) Q Ec e d acts s := by
  have hput : ∀ (i : Nat) (u : State), i < 4 → mJ cA cC s.heap.size i s.slotsUsed s.vm s.heap u → (mO cA s.heap.size i).vm ≠ .unknown ∧ i < (mO cA s.heap.size i).slots.size ∧ (u.pushCell (mI cC)).fitsSlot (mO cA s.heap.size i).cls (mO cA s.heap.size i).vm i (.ref u.heap.size) = true ∧ (u.pushCell (mI cC)).setCell s.heap.size ((mO cA s.heap.size i).setSlot i (.ref u.heap.size)) = mT cA cC s.heap.size i u := by
    intro i u hi hJ
    refine ⟨(fun h => by cases h), (by rw [arrV_size]; exact hi), ?_, ?_⟩
    · have hv : (u.pushCell (mI cC)).vm = s.vm := hJ.2.2.1
      have h1 : (u.pushCell (mI cC)).fitsSlot cA .none i (.ref u.heap.size) = true := by
        have hu : u.vm = s.vm := hJ.2.2.1
        simp [State.fitsSlot, State.slotType?, hu, hkA, hA]
        rfl
      exact h1
    · rw [hJ.1, mO_step]
      rfl
  have j0 := mJ_zero cA cC s
  have j1 := mJ_next j0
  have j2 := mJ_next j1
  have j3 := mJ_next j2
  rw [Op.multianewarray.make]
  simp only [wp_bind', W.ite, show ¬ ((4 : Int32) < 0) from by decide, if_false, wp_pure', W.theClass, hkA, hA, Option.some.injEq, exists_eq_left']
  refine W.newArray_of (comp := cC) (type := .array .int) hkA hA (fun h => absurd h (Nat.not_lt.mpr (Nat.le_trans (by decide) hlim))) (fun h => absurd h (Nat.not_lt.mpr (Nat.le_trans (by decide) hheap))) (by omega) (Nat.le_trans (Nat.add_le_add_left (by decide) _) hs) rfl (fun acts1 => ?_)
  rw [show ({ cls := cA, slots := Array.replicate (Int32.toNatClampNeg 4) .null } : Cell) = mO cA s.heap.size 0 from mO_new cA s.heap.size]
  simp only [show ((4 : Int32) == 0) = false from by decide, Bool.false_eq_true, if_false, wp_bind', wp_pure', Std.Legacy.Range.forIn_eq_forIn_range']
  rw [show List.range' (⟨0, Int32.toNatClampNeg 4, 1, by decide⟩ : Std.Legacy.Range).start (⟨0, Int32.toNatClampNeg 4, 1, by decide⟩ : Std.Legacy.Range).size 1 = [0, 1, 2, 3] from by decide +kernel]
  simp only [List.forIn_cons, List.forIn_nil, wp_bind']
  have b0 := hput 0 (s.pushCell (mO cA s.heap.size 0)) (by decide) j0
  refine m_row (u := (s.pushCell (mO cA s.heap.size 0))) hkC hC hlim hheap (by rw [j0.1]; omega) (by rw [j0.2.2.2.1]; omega) (fun _ => ?_)
  simp only [W.writeLoc, wp_bind', wp_pure']
  refine ⟨mO cA s.heap.size 0, mJ_in j0, b0.1, b0.2.1, b0.2.2.1, ?_⟩
  rw [b0.2.2.2]
  have b1 := hput 1 (mT cA cC s.heap.size 0 (s.pushCell (mO cA s.heap.size 0))) (by decide) j1
  refine m_row (u := (mT cA cC s.heap.size 0 (s.pushCell (mO cA s.heap.size 0)))) hkC hC hlim hheap (by rw [j1.1]; omega) (by rw [j1.2.2.2.1]; omega) (fun _ => ?_)
  simp only [W.writeLoc, wp_bind', wp_pure']
  refine ⟨mO cA s.heap.size 1, mJ_in j1, b1.1, b1.2.1, b1.2.2.1, ?_⟩
  rw [b1.2.2.2]
  have b2 := hput 2 (mT cA cC s.heap.size 1 (mT cA cC s.heap.size 0 (s.pushCell (mO cA s.heap.size 0)))) (by decide) j2
  refine m_row (u := (mT cA cC s.heap.size 1 (mT cA cC s.heap.size 0 (s.pushCell (mO cA s.heap.size 0))))) hkC hC hlim hheap (by rw [j2.1]; omega) (by rw [j2.2.2.2.1]; omega) (fun _ => ?_)
  simp only [W.writeLoc, wp_bind', wp_pure']
  refine ⟨mO cA s.heap.size 2, mJ_in j2, b2.1, b2.2.1, b2.2.2.1, ?_⟩
  rw [b2.2.2.2]
  have b3 := hput 3 (mT cA cC s.heap.size 2 (mT cA cC s.heap.size 1 (mT cA cC s.heap.size 0 (s.pushCell (mO cA s.heap.size 0))))) (by decide) j3
  refine m_row (u := (mT cA cC s.heap.size 2 (mT cA cC s.heap.size 1 (mT cA cC s.heap.size 0 (s.pushCell (mO cA s.heap.size 0)))))) hkC hC hlim hheap (by rw [j3.1]; omega) (by rw [j3.2.2.2.1]; omega) (fun _ => ?_)
  simp only [W.writeLoc, wp_bind', wp_pure']
  refine ⟨mO cA s.heap.size 3, mJ_in j3, b3.1, b3.2.1, b3.2.2.1, ?_⟩
  rw [b3.2.2.2]
  exact hq _ _
def mW (cA cC : ClassId) (b : Nat) : va_W := [(b, .inl (cA, 4, .inr (.inr (.inr (.inr (va_up (va_up (va_up (va_up (fun _ => none) 0 (some (b + 1 + 0))) 1 (some (b + 1 + 1))) 2 (some (b + 1 + 2))) 3 (some (b + 1 + 3)))))))), (b + 1 + 0, .inl (cC, 40, .inl (fun _ => 0))), (b + 1 + 1, .inl (cC, 40, .inl (fun _ => 0))), (b + 1 + 2, .inl (cC, 40, .inl (fun _ => 0))), (b + 1 + 3, .inl (cC, 40, .inl (fun _ => 0)))]
theorem m_out (cA : ClassId) (b : Nat) : mO cA b 4 = vp_cell cA (4, .inr (.inr (.inr (.inr (va_up (va_up (va_up (va_up (fun _ => none) 0 (some (b + 1 + 0))) 1 (some (b + 1 + 1))) 2 (some (b + 1 + 2))) 3 (some (b + 1 + 3))))))) := by
  rw [vp_cell_q]
  unfold mO
  congr 1
  funext j
  by_cases h0 : j = 0
  · subst h0
    simp [va_up, va_rf]
  by_cases h1 : j = 1
  · subst h1
    simp [va_up, va_rf]
  by_cases h2 : j = 2
  · subst h2
    simp [va_up, va_rf]
  by_cases h3 : j = 3
  · subst h3
    simp [va_up, va_rf]
  rw [if_neg (by omega)]
  simp [va_up, va_rf, h0, h1, h2, h3]
theorem m_world {D : va_G} {cl : List vw_C} {cA cC : ClassId} {b : Nat} {F : Heap} (f2 : F[b]? = some (mO cA b 4)) (f6 : ∀ j : Nat, j < 4 → F[b + 1 + j]? = some (mI cC)) : ∀ (k : Nat) (q : Nat × va_E), (mW cA cC b)[k]? = some q → q.1 = b + k ∧ va_at D cl q F := by
  intro k q hq
  unfold mW at hq
  match k, hq with
  | 0, hq =>
    have h := Option.some.inj hq
    subst h
    refine ⟨rfl, ?_⟩
    show F[b]? = some (vp_cell _ _)
    rw [f2, m_out]
  | 1, hq =>
    have h := Option.some.inj hq
    subst h
    exact ⟨rfl, f6 0 (by decide)⟩
  | 2, hq =>
    have h := Option.some.inj hq
    subst h
    exact ⟨rfl, f6 1 (by decide)⟩
  | 3, hq =>
    have h := Option.some.inj hq
    subst h
    exact ⟨rfl, f6 2 (by decide)⟩
  | 4, hq =>
    have h := Option.some.inj hq
    subst h
    exact ⟨rfl, f6 3 (by decide)⟩
  | k + 5, hq => exact absurd hq (by simp)
theorem z_newII {E : zEnv} {Γ : zG} {cc : ByteArray} {own : String} {nL : Nat} {rm : Room} {Ts : List Cond} {k n : Nat} {lv : List (Nat × Value)} {ws : va_W} {pc : Nat} {rest : List Value} {index : Nat} (C0 : zC E Γ cc own nL rm Ts) (hI : zI0 Γ) (hcl : Cond.classLink own index "[[I" ∈ Ts) (hkc : k + 5 ≤ rm.cells) (hks : n + 164 ≤ rm.slots) (hd : decode cc pc = .ok (.multianewarray index 2, 4)) (K : ∀ (q : Nat) (r : Nat → Nat), Zt E Γ nL (k + 5) (n + 164) (ws ++ [(q, .inl (zII E, 4, .inr (.inr (.inr (.inr (va_up (va_up (va_up (va_up (fun _ => none) 0 (some (r 0))) 1 (some (r 1))) 2 (some (r 2))) 3 (some (r 3)))))))), (r 0, .inl (zI E, 40, .inl (fun _ => 0))), (r 1, .inl (zI E, 40, .inl (fun _ => 0))), (r 2, .inl (zI E, 40, .inl (fun _ => 0))), (r 3, .inl (zI E, 40, .inl (fun _ => 0)))]) (lv) (pc + 4) (.ref q :: rest)) : Zt E Γ nL (k) (n) ws (lv) (pc) (.int 40 :: .int 4 :: rest) := by
  obtain ⟨p, l, e, R, s, m, args, below, meth, c, A, Q⟩ := Γ
  obtain ⟨hx, hb, hml, hown, hts, hK, hA, hlk, hR, hE, hG⟩ := C0
  intro H locs ls hP hD hS hl
  subst hR
  intro T hT X
  subst hT
  have hdg : decode c.code pc = .ok (.multianewarray index 2, 4) := by
    rw [hb]
    exact hd
  have hpl : e.platform.magicAccessors = ({} : Platform).magicAccessors := by rw [X.admits.platform]
  obtain ⟨c0, hfc0, hcl0⟩ := Cond.classLink_spec hown (hts _ hcl) e.platform hpl
  obtain ⟨comp, ca, kA, a1, -, a3, a4, a5⟩ := zAA_spec hI.2.2
  have e1 : comp = zI E := Option.some.inj (a1.symm.trans (hK.2 0 (zI E, .int) rfl).2)
  have e2 : ca = zII E := Option.some.inj (a5.symm.trans (hK.2 3 (zII E, .array .int) rfl).2)
  have hs2 : ("[" ++ (FieldType.array .int).toString) = "[[I" := by decide +kernel
  have e3 : c0 = ca := Option.some.inj (hfc0.symm.trans (by rw [← hs2]; exact a5))
  subst e1 e2 e3
  obtain ⟨-, kC, hkC, x, hC⟩ := (hK.2 0 (zI E, .int) rfl).1 40 (fun _ => .null)
  obtain ⟨hg1, hw1, hr1⟩ := State.classEntry (e := e) X.warmed hcl0
  generalize T.vm.noted m.cls index (.cls (zII E)) = vm1 at hg1 hw1 hr1
  have hal : s.vm.Alike vm1 := hw1.alike
  obtain ⟨kA1, hkA1, heA⟩ := hal.2.2 _ _ a3
  obtain ⟨kC1, hkC1, heC⟩ := hal.2.2 _ _ hkC
  have hkA2 : kA1.kind = .array (zI E) (.array .int) := by
    rw [heA]
    exact a4
  have hkC2 : kC1.kind = .array x .int := by
    rw [heC]
    exact hC
  have X1 := X.noted hw1
  obtain ⟨ro1, ro2⟩ := X.roomAbove hkc hks
  have X2 := X1.pushed (mO (zII E) (T.setVm vm1).heap.size 0)
  rw [arrV_size] at X2
  have j0 := mJ_zero (zII E) (zI E) (T.setVm vm1)
  have j1 : mJ _ _ _ 1 _ _ _ _ := mJ_next j0
  have j2 : mJ _ _ _ 2 _ _ _ _ := mJ_next j1
  have j3 : mJ _ _ _ 3 _ _ _ _ := mJ_next j2
  have j4 : mJ _ _ _ 4 _ _ _ _ := mJ_next j3
  have X6 := mX_next (mX_next (mX_next (mX_next X2 j0) j1) j2) j3
  have es : n + 4 + 40 + 40 + 40 + 40 = n + 164 := by omega
  rw [es] at X6
  generalize hF : mT (zII E) (zI E) (T.setVm vm1).heap.size 3 (mT (zII E) (zI E) (T.setVm vm1).heap.size 2 (mT (zII E) (zI E) (T.setVm vm1).heap.size 1 (mT (zII E) (zI E) (T.setVm vm1).heap.size 0 ((T.setVm vm1).pushCell (mO (zII E) (T.setVm vm1).heap.size 0))))) = F at j4 X6
  have hsz : (T.setVm vm1).heap.size = T.heap.size := rfl
  rw [hsz] at j4
  obtain ⟨f1, f2, -, -, f5, f6⟩ := j4
  have hb0 : s.heap.size ≤ T.heap.size := hS.1
  have old : ∀ a : Nat, a < T.heap.size → F.heap[a]? = T.heap[a]? := f5
  have hw := m_world (D := E.2.1) (cl := vwCl) f2 f6
  have hP5 : va_P E.2.1 vwCl (ws ++ mW (zII E) (zI E) T.heap.size) F.heap := (hP.kept (fun k q hq => old q.1 ((hP k q hq).lt))).app (fun k q hq => (hw k q hq).2)
  have hD5 : va_D A (mW (zII E) (zI E) T.heap.size) := by
    refine ⟨fun i j p q hi hj hpq => ?_, fun k q hq => ?_⟩
    · have g1 := (hw i p hi).1
      have g2 := (hw j q hj).1
      omega
    · have g1 := (hw k q hq).1
      exact hA _ (by omega)
  have hD6 : va_D A (ws ++ mW (zII E) (zI E) T.heap.size) := hD.app hD5 (fun i j p q hi hj hpq => by
    have g1 := (hP i p hi).lt
    have g2 := (hw j q hj).1
    omega)
  have hS6 : ∀ l2 : List Loc, (∀ x ∈ l2, x.base = T.heap.size) → va_S A s.heap F.heap (locs ++ l2) := by
    intro l2 hl2
    refine ⟨by omega, fun x h1 h2 => (old x (Nat.lt_of_lt_of_le h1 hb0)).trans (hS.2.1 x h1 h2), fun x hx => ?_⟩
    rcases List.mem_append.mp hx with hx | hx
    · exact hS.2.2 x hx
    · rw [hl2 x hx]
      exact hA _ hb0
  have hS7 := hS6 [⟨T.heap.size, 0⟩, ⟨T.heap.size, 1⟩, ⟨T.heap.size, 2⟩, ⟨T.heap.size, 3⟩] (fun x hx => by
    simp only [List.mem_cons, List.not_mem_nil, or_false] at hx
    rcases hx with rfl | rfl | rfl | rfl <;> rfl)
  have hX7 : Stand p l e R s m args below meth c F (locs ++ [⟨T.heap.size, 0⟩, ⟨T.heap.size, 1⟩, ⟨T.heap.size, 2⟩, ⟨T.heap.size, 3⟩]) (k + 5) (n + 164) := by
    rw [hsz] at X6
    simp only [List.append_assoc, List.cons_append, List.nil_append] at X6
    have ek : k + 1 + 1 + 1 + 1 + 1 = k + 5 := rfl
    rw [ek] at X6
    exact X6
  have hk : W p l e R s m args below meth c F.heap (locs ++ [⟨T.heap.size, 0⟩, ⟨T.heap.size, 1⟩, ⟨T.heap.size, 2⟩, ⟨T.heap.size, 3⟩]) (k + 5) (n + 164) Q (F0 m (pc + 4) ls (.ref T.heap.size :: rest)) := K T.heap.size (fun j => T.heap.size + 1 + j) F.heap _ ls hP5 hD6 hS7 hl
  obtain ⟨t, q1, q2⟩ := hk F rfl hX7
  refine ⟨t, ?_, q2⟩
  have hl40 : 40 ≤ e.platform.arrayLengthLimit := by
    rw [Launch.admits_arrayLengthLimit X.admits]
    omega
  have hh40 : 160 ≤ e.platform.maxHeapBytes := by
    rw [Launch.admits_maxHeapBytes X.admits]
    omega
  generalize hg : F0 m pc ls (.int 40 :: .int 4 :: rest) = g
  have hg2 : g.method = m := by rw [← hg]
  have hg3 : g.stack = .int 40 :: .int 4 :: rest := by rw [← hg]
  have hg4 : g.pc = pc := by rw [← hg]
  have hg5 : F0 m (pc + 4) ls (.ref T.heap.size :: rest) = { g with pc := g.pc + 4, stack := .ref T.heap.size :: rest } := by rw [← hg]
  rw [hg5] at q1
  subst hg2
  rw [← hg4] at hdg
  jvm_step X.here [hx, hdg]
  simp only [Op.multianewarray.sem, wp_bind', W.resolveClassAt_links (State.method?_setTop g X.here.top) hg1]
  rw [W.popN, if_neg (by decide)]
  refine ⟨g, State.topJava?_setTop' (s := T.setVm vm1) g X.here.top, [.int 4, .int 40], rest, rfl, hg3, ?_⟩
  simp only [List.mapM_cons, List.mapM_nil, wp_bind', wp_pure']
  have eS : ((T.setTop g).setVm vm1).setTop { g with stack := rest } = (T.setVm vm1).setTop { g with stack := rest } := by
    show ((T.setVm vm1).setTop g).setTop _ = _
    rw [State.setTop_setTop]
  rw [eS]
  refine m_all (kA := kA1) (kC := kC1) (x := x) hkA1 hkA2 hkC1 hkC2 hl40 hh40 (by show T.heap.size + 5 ≤ _; omega) (by show T.slotsUsed + 164 ≤ _; omega) (fun d' acts' => ?_)
  rw [m_top, hF]
  have eH : ((T.setVm vm1).setTop { g with stack := rest }).heap.size = T.heap.size := rfl
  rw [eH]
  simp only [wp_bind', W.mark, W.pushRef, State.topJava?_setTop' _ hX7.here.top, Option.some.injEq, exists_eq_left', State.setTop_setTop]
  intro acts2
  simp [jvm, hX7.here.top]
  exact q1
