-- what was seen: the first that is not so; years in which one can have been born
def ffl (ok : Nat → Bool) : Nat → Nat → Int32
  | 0, _ => -4
  | r + 1, i => if ok i = true then ffl ok r (i + 1) else nI i
theorem ffl_congr {a b : Nat → Bool} : ∀ r i, (∀ k, i ≤ k → k < i + r → a k = b k) → ffl a r i = ffl b r i
  | 0, _, _ => rfl
  | r + 1, i, h => by
    have ih := ffl_congr r (i + 1) (fun k h1 h2 => h k (by omega) (by omega))
    show (if a i = true then ffl a r (i + 1) else nI i) = if b i = true then ffl b r (i + 1) else nI i
    rw [ih, h i (by omega) (by omega)]
theorem sbpt {o w : Nat} {U S : St} {k : Nat} (h : k < w) : sb o (pt o w U S) k = U k := by
  show pt o w U S (o + k) = U k
  rw [pt_in (by omega) (by omega)]
  exact congrArg U (by omega)
theorem C_fl_l {T A : St} {g : Nat → Int32} {H P V B w : Nat} (hT : RT T g H P V B) (hw : A 4 0 = nI w) (hw8 : w ≤ 8) (hA : ∀ i, i < w → inB 8 (A 1 i) ∧ inB 36000 (A 2 i)) : ∀ (f r i : Nat) (S : St), r < f → i + r = w → (∀ k, k < 8 → S k = A k) → FrT T (sb 8 S) → ∃ S' : St, f_X4_firstLie_2 8 f (nI i) S = some (ffl (fun i => decide (num g P V (A 1 i) (A 2 i) (g 91) = A 3 i)) r i, S') ∧ (∀ k, k < 8 → S' k = A k) ∧ FrT T (sb 8 S') := by
  intro f r
  induction r generalizing f with
  | zero =>
    intro i S h1 h2 h3 h4
    obtain ⟨f, rfl⟩ : ∃ z, f = z + 1 := ⟨f - 1, by omega⟩
    rw [f_X4_firstLie_2_s, h3 4 (by omega), hw, if_pos (nI_le (by omega) (by omega))]
    exact ⟨S, rfl, h3, h4⟩
  | succ r ih =>
    intro i S h1 h2 h3 h4
    obtain ⟨f, rfl⟩ : ∃ z, f = z + 1 := ⟨f - 1, by omega⟩
    obtain ⟨⟨h, hh, eh⟩, ⟨d, hd, ed⟩⟩ := hA i (by omega)
    obtain ⟨U, u1, u2⟩ := C_numberOf (hT.fr h4) hd hh
    rw [f_X4_firstLie_2_s, h3 4 (by omega), hw, if_neg (nI_ge (by omega) (by omega)), ix_in (by omega) (by omega), ix_in (by omega) (by omega), tN_nI (by omega), h3 1 (by omega), h3 2 (by omega), h3 3 (by omega), eh, ed, u1, bd_s, ix_in (by omega) (by omega)]
    have e : ffl (fun i => decide (num g P V (A 1 i) (A 2 i) (g 91) = A 3 i)) (r + 1) i = if decide (num g P V (nI h) (nI d) (g 91) = A 3 i) = true then ffl (fun i => decide (num g P V (A 1 i) (A 2 i) (g 91) = A 3 i)) r (i + 1) else nI i := by
      show (if decide (num g P V (A 1 i) (A 2 i) (g 91) = A 3 i) = true then _ else _) = _
      rw [eh, ed]
    have k3 : ∀ k, k < 8 → pt 8 32 U S k = A k := fun k hk => by rw [pt_out (by omega)]; exact h3 k hk
    have k4 : FrT T (sb 8 (pt 8 32 U S)) := fun k hk => by rw [sbpt (by omega)]; exact (u2 k hk).trans (h4 k hk)
    rw [e]
    by_cases c : num g P V (nI h) (nI d) (g 91) = A 3 i
    · rw [if_pos c, if_pos (decide_eq_true c), p1]
      exact ih f (i + 1) _ (by omega) (by omega) k3 k4
    · rw [if_neg c, if_neg (fun z => c (of_decide_eq_true z))]
      exact ⟨_, rfl, k3, k4⟩
theorem M_fl_l {T M0 : St} {H P V B w : Nat} (hT : RT T (M0 0) H P V B) (hw : M0 32 0 = nI w) (hw8 : w ≤ 8) : ∀ (f r i : Nat) (M : St), r < f → i + r = w → Fr M0 M → ∃ M' : St, f_X7_firstLie_2 f (nI i) M = some (ffl (fun i => decide (num (M0 0) P V (M0 31 (3 * i)) (M0 31 (3 * i + 1)) (M0 0 91) = M0 31 (3 * i + 2))) r i, M') ∧ Fr M0 M' := by
  have hb := hT.1
  obtain ⟨t0, t2, g88, t7, g89, t11, g90, t1, g91⟩ := hT.2.1
  intro f r
  induction r generalizing f with
  | zero =>
    intro i S h1 h2 h3
    obtain ⟨f, rfl⟩ : ∃ z, f = z + 1 := ⟨f - 1, by omega⟩
    rw [f_X7_firstLie_2_s, h3 32 (by omega), hw, if_pos (nI_le (by omega) (by omega))]
    exact ⟨S, rfl, h3⟩
  | succ r ih =>
    intro i S h1 h2 h3
    obtain ⟨f, rfl⟩ : ∃ z, f = z + 1 := ⟨f - 1, by omega⟩
    have e0 := h3 0 (by omega)
    obtain ⟨M', m1, m2⟩ := M_now S V P (M0 31 (3 * i)) (M0 31 (3 * i + 1)) (by rw [e0]; exact g89) (by omega) (by rw [e0]; exact g88) (by omega)
    rw [f_X7_firstLie_2_s, h3 32 (by omega), hw, if_neg (nI_ge (by omega) (by omega)), m3, p1, p2, ix_in (by omega) (by omega), ix_in (by omega) (by omega), tN_nI (by omega), tN_nI (by omega), tN_nI (by omega), h3 31 (by omega), m1, bd_s, ix_in (by omega) (by omega)]
    have e31 : M' 31 = M0 31 := (m2 31 (by omega)).trans (h3 31 (by omega))
    simp only [e31, e0]
    have e : ffl (fun i => decide (num (M0 0) P V (M0 31 (3 * i)) (M0 31 (3 * i + 1)) (M0 0 91) = M0 31 (3 * i + 2))) (r + 1) i = if decide (num (M0 0) P V (M0 31 (3 * i)) (M0 31 (3 * i + 1)) (M0 0 91) = M0 31 (3 * i + 2)) = true then ffl (fun i => decide (num (M0 0) P V (M0 31 (3 * i)) (M0 31 (3 * i + 1)) (M0 0 91) = M0 31 (3 * i + 2))) r (i + 1) else nI i := rfl
    rw [e]
    by_cases c : num (M0 0) P V (M0 31 (3 * i)) (M0 31 (3 * i + 1)) (M0 0 91) = M0 31 (3 * i + 2)
    · rw [if_pos c, if_pos (decide_eq_true c), p1]
      exact ih f (i + 1) _ (by omega) (by omega) (h3.tr m2)
    · rw [if_neg c, if_neg (fun z => c (of_decide_eq_true z))]
      exact ⟨_, rfl, h3.tr m2⟩
theorem fl_both {T G M : St} {H P V B : Nat} (hT : RT T (M 0) H P V B) (hS : RSeen G M H) : ∃ (r : Int32) (S' M' : St), f_X4_firstLie 8 (jn 8 (sb 152 G) T) = some (r, S') ∧ f_X7_firstLie M = some (r, M') ∧ (∀ k, k < 8 → S' k = G (152 + k)) ∧ FrT T (sb 8 S') ∧ Fr M M' := by
  obtain ⟨w0, w, hw, hw2, hw3, hw4⟩ := hS
  have hb := hT.1
  obtain ⟨S', s1, s2, s3⟩ := C_fl_l (A := sb 152 G) hT hw2 hw (fun i hi => by
    obtain ⟨a, b, c, ⟨h, hh, eh⟩, d, -⟩ := hw4 i hi
    refine ⟨⟨h, by omega, ?_⟩, ?_⟩
    · show G 153 i = nI h
      rw [a, eh]
    · show inB 36000 (G 154 i)
      rw [b]
      exact d) 1000 w 0 (jn 8 (sb 152 G) T) (by omega) (by omega) (fun k hk => jn_lo hk) (fun k hk => by
        show jn 8 (sb 152 G) T (8 + k) = T k
        rw [jn_hi (by omega)]
        exact congrArg T (by omega))
  obtain ⟨M', m1, m2⟩ := M_fl_l hT hw3 hw 1000 w 0 M (by omega) (by omega) Fr.rf
  refine ⟨_, S', M', s1, ?_, s2, s3, m2⟩
  have m1' : f_X7_firstLie M = some (ffl (fun i => decide (num (M 0) P V (M 31 (3 * i)) (M 31 (3 * i + 1)) (M 0 91) = M 31 (3 * i + 2))) w 0, M') := m1
  rw [m1']
  refine congrArg (fun z => some (z, M')) (ffl_congr w 0 (fun k h1 h2 => ?_))
  obtain ⟨a, b, c, -⟩ := hw4 k (by omega)
  show decide (num (M 0) P V (M 31 (3 * k)) (M 31 (3 * k + 1)) (M 0 91) = M 31 (3 * k + 2)) = decide (num (M 0) P V (G 153 k) (G 154 k) (M 0 91) = G 155 k)
  rw [a, b, c]
theorem op_lie : Op_lie Rel := by
  intro G M hR
  obtain ⟨H, hH, ⟨P, V, B, hT⟩, -, -, -, hS, -⟩ := id hR
  obtain ⟨r, S', M', s1, m1, s2, s3, m2⟩ := fl_both hT hS
  unfold f_X6_lie f_X7_lie
  rw [sb0, s1, m1]
  refine ⟨_, _, _, rfl, rfl, hR.cg (fun k hk => ?_) m2.fm⟩
  show pt 0 32 (sb 8 S') (pt 152 8 S' G) k = G k
  by_cases c : k < 32
  · rw [pt_in (by omega) (by omega)]
    exact s3 k (by omega)
  · rw [pt_out (by omega)]
    by_cases c2 : 152 ≤ k ∧ k < 160
    · rw [pt_in (by omega) (by omega), s2 (k - 152) (by omega)]
      exact congrArg G (by omega)
    · exact pt_out (by omega)
theorem RT.setBorn {T T2 : St} {g g2 : Nat → Int32} {H P V B p b : Nat} (h : RT T g H P V B) (hp : p < P) (hb : b < 36000) (hT : ∀ k, k < 16 → k ≠ 4 → T2 k = T k) (h4 : T2 4 = upd (T 4) p (nI b)) (hg : g2 = upd g (4 * p + 1) (nI b)) : RT T2 g2 H P V B := by
  obtain ⟨w, ⟨t0, t2, g88, t7, g89, t11, g90, t1, g91⟩, c1, c2, c3⟩ := h.un
  have q : ∀ k, k < 16 → k ≠ 4 → ∀ i, T2 k i = T k i := fun k a b i => by rw [hT k a b]
  subst hg
  refine RT.mk w ⟨?_, ?_, ?_, ?_, ?_, ?_, ?_, ?_, ?_⟩ ?_ (c2.cg (Nat.le_refl P) (fun p hp => ⟨q 8 (by omega) (by omega) p, q 9 (by omega) (by omega) p, q 10 (by omega) (by omega) p⟩) (fun i hi hi2 => upd_ne (by omega))) (c3.cg (fun p hp => ⟨q 12 (by omega) (by omega) p, q 13 (by omega) (by omega) p, q 14 (by omega) (by omega) p⟩) (fun i hi hi2 => upd_ne (by omega)))
  · rw [q 0 (by omega) (by omega)]; exact t0
  · rw [q 2 (by omega) (by omega)]; exact t2
  · rw [upd_ne (by omega)]; exact g88
  · rw [q 7 (by omega) (by omega)]; exact t7
  · rw [upd_ne (by omega)]; exact g89
  · rw [q 11 (by omega) (by omega)]; exact t11
  · rw [upd_ne (by omega)]; exact g90
  · rw [q 1 (by omega) (by omega), upd_ne (by omega)]; exact t1
  · rw [upd_ne (by omega)]; exact g91
  · intro p2 hp2
    obtain ⟨e3, e4, e5, e6, e7, e8, e9⟩ := c1 p2 hp2
    rw [q 3 (by omega) (by omega), q 5 (by omega) (by omega), q 6 (by omega) (by omega), h4, upd_ne (j := 4 * p2) (by omega), upd_ne (j := 4 * p2 + 2) (by omega), upd_ne (j := 4 * p2 + 3) (by omega)]
    refine ⟨e3, ?_, e5, e6, e7, ?_, e9⟩
    · by_cases c : p2 = p
      · subst c
        rw [upd_eq, upd_eq]
      · rw [upd_ne c, upd_ne (by omega)]
        exact e4
    · by_cases c : p2 = p
      · subst c
        rw [upd_eq]
        exact ⟨b, hb, rfl⟩
      · rw [upd_ne (by omega)]
        exact e8
theorem bn_loop {G0 M0 : St} {H P V B p b0 : Nat} (hp : p < P) (hP : P ≤ 10) (hb3 : b0 < 36000) (hb0 : G0 4 p = nI b0) (hm0 : M0 0 (4 * p + 1) = nI b0) (hd : dieR (G0 6 p) (M0 0 (4 * p + 3))) (hS : RSeen G0 M0 H) (x2 : Int32) : ∀ (r y n m cn : Nat) (fi la : Int32) (G M : St), r + y = 100 → r < n → r < m → (cn = 0 ↔ fi = -4) → cn ≤ y → FG G0 G → (∀ k, (0 < k ∧ k < 19) ∨ (22 < k ∧ k < 25) ∨ 30 < k → M k = M0 k) → (∀ j, j ≠ 4 * p + 1 → M 0 j = M0 0 j) → RT (sb 32 G) (M 0) H P V B → ∃ (rr : Int32) (G' M' : St), f_X6_born_46 n (nI p) x2 (nI cn) fi la (nI y) G = some (rr, G') ∧ f_X7_born_59 m (nI p) x2 (nI b0) (M0 0 (4 * p + 3)) (nI cn) fi la (nI y) M = some (rr, M') ∧ FG G0 G' ∧ FM M0 M' := by
  intro r
  induction r with
  | zero =>
    intro y n m cn fi la G M h1 h2 h3 h4 h5 hG hM hM0 hT
    obtain ⟨n, rfl⟩ : ∃ z, n = z + 1 := ⟨n - 1, by omega⟩
    obtain ⟨m, rfl⟩ : ∃ z, m = z + 1 := ⟨m - 1, by omega⟩
    obtain rfl : y = 100 := by omega
    have e100 : (100 : Int32) ≤ nI 100 := by decide
    rw [f_X6_born_46_s, f_X7_born_59_s, if_pos e100, if_pos e100]
    unfold f_X6_born_148 f_X7_born_146
    rw [m4, p1, ix_in (by omega) (by omega), tN_nI (by omega)]
    have hfm : FM M0 (st 0 (upd (M 0) (4 * p + 1) (nI b0)) M) := ⟨fun k hk => by rw [st_ne (by omega)]; exact hM k hk, fun j hj => by
      rw [st_eq]
      by_cases c : j = 4 * p + 1
      · rw [c, upd_eq, hm0]
      · rw [upd_ne c]
        exact hM0 j c⟩
    by_cases c : x2 = 0
    · rw [if_pos c, if_pos c]
      exact ⟨_, _, _, rfl, rfl, hG, hfm⟩
    · rw [if_neg c, if_neg c]
      by_cases c2 : x2 = 1
      · rw [if_pos c2, if_pos c2]
        exact ⟨_, _, _, rfl, rfl, hG, hfm⟩
      · rw [if_neg c2, if_neg c2]
        exact ⟨_, _, _, rfl, rfl, hG, hfm⟩
  | succ r ih =>
    intro y n m cn fi la G M h1 h2 h3 h4 h5 hG hM hM0 hT
    obtain ⟨n, rfl⟩ : ∃ z, n = z + 1 := ⟨n - 1, by omega⟩
    obtain ⟨m, rfl⟩ : ∃ z, m = z + 1 := ⟨m - 1, by omega⟩
    have e100 : ¬ (100 : Int32) ≤ nI y := nI_ge (b := 100) (by omega) (by omega)
    have ev : nI y * 360 + zrem (G 4 p) 360 = nI (360 * y + b0 % 360) := by
      rw [hG 4 (by omega), hb0, i360, nI_mod _ _ (by omega) (by omega), nI_mul, nI_add, Nat.mul_comm]
    have ev2 : (360 : Int32) * nI y + zrem (nI b0) 360 = nI (360 * y + b0 % 360) := by
      rw [i360, nI_mod _ _ (by omega) (by omega), nI_mul, nI_add]
    have hv : 360 * y + b0 % 360 < 36000 := by
      have := Nat.mod_lt b0 (show 0 < 360 by omega)
      omega
    rw [f_X6_born_46_s, f_X7_born_59_s, if_neg e100, if_neg e100, ev2]
    simp (disch := omega) only [ix_in, tN_nI, m4, p1]
    rw [ev, upd_eq, upd_eq]
    generalize hvv : 360 * y + b0 % 360 = v at *
    have hT1 : RT (sb 32 (st 36 (upd (G 36) p (nI v)) G)) (st 0 (upd (M 0) (4 * p + 1) (nI v)) M 0) H P V B := hT.setBorn hp hv (fun k hk hk4 => by
      show st 36 (upd (G 36) p (nI v)) G (32 + k) = G (32 + k)
      rw [st_ne (by omega)]) rfl rfl
    have hG1 : FG G0 (st 36 (upd (G 36) p (nI v)) G) := fun k hk => by rw [st_ne (by omega)]; exact hG k hk
    have hM1 : ∀ k, (0 < k ∧ k < 19) ∨ (22 < k ∧ k < 25) ∨ 30 < k → st 0 (upd (M 0) (4 * p + 1) (nI v)) M k = M0 k := fun k hk => by rw [st_ne (by omega)]; exact hM k hk
    have hM2 : ∀ j, j ≠ 4 * p + 1 → st 0 (upd (M 0) (4 * p + 1) (nI v)) M 0 j = M0 0 j := fun j hj => by rw [st_eq, upd_ne hj]; exact hM0 j hj
    generalize st 36 (upd (G 36) p (nI v)) G = G1 at *
    generalize st 0 (upd (M 0) (4 * p + 1) (nI v)) M = M1 at *
    rw [hG 6 (by omega)]
    -- nobody is seen where he dies first
    have skip : ∃ (rr : Int32) (G' M' : St), f_X6_born_142 (f_X6_born_46 n) (nI p) x2 (nI cn) fi la (nI y) G1 = some (rr, G') ∧ f_X7_born_140 (f_X7_born_59 m) (nI p) x2 (nI b0) (M0 0 (4 * p + 3)) (nI cn) fi la (nI y) M1 = some (rr, M') ∧ FG G0 G' ∧ FM M0 M' := by
      unfold f_X6_born_142 f_X7_born_140
      rw [p1]
      exact ih (y + 1) n m cn fi la G1 M1 (by omega) (by omega) (by omega) h4 (by omega) hG1 hM1 hM2 hT1
    have look : ∃ (rr : Int32) (G' M' : St), ((f_X4_firstLie 8 (jn 8 (sb 152 G1) (sb 32 G1))).bind (fun q1 => (if q1.1 = (-4 : Int32) then (if fi = (-4 : Int32) then (f_X6_born_136 (f_X6_born_46 n) (nI p) x2 (nI (cn + 1)) (nI y) (nI y) (pt 32 32 (sb 8 q1.2) (pt 152 8 q1.2 G1))) else (f_X6_born_136 (f_X6_born_46 n) (nI p) x2 (nI (cn + 1)) (nI y) fi (pt 32 32 (sb 8 q1.2) (pt 152 8 q1.2 G1)))) else (f_X6_born_142 (f_X6_born_46 n) (nI p) x2 (nI cn) fi la (nI y) (pt 32 32 (sb 8 q1.2) (pt 152 8 q1.2 G1)))))) = some (rr, G') ∧ f_X7_born_110 (f_X7_born_59 m) (nI p) x2 (nI b0) (M0 0 (4 * p + 3)) (nI cn) fi la (nI y) M1 = some (rr, M') ∧ FG G0 G' ∧ FM M0 M' := by
      obtain ⟨rl, S', M', s1, m1, s2, s3, m2⟩ := fl_both hT1 (hS.cg (fun j a b => hG1 j (by omega)) (hM1 31 (by omega)) (hM1 32 (by omega)))
      unfold f_X7_born_110
      rw [s1, m1, bd_s, bd_s]
      dsimp only
      have hG2 : FG G0 (pt 32 32 (sb 8 S') (pt 152 8 S' G1)) := fun k hk => by
        rw [pt_out (by omega)]
        by_cases c2 : 152 ≤ k ∧ k < 160
        · rw [pt_in (by omega) (by omega), s2 (k - 152) (by omega), show 152 + (k - 152) = k by omega]
          exact hG1 k hk
        · rw [pt_out (by omega)]
          exact hG1 k hk
      have hT2 : RT (sb 32 (pt 32 32 (sb 8 S') (pt 152 8 S' G1))) (M' 0) H P V B := by
        rw [m2 0 (by omega)]
        exact hT1.fr (fun k hk => by rw [sbpt (by omega)]; exact s3 k hk)
      have hM3 : ∀ k, (0 < k ∧ k < 19) ∨ (22 < k ∧ k < 25) ∨ 30 < k → M' k = M0 k := fun k hk => by rw [m2 k (by omega)]; exact hM1 k hk
      have hM4 : ∀ j, j ≠ 4 * p + 1 → M' 0 j = M0 0 j := fun j hj => by rw [m2 0 (by omega)]; exact hM2 j hj
      by_cases c : rl = -4
      · rw [if_pos c, if_pos c]
        unfold f_X6_born_136 f_X6_born_142 f_X7_born_131 f_X7_born_140
        simp only [p1]
        by_cases c0 : cn = 0
        · have cf := h4.mp c0
          have cz : nI cn = 0 := by rw [c0]; rfl
          rw [if_pos cf, if_pos cz]
          exact ih (y + 1) n m (cn + 1) (nI y) (nI y) _ M' (by omega) (by omega) (by omega) ⟨fun z => by omega, fun z => absurd z (i4ne (j := y) rfl (by omega))⟩ (by omega) hG2 hM3 hM4 hT2
        · have cf : ¬ fi = -4 := fun z => c0 (h4.mpr z)
          have cz : ¬ nI cn = 0 := nI_ne0 (by omega) (by omega)
          rw [if_neg cf, if_neg cz]
          exact ih (y + 1) n m (cn + 1) fi (nI y) _ M' (by omega) (by omega) (by omega) ⟨fun z => by omega, fun z => absurd z cf⟩ (by omega) hG2 hM3 hM4 hT2
      · rw [if_neg c, if_neg c]
        unfold f_X6_born_142 f_X7_born_140
        rw [p1]
        exact ih (y + 1) n m cn fi la _ M' (by omega) (by omega) (by omega) h4 (by omega) hG2 hM3 hM4 hT2
    rcases hd with ⟨q1, q2⟩ | ⟨q1, dd, q2, q3⟩
    · have c : ¬ G0 6 p ≤ nI v := by rw [q1, i36000]; exact nI_ge hv (by omega)
      rw [if_neg c, if_pos q2]
      exact look
    · rw [if_neg (i4ne q3 (by omega)), q1]
      by_cases c : M0 0 (4 * p + 3) ≤ nI v
      · rw [if_pos c, if_pos c]
        exact skip
      · rw [if_neg c, if_neg c]
        exact look
theorem op_born : Op_born Rel := by
  intro x1 x2 G M hR
  obtain ⟨H, hH, ⟨P, V, B, hT⟩, hI, hA, hW, hS, hQ, hN⟩ := id hR
  obtain ⟨hb, ⟨t0, t2, g88, t7, g89, t11, g90, t1, g91⟩, c1, c2, c3⟩ := hT.un
  unfold f_X6_born f_X7_born
  rw [sb0, C_isOne t2 (by omega), M_isOne g88 (by omega), M_in x2 (n := 3) (by decide) (by decide), show (2 : Int32) = nI 2 from rfl, vd_le (by omega)]
  rcases tf (vd P x1) with v1 | v1
  · rw [vb_t v1, vb_t v1]
    rcases tf (vd 3 x2) with v2 | v2
    · rw [if_pos v2, vb_t v2]
      obtain ⟨p, hp, rfl⟩ := vd_t v1
      obtain ⟨e3, e4, e5, e6, e7, ⟨b0, hb0, e8⟩, e9⟩ := c1 p hp
      obtain ⟨U, u1, u2, u3, u4, u5, u6, u7⟩ := C_copyOf (sb 32 G) G
      simp (disch := omega) only [m4, p1, p3, ix_in, tN_nI]
      rw [u1, bd_s, e8]
      have hsb : sb 32 U = G := funext fun j => u2 j
      have hG : FG G (pt 0 32 (sb 32 U) (pt 32 32 U G)) := fun k hk => by
        by_cases c : k < 32
        · rw [pt_in (by omega) (by omega), hsb]
          rfl
        · rw [pt_out (by omega), pt_out (by omega)]
      have hT2 : RT (sb 32 (pt 0 32 (sb 32 U) (pt 32 32 U G))) (M 0) H P V B := by
        refine (hT.copy u4 u5 u6 u7 (g2 := M 0) (fun _ _ => rfl)).cg (fun k hk => ?_) (fun _ _ => rfl)
        show pt 0 32 (sb 32 U) (pt 32 32 U G) (32 + k) = U k
        rw [pt_out (by omega), pt_in (by omega) (by omega)]
        exact congrArg U (by omega)
      obtain ⟨rr, G', M', k1, k2, k3, k4⟩ := bn_loop (G0 := G) (M0 := M) (B := B) hp (by omega) hb0 (e4.trans e8) e8 e6 hS x2 100 0 1000 1000 0 (-4) (-4) (pt 0 32 (sb 32 U) (pt 32 32 U G)) M (by omega) (by omega) (by omega) ⟨fun _ => rfl, fun _ => rfl⟩ (by omega) hG (fun _ _ => rfl) (fun _ _ => rfl) hT2
      exact ⟨rr, G', M', k1, k2, hR.cg k3 k4⟩
    · rw [vb_f v2, if_neg (by rw [v2]; decide)]
      exact ⟨_, _, _, rfl, rfl, hR⟩
  · rw [vb_f v1, vb_f v1]
    exact ⟨_, _, _, rfl, rfl, hR⟩
