-- read: moves out of a sheet
theorem C_f3 {G M : St} {k : Nat} (hk : k < 4) (h : RSheet G M k) (x2 f : Int32) (c : Nat) (hc : c ≤ 12) (hp : c = 0 ∨ fcell G k x2 f (3 * c - 1) = 0) : f_X1_faultOfThree (nI k) x2 (f + (3 : Int32) * nI c) (sb 176 G) = some (if fcell G k x2 f (3 * c) = 0 then (if fcell G k x2 f (3 * c + 1) = 0 then fcell G k x2 f (3 * c + 2) else fcell G k x2 f (3 * c + 1)) else fcell G k x2 f (3 * c)) := by
  have e1 : (0 : Int32) + 1 = nI 1 := by decide
  have e2 : (0 : Int32) + 1 + 1 = nI 2 := by decide
  have e3 : (0 : Int32) + 1 + 1 + 1 = nI 3 := by decide
  have k0 := C_fc hk h x2 f (f + (3 : Int32) * nI c + 0) (3 * c) (by omega) (fun q => by
    obtain rfl : c = 0 := by omega
    rw [show (3 : Int32) * nI 0 = 0 from by decide, Int32.add_zero, Int32.add_zero]) (fun F e hF => by rw [e, m3, nI_add, Int32.add_zero]) (by rcases hp with q | q; exact Or.inl (by omega); exact Or.inr q)
  have k1 : fcell G k x2 f (3 * c) = 0 → f_X1_faultAt (nI k) x2 (f + (3 : Int32) * nI c + nI 1) (sb 176 G) = some (fcell G k x2 f (3 * c + 1)) := fun q => C_fc hk h x2 f _ (3 * c + 1) (by omega) (fun q => by omega) (fun F e hF => by rw [e, m3, nI_add, nI_add]; exact congrArg nI (by omega)) (Or.inr (by rw [show 3 * c + 1 - 1 = 3 * c by omega]; exact q))
  have k2 : fcell G k x2 f (3 * c + 1) = 0 → f_X1_faultAt (nI k) x2 (f + (3 : Int32) * nI c + nI 2) (sb 176 G) = some (fcell G k x2 f (3 * c + 2)) := fun q => C_fc hk h x2 f _ (3 * c + 2) (by omega) (fun q => by omega) (fun F e hF => by rw [e, m3, nI_add, nI_add]; exact congrArg nI (by omega)) (Or.inr (by rw [show 3 * c + 2 - 1 = 3 * c + 1 by omega]; exact q))
  unfold f_X1_faultOfThree
  rw [f_X1_faultOfThree_6_s 999, if_neg (by decide), if_pos rfl, k0, bd_s, f_X1_faultOfThree_6_s 998, if_neg (by decide)]
  by_cases a : fcell G k x2 f (3 * c) = 0
  · rw [if_pos a, if_pos a, e1, k1 a, bd_s, f_X1_faultOfThree_6_s 997, if_neg (by decide)]
    by_cases b : fcell G k x2 f (3 * c + 1) = 0
    · rw [if_pos b, if_pos b, show nI 1 + (1 : Int32) = nI 2 from by decide, k2 b, bd_s, f_X1_faultOfThree_6_s 996, if_pos (by decide)]
    · rw [if_neg b, if_neg b]
  · rw [if_neg a, if_neg a]
theorem nI_mod (a b : Nat) (ha : a < 2 ^ 31) (hb : b < 2 ^ 31) : zrem (nI a) (nI b) = nI (a % b) := by
  have h : a / b * b ≤ a := Nat.div_mul_le_self a b
  have e : a - a / b * b = a % b := by
    have := Nat.mod_add_div a b
    rw [Nat.mul_comm] at this
    omega
  show nI a - nI a / nI b * nI b = _
  rw [nI_div a b ha hb, nI_mul, nI_sub h, e]
theorem M_rd {G M : St} {k : Nat} (hk : k < 4) (h : RSheet G M k) (x2 f x5 x7 : Int32) (N i n : Nat) (hN : N ≤ 13) (hi : i ≤ 39) (hp : i = 0 ∨ fcell G k x2 f (i - 1) = 0) : f_X7_read_60 (n + 1) (nI k) x2 f (nI N) x5 0 x7 0 (nI i) M = if 3 * N ≤ i then some (x7, st 37 (fun _ => 0) M) else f_X7_read_135 (f_X7_read_60 n) (nI k) x2 f (nI N) x5 x7 0 (nI i) (fcell G k x2 f i) M := by
  rw [f_X7_read_60_s]
  unfold f_X7_read_221
  rw [m3]
  by_cases q : 3 * N ≤ i
  · rw [if_pos (nI_le q (by omega)), if_pos q, if_pos rfl]
  · rw [if_neg (nI_ge (by omega) (by omega)), if_neg q, if_pos rfl, if_pos rfl]
    simp only [ix_in hk (show 4 < 2 ^ 31 by omega), tN_nI (show k < 2 ^ 31 by omega)]
    rcases h with ⟨z1, z2⟩ | ⟨n2, l, a1, a2, a3, a4, a5, a6, a7⟩
    · rw [z2, if_pos rfl]
      unfold fcell
      rw [if_pos z1]
    · rw [a6, a4, if_neg (i4ne (j := l) rfl (by omega))]
      unfold fcell
      rw [a3, a5, if_neg (i_m1 (by omega)), tN_nI (by omega)]
      by_cases w : nI l = x2
      · rw [if_pos w, if_pos w, M_in0]
        have e1 : (Int32.toInt64 f + Int32.toInt64 (nI i)).toInt = f.toInt + (i : Int) := by
          have b1 := Int32.toInt_lt f
          have b2 := Int32.le_toInt f
          rw [Int64.toInt_add, Int32.toInt_toInt64, Int32.toInt_toInt64, nI_toInt (by omega)]
          exact Int.bmod_eq_of_le (by omega) (by omega)
        have e2 : (Int32.toInt64 (nI n2 - 1)).toInt = (n2 : Int) - 1 := nI_m1_64 (by omega)
        have e0 : (0 : Int64).toInt = 0 := by decide
        have key : (0 ≤ Int32.toInt64 f + Int32.toInt64 (nI i) ∧ Int32.toInt64 f + Int32.toInt64 (nI i) ≤ Int32.toInt64 (nI n2 - 1)) ↔ (vd 40 f = true ∧ f.toNatClampNeg + i < n2) := by
          rw [Int64.le_iff_toInt_le, Int64.le_iff_toInt_le, e1, e2, e0]
          rcases tf (vd 40 f) with c | c
          · obtain ⟨F, hF, rfl⟩ := vd_t c
            rw [nI_toInt (by omega), tN_nI (by omega)]
            constructor
            · intro z
              exact ⟨c, by omega⟩
            · intro z
              omega
          · have hf : ¬ (0 ≤ f.toInt ∧ f.toInt < 40) := by
              unfold vd at c
              exact of_decide_eq_false c
            constructor
            · intro z
              rcases hp with rfl | hp
              · exact absurd ⟨by omega, by omega⟩ hf
              · obtain ⟨-, -, F, hF, rfl, -⟩ := fc_ok hp
                rw [vd_nI hF (by omega)] at c
                exact Bool.noConfusion c
            · intro z
              rw [c] at z
              exact Bool.noConfusion z.1
        by_cases z : vd 40 f = true ∧ f.toNatClampNeg + i < n2
        · rw [if_pos (key.mpr z), if_pos z, bd_s, if_neg (by decide)]
        · rw [if_neg (fun e => z (key.mp e)), if_neg z, bd_s, if_pos rfl]
      · rw [if_neg w, if_neg w]
/-- behind a fault the reading ends -/
theorem M_rd_f (k N i n : Nat) (x2 f x5 x7 y : Int32) (M : St) (hy : ¬ y = 0) : f_X7_read_135 (f_X7_read_60 (n + 1)) (nI k) x2 f (nI N) x5 x7 0 (nI i) y M = some (x7, st 37 (fun _ => y) M) := by
  unfold f_X7_read_135 f_X7_read_215
  rw [if_neg hy, f_X7_read_60_s]
  unfold f_X7_read_221
  rw [if_neg hy, if_pos rfl]
  by_cases q : (3 : Int32) * nI N ≤ nI i + 1
  · rw [if_pos q]
  · rw [if_neg q]
theorem RT.shrink {T T2 : St} {g g2 : Nat → Int32} {H P V W B : Nat} (h : RT T g H P W B) (hV : V ≤ W) (hT : ∀ k, k < 16 → k ≠ 7 → T2 k = T k) (h7 : T2 7 0 = nI V) (hg : ∀ j, j < 92 → j ≠ 89 → g2 j = g j) (h89 : g2 89 = nI V) : RT T2 g2 H P V B := by
  obtain ⟨b1, ⟨t0, t2, g88, t7, g89, t11, g90, t1, g91⟩, c1, c2, c3⟩ := h.un
  have q : ∀ k, k < 16 → k ≠ 7 → ∀ i, T2 k i = T k i := fun k a b i => by rw [hT k a b]
  refine RT.mk (by omega) ⟨?_, ?_, ?_, h7, h89, ?_, ?_, ?_, ?_⟩ (c1.cg (fun p hp => ⟨q 3 (by omega) (by omega) p, q 4 (by omega) (by omega) p, q 5 (by omega) (by omega) p, q 6 (by omega) (by omega) p⟩) (fun i hi => hg i (by omega) (by omega))) (RTm.cg (T := T) (g := g) (P := P) (fun k hk => c2 k (by omega)) (Nat.le_refl P) (fun p hp => ⟨q 8 (by omega) (by omega) p, q 9 (by omega) (by omega) p, q 10 (by omega) (by omega) p⟩) (fun i hi hi2 => hg i (by omega) (by omega))) (c3.cg (fun p hp => ⟨q 12 (by omega) (by omega) p, q 13 (by omega) (by omega) p, q 14 (by omega) (by omega) p⟩) (fun i hi hi2 => hg i (by omega) (by omega)))
  · rw [q 0 (by omega) (by omega)]; exact t0
  · rw [q 2 (by omega) (by omega)]; exact t2
  · rw [hg 88 (by omega) (by omega)]; exact g88
  · rw [q 11 (by omega) (by omega)]; exact t11
  · rw [hg 90 (by omega) (by omega)]; exact g90
  · rw [q 1 (by omega) (by omega), hg 91 (by omega) (by omega)]; exact t1
  · rw [hg 91 (by omega) (by omega)]; exact g91
theorem C_rd (k : Nat) (hk : k < 4) (n : Nat) (x2 x3 x4 x5 x6 x7 : Int32) (S : St) : f_X6_read_51 (n + 1) (nI k) x2 x3 x4 x5 x6 x7 S = (if x4 ≤ x7 then some (x7, st 185 (fun _ => x6) S) else (if x6 = 0 then ((f_X1_faultOfThree (nI k) x2 (x3 + ((3 : Int32) * x7)) (sb 176 S)).bind (fun q1 => (if q1 = 0 then (ix (x3 + ((3 : Int32) * x7)) 40 (ix ((x3 + ((3 : Int32) * x7)) + (1 : Int32)) 40 (ix ((x3 + ((3 : Int32) * x7)) + (2 : Int32)) 40 ((f_X5_addMove (S (176 + k) (Int32.toNatClampNeg (x3 + ((3 : Int32) * x7)))) (S (176 + k) (Int32.toNatClampNeg ((x3 + ((3 : Int32) * x7)) + (1 : Int32)))) (S (176 + k) (Int32.toNatClampNeg ((x3 + ((3 : Int32) * x7)) + (2 : Int32)))) (sb 0 S)).bind (fun q5 => (if 0 ≤ q5.1 then (f_X6_read_51 n (nI k) x2 x3 x4 x5 q1 (x7 + (1 : Int32)) (pt 0 32 q5.2 S)) else (some (((-20 : Int32) - x7), (st 7 (fun _ => x5) (pt 0 32 q5.2 S)))))))))) else (f_X6_read_51 n (nI k) x2 x3 x4 x5 q1 x7 S)))) else (some (x7, st 185 (fun _ => x6) S)))) := by
  rw [f_X6_read_51_s]
  unfold f_X6_read_150 f_X6_read_147 f_X6_read_129
  rcases (show k = 0 ∨ k = 1 ∨ k = 2 ∨ k = 3 by omega) with rfl | rfl | rfl | rfl
  · simp only [if_pos n0, Nat.reduceAdd]
  · simp only [if_neg (show ¬ nI 1 = 0 by decide), if_pos n1, Nat.reduceAdd]
  · simp only [if_neg (show ¬ nI 2 = 0 by decide), if_neg (show ¬ nI 2 = 1 by decide), if_pos n2, Nat.reduceAdd]
  · simp only [if_neg (show ¬ nI 3 = 0 by decide), if_neg (show ¬ nI 3 = 1 by decide), if_neg (show ¬ nI 3 = 2 by decide), if_pos n3, Nat.reduceAdd]
theorem fc_cg {G G0 : St} {k i : Nat} {x2 f : Int32} (h : G 181 = G0 181) (h2 : G 180 = G0 180) : fcell G k x2 f i = fcell G0 k x2 f i := by
  unfold fcell
  rw [h, h2]
theorem rd_loop {G0 M0 : St} {k N H P V B : Nat} (hk : k < 4) (hN : N ≤ 13) (x2 f : Int32) (hS : RSheet G0 M0 k) (hH : M0 1 0 = nI H) (hn : G0 185 0 = M0 37 0) : ∀ (r c n m W : Nat) (G M : St), r + c = N → r + 1 < n → 3 * r + 2 < m → (c = 0 ∨ fcell G0 k x2 f (3 * c - 1) = 0) → RT G (M 0) H P W B → V ≤ W → (∀ j, 32 ≤ j → G j = G0 j) → (∀ j, 0 < j → M j = M0 j) → (∀ j, 92 ≤ j → M 0 j = M0 0 j) → ∃ (rr : Int32) (G' M' : St), f_X6_read_51 n (nI k) x2 f (nI N) (nI V) 0 (nI c) G = some (rr, G') ∧ f_X7_read_60 m (nI k) x2 f (nI N) (nI V) 0 (nI c) 0 (nI (3 * c)) M = some (rr, M') ∧ (∃ V2, RT G' (M' 0) H P V2 B) ∧ (∀ j, 32 ≤ j → j ≠ 185 → G' j = G0 j) ∧ (∀ j, 0 < j → j ≠ 37 → M' j = M0 j) ∧ (∀ j, 92 ≤ j → M' 0 j = M0 0 j) ∧ G' 185 0 = M' 37 0 := by
  intro r
  induction r with
  | zero =>
    intro c n m W G M h1 h2 h3 h4 hT hV hG hM hM0
    obtain ⟨n, rfl⟩ : ∃ z, n = z + 1 := ⟨n - 1, by omega⟩
    obtain ⟨m, rfl⟩ : ∃ z, m = z + 1 := ⟨m - 1, by omega⟩
    obtain rfl : c = N := by omega
    have hS' : RSheet G M k := hS.cg hk (fun j a b => hG j (by omega)) (hM 34 (by omega)) (hM 35 (by omega)) (hM 36 (by omega))
    rw [C_rd k hk, if_pos (nI_le (Nat.le_refl c) (by omega)), M_rd hk hS' x2 f _ _ _ _ m hN (by omega) (by
      rcases h4 with q | q
      · exact Or.inl (by omega)
      · exact Or.inr (by rw [fc_cg (hG 181 (by omega)) (hG 180 (by omega))]; exact q)), if_pos (Nat.le_refl _)]
    exact ⟨_, _, _, rfl, rfl, ⟨W, hT.cg (fun j hj => st_ne (by omega)) (fun j hj => by rw [st_ne (by omega)])⟩, fun j h1 h2 => by rw [st_ne h2]; exact hG j h1, fun j h1 h2 => by rw [st_ne h2]; exact hM j h1, fun j h1 => by rw [st_ne (by omega)]; exact hM0 j h1, rfl⟩
  | succ r ih =>
    intro c n m W G M h1 h2 h3 h4 hT hV hG hM hM0
    obtain ⟨n, rfl⟩ : ∃ z, n = z + 1 := ⟨n - 1, by omega⟩
    obtain ⟨m, rfl⟩ : ∃ z, m = z + 1 + 1 + 1 + 1 := ⟨m - 4, by omega⟩
    have hS' : RSheet G M k := hS.cg hk (fun j a b => hG j (by omega)) (hM 34 (by omega)) (hM 35 (by omega)) (hM 36 (by omega))
    have hp : c = 0 ∨ fcell G k x2 f (3 * c - 1) = 0 := by
      rcases h4 with q | q
      · exact Or.inl q
      · exact Or.inr (by rw [fc_cg (hG 181 (by omega)) (hG 180 (by omega))]; exact q)
    have hend : ∀ y : Int32, ¬ y = 0 → ∃ G' : St, f_X6_read_51 n (nI k) x2 f (nI N) (nI V) y (nI c) G = some (nI c, G') ∧ G' = st 185 (fun _ => y) G := by
      intro y hy
      obtain ⟨n, rfl⟩ : ∃ z, n = z + 1 := ⟨n - 1, by omega⟩
      refine ⟨_, ?_, rfl⟩
      rw [C_rd k hk, if_neg hy]
      by_cases q : nI N ≤ nI c
      · rw [if_pos q]
      · rw [if_neg q]
    have hfin : ∀ y : Int32, (∃ V2, RT (st 185 (fun _ => y) G) (st 37 (fun _ => y) M 0) H P V2 B) ∧ (∀ j, 32 ≤ j → j ≠ 185 → st 185 (fun _ => y) G j = G0 j) ∧ (∀ j, 0 < j → j ≠ 37 → st 37 (fun _ => y) M j = M0 j) ∧ (∀ j, 92 ≤ j → st 37 (fun _ => y) M 0 j = M0 0 j) ∧ st 185 (fun _ => y) G 185 0 = st 37 (fun _ => y) M 37 0 := fun y => ⟨⟨W, hT.cg (fun j hj => st_ne (by omega)) (fun j hj => by rw [st_ne (by omega)])⟩, fun j h1 h2 => by rw [st_ne h2]; exact hG j h1, fun j h1 h2 => by rw [st_ne h2]; exact hM j h1, fun j h1 => by rw [st_ne (by omega)]; exact hM0 j h1, rfl⟩
    have go : ∀ i y, nI i + (1 : Int32) = nI y → i + 1 = y → nI i + (1 : Int32) = nI (i + 1) := fun i y _ _ => p1 i
    rw [C_rd k hk, if_neg (nI_ge (by omega) (by omega)), if_pos rfl, C_f3 hk hS' x2 f c (by omega) hp, bd_s, M_rd hk hS' x2 f _ _ _ _ _ hN (by omega) (by
      rcases hp with q | q
      · exact Or.inl (by omega)
      · exact Or.inr q), if_neg (show ¬ 3 * N ≤ 3 * c by omega)]
    by_cases a0 : fcell G k x2 f (3 * c) = 0
    · rw [if_pos a0, a0]
      have s0 : f_X7_read_135 (f_X7_read_60 (m + 1 + 1 + 1)) (nI k) x2 f (nI N) (nI V) (nI c) 0 (nI (3 * c)) 0 M = f_X7_read_60 (m + 1 + 1 + 1) (nI k) x2 f (nI N) (nI V) 0 (nI c) 0 (nI (3 * c + 1)) M := by
        unfold f_X7_read_135 f_X7_read_215
        rw [if_pos rfl, i3, nI_mod _ _ (by omega) (by omega), if_neg (fun e => by have := (nI_eq (by omega) (by omega)).mp (e.trans i2); omega), p1]
      rw [s0, M_rd hk hS' x2 f _ _ _ _ _ hN (by omega) (Or.inr (by rw [show 3 * c + 1 - 1 = 3 * c by omega]; exact a0)), if_neg (show ¬ 3 * N ≤ 3 * c + 1 by omega)]
      by_cases a1 : fcell G k x2 f (3 * c + 1) = 0
      · rw [if_pos a1, a1]
        have s1 : f_X7_read_135 (f_X7_read_60 (m + 1 + 1)) (nI k) x2 f (nI N) (nI V) (nI c) 0 (nI (3 * c + 1)) 0 M = f_X7_read_60 (m + 1 + 1) (nI k) x2 f (nI N) (nI V) 0 (nI c) 0 (nI (3 * c + 2)) M := by
          unfold f_X7_read_135 f_X7_read_215
          rw [if_pos rfl, i3, nI_mod _ _ (by omega) (by omega), if_neg (fun e => by have := (nI_eq (by omega) (by omega)).mp (e.trans i2); omega), p1]
        rw [s1, M_rd hk hS' x2 f _ _ _ _ _ hN (by omega) (Or.inr (by rw [show 3 * c + 2 - 1 = 3 * c + 1 by omega]; exact a1)), if_neg (show ¬ 3 * N ≤ 3 * c + 2 by omega)]
        by_cases a2 : fcell G k x2 f (3 * c + 2) = 0
        · rw [if_pos a2, a2]
          obtain ⟨b1, b2, F, hF, rfl, b3⟩ := fc_ok a2
          rcases id hS' with ⟨z1, -⟩ | ⟨sz, l, y1, y2, y3, y4, y5, y6, y7⟩
          · exact absurd z1 b1
          rw [y3, tN_nI (by omega)] at b3
          have hb := hT.1
          have ea : nI F + (3 : Int32) * nI c = nI (F + 3 * c) := by rw [m3, nI_add]
          have eb : (40 : Int32) * nI k + nI F + nI (3 * c + 2) = nI (40 * k + (F + 3 * c) + 2) := by
            rw [i40, nI_mul, nI_add, nI_add]
            exact congrArg nI (by omega)
          have ec : nI (40 * k + (F + 3 * c) + 2) - 2 = nI (40 * k + (F + 3 * c)) := by
            rw [i2, nI_sub (by omega)]
            exact congrArg nI (by omega)
          have ed : nI (40 * k + (F + 3 * c) + 2) - 1 = nI (40 * k + (F + 3 * c) + 1) := by
            rw [i1, nI_sub (by omega)]
            exact congrArg nI (by omega)
          have s2 : ∀ z, f_X7_read_135 z (nI k) x2 (nI F) (nI N) (nI V) (nI c) 0 (nI (3 * c + 2)) 0 M = (f_X7_moves (M 36 (40 * k + (F + 3 * c))) (M 36 (40 * k + (F + 3 * c) + 1)) (M 36 (40 * k + (F + 3 * c) + 2)) M).bind (fun q1 => if 0 ≤ q1.1 then f_X7_read_198 z (nI k) x2 (nI F) (nI N) (nI V) 0 (nI c) (nI (3 * c + 2)) 0 q1.2 else f_X7_read_198 z (nI k) x2 (nI F) (nI N) (nI V) 0 (nI c) (nI (3 * c + 2)) 1 q1.2) := by
            intro z
            unfold f_X7_read_135
            have e2 : zrem (nI (3 * c + 2)) 3 = 2 := by
              rw [i3, nI_mod _ _ (by omega) (by omega), show (3 * c + 2) % 3 = 2 by omega]
              rfl
            rw [if_pos rfl, if_pos e2, eb, ec, ed, ix_in (by omega) (by omega), ix_in (by omega) (by omega), ix_in (by omega) (by omega), tN_nI (by omega), tN_nI (by omega), tN_nI (by omega)]
          rw [s2, ea, p1, p2, ix_in (by omega) (by omega), ix_in (by omega) (by omega), ix_in (by omega) (by omega), tN_nI (by omega), tN_nI (by omega), tN_nI (by omega), sb0, y7 _ (by omega), y7 _ (by omega), y7 _ (by omega), show 40 * k + (F + 3 * c) + 1 = 40 * k + (F + 3 * c + 1) by omega, show 40 * k + (F + 3 * c) + 2 = 40 * k + (F + 3 * c + 2) by omega]
          rcases mv_step hT (hM 1 (by omega) ▸ hH) (M 36 (40 * k + (F + 3 * c))) (M 36 (40 * k + (F + 3 * c + 1))) (M 36 (40 * k + (F + 3 * c + 2))) with ⟨rr, hr, v1, v2⟩ | ⟨U, M2, v1, v2, v3, v4, v5, v6⟩
          · have hrn : ¬ 0 ≤ rr := by rcases hr with rfl | rfl <;> decide
            have ept : pt 0 32 G G = G := by
              funext j
              by_cases z : j < 32
              · rw [pt_in (by omega) (by omega)]
                rfl
              · exact pt_out (by omega)
            have hz : ∀ x9 : Int32, f_X7_read_60 (m + 1) (nI k) x2 (nI F) (nI N) (nI V) 0 (nI c + 0) 1 x9 M = some (-20 - nI c, st 0 (upd (M 0) 89 (nI V)) M) := by
              intro x9
              have e3 : f_X7_read_221 (nI V) 0 (nI c + 0) 1 M = some (-20 - nI c, st 0 (upd (M 0) 89 (nI V)) M) := by
                unfold f_X7_read_221
                rw [if_neg (by decide), i89, ix_in (by omega) (by omega), tN_nI (by omega), Int32.add_zero]
              rw [f_X7_read_60_s, e3, if_pos rfl, if_neg (show ¬ (1 : Int32) = 0 by decide)]
              by_cases z : (3 : Int32) * nI N ≤ x9
              · rw [if_pos z]
              · rw [if_neg z]
            rw [v1, v2, bd_s, bd_s, if_neg hrn, if_neg hrn, ept]
            unfold f_X7_read_198 f_X7_read_212 f_X7_read_215
            rw [if_neg (show ¬ (1 : Int32) = 0 by decide), hz]
            refine ⟨_, _, _, rfl, rfl, ⟨V, hT.shrink hV (fun j j1 j2 => st_ne j2) rfl (fun j j1 j2 => by rw [st_eq, upd_ne j2]) (by rw [st_eq, upd_eq])⟩, fun j j1 j2 => by rw [st_ne (by omega)]; exact hG j j1, fun j j1 j2 => by rw [st_ne (by omega)]; exact hM j j1, fun j j1 => by rw [st_eq, upd_ne (by omega)]; exact hM0 j j1, ?_⟩
            rw [st_ne (by omega), st_ne (by omega), hG 185 (by omega), hM 37 (by omega)]
            exact hn
          · have hrp : 0 ≤ nI (W + 1) := nI_pos' (by have := v3.1; omega)
            rw [v1, v2, bd_s, bd_s, if_pos hrp, if_pos hrp]
            unfold f_X7_read_198 f_X7_read_212 f_X7_read_215
            rw [if_pos rfl, p1, p1, show 3 * c + 2 + 1 = 3 * (c + 1) by omega]
            exact ih (c + 1) n (m + 1) (W + 1) _ M2 (by omega) (by omega) (by omega) (Or.inr (by rw [show 3 * (c + 1) - 1 = 3 * c + 2 by omega, ← fc_cg (hG 181 (by omega)) (hG 180 (by omega))]; exact a2)) (RT.pt v3) (by omega) (fun j hj => by rw [pt_o hj]; exact hG j hj) (fun j hj => by rw [v5 j hj]; exact hM j hj) (fun j hj => by rw [v6 j hj]; exact hM0 j hj)
        · rw [if_neg a2]
          obtain ⟨G', g1, rfl⟩ := hend _ a2
          rw [g1, M_rd_f _ _ _ _ _ _ _ _ _ _ a2]
          obtain ⟨q1, q2, q3, q4, q5⟩ := hfin (fcell G k x2 f (3 * c + 2))
          exact ⟨_, _, _, rfl, rfl, q1, q2, q3, q4, q5⟩
      · rw [if_neg a1, if_neg a1]
        obtain ⟨G', g1, rfl⟩ := hend _ a1
        rw [g1, M_rd_f _ _ _ _ _ _ _ _ _ _ a1]
        obtain ⟨q1, q2, q3, q4, q5⟩ := hfin (fcell G k x2 f (3 * c + 1))
        exact ⟨_, _, _, rfl, rfl, q1, q2, q3, q4, q5⟩
    · rw [if_neg a0, if_neg a0]
      obtain ⟨G', g1, rfl⟩ := hend _ a0
      rw [g1, M_rd_f _ _ _ _ _ _ _ _ _ _ a0]
      obtain ⟨q1, q2, q3, q4, q5⟩ := hfin (fcell G k x2 f (3 * c))
      exact ⟨_, _, _, rfl, rfl, q1, q2, q3, q4, q5⟩
theorem op_read : Op_read Rel := by
  intro x1 x2 x3 x4 G M hR
  obtain ⟨H, hH, ⟨P, V, B, hT⟩, hI, hA, hW, hS, hQ, hN⟩ := id hR
  obtain ⟨b1, ⟨t0, t2, g88, t7, g89, t11, g90, t1, g91⟩, c1, c2, c3⟩ := hT.un
  unfold f_X6_read f_X7_read
  rw [C_isSheet, C_isLane, M_in x1 (n := 4) (by decide) (by decide), M_in x2 (n := 3) (by decide) (by decide), M_in x4 (n := 14) (by decide) (by decide)]
  rcases tf (vd 4 x1) with v1 | v1
  · rw [vb_t v1, vb_t v1]
    rcases tf (vd 3 x2) with v2 | v2
    · rw [vb_t v2, vb_t v2, show (13 : Int32) = nI 13 from rfl, vd_le (by omega)]
      rcases tf (vd 14 x4) with v3 | v3
      · rw [if_pos v3, vb_t v3, i89, ix_in (by omega) (by omega), tN_nI (by omega), t7, g89]
        obtain ⟨k, hk, rfl⟩ := vd_t v1
        obtain ⟨N, hN2, rfl⟩ := vd_t v3
        obtain ⟨rr, G', M', e1, e2, ⟨V2, e3⟩, e4, e5, e6, e7⟩ := rd_loop (N := N) (P := P) (B := B) hk (by omega) x2 x3 (hQ k hk) hH hN.2.1 N 0 1000 1000 V G M (by omega) (by omega) (by omega) (Or.inl rfl) hT (Nat.le_refl V) (fun _ _ => rfl) (fun _ _ => rfl) (fun _ _ => rfl)
        have e1' : f_X6_read_51 1000 (nI k) x2 x3 (nI N) (nI V) 0 0 G = some (rr, G') := e1
        have e2' : f_X7_read_60 1000 (nI k) x2 x3 (nI N) (nI V) 0 0 0 0 M = some (rr, M') := e2
        refine ⟨rr, G', M', e1', e2', H, by rw [e5 1 (by omega) (by omega)]; exact hH, ⟨P, V2, B, e3⟩, fun i hi => (hI i hi).cg hi (fun j a b => e4 j (by omega) (by omega)) (by rw [e4 186 (by omega) (by omega)]) (by rw [e5 33 (by omega) (by omega)]) (fun j a b => e6 j a), hA.cg (e4 128 (by omega) (by omega)) (e4 129 (by omega) (by omega)) (e5 9 (by omega) (by omega)) (e5 8 (by omega) (by omega)), hW.cg (fun j a b => e4 j (by omega) (by omega)) (e5 23 (by omega) (by omega)) (e5 24 (by omega) (by omega)), hS.cg (fun j a b => e4 j (by omega) (by omega)) (e5 31 (by omega) (by omega)) (e5 32 (by omega) (by omega)), fun i hi => (hQ i hi).cg hi (fun j a b => e4 j (by omega) (by omega)) (e5 34 (by omega) (by omega)) (e5 35 (by omega) (by omega)) (e5 36 (by omega) (by omega)), ?_, e7, ?_, ?_⟩
        · rw [e4 184 (by omega) (by omega), e5 10 (by omega) (by omega)]
          exact hN.1
        · rw [e5 17 (by omega) (by omega)]
          exact hN.2.2.1
        · rw [e5 18 (by omega) (by omega)]
          exact hN.2.2.2
      · rw [vb_f v3, if_neg (by rw [v3]; decide)]
        exact ⟨_, _, _, rfl, rfl, hR⟩
    · rw [vb_f v2, vb_f v2]
      exact ⟨_, _, _, rfl, rfl, hR⟩
  · rw [vb_f v1, vb_f v1]
    exact ⟨_, _, _, rfl, rfl, hR⟩
