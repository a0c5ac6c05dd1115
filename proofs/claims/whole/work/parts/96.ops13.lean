-- years by a seed
theorem dr_eq (x : Int32) : (zushr x 16) &&& (32767 : Int32) = (x >>> ((16 : Int32) &&& 31)) &&& (32767 : Int32) := by
  have hm : ∀ i, i < 32 → bt 32767 i = decide (i < 15) := by decide +kernel
  apply b_ext
  intro i hi
  have h1 : bt (zushr x 16) i = bt x (16 + i) := b_ushr 16 (by omega) x i
  have h2 : bt (x >>> ((16 : Int32) &&& 31)) i = if 16 + i < 32 then bt x (16 + i) else bt x 31 := b_sshr 16 (by omega) x hi
  rw [b_and, b_and, hm i hi, h1, h2]
  by_cases c : i < 15
  · rw [if_pos (by omega)]
  · rw [decide_eq_false c, Bool.and_false, Bool.and_false]
theorem upd_self {f : Nat → Int32} {k : Nat} : upd f k (f k) = f := by
  funext j
  rw [upd_if]
  by_cases c : j = k
  · rw [if_pos c, c]
  · rw [if_neg c]
theorem RT.setDies {T T2 : St} {g g2 : Nat → Int32} {H P V B p d : Nat} (h : RT T g H P V B) (hp : p < P) (hd : d < 36000) (hT : ∀ k, k < 16 → k ≠ 6 → T2 k = T k) (h4 : T2 6 = upd (T 6) p (nI d)) (hg : ∀ j, j ≠ 4 * p + 3 → g2 j = g j) (hg2 : g2 (4 * p + 3) = nI d) : RT T2 g2 H P V B := by
  obtain ⟨w, ⟨t0, t2, g88, t7, g89, t11, g90, t1, g91⟩, c1, c2, c3⟩ := h.un
  have q : ∀ k, k < 16 → k ≠ 6 → ∀ i, T2 k i = T k i := fun k a b i => by rw [hT k a b]
  refine RT.mk w ⟨?_, ?_, ?_, ?_, ?_, ?_, ?_, ?_, ?_⟩ ?_ (c2.cg (Nat.le_refl P) (fun p hp => ⟨q 8 (by omega) (by omega) p, q 9 (by omega) (by omega) p, q 10 (by omega) (by omega) p⟩) (fun i hi hi2 => hg i (by omega))) (c3.cg (fun p hp => ⟨q 12 (by omega) (by omega) p, q 13 (by omega) (by omega) p, q 14 (by omega) (by omega) p⟩) (fun i hi hi2 => hg i (by omega)))
  · rw [q 0 (by omega) (by omega)]; exact t0
  · rw [q 2 (by omega) (by omega)]; exact t2
  · rw [hg _ (by omega)]; exact g88
  · rw [q 7 (by omega) (by omega)]; exact t7
  · rw [hg _ (by omega)]; exact g89
  · rw [q 11 (by omega) (by omega)]; exact t11
  · rw [hg _ (by omega)]; exact g90
  · rw [q 1 (by omega) (by omega), hg _ (by omega)]; exact t1
  · rw [hg _ (by omega)]; exact g91
  · intro p2 hp2
    obtain ⟨e3, e4, e5, e6, e7, e8, e9⟩ := c1 p2 hp2
    rw [q 3 (by omega) (by omega), q 4 (by omega) (by omega), q 5 (by omega) (by omega), h4, hg (4 * p2) (by omega), hg (4 * p2 + 1) (by omega), hg (4 * p2 + 2) (by omega)]
    refine ⟨e3, e4, e5, ?_, e7, e8, e9⟩
    by_cases c : p2 = p
    · subst c
      rw [upd_eq, hg2]
      exact Or.inr ⟨rfl, d, hd, rfl⟩
    · rw [upd_ne c, hg _ (by omega)]
      exact e6
theorem py_loop {H P V B d : Nat} (hP : P ≤ 10) (hd : d < 36000) : ∀ (r k n m : Nat) (ch : Int32) (T M : St), r + k = P → r < n → r < m → RT T (pg M 276) H P V B → M 0 88 = nI P → ∃ (ch' : Int32) (T' M' : St), f_X5_passYearEnd_5 n (nI d) ch (nI k) T = some (ch', T') ∧ (∀ (k53 : Int32 → Int32 → Int32 → Int32 → Int32 → Int32 → St → Option (Int32 × St)) (x2 x3 x4 x7 : Int32), f_X7_later_89 k53 m x2 x3 x4 ch (nI d) x7 (nI k) M = k53 x2 x3 x4 ch' (nI d) (x7 + 1) M') ∧ RT T' (pg M' 276) H P V B ∧ (∀ k, 0 < k → M' k = M k) ∧ (∀ j, j < 276 → M' 0 j = M 0 j) ∧ (∀ k, k ≠ 6 → T' k = T k) := by
  intro r
  induction r with
  | zero =>
    intro k n m ch T M h1 h2 h3 hT h88
    obtain ⟨n, rfl⟩ : ∃ z, n = z + 1 := ⟨n - 1, by omega⟩
    obtain ⟨m, rfl⟩ : ∃ z, m = z + 1 := ⟨m - 1, by omega⟩
    obtain ⟨t0, t2, -⟩ := hT.2.1
    refine ⟨ch, T, M, ?_, fun k53 x2 x3 x4 x7 => ?_, hT, fun _ _ => rfl, fun _ _ => rfl, fun _ _ => rfl⟩
    · rw [f_X5_passYearEnd_5_s, t2, if_pos (nI_le (by omega) (by omega))]
    · rw [f_X7_later_89_s, M_people h88, bd_s, if_pos (nI_le (by omega) (by omega))]
      rfl
  | succ r ih =>
    intro k n m ch T M h1 h2 h3 hT h88
    obtain ⟨n, rfl⟩ : ∃ z, n = z + 1 := ⟨n - 1, by omega⟩
    obtain ⟨m, rfl⟩ : ∃ z, m = z + 1 := ⟨m - 1, by omega⟩
    obtain ⟨t0, t2, -⟩ := id hT.2.1
    have hk : k < P := by omega
    have ea := hT.alive hk hd
    have ey := hT.years hk (nI d)
    rcases tf (alv (pg M 276) k (nI d)) with al | al
    · have eM : ∀ (k53 : Int32 → Int32 → Int32 → Int32 → Int32 → Int32 → St → Option (Int32 × St)) (x2 x3 x4 x7 : Int32), f_X7_later_89 k53 (m + 1) x2 x3 x4 ch (nI d) x7 (nI k) M = f_X7_later_89 k53 m x2 x3 x4 (ch * 1103515245 + 12345) (nI d) x7 (nI (k + 1)) (st 0 (upd (M 0) (276 + (4 * k + 3)) (if yrs (pg M 276) k (nI d) ≤ zrem (zushr (ch * 1103515245 + 12345) 16 &&& 32767) 100 then M 0 (276 + (4 * k + 3)) else nI d)) M) := by
        intro k53 x2 x3 x4 x7
        have e1 : (276 : Int32) + 4 * nI k = nI (276 + 4 * k) := by rw [i276, ad4]
        rw [f_X7_later_89_s, M_people h88, bd_s, if_neg (nI_ge hk (by omega)), show (276 : Int32) = nI 276 from rfl, M_alive M 276 k (nI d) (by omega), al, bd_s, if_pos rfl, if_neg (show ¬ (1 : Int32) = 0 by decide), ← dr_eq]
        unfold f_X7_later_166 f_X7_later_207 f_X7_later_208
        rw [← i276, e1, p1, p3, ix_in (by omega) (by omega), ix_in (by omega) (by omega), ix_in (by omega) (by omega), tN_nI (by omega), tN_nI (by omega), p1]
        have e2 : (nI d - M 0 (276 + 4 * k + 1)) / 360 = yrs (pg M 276) k (nI d) := rfl
        rw [e2, if_neg (show ¬ (1 : Int32) = 0 by decide), if_pos rfl, show 276 + 4 * k + 3 = 276 + (4 * k + 3) by omega]
        by_cases c : yrs (pg M 276) k (nI d) ≤ zrem (zushr (ch * 1103515245 + 12345) 16 &&& 32767) 100
        · rw [if_pos c, if_pos c]
        · rw [if_neg c, if_neg c, ix_in (by omega) (by omega)]
      rw [f_X5_passYearEnd_5_s, t2, if_neg (nI_ge hk (by omega)), C_alive T k (nI d) (by omega), ea, al, bd_s, if_pos rfl, if_neg (show ¬ (1 : Int32) = 0 by decide), C_years T k (nI d) (by omega), bd_s, ey, ix_in (by omega) (by omega), tN_nI (by omega)]
      unfold f_X5_passYearEnd_62
      rw [p1]
      by_cases c : yrs (pg M 276) k (nI d) ≤ zrem (zushr (ch * 1103515245 + 12345) 16 &&& 32767) 100
      · rw [if_pos c]
        simp only [if_pos c] at eM
        have e3 : st 0 (upd (M 0) (276 + (4 * k + 3)) (M 0 (276 + (4 * k + 3)))) M = M := by
          rw [upd_self]
          funext j
          by_cases z : j = 0
          · rw [z, st_eq]
          · rw [st_ne z]
        rw [e3] at eM
        obtain ⟨ch', T', M', q1, q2, q3, q4, q5, q6⟩ := ih (k + 1) n m (ch * 1103515245 + 12345) T M (by omega) (by omega) (by omega) hT h88
        exact ⟨ch', T', M', q1, fun k53 x2 x3 x4 x7 => by rw [eM]; exact q2 k53 x2 x3 x4 x7, q3, q4, q5, q6⟩
      · rw [if_neg c]
        simp only [if_neg c] at eM
        obtain ⟨ch', T', M', q1, q2, q3, q4, q5, q6⟩ := ih (k + 1) n m (ch * 1103515245 + 12345) (st 6 (upd (T 6) k (nI d)) T) (st 0 (upd (M 0) (276 + (4 * k + 3)) (nI d)) M) (by omega) (by omega) (by omega) (hT.setDies hk hd (fun j _ hj => st_ne hj) rfl (fun j hj => by
            show upd (M 0) (276 + (4 * k + 3)) (nI d) (276 + j) = M 0 (276 + j)
            rw [upd_ne (by omega)]) (by
            show upd (M 0) (276 + (4 * k + 3)) (nI d) (276 + (4 * k + 3)) = nI d
            rw [upd_eq])) (by rw [st_eq, upd_ne (by omega)]; exact h88)
        refine ⟨ch', T', M', q1, fun k53 x2 x3 x4 x7 => by rw [eM]; exact q2 k53 x2 x3 x4 x7, q3, fun j hj => ?_, fun j hj => ?_, fun j hj => ?_⟩
        · rw [q4 j hj, st_ne (by omega)]
        · rw [q5 j hj, st_eq, upd_ne (by omega)]
        · rw [q6 j hj, st_ne hj]
    · have eM : ∀ (k53 : Int32 → Int32 → Int32 → Int32 → Int32 → Int32 → St → Option (Int32 × St)) (x2 x3 x4 x7 : Int32), f_X7_later_89 k53 (m + 1) x2 x3 x4 ch (nI d) x7 (nI k) M = f_X7_later_89 k53 m x2 x3 x4 ch (nI d) x7 (nI (k + 1)) M := by
        intro k53 x2 x3 x4 x7
        rw [f_X7_later_89_s, M_people h88, bd_s, if_neg (nI_ge hk (by omega)), show (276 : Int32) = nI 276 from rfl, M_alive M 276 k (nI d) (by omega), al, bd_s, if_pos (show (if false = true then (1 : Int32) else 0) = 0 from rfl)]
        unfold f_X7_later_208
        rw [p1]
      rw [f_X5_passYearEnd_5_s, t2, if_neg (nI_ge hk (by omega)), C_alive T k (nI d) (by omega), ea, al, bd_s, if_pos (show (if false = true then (1 : Int32) else 0) = 0 from rfl)]
      unfold f_X5_passYearEnd_62
      rw [p1]
      obtain ⟨ch', T', M', q1, q2, q3, q4, q5, q6⟩ := ih (k + 1) n m ch T M (by omega) (by omega) (by omega) hT h88
      exact ⟨ch', T', M', q1, fun k53 x2 x3 x4 x7 => by rw [eM]; exact q2 k53 x2 x3 x4 x7, q3, q4, q5, q6⟩
/-- how many live -/
def ca (b : Nat → Bool) : Nat → Nat
  | 0 => 0
  | k + 1 => if b k = true then ca b k + 1 else ca b k
theorem C_ca {T : St} {g : Nat → Int32} {H P V B d : Nat} (hT : RT T g H P V B) (hd : d < 36000) : ∀ (r k n : Nat), r + k = P → r < n → f_X5_aliveOn_4 n (nI d) (nI (ca (fun p => alv g p (nI d)) k)) (nI k) T = some (nI (ca (fun p => alv g p (nI d)) P)) := by
  have hb := hT.1
  obtain ⟨t0, t2, -⟩ := id hT.2.1
  intro r
  induction r with
  | zero =>
    intro k n h1 h2
    obtain ⟨n, rfl⟩ : ∃ z, n = z + 1 := ⟨n - 1, by omega⟩
    obtain rfl : k = P := by omega
    rw [f_X5_aliveOn_4_s, t2, if_pos (nI_le (by omega) (by omega))]
  | succ r ih =>
    intro k n h1 h2
    obtain ⟨n, rfl⟩ : ∃ z, n = z + 1 := ⟨n - 1, by omega⟩
    have e : ca (fun p => alv g p (nI d)) (k + 1) = if alv g k (nI d) = true then ca (fun p => alv g p (nI d)) k + 1 else ca (fun p => alv g p (nI d)) k := rfl
    have q := ih (k + 1) n (by omega) (by omega)
    rw [f_X5_aliveOn_4_s, t2, if_neg (nI_ge (by omega) (by omega)), C_alive T k (nI d) (by omega), hT.alive (by omega) hd]
    unfold f_X5_aliveOn_24
    rw [p1, p1]
    rcases tf (alv g k (nI d)) with al | al
    · rw [vb_t al]
      rw [if_pos al] at e
      rw [← e]
      exact q
    · rw [vb_f al]
      rw [if_neg (by rw [al]; decide)] at e
      rw [← e]
      exact q
theorem M_ca {T M : St} {H P V B d : Nat} (hT : RT T (pg M 276) H P V B) (h88 : M 0 88 = nI P) (x4 : Int32) : ∀ (r k n : Nat), r + k = P → r < n → f_X7_later_226 n x4 (nI d) (nI (ca (fun p => alv (pg M 276) p (nI d)) k)) (nI k) M = f_X7_later_265 x4 (nI d) (nI (ca (fun p => alv (pg M 276) p (nI d)) P)) M := by
  have hb := hT.1
  intro r
  induction r with
  | zero =>
    intro k n h1 h2
    obtain ⟨n, rfl⟩ : ∃ z, n = z + 1 := ⟨n - 1, by omega⟩
    obtain rfl : k = P := by omega
    rw [f_X7_later_226_s, M_people h88, bd_s, if_pos (nI_le (by omega) (by omega))]
  | succ r ih =>
    intro k n h1 h2
    obtain ⟨n, rfl⟩ : ∃ z, n = z + 1 := ⟨n - 1, by omega⟩
    have e : ca (fun p => alv (pg M 276) p (nI d)) (k + 1) = if alv (pg M 276) k (nI d) = true then ca (fun p => alv (pg M 276) p (nI d)) k + 1 else ca (fun p => alv (pg M 276) p (nI d)) k := rfl
    have q := ih (k + 1) n (by omega) (by omega)
    rw [f_X7_later_226_s, M_people h88, bd_s, if_neg (nI_ge (by omega) (by omega)), i276, M_alive M 276 k (nI d) (by omega)]
    unfold f_X7_later_256
    rw [p1, p1, Int32.add_zero]
    rcases tf (alv (pg M 276) k (nI d)) with al | al
    · rw [vb_t al]
      rw [if_pos al] at e
      rw [← e]
      exact q
    · rw [vb_f al]
      rw [if_neg (by rw [al]; decide)] at e
      rw [← e]
      exact q
theorem lt_loop {H P V B Y N L : Nat} (hP : P ≤ 10) (hL : L < 100) (hYL : Y ≤ L) (hN : N ≤ 40) (hLN : L + 1 = if Y + N ≤ 100 then Y + N else 100) {G0 M0 : St} (h880 : M0 0 88 = nI P) (hH : M0 1 0 = nI H) (x2 x4 : Int32) (hx2 : x2 / 360 = nI Y) : ∀ (r y n m : Nat) (ch x6 : Int32) (G M : St), r + y = L + 1 → r < n → r < m → (y = L + 1 → x6 = nI (360 * L + 359)) → RT (sb 32 G) (pg M 276) H P V B → G 33 0 = M0 0 91 → (∀ k, 0 < k → M k = M0 k) → (∀ j, j < 276 → M 0 j = M0 0 j) → (∀ k, k < 32 ∨ 64 ≤ k → G k = G0 k) → ∃ (rr : Int32) (G' M' : St), f_X6_later_69 n x4 (nI L) ch (nI y) G = some (rr, G') ∧ f_X7_later_53 m x2 (nI N) x4 ch x6 (nI y) M = some (rr, M') ∧ (∀ k, k < 32 ∨ 64 ≤ k → G' k = G0 k) ∧ (∀ k, (0 < k ∧ k < 19) ∨ 22 < k → M' k = M0 k) ∧ (∀ j, j < 276 → M' 0 j = M0 0 j) := by
  intro r
  induction r with
  | zero =>
    intro y n m ch x6 G M h1 h2 h3 h4 hT h33 hM hM0 hG
    obtain ⟨n, rfl⟩ : ∃ z, n = z + 1 := ⟨n - 1, by omega⟩
    obtain ⟨m, rfl⟩ : ∃ z, m = z + 1 := ⟨m - 1, by omega⟩
    obtain rfl : y = L + 1 := by omega
    obtain rfl := h4 rfl
    have hb := hT.1
    have hd : 360 * L + 359 < 36000 := by omega
    obtain ⟨t0, t2, g88, t7, g89, t11, g90, t1, g91⟩ := hT.2.1
    have e91 : pg M 276 91 = M 0 91 := by rw [← t1, hM0 91 (by omega)]; exact h33
    rw [f_X6_later_69_s, f_X7_later_53_s, if_pos (nI_lt (by omega) (by omega)), hx2, nI_add]
    have hgo : (if nI (Y + N) ≤ nI (L + 1) then f_X7_later_220 x4 (nI (360 * L + 359)) M else if (100 : Int32) ≤ nI (L + 1) then f_X7_later_220 x4 (nI (360 * L + 359)) M else f_X7_later_89 (f_X7_later_53 m) 1000 x2 (nI N) x4 ch (360 * nI (L + 1) + 360 - 1) (nI (L + 1)) 0 M) = f_X7_later_220 x4 (nI (360 * L + 359)) M := by
      by_cases c : Y + N ≤ 100
      · rw [if_pos c] at hLN
        rw [if_pos (nI_le (by omega) (by omega))]
      · rw [if_neg c] at hLN
        have : (100 : Int32) ≤ nI (L + 1) := nI_le (a := 100) (by omega) (by omega)
        rw [if_pos this]
        by_cases c2 : nI (Y + N) ≤ nI (L + 1)
        · rw [if_pos c2]
        · rw [if_neg c2]
    rw [hgo]
    unfold f_X6_later_98 f_X6_lastDayOf f_X7_later_220
    have eL : nI L * 360 + 360 - 1 = nI (360 * L + 359) := by
      rw [i360, nI_mul, nI_add, i1, nI_sub (by omega)]
      exact congrArg nI (by omega)
    have mc := M_ca (d := 360 * L + 359) hT (by rw [hM0 88 (by omega)]; exact h880) x4 P 0 1000 (by omega) (by omega)
    have mc' : f_X7_later_226 1000 x4 (nI (360 * L + 359)) 0 0 M = f_X7_later_265 x4 (nI (360 * L + 359)) (nI (ca (fun p => alv (pg M 276) p (nI (360 * L + 359))) P)) M := mc
    rw [bd_s, eL, mc']
    unfold f_X7_later_265
    by_cases c : x4 = 0
    · rw [if_pos c, if_pos c]
      have cc := C_ca hT hd P 0 1000 (by omega) (by omega)
      have cc' : f_X5_aliveOn (nI (360 * L + 359)) (sb 32 G) = some (nI (ca (fun p => alv (pg M 276) p (nI (360 * L + 359))) P)) := cc
      rw [cc', bd_s]
      exact ⟨_, _, _, rfl, rfl, hG, fun k hk => hM k (by omega), hM0⟩
    · rw [if_neg c, if_neg c, i91, ix_in (by omega) (by omega), tN_nI (by omega)]
      obtain ⟨U, u1, u2⟩ := C_allN hT hd (G 33 0)
      obtain ⟨M', m1, m2⟩ := M_sum_l (M0 := M) (o := 276) (by omega) (by rw [hM 1 (by omega)]; exact hH) (by omega) g89 (by omega) g88 (by omega) (M 0 91) (nI (360 * L + 359)) 1000 0 M Fr.rf (by omega) (by omega)
      have m1' : f_X7_sumOf 276 (nI (360 * L + 359)) (M 0 91) M = some (sm (fun k => num (pg M 276) P V (nI k) (nI (360 * L + 359)) (M 0 91)) H, M') := m1
      rw [u1, bd_s, m1', bd_s, h33, hM0 91 (by omega)]
      refine ⟨_, _, _, rfl, rfl, fun k hk => ?_, fun k hk => ?_, fun j hj => ?_⟩
      · rw [pt_out (by omega)]
        exact hG k hk
      · show M' k = M0 k
        rw [m2 k (by omega)]
        exact hM k (by omega)
      · show M' 0 j = M0 0 j
        rw [m2 0 (by omega)]
        exact hM0 j hj
  | succ r ih =>
    intro y n m ch x6 G M h1 h2 h3 h4 hT h33 hM hM0 hG
    obtain ⟨n, rfl⟩ : ∃ z, n = z + 1 := ⟨n - 1, by omega⟩
    obtain ⟨m, rfl⟩ : ∃ z, m = z + 1 := ⟨m - 1, by omega⟩
    have hd : 360 * y + 359 < 36000 := by omega
    have e1 : ¬ nI (Y + N) ≤ nI y := by
      refine nI_ge ?_ (by omega)
      by_cases c : Y + N ≤ 100
      · rw [if_pos c] at hLN
        omega
      · omega
    have e100 : ¬ (100 : Int32) ≤ nI y := nI_ge (b := 100) (by omega) (by omega)
    have eL : nI y * 360 + 360 - 1 = nI (360 * y + 359) := by
      rw [i360, nI_mul, nI_add, i1, nI_sub (by omega)]
      exact congrArg nI (by omega)
    have eL2 : 360 * nI y + 360 - 1 = nI (360 * y + 359) := by
      rw [i360, nI_mul, nI_add, i1, nI_sub (by omega)]
      exact congrArg nI (by omega)
    rw [f_X6_later_69_s, f_X7_later_53_s, if_neg (nI_nlt (by omega) (by omega)), hx2, nI_add, if_neg e1, if_neg e100, eL2]
    unfold f_X6_lastDayOf f_X5_passYearEnd
    obtain ⟨ch', T', M', q1, q2, q3, q4, q5, q6⟩ := py_loop (d := 360 * y + 359) hP hd P 0 1000 1000 ch (sb 32 G) M (by omega) (by omega) (by omega) hT (by rw [hM0 88 (by omega)]; exact h880)
    have q1' : f_X5_passYearEnd_5 1000 (nI (360 * y + 359)) ch 0 (sb 32 G) = some (ch', T') := q1
    have q2' : f_X7_later_89 (f_X7_later_53 m) 1000 x2 (nI N) x4 ch (nI (360 * y + 359)) (nI y) 0 M = f_X7_later_53 m x2 (nI N) x4 ch' (nI (360 * y + 359)) (nI y + 1) M' := q2 _ _ _ _ _
    rw [bd_s, eL, q1', bd_s, q2', p1]
    refine ih (y + 1) n m ch' _ _ M' (by omega) (by omega) (by omega) (fun z => by rw [show y = L by omega]) (q3.cg (fun k hk => by rw [sbpt (by omega)]) (fun _ _ => rfl)) ?_ (fun k hk => by rw [q4 k hk]; exact hM k hk) (fun j hj => by rw [q5 j hj]; exact hM0 j hj) (fun k hk => by rw [pt_out (by omega)]; exact hG k hk)
    rw [pt_in (by omega) (by omega)]
    have := q6 1 (by omega)
    show T' 1 0 = M0 0 91
    rw [this]
    exact h33
theorem M_in140 (x : Int32) : f_X7_in (Int32.toInt64 x) 1 40 = some (if 1 ≤ x.toInt ∧ x.toInt ≤ 40 then 1 else 0) := by
  rw [M_in0]
  have e : (Int32.toInt64 x).toInt = x.toInt := Int32.toInt_toInt64 x
  have e1 : (1 : Int64).toInt = 1 := by decide
  have e4 : (40 : Int64).toInt = 40 := by decide
  have k : (1 ≤ Int32.toInt64 x ∧ Int32.toInt64 x ≤ 40) ↔ (1 ≤ x.toInt ∧ x.toInt ≤ 40) := by
    rw [Int64.le_iff_toInt_le, Int64.le_iff_toInt_le, e, e1, e4]
  simp only [k]
theorem op_later : Op_later Rel := by
  intro x1 x2 x3 x4 G M hR
  obtain ⟨H, hH, ⟨P, V, B, hT⟩, -⟩ := id hR
  obtain ⟨hb, ⟨t0, t2, g88, t7, g89, t11, g90, t1, g91⟩, c1, c2, c3⟩ := hT.un
  unfold f_X6_later f_X7_later
  rw [sb0, C_isDay, M_isDay, M_in140, M_in x4 (n := 2) (by decide) (by decide)]
  rcases tf (vd 36000 x2) with v1 | v1
  · rw [vb_t v1, vb_t v1]
    have f1 : (1 : Int32).toInt = 1 := by decide
    have f40 : (40 : Int32).toInt = 40 := by decide
    by_cases q1 : x3 < 1
    · have q1' : ¬ (1 ≤ x3.toInt ∧ x3.toInt ≤ 40) := by
        rw [Int32.lt_iff_toInt_lt, f1] at q1
        omega
      rw [if_pos q1, if_neg q1', bd_s, if_pos rfl]
      exact ⟨_, _, _, rfl, rfl, hR⟩
    · by_cases q2 : 40 < x3
      · have q2' : ¬ (1 ≤ x3.toInt ∧ x3.toInt ≤ 40) := by
          rw [Int32.lt_iff_toInt_lt, f40] at q2
          omega
        rw [if_neg q1, if_pos q2, if_neg q2', bd_s, if_pos rfl]
        exact ⟨_, _, _, rfl, rfl, hR⟩
      · have q3 : 1 ≤ x3.toInt ∧ x3.toInt ≤ 40 := by
          rw [Int32.lt_iff_toInt_lt, f1] at q1
          rw [Int32.lt_iff_toInt_lt, f40] at q2
          omega
        rw [if_neg q1, if_neg q2, if_pos q3, bd_s, if_neg (show ¬ (1 : Int32) = 0 by decide), show (if x4 ≤ (1 : Int32) then _ else _) = (if x4 ≤ nI 1 then _ else _) from rfl, vd_le (by omega)]
        obtain ⟨N, hN, rfl⟩ := nI_of (x := x3) (fun z => by rw [lt0] at z; omega)
        rw [nI_toInt hN] at q3
        rcases tf (vd 2 x4) with v2 | v2
        · rw [if_pos v2, vb_t v2]
          obtain ⟨d, hd, rfl⟩ := vd_t v1
          obtain ⟨U, u1, u2, u3, u4, u5, u6, u7⟩ := C_copyOf (sb 32 G) G
          obtain ⟨M', m1, m2, m3, m4⟩ := M_copies M 0 276 (by omega) (by omega) (by omega)
          have m1' : f_X7_copies 0 276 M = some M' := m1
          have hsb : sb 32 U = G := funext fun j => u2 j
          have eY : nI d / 360 = nI (d / 360) := by rw [i360, nI_div _ _ (by omega) (by omega)]
          have eL : zmin (nI (d / 360) + nI N) 100 - 1 = nI ((if d / 360 + N ≤ 100 then d / 360 + N else 100) - 1) := by
            rw [nI_add, zmin_e]
            by_cases c : d / 360 + N ≤ 100
            · have : nI (d / 360 + N) ≤ (100 : Int32) := nI_le (b := 100) c (by omega)
              rw [if_pos this, if_pos c, i1, nI_sub (by omega)]
            · have : ¬ nI (d / 360 + N) ≤ (100 : Int32) := nI_ge (a := 100) (by omega) (by omega)
              rw [if_neg this, if_neg c]
              rfl
          rw [u1, bd_s, m1', bd_s, eY, eL]
          have hT2 : RT (sb 32 (pt 0 32 (sb 32 U) (pt 32 32 U G))) (pg M' 276) H P V B := by
            refine (hT.copy u4 u5 u6 u7 (g2 := M 0) (fun _ _ => rfl)).cg (fun k hk => ?_) (fun j hj => ?_)
            · show pt 0 32 (sb 32 U) (pt 32 32 U G) (32 + k) = U k
              rw [pt_out (by omega), pt_in (by omega) (by omega)]
              exact congrArg U (by omega)
            · show M' 0 (276 + j) = M 0 j
              rw [m3 j hj, Nat.zero_add]
          obtain ⟨rr, G', M2, k1, k2, k3, k4, k5⟩ := lt_loop (H := H) (P := P) (V := V) (B := B) (Y := d / 360) (N := N) (L := (if d / 360 + N ≤ 100 then d / 360 + N else 100) - 1) (G0 := G) (M0 := M) (by omega) (by split <;> omega) (by split <;> omega) (by omega) (by split <;> omega) g88 hH (nI d) x4 eY (((if d / 360 + N ≤ 100 then d / 360 + N else 100) - 1) + 1 - d / 360) (d / 360) 1000 1000 x1 (nI d) (pt 0 32 (sb 32 U) (pt 32 32 U G)) M' (by split <;> omega) (by split <;> omega) (by split <;> omega) (fun z => by split at z <;> omega) hT2 (by
            rw [pt_out (by omega), pt_in (by omega) (by omega)]
            show U 1 0 = M 0 91
            rw [u4 1 (by omega)]
            exact t1) m2 (fun j hj => m4 j (by omega)) (fun k hk => by
            by_cases c : k < 32
            · rw [pt_in (by omega) (by omega), hsb]
              rfl
            · rw [pt_out (by omega), pt_out (by omega)])
          exact ⟨rr, G', M2, k1, k2, hR.cg (fun k hk => k3 k (by omega)) ⟨fun k hk => k4 k (by omega), k5⟩⟩
        · rw [vb_f v2, if_neg (by rw [v2]; decide)]
          exact ⟨_, _, _, rfl, rfl, hR⟩
  · rw [vb_f v1, vb_f v1]
    exact ⟨_, _, _, rfl, rfl, hR⟩
