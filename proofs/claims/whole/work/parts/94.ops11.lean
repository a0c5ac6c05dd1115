-- houses by numbers as bits; sums; what was seen
def bm (b : Nat → Bool) : Nat → Int32
  | 0 => 0
  | h + 1 => if b h = true then bm b h ||| ((1 : Int32) <<< (nI h &&& 31)) else bm b h
theorem or0 (x : Int32) : x ||| 0 = x := b_ext fun i _ => by rw [b_or, b_0, Bool.or_false]
theorem bm_congr {b b2 : Nat → Bool} : ∀ n, (∀ k, k < n → b k = b2 k) → bm b n = bm b2 n
  | 0, _ => rfl
  | n + 1, h => by
    have ih := bm_congr n (fun k hk => h k (by omega))
    show (if b n = true then bm b n ||| ((1 : Int32) <<< (nI n &&& 31)) else bm b n) = if b2 n = true then bm b2 n ||| ((1 : Int32) <<< (nI n &&& 31)) else bm b2 n
    rw [ih, h n (by omega)]
theorem RT.fr {T T2 : St} {g : Nat → Int32} {H P V B : Nat} (h : RT T g H P V B) (hF : FrT T T2) : RT T2 g H P V B := h.cg hF (fun _ _ => rfl)
theorem C_hv_l {T : St} {H : Nat} (hH : T 0 0 = nI H) (hH8 : H ≤ 8) (x : Int32) (v : Nat → Int32) (hv : ∀ k, k < 8 → f_X2_valueOf (nI k) (T 1 0) (sb 16 T) = some (v k)) : ∀ (n h : Nat), h + n > H → h ≤ H → f_X5_having_12 n x (bm (fun k => decide (v k = x)) h) (nI h) T = some (bm (fun k => decide (v k = x)) H, T) := by
  intro n
  induction n with
  | zero => intro h h1 h2; omega
  | succ n ih =>
    intro h h1 h2
    rw [f_X5_having_12_s, hH]
    by_cases q : h = H
    · subst q
      rw [if_pos (nI_le (Nat.le_refl h) (by omega))]
    · rw [if_neg (nI_ge (by omega) (by omega)), hv h (by omega), bd_s]
      have k := ih (h + 1) (by omega) (by omega)
      have e : bm (fun k => decide (v k = x)) (h + 1) = if decide (v h = x) = true then bm (fun k => decide (v k = x)) h ||| ((1 : Int32) <<< (nI h &&& 31)) else bm (fun k => decide (v k = x)) h := rfl
      unfold f_X5_having_44
      rw [p1]
      by_cases c : v h = x
      · rw [if_pos (decide_eq_true c)] at e
        rw [if_pos c, ← e]
        exact k
      · rw [if_neg (fun z => c (of_decide_eq_true z))] at e
        rw [if_neg c, ← e]
        exact k
theorem C_having {T : St} {g : Nat → Int32} {H P V B : Nat} (h : RT T g H P V B) {d : Nat} (hd : d < 36000) (x : Int32) : ∃ T' : St, f_X5_having x (nI d) T = some (bm (fun k => decide (num g P V (nI k) (nI d) (g 91) = x)) H, T') ∧ FrT T T' := by
  obtain ⟨T', h1, h2, h3⟩ := C_tally h hd
  have hb := h.1
  have hT' := h.fr h2
  obtain ⟨t0, -, -, -, -, -, -, t1, -⟩ := id hT'.2.1
  refine ⟨T', ?_, h2⟩
  unfold f_X5_having
  rw [h1, bd_s]
  exact C_hv_l t0 (by omega) x (fun k => num g P V (nI k) (nI d) (g 91)) (fun k hk => by rw [t1]; exact h3 k hk _) 1000 0 (by omega) (by omega)
theorem M_wt_l {M0 : St} {H P V : Nat} (hH : M0 1 0 = nI H) (hH8 : H ≤ 8) (hV : M0 0 89 = nI V) (hV2 : V ≤ 12) (hP : M0 0 88 = nI P) (hP2 : P ≤ 10) (x d : Int32) : ∀ (n h : Nat) (M : St), Fr M0 M → h + n > H → h ≤ H → ∃ M' : St, f_X7_with_5 n x d (bm (fun k => decide (num (M0 0) P V (nI k) d (M0 0 91) = if 0 ≤ x then x else -4)) h) (nI h) M = some (bm (fun k => decide (num (M0 0) P V (nI k) d (M0 0 91) = if 0 ≤ x then x else -4)) H, M') ∧ Fr M0 M' := by
  intro n
  induction n with
  | zero => intro h M hF h1 h2; omega
  | succ n ih =>
    intro h M hF h1 h2
    have e0 : M 0 = M0 0 := hF 0 (by omega)
    rw [f_X7_with_5_s, hF 1 (by omega), hH]
    by_cases q : h = H
    · subst q
      rw [if_pos (nI_le (Nat.le_refl h) (by omega))]
      exact ⟨M, rfl, hF⟩
    · rw [if_neg (nI_ge (by omega) (by omega))]
      obtain ⟨M', m1, m2⟩ := M_now M V P (nI h) d (by rw [e0]; exact hV) hV2 (by rw [e0]; exact hP) hP2
      rw [m1, bd_s, e0]
      obtain ⟨M2, k1, k2⟩ := ih (h + 1) M' (hF.tr m2) (by omega) (by omega)
      have e : bm (fun k => decide (num (M0 0) P V (nI k) d (M0 0 91) = if 0 ≤ x then x else -4)) (h + 1) = if decide (num (M0 0) P V (nI h) d (M0 0 91) = if 0 ≤ x then x else -4) = true then bm (fun k => decide (num (M0 0) P V (nI k) d (M0 0 91) = if 0 ≤ x then x else -4)) h ||| ((1 : Int32) <<< (nI h &&& 31)) else bm (fun k => decide (num (M0 0) P V (nI k) d (M0 0 91) = if 0 ≤ x then x else -4)) h := rfl
      refine ⟨M2, ?_, k2⟩
      rw [← k1]
      unfold f_X7_with_60
      rw [p1, or0, e]
      by_cases z : 0 ≤ x
      · simp only [if_pos z]
        by_cases c : num (M0 0) P V (nI h) d (M0 0 91) = x
        · simp only [if_pos c, decide_eq_true c, if_true]
        · simp only [if_neg c, decide_eq_false c]
          rfl
      · simp only [if_neg z]
        by_cases c : num (M0 0) P V (nI h) d (M0 0 91) = -4
        · simp only [if_pos c, decide_eq_true c, if_true]
        · simp only [if_neg c, decide_eq_false c]
          rfl
theorem M_with {T M : St} {H P V B : Nat} (hT : RT T (M 0) H P V B) (hH : M 1 0 = nI H) (x d : Int32) : ∃ M' : St, f_X7_with x d M = some (bm (fun k => decide (num (M 0) P V (nI k) d (M 0 91) = if 0 ≤ x then x else -4)) H, M') ∧ Fr M M' := by
  have hb := hT.1
  obtain ⟨t0, t2, g88, t7, g89, t11, g90, t1, g91⟩ := hT.2.1
  exact M_wt_l hH (by omega) g89 (by omega) g88 (by omega) x d 1000 0 M Fr.rf (by omega) (by omega)
theorem op_at : Op_at Rel := by
  intro x1 x2 G M hR
  obtain ⟨H, hH, ⟨P, V, B, hT⟩, -⟩ := id hR
  unfold f_X6_at f_X7_at f_X6_at_23
  rw [C_isDay, M_isDay, sb0]
  rcases tf (vd 36000 x2) with v2 | v2
  · rw [vb_t v2, vb_t v2]
    obtain ⟨d, hd, rfl⟩ := vd_t v2
    obtain ⟨M', m1, m2⟩ := M_with hT hH x1 (nI d)
    rw [m1, bd_s]
    by_cases z : 0 ≤ x1
    · obtain ⟨U, u1, u2⟩ := C_having hT hd x1
      rw [if_pos z, u1, bd_s]
      simp only [if_pos z]
      exact ⟨_, _, _, rfl, rfl, hR.cg u2.fg m2.fm⟩
    · obtain ⟨U, u1, u2⟩ := C_having hT hd (-4)
      rw [if_neg z, u1, bd_s]
      simp only [if_neg z]
      exact ⟨_, _, _, rfl, rfl, hR.cg u2.fg m2.fm⟩
  · rw [vb_f v2, vb_f v2]
    exact ⟨_, _, _, rfl, rfl, hR⟩
theorem op_letter : Op_letter Rel := by
  intro x1 x2 x3 x4 G M hR
  obtain ⟨H, hH, ⟨P, V, B, hT⟩, -⟩ := id hR
  unfold f_X6_letter f_X7_letter
  rw [C_isDay, M_isDay, C_isDay, M_isDay, C_isNumber, M_in x1 (n := 1000) (by decide) (by decide), M_in x4 (n := 3) (by decide) (by decide), sb0, show (2 : Int32) = nI 2 from rfl, vd_le (by omega)]
  rcases tf (vd 1000 x1) with v1 | v1
  · rw [vb_t v1, vb_t v1]
    rcases tf (vd 36000 x2) with v2 | v2
    · rw [vb_t v2, vb_t v2]
      rcases tf (vd 36000 x3) with v3 | v3
      · rw [vb_t v3, vb_t v3]
        rcases tf (vd 3 x4) with v4 | v4
        · rw [if_pos v4, vb_t v4]
          obtain ⟨a, ha, rfl⟩ := vd_t v1
          obtain ⟨d, hd, rfl⟩ := vd_t v2
          obtain ⟨d2, hd2, rfl⟩ := vd_t v3
          have z : 0 ≤ nI a := nI_pos' (by omega)
          obtain ⟨M', m1, m2⟩ := M_with hT hH (nI a) (nI d)
          have e0 : M' 0 = M 0 := m2 0 (by omega)
          obtain ⟨M2, m3, m4⟩ := M_with (M := M') (by rw [e0]; exact hT) (by rw [m2 1 (by omega)]; exact hH) (nI a) (nI d2)
          obtain ⟨U, u1, u2⟩ := C_having hT hd (nI a)
          obtain ⟨U2, u3, u4⟩ := C_having (RT.pt (T := G) (hT.fr u2)) hd2 (nI a)
          simp only [if_pos z] at m1 m3
          rw [u1, bd_s, sb0, u3, bd_s, m1, bd_s, m3, bd_s, e0]
          have k := (hR.cg u2.fg m2.fm).cg u4.fg m4.fm
          by_cases c : x4 = 0
          · rw [if_pos c, if_pos c]
            exact ⟨_, _, _, rfl, rfl, k⟩
          · rw [if_neg c, if_neg c]
            by_cases c2 : x4 = 1
            · rw [if_pos c2, if_pos c2]
              exact ⟨_, _, _, rfl, rfl, k⟩
            · rw [if_neg c2, if_neg c2]
              exact ⟨_, _, _, rfl, rfl, k⟩
        · rw [vb_f v4, if_neg (by rw [v4]; decide)]
          exact ⟨_, _, _, rfl, rfl, hR⟩
      · rw [vb_f v3, vb_f v3]
        exact ⟨_, _, _, rfl, rfl, hR⟩
    · rw [vb_f v2, vb_f v2]
      exact ⟨_, _, _, rfl, rfl, hR⟩
  · rw [vb_f v1, vb_f v1]
    exact ⟨_, _, _, rfl, rfl, hR⟩
/-- numbers of houses, summed -/
def sm (v : Nat → Int32) : Nat → Int32
  | 0 => 0
  | h + 1 => sm v h + (if v h = -4 then 0 else v h)
theorem C_an_l {T : St} {H : Nat} (hH : T 0 0 = nI H) (hH8 : H ≤ 8) (x : Int32) (v : Nat → Int32) (hv : ∀ k, k < 8 → f_X2_valueOf (nI k) x (sb 16 T) = some (v k)) : ∀ (n h : Nat), h + n > H → h ≤ H → f_X5_allNumbers_12 n x (sm v h) (nI h) T = some (sm v H, T) := by
  intro n
  induction n with
  | zero => intro h h1 h2; omega
  | succ n ih =>
    intro h h1 h2
    rw [f_X5_allNumbers_12_s, hH]
    by_cases q : h = H
    · subst q
      rw [if_pos (nI_le (Nat.le_refl h) (by omega))]
    · rw [if_neg (nI_ge (by omega) (by omega)), hv h (by omega), bd_s]
      have k := ih (h + 1) (by omega) (by omega)
      have e : sm v (h + 1) = sm v h + (if v h = -4 then 0 else v h) := rfl
      unfold f_X5_allNumbers_45
      rw [p1]
      by_cases c : v h = -4
      · rw [if_pos c] at e
        rw [if_pos c, ← e]
        exact k
      · rw [if_neg c] at e
        rw [if_neg c, ← e]
        exact k
theorem C_allN {T : St} {g : Nat → Int32} {H P V B : Nat} (h : RT T g H P V B) {d : Nat} (hd : d < 36000) (x : Int32) : ∃ T' : St, f_X5_allNumbers (nI d) x T = some (sm (fun k => num g P V (nI k) (nI d) x) H, T') ∧ FrT T T' := by
  obtain ⟨T', h1, h2, h3⟩ := C_tally h hd
  have hb := h.1
  have hT' := h.fr h2
  obtain ⟨t0, -, -, -, -, -, -, t1, -⟩ := id hT'.2.1
  refine ⟨T', ?_, h2⟩
  unfold f_X5_allNumbers
  rw [h1, bd_s]
  exact C_an_l t0 (by omega) x (fun k => num g P V (nI k) (nI d) x) (fun k hk => h3 k hk _) 1000 0 (by omega) (by omega)
theorem M_sum_l {M0 : St} {H P V o : Nat} (ho : o ≤ 276) (hH : M0 1 0 = nI H) (hH8 : H ≤ 8) (hV : M0 0 (o + 89) = nI V) (hV2 : V ≤ 12) (hP : M0 0 (o + 88) = nI P) (hP2 : P ≤ 10) (x d : Int32) : ∀ (n h : Nat) (M : St), Fr M0 M → h + n > H → h ≤ H → ∃ M' : St, f_X7_sumOf_6 n (nI o) d x (sm (fun k => num (pg M0 o) P V (nI k) d x) h) (nI h) M = some (sm (fun k => num (pg M0 o) P V (nI k) d x) H, M') ∧ Fr M0 M' := by
  intro n
  induction n with
  | zero => intro h M hF h1 h2; omega
  | succ n ih =>
    intro h M hF h1 h2
    have e0 : M 0 = M0 0 := hF 0 (by omega)
    rw [f_X7_sumOf_6_s, hF 1 (by omega), hH]
    by_cases q : h = H
    · subst q
      rw [if_pos (nI_le (Nat.le_refl h) (by omega))]
      exact ⟨M, rfl, hF⟩
    · rw [if_neg (nI_ge (by omega) (by omega))]
      obtain ⟨M', m1, m2, -⟩ := M_number M o V P (nI h) d x (by rw [e0]; exact hV) hV2 (by rw [e0]; exact hP) hP2 ho
      rw [m1, bd_s, hF.pg o]
      obtain ⟨M2, k1, k2⟩ := ih (h + 1) M' (hF.tr m2) (by omega) (by omega)
      have e : sm (fun k => num (pg M0 o) P V (nI k) d x) (h + 1) = sm (fun k => num (pg M0 o) P V (nI k) d x) h + (if num (pg M0 o) P V (nI h) d x = -4 then 0 else num (pg M0 o) P V (nI h) d x) := rfl
      refine ⟨M2, ?_, k2⟩
      rw [← k1]
      unfold f_X7_sumOf_41
      rw [p1, e]
      by_cases c : num (pg M0 o) P V (nI h) d x = -4
      · rw [if_pos c, if_pos c]
      · rw [if_neg c, if_neg c]
theorem op_all : Op_all Rel := by
  intro x1 x2 G M hR
  obtain ⟨H, hH, ⟨P, V, B, hT⟩, -⟩ := id hR
  have hb := hT.1
  obtain ⟨t0, t2, g88, t7, g89, t11, g90, t1, g91⟩ := hT.2.1
  unfold f_X6_all f_X7_all
  rw [C_isDay, M_isDay, C_isLaw, M_in x2 (n := 4) (by decide) (by decide), sb0]
  rcases tf (vd 36000 x1) with v1 | v1
  · rw [vb_t v1, vb_t v1]
    rcases tf (vd 4 x2) with v2 | v2
    · rw [vb_t v2, vb_t v2]
      obtain ⟨d, hd, rfl⟩ := vd_t v1
      obtain ⟨U, u1, u2⟩ := C_allN hT hd x2
      obtain ⟨M', m1, m2⟩ := M_sum_l (M0 := M) (o := 0) (by omega) hH (by omega) (by simpa using g89) (by omega) (by simpa using g88) (by omega) x2 (nI d) 1000 0 M Fr.rf (by omega) (by omega)
      rw [pg0] at m1
      have m1' : f_X7_sumOf 0 (nI d) x2 M = some (sm (fun k => num (M 0) P V (nI k) (nI d) x2) H, M') := m1
      rw [u1, bd_s, m1', bd_s]
      exact ⟨_, _, _, rfl, rfl, hR.cg u2.fg m2.fm⟩
    · rw [vb_f v2, vb_f v2]
      exact ⟨_, _, _, rfl, rfl, hR⟩
  · rw [vb_f v1, vb_f v1]
    exact ⟨_, _, _, rfl, rfl, hR⟩
