-- bits of houses; the bounds of numbers; twins, descending, round
theorem bt_1 : ∀ j, j < 32 → bt 1 j = decide (j = 0) := by decide +kernel
theorem b_one (n : Nat) (hn : n < 32) {i : Nat} (hi : i < 32) : bt ((1 : Int32) <<< (nI n &&& 31)) i = decide (i = n) := by
  rw [b_shl n hn 1 hi]
  by_cases c : n ≤ i
  · rw [bt_1 (i - n) (by omega), decide_eq_true c, Bool.true_and]
    exact decide_eq_decide.mpr (by omega)
  · rw [decide_eq_false c, Bool.false_and]
    exact (decide_eq_false (by omega)).symm
theorem b_ors {x : Int32} {n : Nat} (hn : n < 32) {i : Nat} (hi : i < 32) : bt (x ||| ((1 : Int32) <<< (nI n &&& 31))) i = true ↔ (bt x i = true ∨ i = n) := by
  rw [b_or, b_one n hn hi]
  simp
theorem b_ors2 {x : Int32} {n m : Nat} (hn : n < 32) (hm : m < 32) {i : Nat} (hi : i < 32) : bt (x ||| (((1 : Int32) <<< (nI n &&& 31)) ||| ((1 : Int32) <<< (nI m &&& 31)))) i = true ↔ (bt x i = true ∨ i = n ∨ i = m) := by
  rw [b_or, b_or, b_one n hn hi, b_one m hm hi]
  simp
theorem b_tst (x : Int32) {h : Nat} (hh : h < 32) : (x &&& ((1 : Int32) <<< (nI h &&& 31))) = 0 ↔ bt x h = false := by
  constructor
  · intro e
    have k : bt (x &&& ((1 : Int32) <<< (nI h &&& 31))) h = bt 0 h := by rw [e]
    rw [b_and, b_one h hh hh, b_0, decide_eq_true rfl, Bool.and_true] at k
    exact k
  · intro e
    refine b_ext fun i hi => ?_
    rw [b_and, b_one h hh hi, b_0]
    by_cases c : i = h
    · rw [c, e, Bool.false_and]
    · rw [decide_eq_false c, Bool.and_false]
theorem b_tst1 (x : Int32) {h : Nat} (hh : h < 32) : ((x >>> (nI h &&& 31)) &&& (1 : Int32)) = if bt x h = true then 1 else 0 := by
  refine b_ext fun i hi => ?_
  rw [b_and, b_sshr h hh x hi, bt_1 i hi]
  by_cases c : i = 0
  · subst c
    rw [if_pos (by omega), Nat.add_zero, decide_eq_true rfl, Bool.and_true]
    rcases tf (bt x h) with e | e
    · rw [e, if_pos rfl]
      exact (bt_1 0 (by omega)).symm
    · rw [e, if_neg (by decide), b_0]
  · rw [decide_eq_false c, Bool.and_false]
    rcases tf (bt x h) with e | e
    · rw [if_pos e, bt_1 i hi, decide_eq_false c]
    · rw [if_neg (by rw [e]; decide), b_0]
theorem b_eqi {x y : Int32} (h : ∀ i, i < 32 → (bt x i = true ↔ bt y i = true)) : x = y := b_ext fun i hi => Bool.eq_iff_iff.mpr (h i hi)
theorem bt_bm (b : Nat → Bool) : ∀ n, n ≤ 32 → ∀ i, i < 32 → (bt (bm b n) i = true ↔ (i < n ∧ b i = true))
  | 0, _, i, _ => by
    show bt 0 i = true ↔ _
    rw [b_0]
    simp
  | n + 1, hn, i, hi => by
    have ih := bt_bm b n (by omega) i hi
    show bt (if b n = true then bm b n ||| ((1 : Int32) <<< (nI n &&& 31)) else bm b n) i = true ↔ _
    by_cases c : b n = true
    · rw [if_pos c, b_ors (by omega) hi, ih]
      constructor
      · rintro (⟨h1, h2⟩ | rfl)
        · exact ⟨by omega, h2⟩
        · exact ⟨by omega, c⟩
      · rintro ⟨h1, h2⟩
        by_cases e : i = n
        · exact Or.inr e
        · exact Or.inl ⟨by omega, h2⟩
    · rw [if_neg c, ih]
      constructor
      · rintro ⟨h1, h2⟩
        exact ⟨by omega, h2⟩
      · rintro ⟨h1, h2⟩
        refine ⟨?_, h2⟩
        by_cases e : i = n
        · subst e
          exact absurd h2 c
        · omega
/-- a count of k people: how many, the sum, the most, the least -/
def ok4 (q : Q4) (k : Nat) : Prop := ∃ c s, c ≤ 2 * k ∧ s ≤ 200 * k ∧ q.1 = nI c ∧ q.2.1 = nI s ∧ (c = 0 ∨ (inB 101 q.2.2.1 ∧ inB 101 q.2.2.2))
theorem ok4_0 (a b : Int32) : ok4 (0, 0, a, b) 0 := ⟨0, 0, by omega, by omega, rfl, rfl, Or.inl rfl⟩
theorem ok4_up {q : Q4} {k m : Nat} (h : ok4 q k) (hm : k ≤ m) : ok4 q m := by
  obtain ⟨c, s, h1, h2, h3⟩ := h
  exact ⟨c, s, by omega, by omega, h3⟩
theorem tl_rg (kd : Int32) {y : Nat} (hy : y < 101) : inB 101 (tl kd (nI y)) := by
  unfold tl
  by_cases a : kd = 2
  · rw [if_pos a]
    by_cases b : y ≤ 3
    · have e : nI y ≤ (3 : Int32) := nI_le (b := 3) b (by omega)
      rw [if_pos e]
      exact ⟨0, by omega, rfl⟩
    · have e : ¬ nI y ≤ (3 : Int32) := nI_ge (a := 3) (by omega) (by omega)
      rw [if_neg e, i3, nI_sub (by omega)]
      exact ⟨y - 3, by omega, rfl⟩
  · rw [if_neg a]
    exact ⟨y, hy, rfl⟩
theorem tw_rg (kd : Int32) : tw kd = nI 1 ∨ tw kd = nI 2 := by
  unfold tw
  by_cases a : kd = 3
  · rw [if_pos a]
    exact Or.inr rfl
  · rw [if_neg a]
    exact Or.inl rfl
theorem ok4_stp {q : Q4} {k : Nat} {v w : Int32} (h : ok4 q k) (hk : k < 1000) (hv : inB 101 v) (hw : w = nI 1 ∨ w = nI 2) : ok4 (stp v w q) (k + 1) := by
  obtain ⟨c, s, h1, h2, e1, e2, h4⟩ := h
  have hm : inB 101 (stp v w q).2.2.1 ∧ inB 101 (stp v w q).2.2.2 := by
    unfold stp
    by_cases z : q.1 = 0
    · simp only [if_pos z]
      exact ⟨hv, hv⟩
    · simp only [if_neg z]
      rcases h4 with h4 | ⟨h4, h5⟩
      · subst h4
        exact absurd e1 z
      · constructor
        · split
          · exact h4
          · exact hv
        · split
          · exact h5
          · exact hv
  obtain ⟨y, hy, rfl⟩ := hv
  rcases hw with rfl | rfl
  · exact ⟨c + 1, s + 1 * y, by omega, by omega, by show q.1 + nI 1 = _; rw [e1, nI_add], by show q.2.1 + nI 1 * nI y = _; rw [e2, nI_mul, nI_add], Or.inr hm⟩
  · exact ⟨c + 2, s + 2 * y, by omega, by omega, by show q.1 + nI 2 = _; rw [e1, nI_add], by show q.2.1 + nI 2 * nI y = _; rw [e2, nI_mul, nI_add], Or.inr hm⟩
theorem ok4_acc {al : Nat → Bool} {hm kd yr : Nat → Int32} {house : Int32} {q : Q4} {k : Nat} (h : ok4 q k) : ∀ n, k + n < 1000 → (∀ p, p < n → al p = true → inB 101 (yr p)) → ok4 (accG al hm kd yr house q n) (k + n)
  | 0, _, _ => h
  | n + 1, hn, hy => by
    have ih := ok4_acc (al := al) (hm := hm) (kd := kd) (yr := yr) (house := house) h n (by omega) (fun p hp => hy p (by omega))
    unfold accG
    by_cases c : al n = true ∧ hm n = house ∧ ¬ kd n = 4
    · rw [if_pos c]
      obtain ⟨y, hy1, hy2⟩ := hy n (by omega) c.1
      rw [hy2]
      exact ok4_stp ih (show k + n < 1000 by omega) (tl_rg _ hy1) (tw_rg _)
    · rw [if_neg c]
      exact ok4_up ih (by omega)
theorem told_rg {q : Q4} {k : Nat} (hk : k < 1000) (h : ok4 q k) (law : Int32) : (q.1 = 0 ∧ told law q = -4) ∨ (¬ q.1 = 0 ∧ inB 200001 (told law q)) := by
  obtain ⟨c, s, h1, h2, e1, e2, h4⟩ := h
  unfold told
  by_cases z : q.1 = 0
  · exact Or.inl ⟨z, if_pos z⟩
  · refine Or.inr ⟨z, ?_⟩
    rw [if_neg z]
    rcases h4 with h4 | ⟨⟨a, ha, ea⟩, ⟨b, hb, eb⟩⟩
    · subst h4
      exact absurd e1 z
    · by_cases l0 : law = 0
      · rw [if_pos l0]
        exact ⟨a, by omega, ea⟩
      rw [if_neg l0]
      by_cases l1 : law = 1
      · rw [if_pos l1]
        exact ⟨b, by omega, eb⟩
      rw [if_neg l1]
      by_cases l2 : law = 2
      · rw [if_pos l2]
        exact ⟨s, by omega, e2⟩
      rw [if_neg l2, e1, e2, nI_div _ _ (by omega) (by omega)]
      have : s / c ≤ s := Nat.div_le_self s c
      exact ⟨s / c, by omega, rfl⟩
theorem alv_nlt {g : Nat → Int32} {p : Nat} {day : Int32} (h : alv g p day = true) : ¬ day < g (4 * p + 1) := by
  unfold alv at h
  rw [Bool.and_eq_true] at h
  intro c
  rw [decide_eq_true c] at h
  exact Bool.noConfusion h.1
theorem RT.yr_in {T : St} {g : Nat → Int32} {H P V B : Nat} (h : RT T g H P V B) {d p : Nat} (hd : d < 36000) (hp : p < P) (ha : alv g p (nI d) = true) : inB 101 (yrs g p (nI d)) := by
  obtain ⟨-, -, -, -, -, ⟨b, hb, eb⟩, -⟩ := h.2.2.1 p hp
  exact yrs_nn eb hb hd (alv_nlt ha)
theorem base_ok {T : St} {g : Nat → Int32} {H P V B d : Nat} (hT : RT T g H P V B) (hd : d < 36000) (house : Int32) : ok4 (acc g V house (nI d) (0, 0, 0, 0) P) (0 + P) := by
  have hb := hT.1
  exact ok4_acc (ok4_0 0 0) P (by omega) (fun p hp ha => hT.yr_in hd hp ha)
theorem RT.num_rg {T : St} {g : Nat → Int32} {H P V B : Nat} (h : RT T g H P V B) {d : Nat} (hd : d < 36000) (house law : Int32) : num g P V house (nI d) law = -4 ∨ inB 200001 (num g P V house (nI d) law) := by
  have hb := h.1
  have k := base_ok h hd house
  rcases told_rg (k := 0 + P) (by omega) k law with ⟨-, e⟩ | ⟨-, e⟩
  · exact Or.inl e
  · exact Or.inr e
theorem C_tally2 {T : St} {g : Nat → Int32} {H P V B : Nat} (h : RT T g H P V B) {d : Nat} (hd : d < 36000) : ∃ T' : St, f_X5_tallyOn (nI d) T = some T' ∧ FrT T T' ∧ ∀ (G : St) (k : Nat), k < 8 → ∀ law : Int32, f_X2_valueOf (nI k) law (sb 16 (pt 0 32 T' G)) = some (num g P V (nI k) (nI d) law) := by
  obtain ⟨T', h1, h2, h3⟩ := C_tally h hd
  refine ⟨T', h1, h2, fun G k hk law => ?_⟩
  have e := h3 k hk law
  rw [C_value _ k hk] at e
  rw [C_value _ k hk, ← e]
  rfl
/-- i is one of two houses that have one number -/
def TW (v : Nat → Int32) (H i : Nat) : Prop := i < H ∧ ¬ v i = -4 ∧ ∃ k, k < H ∧ k ≠ i ∧ v k = v i
def TO (v : Nat → Int32) (H a i : Nat) : Prop := ∃ x y, x < a ∧ x < y ∧ y < H ∧ ¬ v x = -4 ∧ v y = v x ∧ (i = x ∨ i = y)
def TB (v : Nat → Int32) (a b i : Nat) : Prop := ∃ y, a < y ∧ y < b ∧ ¬ v a = -4 ∧ v y = v a ∧ (i = a ∨ i = y)
theorem TO_TW {v : Nat → Int32} {H i : Nat} : TO v H H i ↔ TW v H i := by
  constructor
  · rintro ⟨x, y, h1, h2, h3, h4, h5, rfl | rfl⟩
    · exact ⟨h1, h4, y, h3, by omega, h5⟩
    · exact ⟨h3, by rw [h5]; exact h4, x, h1, by omega, h5.symm⟩
  · rintro ⟨h1, h2, k, h3, h4, h5⟩
    by_cases c : i < k
    · exact ⟨i, k, h1, c, h3, h2, h5, Or.inl rfl⟩
    · exact ⟨k, i, h3, by omega, h1, by rw [h5]; exact h2, h5.symm, Or.inr rfl⟩
theorem TO_s {v : Nat → Int32} {H a i : Nat} : (TO v H a i ∨ TB v a H i) ↔ TO v H (a + 1) i := by
  constructor
  · rintro (⟨x, y, h1, h2⟩ | ⟨y, h1, h2, h3, h4, h5⟩)
    · exact ⟨x, y, by omega, h2⟩
    · exact ⟨a, y, by omega, h1, h2, h3, h4, h5⟩
  · rintro ⟨x, y, h1, h2, h3, h4, h5, h6⟩
    by_cases c : x = a
    · subst c
      exact Or.inr ⟨y, h2, h3, h4, h5, h6⟩
    · exact Or.inl ⟨x, y, by omega, h2, h3, h4, h5, h6⟩
theorem tb_in {S : St} {H a : Nat} {law : Int32} {v : Nat → Int32} (hH : H ≤ 8) (hv : ∀ k, k < 8 → f_X2_valueOf (nI k) law S = some (v k)) (k5 : Int32 → Int32 → Int32 → Int32 → St → Option Int32) (ha : a < H) : ∀ (r b n : Nat) (x : Int32), b + r = H → r < n → a < b → (∀ i, i < 32 → (bt x i = true ↔ (TO v H a i ∨ TB v a b i))) → ∃ x' : Int32, f_X2_twinBits_26 k5 n (nI H) law x (nI a) (v a) (nI b) S = f_X2_twinBits_69 k5 (nI H) law x' (nI a) S ∧ ∀ i, i < 32 → (bt x' i = true ↔ (TO v H a i ∨ TB v a H i)) := by
  intro r
  induction r with
  | zero =>
    intro b n x h1 h2 h3 h4
    obtain ⟨n, rfl⟩ : ∃ z, n = z + 1 := ⟨n - 1, by omega⟩
    obtain rfl : b = H := by omega
    exact ⟨x, by rw [f_X2_twinBits_26_s, if_pos (nI_le (Nat.le_refl _) (by omega))], h4⟩
  | succ r ih =>
    intro b n x h1 h2 h3 h4
    obtain ⟨n, rfl⟩ : ∃ z, n = z + 1 := ⟨n - 1, by omega⟩
    rw [f_X2_twinBits_26_s, if_neg (nI_ge (by omega) (by omega))]
    by_cases c : v a = -4
    · refine ⟨x, by rw [if_pos c], fun i hi => ?_⟩
      rw [h4 i hi]
      constructor
      · rintro (q | ⟨y, -, -, q, -⟩)
        · exact Or.inl q
        · exact absurd c q
      · rintro (q | ⟨y, -, -, q, -⟩)
        · exact Or.inl q
        · exact absurd c q
    · rw [if_neg c, hv b (by omega), bd_s]
      unfold f_X2_twinBits_63
      rw [p1]
      by_cases e : v b = v a
      · rw [if_pos e]
        refine ih (b + 1) n _ (by omega) (by omega) (by omega) (fun i hi => ?_)
        rw [b_ors2 (by omega) (by omega) hi, h4 i hi]
        constructor
        · rintro ((q | ⟨y, q1, q2, q3⟩) | q)
          · exact Or.inl q
          · exact Or.inr ⟨y, q1, by omega, q3⟩
          · exact Or.inr ⟨b, h3, by omega, c, e, q⟩
        · rintro (q | ⟨y, q1, q2, q3, q4, q5⟩)
          · exact Or.inl (Or.inl q)
          · by_cases z : y = b
            · subst z
              exact Or.inr q5
            · exact Or.inl (Or.inr ⟨y, q1, by omega, q3, q4, q5⟩)
      · rw [if_neg e]
        refine ih (b + 1) n _ (by omega) (by omega) (by omega) (fun i hi => ?_)
        rw [h4 i hi]
        constructor
        · rintro (q | ⟨y, q1, q2, q3⟩)
          · exact Or.inl q
          · exact Or.inr ⟨y, q1, by omega, q3⟩
        · rintro (q | ⟨y, q1, q2, q3, q4, q5⟩)
          · exact Or.inl q
          · by_cases z : y = b
            · subst z
              exact absurd q4 e
            · exact Or.inr ⟨y, q1, by omega, q3, q4, q5⟩
theorem C_twins_l {S : St} {H : Nat} {law : Int32} {v : Nat → Int32} (hH : H ≤ 8) (hv : ∀ k, k < 8 → f_X2_valueOf (nI k) law S = some (v k)) : ∀ (r a n : Nat) (x : Int32), a + r = H → r < n → (∀ i, i < 32 → (bt x i = true ↔ TO v H a i)) → ∃ x' : Int32, f_X2_twinBits_5 n (nI H) law x (nI a) S = some x' ∧ ∀ i, i < 32 → (bt x' i = true ↔ TW v H i) := by
  intro r
  induction r with
  | zero =>
    intro a n x h1 h2 h3
    obtain ⟨n, rfl⟩ : ∃ z, n = z + 1 := ⟨n - 1, by omega⟩
    obtain rfl : a = H := by omega
    exact ⟨x, by rw [f_X2_twinBits_5_s, if_pos (nI_le (Nat.le_refl _) (by omega))], fun i hi => by rw [h3 i hi, TO_TW]⟩
  | succ r ih =>
    intro a n x h1 h2 h3
    obtain ⟨n, rfl⟩ : ∃ z, n = z + 1 := ⟨n - 1, by omega⟩
    rw [f_X2_twinBits_5_s, if_neg (nI_ge (by omega) (by omega)), hv a (by omega), bd_s, p1]
    obtain ⟨x', e1, e2⟩ := tb_in hH hv (f_X2_twinBits_5 n) (show a < H by omega) (H - (a + 1)) (a + 1) 1000 x (by omega) (by omega) (by omega) (fun i hi => by
      rw [h3 i hi]
      constructor
      · exact Or.inl
      · rintro (q | ⟨y, q1, q2, -⟩)
        · exact q
        · omega)
    rw [e1]
    unfold f_X2_twinBits_69
    rw [p1]
    exact ih (a + 1) n x' (by omega) (by omega) (fun i hi => by rw [e2 i hi, TO_s])
theorem C_twins {S : St} {H : Nat} {law : Int32} {v : Nat → Int32} (hH : H ≤ 8) (hv : ∀ k, k < 8 → f_X2_valueOf (nI k) law S = some (v k)) : ∃ x : Int32, f_X2_twinBits (nI H) law S = some x ∧ ∀ i, i < 32 → (bt x i = true ↔ TW v H i) := by
  unfold f_X2_twinBits
  exact C_twins_l hH hv H 0 1000 0 (by omega) (by omega) (fun i hi => by
    rw [b_0]
    constructor
    · intro q
      exact Bool.noConfusion q
    · rintro ⟨x, y, h1, -⟩
      omega)
theorem M_twins_l {T M0 : St} {H P V B d : Nat} (hT : RT T (M0 0) H P V B) (hH : M0 1 0 = nI H) (hd : d < 36000) : ∀ (r h n : Nat) (x : Int32) (M : St), h + r = H → r < n → Fr M0 M → (∀ i, i < 32 → (bt x i = true ↔ (i < h ∧ TW (fun k => num (M0 0) P V (nI k) (nI d) (M0 0 91)) H i))) → ∃ (x' : Int32) (M' : St), f_X7_twins_13 n (nI d) x (nI h) M = some (x', M') ∧ Fr M0 M' ∧ ∀ i, i < 32 → (bt x' i = true ↔ TW (fun k => num (M0 0) P V (nI k) (nI d) (M0 0 91)) H i) := by
  have hb := hT.1
  obtain ⟨t0, t2, g88, t7, g89, -⟩ := id hT.2.1
  intro r
  induction r with
  | zero =>
    intro h n x M h1 h2 hF h3
    obtain ⟨n, rfl⟩ : ∃ z, n = z + 1 := ⟨n - 1, by omega⟩
    obtain rfl : h = H := by omega
    refine ⟨x, M, by rw [f_X7_twins_13_s, hF 1 (by omega), hH, if_pos (nI_le (Nat.le_refl _) (by omega))], hF, fun i hi => ?_⟩
    rw [h3 i hi]
    constructor
    · exact fun q => q.2
    · exact fun q => ⟨q.1, q⟩
  | succ r ih =>
    intro h n x M h1 h2 hF h3
    obtain ⟨n, rfl⟩ : ∃ z, n = z + 1 := ⟨n - 1, by omega⟩
    have e0 : M 0 = M0 0 := hF 0 (by omega)
    obtain ⟨M1, m1, m2⟩ := M_now M V P (nI h) (nI d) (by rw [e0]; exact g89) (by omega) (by rw [e0]; exact g88) (by omega)
    have hF1 := hF.tr m2
    have e1 : M1 0 = M0 0 := hF1 0 (by omega)
    rw [f_X7_twins_13_s, hF 1 (by omega), hH, if_neg (nI_ge (by omega) (by omega)), m1, bd_s, e0]
    have no : ∀ M2 : St, Fr M0 M2 → ¬ TW (fun k => num (M0 0) P V (nI k) (nI d) (M0 0 91)) H h → ∃ (x' : Int32) (M' : St), f_X7_twins_56 (f_X7_twins_13 n) (nI d) (nI h) x M2 = some (x', M') ∧ Fr M0 M' ∧ ∀ i, i < 32 → (bt x' i = true ↔ TW (fun k => num (M0 0) P V (nI k) (nI d) (M0 0 91)) H i) := by
      intro M2 hF2 hn
      unfold f_X7_twins_56 f_X7_twins_57
      rw [p1, or0]
      refine ih (h + 1) n x M2 (by omega) (by omega) hF2 (fun i hi => ?_)
      rw [h3 i hi]
      constructor
      · rintro ⟨q1, q2⟩
        exact ⟨by omega, q2⟩
      · rintro ⟨q1, q2⟩
        refine ⟨?_, q2⟩
        by_cases c : i = h
        · subst c
          exact absurd q2 hn
        · omega
    by_cases c : num (M0 0) P V (nI h) (nI d) (M0 0 91) = -4
    · rw [if_pos c]
      exact no M1 hF1 (fun q => q.2.1 c)
    · rw [if_neg c]
      obtain ⟨M2, k1, k2⟩ := M_with (T := T) (M := M1) (by rw [e1]; exact hT) (by rw [hF1 1 (by omega)]; exact hH) (num (M0 0) P V (nI h) (nI d) (M0 0 91)) (nI d)
      have z : 0 ≤ num (M0 0) P V (nI h) (nI d) (M0 0 91) := by
        rcases hT.num_rg hd (nI h) (M0 0 91) with q | ⟨j, hj, q⟩
        · exact absurd q c
        · rw [q]
          exact nI_pos' (by omega)
      simp only [if_pos z, e1] at k1
      rw [k1, bd_s]
      have hF2 := hF1.tr k2
      by_cases w : bm (fun k => decide (num (M0 0) P V (nI k) (nI d) (M0 0 91) = num (M0 0) P V (nI h) (nI d) (M0 0 91))) H = (1 : Int32) <<< (nI h &&& 31)
      · rw [if_pos w]
        refine no M2 hF2 ?_
        rintro ⟨-, -, k, q1, q2, q3⟩
        have q4 := (bt_bm (fun k => decide (num (M0 0) P V (nI k) (nI d) (M0 0 91) = num (M0 0) P V (nI h) (nI d) (M0 0 91))) H (by omega) k (by omega)).mpr ⟨q1, decide_eq_true q3⟩
        rw [w, b_one h (by omega) (by omega)] at q4
        exact q2 (of_decide_eq_true q4)
      · rw [if_neg w]
        unfold f_X7_twins_57
        rw [p1]
        have yes : TW (fun k => num (M0 0) P V (nI k) (nI d) (M0 0 91)) H h := by
          refine ⟨by omega, c, Classical.byContradiction fun q => w (b_eqi fun i hi => ?_)⟩
          rw [bt_bm _ H (by omega) i hi, b_one h (by omega) hi]
          constructor
          · rintro ⟨q1, q2⟩
            refine decide_eq_true (Classical.byContradiction fun q3 => q ⟨i, q1, q3, of_decide_eq_true q2⟩)
          · intro q1
            have q2 := of_decide_eq_true q1
            subst q2
            exact ⟨by omega, decide_eq_true rfl⟩
        refine ih (h + 1) n _ M2 (by omega) (by omega) hF2 (fun i hi => ?_)
        rw [b_ors (by omega) hi, h3 i hi]
        constructor
        · rintro (⟨q1, q2⟩ | rfl)
          · exact ⟨by omega, q2⟩
          · exact ⟨by omega, yes⟩
        · rintro ⟨q1, q2⟩
          by_cases e : i = h
          · exact Or.inr e
          · exact Or.inl ⟨by omega, q2⟩
theorem op_twins : Op_twins Rel := by
  intro x1 G M hR
  obtain ⟨H, hH, ⟨P, V, B, hT⟩, -⟩ := id hR
  have hb := hT.1
  unfold f_X6_twins f_X7_twins
  rw [C_isDay, M_isDay, sb0]
  rcases tf (vd 36000 x1) with v1 | v1
  · rw [vb_t v1, vb_t v1]
    obtain ⟨d, hd, rfl⟩ := vd_t v1
    obtain ⟨U, u1, u2, u3⟩ := C_tally2 hT hd
    obtain ⟨t0, -, -, -, -, -, -, t1, -⟩ := id (hT.fr u2).2.1
    obtain ⟨x, c1, c2⟩ := C_twins (S := sb 16 (pt 0 32 U G)) (law := M 0 91) (v := fun k => num (M 0) P V (nI k) (nI d) (M 0 91)) (show H ≤ 8 by omega) (fun k hk => u3 G k hk _)
    obtain ⟨x', M', m1, m2, m3⟩ := M_twins_l hT hH hd H 0 1000 0 M (by omega) (by omega) Fr.rf (fun i hi => by
      rw [b_0]
      constructor
      · intro q
        exact Bool.noConfusion q
      · rintro ⟨q, -⟩
        omega)
    have e : x' = x := b_eqi fun i hi => by rw [m3 i hi, c2 i hi]
    have m1' : f_X7_twins_13 1000 (nI d) 0 0 M = some (x', M') := m1
    rw [u1, bd_s, t0, t1, c1, bd_s, m1', e]
    exact ⟨_, _, _, rfl, rfl, hR.cg u2.fg m2.fm⟩
  · rw [vb_f v1, vb_f v1]
    exact ⟨_, _, _, rfl, rfl, hR⟩
/-- one house stands ahead of another -/
def bef (v : Nat → Int32) (o h : Nat) : Bool := decide ((v h).toInt < (v o).toInt ∨ ((v o).toInt = (v h).toInt ∧ o < h))
theorem bef_i {v : Nat → Int32} {o h : Nat} : bef v o h = true ↔ ((v h).toInt < (v o).toInt ∨ ((v o).toInt = (v h).toInt ∧ o < h)) := decide_eq_true_iff
theorem ca_congr {a b : Nat → Bool} : ∀ n, (∀ k, k < n → a k = b k) → ca a n = ca b n
  | 0, _ => rfl
  | n + 1, h => by
    have ih := ca_congr n (fun k hk => h k (by omega))
    show (if a n = true then ca a n + 1 else ca a n) = if b n = true then ca b n + 1 else ca b n
    rw [ih, h n (by omega)]
theorem ca_le {a b : Nat → Bool} : ∀ n, (∀ k, k < n → a k = true → b k = true) → ca a n ≤ ca b n
  | 0, _ => Nat.le_refl 0
  | n + 1, h => by
    have ih := ca_le n (fun k hk => h k (by omega))
    show (if a n = true then ca a n + 1 else ca a n) ≤ if b n = true then ca b n + 1 else ca b n
    by_cases c : a n = true
    · rw [if_pos c, if_pos (h n (by omega) c)]
      omega
    · rw [if_neg c]
      split <;> omega
theorem ca_lt {a b : Nat → Bool} {j : Nat} (ha : a j = false) (hb : b j = true) : ∀ n, j < n → (∀ k, k < n → a k = true → b k = true) → ca a n < ca b n
  | 0, h0, _ => by omega
  | n + 1, h0, h => by
    show (if a n = true then ca a n + 1 else ca a n) < if b n = true then ca b n + 1 else ca b n
    by_cases e : n = j
    · subst e
      have := ca_le n (fun k hk => h k (by omega))
      rw [if_neg (by rw [ha]; decide), if_pos hb]
      omega
    · have ih := ca_lt ha hb n (by omega) (fun k hk => h k (by omega))
      by_cases c : a n = true
      · rw [if_pos c, if_pos (h n (by omega) c)]
        omega
      · rw [if_neg c]
        split <;> omega
theorem ca_add {a b : Nat → Bool} {j : Nat} (ha : a j = false) (hb : b j = true) : ∀ n, (∀ k, k < n → k ≠ j → b k = a k) → ca b n = if j < n then ca a n + 1 else ca a n
  | 0, _ => rfl
  | n + 1, h => by
    have ih := ca_add ha hb n (fun k hk => h k (by omega))
    show (if b n = true then ca b n + 1 else ca b n) = if j < n + 1 then (if a n = true then ca a n + 1 else ca a n) + 1 else (if a n = true then ca a n + 1 else ca a n)
    by_cases e : n = j
    · subst e
      rw [if_pos hb, if_pos (by omega), if_neg (by rw [ha]; decide), ih, if_neg (by omega)]
    · rw [h n (by omega) e, ih]
      by_cases c : j < n
      · rw [if_pos c, if_pos (show j < n + 1 by omega)]
        split <;> omega
      · rw [if_neg c, if_neg (show ¬ j < n + 1 by omega)]
theorem ca_all {a : Nat → Bool} : ∀ n, (∀ k, k < n → a k = true) → ca a n = n
  | 0, _ => rfl
  | n + 1, h => by
    have ih := ca_all n (fun k hk => h k (by omega))
    show (if a n = true then ca a n + 1 else ca a n) = n + 1
    rw [if_pos (h n (by omega)), ih]
theorem ca_none {a : Nat → Bool} : ∀ n, (∀ k, k < n → a k = false) → ca a n = 0
  | 0, _ => rfl
  | n + 1, h => by
    have ih := ca_none n (fun k hk => h k (by omega))
    show (if a n = true then ca a n + 1 else ca a n) = 0
    rw [if_neg (by rw [h n (by omega)]; decide), ih]
theorem rk_inj {v : Nat → Int32} {H h s : Nat} (hh : h < H) (hs : s < H) (e : ca (fun o => bef v o h) H = ca (fun o => bef v o s) H) : h = s := by
  have key : ∀ x y, x < H → bef v x y = true → ca (fun o => bef v o x) H < ca (fun o => bef v o y) H := by
    intro x y hx hxy
    refine ca_lt (j := x) ?_ hxy H hx (fun k hk hk2 => ?_)
    · exact decide_eq_false (by omega)
    · rw [bef_i] at hxy hk2 ⊢
      omega
  apply Classical.byContradiction
  intro n
  by_cases c : bef v h s = true
  · have := key h s hh c
    omega
  · have c2 : bef v s h = true := by
      rw [bef_i] at c ⊢
      omega
    have := key s h hs c2
    omega
theorem C_rank_l {S : St} {H h : Nat} {law : Int32} {v : Nat → Int32} (hH : H ≤ 8) (hh : h < 8) (hv : ∀ k, k < 8 → f_X2_valueOf (nI k) law S = some (v k)) : ∀ (r o n : Nat), o + r = H → r < n → f_X2_rankOf_14 n (nI h) (nI H) law (v h) (nI (ca (fun o => bef v o h) o)) (nI o) S = some (nI (ca (fun o => bef v o h) H)) := by
  intro r
  induction r with
  | zero =>
    intro o n h1 h2
    obtain ⟨n, rfl⟩ : ∃ z, n = z + 1 := ⟨n - 1, by omega⟩
    obtain rfl : o = H := by omega
    rw [f_X2_rankOf_14_s, if_pos (nI_le (Nat.le_refl _) (by omega))]
  | succ r ih =>
    intro o n h1 h2
    obtain ⟨n, rfl⟩ : ∃ z, n = z + 1 := ⟨n - 1, by omega⟩
    have k := ih (o + 1) n (by omega) (by omega)
    have e : ca (fun o => bef v o h) (o + 1) = if bef v o h = true then ca (fun o => bef v o h) o + 1 else ca (fun o => bef v o h) o := rfl
    rw [f_X2_rankOf_14_s, if_neg (nI_ge (by omega) (by omega)), hv o (by omega), bd_s]
    unfold f_X2_rankOf_49 f_X2_rankOf_52
    rw [p1, p1]
    have yes : bef v o h = true → f_X2_rankOf_14 n (nI h) (nI H) law (v h) (nI (ca (fun o => bef v o h) o + 1)) (nI (o + 1)) S = some (nI (ca (fun o => bef v o h) H)) := by
      intro q
      rw [e, if_pos q] at k
      exact k
    have no : ¬ bef v o h = true → f_X2_rankOf_14 n (nI h) (nI H) law (v h) (nI (ca (fun o => bef v o h) o)) (nI (o + 1)) S = some (nI (ca (fun o => bef v o h) H)) := by
      intro q
      rw [e, if_neg q] at k
      exact k
    by_cases c : v h < v o
    · rw [if_pos c]
      exact yes (bef_i.mpr (Or.inl (Int32.lt_iff_toInt_lt.mp c)))
    · rw [if_neg c]
      have c' : ¬ (v h).toInt < (v o).toInt := fun q => c (Int32.lt_iff_toInt_lt.mpr q)
      by_cases c2 : v o = v h
      · rw [if_pos c2]
        by_cases c3 : h ≤ o
        · rw [if_pos (nI_le c3 (by omega))]
          exact no (fun q => by rw [bef_i] at q; omega)
        · rw [if_neg (nI_ge (by omega) (by omega))]
          exact yes (bef_i.mpr (Or.inr ⟨by rw [c2], by omega⟩))
      · rw [if_neg c2]
        refine no (fun q => ?_)
        rw [bef_i] at q
        rcases q with q | q
        · exact c' q
        · exact c2 (Int32.toInt_inj.mp q.1)
theorem C_rank {S : St} {H h : Nat} {law : Int32} {v : Nat → Int32} (hH : H ≤ 8) (hh : h < 8) (hv : ∀ k, k < 8 → f_X2_valueOf (nI k) law S = some (v k)) : f_X2_rankOf (nI h) (nI H) law S = some (nI (ca (fun o => bef v o h) H)) := by
  unfold f_X2_rankOf
  rw [hv h hh, bd_s]
  exact C_rank_l hH hh hv H 0 1000 (by omega) (by omega)
theorem ca_bd {a : Nat → Bool} : ∀ n, ca a n ≤ n
  | 0 => Nat.le_refl 0
  | n + 1 => by
    have ih := ca_bd (a := a) n
    show (if a n = true then ca a n + 1 else ca a n) ≤ n + 1
    split <;> omega
theorem C_desc {G : St} {H i s : Nat} {law : Int32} {v : Nat → Int32} (hH : H ≤ 8) (h0 : G 0 0 = nI H) (h1 : G 1 0 = law) (hv : ∀ k, k < 8 → f_X2_valueOf (nI k) law (sb 16 G) = some (v k)) (hs : s < H) (hi : ca (fun o => bef v o s) H = i) : ∀ (r h n : Nat), h + r = s → r < n → f_X6_descending_32 n (nI i) (nI h) G = some (nI s, G) := by
  have hib : i ≤ H := by rw [← hi]; exact ca_bd H
  intro r
  induction r with
  | zero =>
    intro h n e1 e2
    obtain ⟨n, rfl⟩ : ∃ z, n = z + 1 := ⟨n - 1, by omega⟩
    obtain rfl : h = s := by omega
    rw [f_X6_descending_32_s, h0, h1, if_neg (nI_ge (by omega) (by omega)), C_rank hH (by omega) hv, bd_s, hi, if_pos rfl]
  | succ r ih =>
    intro h n e1 e2
    obtain ⟨n, rfl⟩ : ∃ z, n = z + 1 := ⟨n - 1, by omega⟩
    rw [f_X6_descending_32_s, h0, h1, if_neg (nI_ge (by omega) (by omega)), C_rank hH (by omega) hv, bd_s, if_neg, p1]
    · exact ih (h + 1) n (by omega) (by omega)
    · intro q
      have b := ca_bd (a := fun o => bef v o h) H
      have q2 := (nI_eq (by omega) (by omega)).mp q
      have := rk_inj (v := v) (show h < H by omega) hs (by rw [q2, hi])
      omega
/-- the first of those that were not taken -/
def fst5 (v : Nat → Int32) (been : Int32) (h : Nat) (w m : Int32) : Prop := (w = -4 ∧ m = -5 ∧ ∀ o, o < h → bt been o = true) ∨ ∃ s, s < h ∧ bt been s = false ∧ w = nI s ∧ m = v s ∧ ∀ o, o < h → bt been o = false → o = s ∨ bef v s o = true
theorem M_desc_in {T M0 : St} {H P V B d : Nat} (hT : RT T (M0 0) H P V B) (hH : M0 1 0 = nI H) (hd : d < 36000) (k25 : Int32 → Int32 → Int32 → Int32 → Int32 → St → Option (Int32 × St)) (x2 been x5 : Int32) : ∀ (r h n : Nat) (w m : Int32) (M : St), h + r = H → r < n → Fr M0 M → fst5 (fun k => num (M0 0) P V (nI k) (nI d) (M0 0 91)) been h w m → ∃ (w' m' : Int32) (M' : St), f_X7_descending_42 k25 n (nI d) x2 been w x5 m (nI h) M = f_X7_descending_117 k25 (nI d) x2 been w' x5 M' ∧ Fr M0 M' ∧ fst5 (fun k => num (M0 0) P V (nI k) (nI d) (M0 0 91)) been H w' m' := by
  have hb := hT.1
  obtain ⟨t0, t2, g88, t7, g89, -⟩ := id hT.2.1
  intro r
  induction r with
  | zero =>
    intro h n w m M h1 h2 hF h3
    obtain ⟨n, rfl⟩ : ∃ z, n = z + 1 := ⟨n - 1, by omega⟩
    obtain rfl : h = H := by omega
    exact ⟨w, m, M, by rw [f_X7_descending_42_s, hF 1 (by omega), hH, if_pos (nI_le (Nat.le_refl _) (by omega))], hF, h3⟩
  | succ r ih =>
    intro h n w m M h1 h2 hF h3
    obtain ⟨n, rfl⟩ : ∃ z, n = z + 1 := ⟨n - 1, by omega⟩
    have e0 : M 0 = M0 0 := hF 0 (by omega)
    obtain ⟨M1, m1, m2⟩ := M_now M V P (nI h) (nI d) (by rw [e0]; exact g89) (by omega) (by rw [e0]; exact g88) (by omega)
    have hF1 := hF.tr m2
    rw [f_X7_descending_42_s, hF 1 (by omega), hH, if_neg (nI_ge (by omega) (by omega)), m1, bd_s, e0, b_tst1 been (show h < 32 by omega)]
    have stay : fst5 (fun k => num (M0 0) P V (nI k) (nI d) (M0 0 91)) been (h + 1) w m → ∃ (w' m' : Int32) (M' : St), f_X7_descending_80 k25 (f_X7_descending_42 k25 n) (nI d) x2 been w x5 m (nI h) (num (M0 0) P V (nI h) (nI d) (M0 0 91)) M1 = f_X7_descending_117 k25 (nI d) x2 been w' x5 M' ∧ Fr M0 M' ∧ fst5 (fun k => num (M0 0) P V (nI k) (nI d) (M0 0 91)) been H w' m' := by
      intro q
      unfold f_X7_descending_80 f_X7_descending_81 f_X7_descending_95 f_X7_descending_109
      rw [if_pos rfl, if_pos rfl, p1]
      exact ih (h + 1) n w m M1 (by omega) (by omega) hF1 q
    rcases tf (bt been h) with c | c
    · rw [c, if_pos rfl, if_neg (by decide)]
      refine stay ?_
      rcases h3 with ⟨q1, q2, q3⟩ | ⟨s, q1, q2, q3, q4, q5⟩
      · refine Or.inl ⟨q1, q2, fun o ho => ?_⟩
        by_cases z : o = h
        · rw [z]
          exact c
        · exact q3 o (by omega)
      · refine Or.inr ⟨s, by omega, q2, q3, q4, fun o ho hb2 => ?_⟩
        by_cases z : o = h
        · rw [z, c] at hb2
          exact Bool.noConfusion hb2
        · exact q5 o (by omega) hb2
    · rw [c, if_neg (show ¬ false = true by decide), if_pos rfl]
      have rg := hT.num_rg hd (nI h) (M0 0 91)
      by_cases c2 : num (M0 0) P V (nI h) (nI d) (M0 0 91) ≤ m
      · rw [if_pos c2]
        refine stay ?_
        rcases h3 with ⟨q1, q2, q3⟩ | ⟨s, q1, q2, q3, q4, q5⟩
        · exfalso
          rw [q2, Int32.le_iff_toInt_le] at c2
          have f5 : (-5 : Int32).toInt = -5 := by decide
          have f4 : (-4 : Int32).toInt = -4 := by decide
          rcases rg with e | ⟨j, hj, e⟩
          · rw [e] at c2
            omega
          · rw [e, nI_toInt (by omega)] at c2
            omega
        · refine Or.inr ⟨s, by omega, q2, q3, q4, fun o ho hb2 => ?_⟩
          by_cases z : o = h
          · subst z
            refine Or.inr (bef_i.mpr ?_)
            have q4' : m = num (M0 0) P V (nI s) (nI d) (M0 0 91) := q4
            rw [q4', Int32.le_iff_toInt_le] at c2
            show (num (M0 0) P V (nI o) (nI d) (M0 0 91)).toInt < (num (M0 0) P V (nI s) (nI d) (M0 0 91)).toInt ∨ ((num (M0 0) P V (nI s) (nI d) (M0 0 91)).toInt = (num (M0 0) P V (nI o) (nI d) (M0 0 91)).toInt ∧ s < o)
            omega
          · exact q5 o (by omega) hb2
      · rw [if_neg c2]
        unfold f_X7_descending_81 f_X7_descending_95 f_X7_descending_109
        rw [if_neg (show ¬ (1 : Int32) = 0 by decide), if_neg (show ¬ (1 : Int32) = 0 by decide), p1]
        refine ih (h + 1) n _ _ M1 (by omega) (by omega) hF1 (Or.inr ⟨h, by omega, c, rfl, rfl, fun o ho hb2 => ?_⟩)
        by_cases z : o = h
        · exact Or.inl z
        · refine Or.inr (bef_i.mpr ?_)
          have c3 := Int32.lt_iff_toInt_lt.mp (not_le_lt c2)
          show (num (M0 0) P V (nI o) (nI d) (M0 0 91)).toInt < (num (M0 0) P V (nI h) (nI d) (M0 0 91)).toInt ∨ ((num (M0 0) P V (nI h) (nI d) (M0 0 91)).toInt = (num (M0 0) P V (nI o) (nI d) (M0 0 91)).toInt ∧ h < o)
          rcases h3 with ⟨q1, q2, q3⟩ | ⟨s, q1, q2, q3, q4, q5⟩
          · have := q3 o (by omega)
            rw [hb2] at this
            exact Bool.noConfusion this
          · have q4' : m = num (M0 0) P V (nI s) (nI d) (M0 0 91) := q4
            rw [q4'] at c3
            rcases q5 o (by omega) hb2 with q | q
            · subst q
              omega
            · rw [bef_i] at q
              have q' : (num (M0 0) P V (nI o) (nI d) (M0 0 91)).toInt < (num (M0 0) P V (nI s) (nI d) (M0 0 91)).toInt ∨ ((num (M0 0) P V (nI s) (nI d) (M0 0 91)).toInt = (num (M0 0) P V (nI o) (nI d) (M0 0 91)).toInt ∧ s < o) := q
              have c3' : (num (M0 0) P V (nI s) (nI d) (M0 0 91)).toInt < (num (M0 0) P V (nI h) (nI d) (M0 0 91)).toInt := c3
              omega
/-- behind k picks: which were taken, and who was the last -/
def pks (v : Nat → Int32) (H : Nat) (been w : Int32) (k : Nat) : Prop := ca (fun o => bt been o) H = k ∧ (∀ s h, s < H → h < H → bt been s = true → bt been h = false → bef v s h = true) ∧ (k = 0 ∨ ∃ s, s < H ∧ w = nI s ∧ ca (fun o => bef v o s) H + 1 = k)
theorem M_desc_l {T M0 : St} {H P V B d i : Nat} (hT : RT T (M0 0) H P V B) (hH : M0 1 0 = nI H) (hd : d < 36000) (hi : i < H) : ∀ (r k n : Nat) (been w : Int32) (M : St), k + r = i + 1 → r < n → Fr M0 M → pks (fun k => num (M0 0) P V (nI k) (nI d) (M0 0 91)) H been w k → ∃ (s : Nat) (M' : St), f_X7_descending_25 n (nI d) (nI i) been w (nI k) M = some (nI s, M') ∧ Fr M0 M' ∧ s < H ∧ ca (fun o => bef (fun k => num (M0 0) P V (nI k) (nI d) (M0 0 91)) o s) H = i := by
  have hb := hT.1
  intro r
  induction r with
  | zero =>
    intro k n been w M h1 h2 hF h3
    obtain ⟨n, rfl⟩ : ∃ z, n = z + 1 := ⟨n - 1, by omega⟩
    obtain ⟨q1, q2, q3⟩ := h3
    rcases q3 with q3 | ⟨s, q3, q4, q5⟩
    · omega
    · exact ⟨s, M, by rw [f_X7_descending_25_s, if_pos (nI_lt (by omega) (by omega)), q4], hF, q3, by omega⟩
  | succ r ih =>
    intro k n been w M h1 h2 hF h3
    obtain ⟨n, rfl⟩ : ∃ z, n = z + 1 := ⟨n - 1, by omega⟩
    obtain ⟨q1, q2, q3⟩ := h3
    have e0 : M 0 = M0 0 := hF 0 (by omega)
    rw [f_X7_descending_25_s, if_neg (nI_nlt (by omega) (by omega))]
    obtain ⟨w', m', M', d1, d2, d3⟩ := M_desc_in (T := T) (M0 := M0) hT hH hd (f_X7_descending_25 n) (nI i) been (nI k) H 0 1000 (-4) (-5) M (by omega) (by omega) hF (Or.inl ⟨rfl, rfl, fun o ho => by omega⟩)
    have d1' : f_X7_descending_42 (f_X7_descending_25 n) 1000 (nI d) (nI i) been (-4) (nI k) (-5) 0 M = f_X7_descending_117 (f_X7_descending_25 n) (nI d) (nI i) been w' (nI k) M' := d1
    rw [d1']
    unfold f_X7_descending_117
    rw [p1]
    rcases d3 with ⟨c1, c2, c3⟩ | ⟨s, c1, c2, c3, c4, c5⟩
    · have := ca_all (a := fun o => bt been o) H c3
      omega
    · rw [c3]
      have hbs : ∀ o, o < 32 → o ≠ s → bt (been ||| ((1 : Int32) <<< (nI s &&& 31))) o = bt been o := by
        intro o ho hne
        rw [b_or, b_one s (by omega) ho, decide_eq_false hne, Bool.or_false]
      have hbs2 : bt (been ||| ((1 : Int32) <<< (nI s &&& 31))) s = true := (b_ors (by omega) (by omega)).mpr (Or.inr rfl)
      refine ih (k + 1) n _ _ M' (by omega) (by omega) d2 ⟨?_, ?_, Or.inr ⟨s, c1, rfl, ?_⟩⟩
      · rw [ca_add (a := fun o => bt been o) (j := s) c2 hbs2 H (fun j hj hne => hbs j (by omega) hne), if_pos c1, q1]
      · intro a b ha hb' ha2 hb2
        have nb : b ≠ s := by
          intro z
          rw [z, hbs2] at hb2
          exact Bool.noConfusion hb2
        rw [hbs b (by omega) nb] at hb2
        by_cases z : a = s
        · rw [z]
          rcases c5 b hb' hb2 with q | q
          · exact absurd q nb
          · exact q
        · rw [hbs a (by omega) z] at ha2
          exact q2 a b ha hb' ha2 hb2
      · have e : ca (fun o => bef (fun k => num (M0 0) P V (nI k) (nI d) (M0 0 91)) o s) H = ca (fun o => bt been o) H := by
          refine ca_congr H (fun o ho => ?_)
          rcases tf (bt been o) with q | q
          · show bef _ o s = bt been o
            rw [q]
            exact q2 o s ho c1 q c2
          · show bef _ o s = bt been o
            rw [q]
            refine Bool.eq_false_iff.mpr (fun z => ?_)
            rw [bef_i] at z
            rcases c5 o ho q with y | y
            · subst y
              omega
            · rw [bef_i] at y
              omega
        rw [e, q1]
theorem op_descending : Op_descending Rel := by
  intro x1 x2 G M hR
  obtain ⟨H, hH, ⟨P, V, B, hT⟩, -⟩ := id hR
  have hb := hT.1
  have t0 := hT.2.1.1
  unfold f_X6_descending f_X7_descending
  rw [C_isDay, M_isDay, sb0, C_isHouse t0 (by omega), M_isHouse hH (by omega)]
  rcases tf (vd 36000 x1) with v1 | v1
  · rw [vb_t v1, vb_t v1]
    rcases tf (vd H x2) with v2 | v2
    · rw [vb_t v2, vb_t v2]
      obtain ⟨d, hd, rfl⟩ := vd_t v1
      obtain ⟨i, hi, rfl⟩ := vd_t v2
      obtain ⟨U, u1, u2, u3⟩ := C_tally2 hT hd
      obtain ⟨t0', -, -, -, -, -, -, t1', -⟩ := id (hT.fr u2).2.1
      obtain ⟨s, M', m1, m2, m3, m4⟩ := M_desc_l hT hH hd hi (i + 1) 0 1000 0 0 M (by omega) (by omega) Fr.rf ⟨ca_none H (fun k _ => b_0 k), fun a b ha hb' q => by rw [b_0] at q; exact Bool.noConfusion q, Or.inl rfl⟩
      have m1' : f_X7_descending_25 1000 (nI d) (nI i) 0 0 0 M = some (nI s, M') := m1
      have c1 := C_desc (G := pt 0 32 U G) (v := fun k => num (M 0) P V (nI k) (nI d) (M 0 91)) (show H ≤ 8 by omega) t0' t1' (fun k hk => u3 G k hk _) m3 m4 s 0 1000 (by omega) (by omega)
      have c1' : f_X6_descending_32 1000 (nI i) 0 (pt 0 32 U G) = some (nI s, pt 0 32 U G) := c1
      rw [u1, bd_s, m1', c1']
      exact ⟨_, _, _, rfl, rfl, hR.cg u2.fg m2.fm⟩
    · rw [vb_f v2, vb_f v2]
      exact ⟨_, _, _, rfl, rfl, hR⟩
  · rw [vb_f v1, vb_f v1]
    exact ⟨_, _, _, rfl, rfl, hR⟩
/-- the greatest of those that have not been: which, its number -/
def gr (v : Nat → Int32) (been : Int32) : Nat → Int32 × Int32
  | 0 => (-4, -4)
  | h + 1 => if bt been h = false ∧ ¬ v h ≤ (gr v been h).2 then (nI h, v h) else gr v been h
theorem gr_ge {v : Nat → Int32} {been : Int32} : ∀ h, (-4 : Int32) ≤ (gr v been h).2
  | 0 => Int32.le_refl _
  | h + 1 => by
    have ih := gr_ge (v := v) (been := been) h
    show (-4 : Int32) ≤ (if bt been h = false ∧ ¬ v h ≤ (gr v been h).2 then (nI h, v h) else gr v been h).2
    by_cases c : bt been h = false ∧ ¬ v h ≤ (gr v been h).2
    · rw [if_pos c]
      have c2 := Int32.lt_iff_toInt_lt.mp (not_le_lt c.2)
      rw [Int32.le_iff_toInt_le] at ih ⊢
      show (-4 : Int32).toInt ≤ (v h).toInt
      omega
    · rw [if_neg c]
      exact ih
theorem gr_w {v : Nat → Int32} {been : Int32} : ∀ h, (gr v been h).1 = -4 ∨ ∃ s, s < h ∧ (gr v been h).1 = nI s
  | 0 => Or.inl rfl
  | h + 1 => by
    have ih := gr_w (v := v) (been := been) h
    show (if bt been h = false ∧ ¬ v h ≤ (gr v been h).2 then (nI h, v h) else gr v been h).1 = -4 ∨ ∃ s, s < h + 1 ∧ (if bt been h = false ∧ ¬ v h ≤ (gr v been h).2 then (nI h, v h) else gr v been h).1 = nI s
    by_cases c : bt been h = false ∧ ¬ v h ≤ (gr v been h).2
    · rw [if_pos c]
      exact Or.inr ⟨h, by omega, rfl⟩
    · rw [if_neg c]
      rcases ih with q | ⟨s, q1, q2⟩
      · exact Or.inl q
      · exact Or.inr ⟨s, by omega, q2⟩
theorem C_gr_l {S : St} {H : Nat} {law : Int32} {v : Nat → Int32} (hH : H ≤ 8) (hv : ∀ k, k < 8 → f_X2_valueOf (nI k) law S = some (v k)) (been : Int32) : ∀ (r h n : Nat), h + r = H → r < n → f_X2_greatest_11 n (nI H) law been (gr v been h).1 (gr v been h).2 (nI h) S = some (gr v been H).1 := by
  intro r
  induction r with
  | zero =>
    intro h n h1 h2
    obtain ⟨n, rfl⟩ : ∃ z, n = z + 1 := ⟨n - 1, by omega⟩
    obtain rfl : h = H := by omega
    rw [f_X2_greatest_11_s, if_pos (nI_le (Nat.le_refl _) (by omega))]
  | succ r ih =>
    intro h n h1 h2
    obtain ⟨n, rfl⟩ : ∃ z, n = z + 1 := ⟨n - 1, by omega⟩
    have k := ih (h + 1) n (by omega) (by omega)
    have e : gr v been (h + 1) = if bt been h = false ∧ ¬ v h ≤ (gr v been h).2 then (nI h, v h) else gr v been h := rfl
    rw [f_X2_greatest_11_s, if_neg (nI_ge (by omega) (by omega)), hv h (by omega), bd_s]
    unfold f_X2_greatest_50
    rw [p1]
    rcases tf (bt been h) with c | c
    · rw [if_neg (fun q => by rw [b_tst been (by omega), c] at q; exact Bool.noConfusion q)]
      rw [e, if_neg (fun q => by rw [c] at q; exact Bool.noConfusion q.1)] at k
      exact k
    · rw [if_pos ((b_tst been (by omega)).mpr c)]
      by_cases c2 : v h ≤ (gr v been h).2
      · rw [if_pos c2]
        rw [e, if_neg (fun q => q.2 c2)] at k
        exact k
      · rw [if_neg c2]
        rw [e, if_pos ⟨c, c2⟩] at k
        exact k
theorem M_gr_l {T M0 : St} {H P V B d : Nat} (hT : RT T (M0 0) H P V B) (hH : M0 1 0 = nI H) (x1 x2 x5 been : Int32) (hx : x1 + x5 = nI d) (hd : d < 36000) (k30 : Int32 → Int32 → Int32 → Int32 → Int32 → St → Option (Int32 × St)) : ∀ (r h n : Nat) (M : St), h + r = H → r < n → Fr M0 M → ∃ M' : St, f_X7_round_47 k30 n x1 x2 been (gr (fun k => num (M0 0) P V (nI k) (nI d) (M0 0 91)) been h).1 x5 (gr (fun k => num (M0 0) P V (nI k) (nI d) (M0 0 91)) been h).2 (nI h) M = f_X7_round_131 k30 x1 x2 been (gr (fun k => num (M0 0) P V (nI k) (nI d) (M0 0 91)) been H).1 x5 M' ∧ Fr M0 M' := by
  have hb := hT.1
  obtain ⟨t0, t2, g88, t7, g89, -⟩ := id hT.2.1
  intro r
  induction r with
  | zero =>
    intro h n M h1 h2 hF
    obtain ⟨n, rfl⟩ : ∃ z, n = z + 1 := ⟨n - 1, by omega⟩
    obtain rfl : h = H := by omega
    exact ⟨M, by rw [f_X7_round_47_s, hF 1 (by omega), hH, if_pos (nI_le (Nat.le_refl _) (by omega))], hF⟩
  | succ r ih =>
    intro h n M h1 h2 hF
    obtain ⟨n, rfl⟩ : ∃ z, n = z + 1 := ⟨n - 1, by omega⟩
    have e0 : M 0 = M0 0 := hF 0 (by omega)
    have e : gr (fun k => num (M0 0) P V (nI k) (nI d) (M0 0 91)) been (h + 1) = if bt been h = false ∧ ¬ num (M0 0) P V (nI h) (nI d) (M0 0 91) ≤ (gr (fun k => num (M0 0) P V (nI k) (nI d) (M0 0 91)) been h).2 then (nI h, num (M0 0) P V (nI h) (nI d) (M0 0 91)) else gr (fun k => num (M0 0) P V (nI k) (nI d) (M0 0 91)) been h := rfl
    rw [f_X7_round_47_s, hF 1 (by omega), hH, if_neg (nI_ge (by omega) (by omega)), hx, M_isDay, vb_t (vd_nI hd (by omega)), b_tst1 been (show h < 32 by omega)]
    rcases tf (bt been h) with c | c
    · obtain ⟨M2, k1, k2⟩ := ih (h + 1) n M (by omega) (by omega) hF
      rw [e, if_neg (fun q => by rw [c] at q; exact Bool.noConfusion q.1)] at k1
      refine ⟨M2, ?_, k2⟩
      rw [← k1, c, if_pos rfl, if_pos rfl]
      unfold f_X7_round_91 f_X7_round_107 f_X7_round_123
      rw [if_pos (gr_ge h), if_pos (gr_ge h), p1]
    · obtain ⟨M1, m1, m2⟩ := M_now M V P (nI h) (nI d) (by rw [e0]; exact g89) (by omega) (by rw [e0]; exact g88) (by omega)
      obtain ⟨M2, k1, k2⟩ := ih (h + 1) n M1 (by omega) (by omega) (hF.tr m2)
      refine ⟨M2, ?_, k2⟩
      rw [← k1, c, if_neg (show ¬ false = true by decide), if_neg (show ¬ (0 : Int32) = 1 by decide), m1, bd_s, e0, e]
      unfold f_X7_round_91 f_X7_round_107 f_X7_round_123
      rw [p1]
      by_cases c2 : num (M0 0) P V (nI h) (nI d) (M0 0 91) ≤ (gr (fun k => num (M0 0) P V (nI k) (nI d) (M0 0 91)) been h).2
      · rw [if_pos c2, if_pos c2, if_neg (fun q => q.2 c2)]
      · rw [if_neg c2, if_neg c2, if_pos ⟨c, c2⟩]
theorem rnd_loop {H P V B d i : Nat} {G0 M0 : St} (hT : RT G0 (M0 0) H P V B) (hH : M0 1 0 = nI H) (hd : d < 36000) (hi : i < 8) : ∀ (r k n m : Nat) (been w : Int32) (G M : St), k + r = i → r + 1 < n → r + 1 < m → FrT G0 G → FG G0 G → Fr M0 M → ∃ (rr : Int32) (G' M' : St), f_X6_round_24 n (nI d) (nI i) been (nI k) G = some (rr, G') ∧ f_X7_round_30 m (nI d) (nI i) been w (nI k) M = some (rr, M') ∧ FG G0 G' ∧ Fr M0 M' := by
  have hb := hT.1
  intro r
  induction r with
  | zero =>
    intro k n m been w G M h1 h2 h3 hF hFG hM
    obtain ⟨n, rfl⟩ : ∃ z, n = z + 1 := ⟨n - 1, by omega⟩
    obtain ⟨m, rfl⟩ : ∃ z, m = z + 1 + 1 := ⟨m - 2, by omega⟩
    obtain rfl : k = i := by omega
    rw [f_X6_round_24_s, f_X7_round_30_s, if_neg (nI_nlt (Nat.le_refl _) (by omega)), if_neg (nI_nlt (Nat.le_refl _) (by omega)), nI_add, sb0]
    by_cases c : 36000 ≤ d + k
    · have e : (36000 : Int32) ≤ nI (d + k) := nI_le (a := 36000) c (by omega)
      rw [if_pos e, f_X7_round_47_s, hM 1 (by omega), hH]
      have e2 : ¬ nI H ≤ (0 : Int32) := nI_ge (b := H) (a := 0) (by omega) (by omega)
      rw [if_neg e2, nI_add, M_isDay, vb_f (by unfold vd; rw [nI_toInt (by omega)]; exact decide_eq_false (by omega))]
      exact ⟨_, _, _, rfl, rfl, hFG, hM⟩
    · have e : ¬ (36000 : Int32) ≤ nI (d + k) := nI_ge (b := 36000) (by omega) (by omega)
      obtain ⟨U, u1, u2, u3⟩ := C_tally2 (hT.fr hF) (show d + k < 36000 by omega)
      obtain ⟨t0', -, -, -, -, -, -, t1', -⟩ := id ((hT.fr hF).fr u2).2.1
      have cg := C_gr_l (S := sb 16 (pt 0 32 U G)) (law := M0 0 91) (v := fun j => num (M0 0) P V (nI j) (nI (d + k)) (M0 0 91)) (show H ≤ 8 by omega) (fun j hj => u3 G j hj _) been H 0 1000 (by omega) (by omega)
      have cg' : f_X2_greatest (nI H) (M0 0 91) been (sb 16 (pt 0 32 U G)) = some (gr (fun j => num (M0 0) P V (nI j) (nI (d + k)) (M0 0 91)) been H).1 := cg
      obtain ⟨M2, m1, m2⟩ := M_gr_l hT hH (nI d) (nI k) (nI k) been (nI_add d k) (show d + k < 36000 by omega) (f_X7_round_30 (m + 1)) H 0 1000 M (by omega) (by omega) hM
      have m1' : f_X7_round_47 (f_X7_round_30 (m + 1)) 1000 (nI d) (nI k) been (-4) (nI k) (-4) 0 M = _ := m1
      rw [if_neg e, u1, bd_s, t0', t1', cg', bd_s, m1']
      unfold f_X7_round_131
      by_cases z : (gr (fun j => num (M0 0) P V (nI j) (nI (d + k)) (M0 0 91)) been H).1 = -4
      · rw [if_pos z, if_pos z]
        exact ⟨_, _, _, rfl, rfl, hFG.tr u2.fg, m2⟩
      · rw [if_neg z, if_neg z, if_pos rfl, p1, f_X7_round_30_s, if_pos (nI_lt (by omega) (by omega))]
        exact ⟨_, _, _, rfl, rfl, hFG.tr u2.fg, m2⟩
  | succ r ih =>
    intro k n m been w G M h1 h2 h3 hF hFG hM
    obtain ⟨n, rfl⟩ : ∃ z, n = z + 1 := ⟨n - 1, by omega⟩
    obtain ⟨m, rfl⟩ : ∃ z, m = z + 1 := ⟨m - 1, by omega⟩
    rw [f_X6_round_24_s, f_X7_round_30_s, if_neg (nI_nlt (by omega) (by omega)), if_neg (nI_nlt (by omega) (by omega)), nI_add, sb0]
    by_cases c : 36000 ≤ d + k
    · have e : (36000 : Int32) ≤ nI (d + k) := nI_le (a := 36000) c (by omega)
      rw [if_pos e, f_X7_round_47_s, hM 1 (by omega), hH]
      have e2 : ¬ nI H ≤ (0 : Int32) := nI_ge (b := H) (a := 0) (by omega) (by omega)
      rw [if_neg e2, nI_add, M_isDay, vb_f (by unfold vd; rw [nI_toInt (by omega)]; exact decide_eq_false (by omega))]
      exact ⟨_, _, _, rfl, rfl, hFG, hM⟩
    · have e : ¬ (36000 : Int32) ≤ nI (d + k) := nI_ge (b := 36000) (by omega) (by omega)
      obtain ⟨U, u1, u2, u3⟩ := C_tally2 (hT.fr hF) (show d + k < 36000 by omega)
      obtain ⟨t0', -, -, -, -, -, -, t1', -⟩ := id ((hT.fr hF).fr u2).2.1
      have cg := C_gr_l (S := sb 16 (pt 0 32 U G)) (law := M0 0 91) (v := fun j => num (M0 0) P V (nI j) (nI (d + k)) (M0 0 91)) (show H ≤ 8 by omega) (fun j hj => u3 G j hj _) been H 0 1000 (by omega) (by omega)
      have cg' : f_X2_greatest (nI H) (M0 0 91) been (sb 16 (pt 0 32 U G)) = some (gr (fun j => num (M0 0) P V (nI j) (nI (d + k)) (M0 0 91)) been H).1 := cg
      obtain ⟨M2, m1, m2⟩ := M_gr_l hT hH (nI d) (nI i) (nI k) been (nI_add d k) (show d + k < 36000 by omega) (f_X7_round_30 m) H 0 1000 M (by omega) (by omega) hM
      have m1' : f_X7_round_47 (f_X7_round_30 m) 1000 (nI d) (nI i) been (-4) (nI k) (-4) 0 M = _ := m1
      rw [if_neg e, u1, bd_s, t0', t1', cg', bd_s, m1']
      unfold f_X7_round_131
      by_cases z : (gr (fun j => num (M0 0) P V (nI j) (nI (d + k)) (M0 0 91)) been H).1 = -4
      · rw [if_pos z, if_pos z]
        exact ⟨_, _, _, rfl, rfl, hFG.tr u2.fg, m2⟩
      · rw [if_neg z, if_neg z, if_neg (fun q => by have := (nI_eq (by omega) (by omega)).mp q; omega), p1]
        exact ih (k + 1) n m _ _ _ M2 (by omega) (by omega) (by omega) (hF.tr (fun j hj => by rw [pt_in (by omega) (by omega)]; exact u2 j hj)) (hFG.tr u2.fg) m2
theorem op_round : Op_round Rel := by
  intro x1 x2 G M hR
  obtain ⟨H, hH, ⟨P, V, B, hT⟩, -⟩ := id hR
  have hb := hT.1
  unfold f_X6_round f_X7_round
  rw [C_isDay, M_isDay, M_in x2 (n := 8) (by decide) (by decide), i8, vd_lt (by omega)]
  rcases tf (vd 36000 x1) with v1 | v1
  · rw [vb_t v1, vb_t v1]
    rcases tf (vd 8 x2) with v2 | v2
    · rw [if_pos v2, vb_t v2]
      obtain ⟨d, hd, rfl⟩ := vd_t v1
      obtain ⟨i, hi, rfl⟩ := vd_t v2
      obtain ⟨rr, G', M', k1, k2, k3, k4⟩ := rnd_loop hT hH hd hi i 0 1000 1000 0 (-4) G M (by omega) (by omega) (by omega) FrT.rf FG.rf Fr.rf
      exact ⟨rr, G', M', k1, k2, hR.cg k3 k4.fm⟩
    · rw [if_neg (by rw [v2]; decide), vb_f v2]
      exact ⟨_, _, _, rfl, rfl, hR⟩
  · rw [vb_f v1, vb_f v1]
    exact ⟨_, _, _, rfl, rfl, hR⟩
