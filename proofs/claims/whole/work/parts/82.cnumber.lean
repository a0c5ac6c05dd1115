-- the same number in the class: the tally of a day
def t4 (S : St) (h : Nat) : Q4 := (S 0 h, S 1 h, S 2 h, S 3 h)
theorem not_le_lt {a b : Int32} (h : ¬ a ≤ b) : b < a := Int32.not_le.mp h
theorem zmax_e (a b : Int32) : zmax a b = if b ≤ a then a else b := by
  unfold zmax
  by_cases h : a < b
  · rw [if_pos h, if_neg (fun q => absurd h (Int32.not_lt.mpr q))]
  · rw [if_neg h, if_pos (Int32.not_lt.mp h)]
theorem zmin_e (a b : Int32) : zmin a b = if a ≤ b then a else b := by
  unfold zmin
  by_cases h : b < a
  · rw [if_pos h, if_neg (fun q => absurd h (Int32.not_lt.mpr q))]
  · rw [if_neg h, if_pos (Int32.not_lt.mp h)]
theorem vain_e {y : Int32} (h : 0 ≤ y.toInt) : zmax 0 (y - 3) = if y ≤ 3 then 0 else y - 3 := by
  unfold zmax
  have e3 : (3 : Int32).toInt = 3 := by decide
  have e0 : (0 : Int32).toInt = 0 := by decide
  have hb := Int32.toInt_lt y
  have e : (y - 3).toInt = y.toInt - 3 := by
    rw [Int32.toInt_sub, e3]
    exact Int.bmod_eq_of_le (by omega) (by omega)
  by_cases c : y ≤ 3
  · have c2 := Int32.le_iff_toInt_le.mp c
    rw [if_pos c]
    rw [e3] at c2
    by_cases d : 0 < y - 3
    · have d2 := Int32.lt_iff_toInt_lt.mp d
      omega
    · rw [if_neg d]
  · rw [if_neg c, if_pos]
    have c2 : ¬ y.toInt ≤ (3 : Int32).toInt := fun q => c (Int32.le_iff_toInt_le.mpr q)
    rw [Int32.lt_iff_toInt_lt]
    omega
theorem C_add (S : St) (h : Nat) (hh : h < 8) (kd y : Int32) (hy : 0 ≤ y.toInt) : ∃ S' : St, f_X2_add (nI h) kd y S = some S' ∧ (∀ k j, j ≠ h ∨ 4 ≤ k → S' k j = S k j) ∧ t4 S' h = if kd = 4 then t4 S h else stp (tl kd y) (tw kd) (t4 S h) := by
  have hix : ∀ {α : Type} (k : Option α), ix (nI h) 8 k = k := fun k => ix_in hh (by omega)
  have hN : Int32.toNatClampNeg (nI h) = h := tN_nI (by omega)
  unfold f_X2_add
  by_cases a1 : kd = 4
  · exact ⟨S, by rw [if_pos a1], fun _ _ _ => rfl, by rw [if_pos a1]⟩
  rw [if_neg a1, if_neg (nI_nn (by omega)), if_pos (by rw [i8]; exact nI_lt hh (by omega)), if_neg a1]
  have key : ∀ v : Int32, v = tl kd y → ∃ S' : St, f_X2_add_32 (nI h) kd v S = some S' ∧ (∀ k j, j ≠ h ∨ 4 ≤ k → S' k j = S k j) ∧ t4 S' h = stp (tl kd y) (tw kd) (t4 S h) := by
    intro v hv
    have key2 : ∀ w : Int32, w = tw kd → ∃ S' : St, f_X2_add_44 (nI h) v w S = some S' ∧ (∀ k j, j ≠ h ∨ 4 ≤ k → S' k j = S k j) ∧ t4 S' h = stp (tl kd y) (tw kd) (t4 S h) := by
      intro w hw
      rw [← hv, ← hw]
      unfold f_X2_add_44 f_X2_add_60 f_X2_add_88 f_X2_add_115
      simp only [hix, hN]
      by_cases b1 : S 0 h = 0
      · refine ⟨_, by rw [if_pos b1, if_neg (by decide), if_neg (by decide)], ?_, ?_⟩
        · intro k j hj
          simp only [st_ap, upd_if]
          rcases hj with hj | hj
          · simp only [if_neg hj]
            exact kk4
          · simp [show k ≠ 1 by omega, show k ≠ 0 by omega, show k ≠ 3 by omega, show k ≠ 2 by omega]
        · simp [t4, stp, st_if, upd_if, b1]
      · refine ⟨_, by simp only [if_neg b1, if_true]; rfl, ?_, ?_⟩
        · intro k j hj
          simp only [st_ap, upd_if]
          rcases hj with hj | hj
          · simp only [if_neg hj]
            exact kk4
          · simp [show k ≠ 1 by omega, show k ≠ 0 by omega, show k ≠ 3 by omega, show k ≠ 2 by omega]
        · simp [t4, stp, st_if, upd_if, b1, zmax_e, zmin_e]
          by_cases q : v ≤ S 2 h <;> by_cases q2 : S 3 h ≤ v <;> simp [q, q2]
    unfold f_X2_add_32
    by_cases c1 : kd = 3
    · rw [if_pos c1]
      exact key2 2 (by rw [tw, if_pos c1])
    · rw [if_neg c1]
      exact key2 1 (by rw [tw, if_neg c1])
  by_cases a2 : kd = 2
  · rw [if_pos a2]
    exact key _ (by rw [tl, if_pos a2, vain_e hy])
  · rw [if_neg a2]
    exact key _ (by rw [tl, if_neg a2])

theorem nI_div (a b : Nat) (ha : a < 2 ^ 31) (hb : b < 2 ^ 31) : nI a / nI b = nI (a / b) := by
  apply Int32.toInt_inj.mp
  have h3 : a / b ≤ a := Nat.div_le_self a b
  have h4 : ((a / b : Nat) : Int) ≤ (a : Int) := Int.ofNat_le.mpr h3
  have h5 : (0 : Int) ≤ ((a / b : Nat) : Int) := Int.natCast_nonneg _
  generalize hq : a / b = q at *
  rw [nI_toInt (by omega), Int32.toInt_div, nI_toInt ha, nI_toInt hb, ← Int.ofNat_tdiv, hq]
  exact Int.bmod_eq_of_le (by omega) (by omega)
def alc (T : St) (p : Nat) (day : Int32) : Bool := !decide (day < T 4 p) && !decide (T 6 p ≤ day)
def hmc (T : St) (p : Nat) (day : Int32) : Nat → Int32
  | 0 => T 5 p
  | k + 1 => if T 9 k = nI p ∧ ¬ day < T 8 k then T 10 k else hmc T p day k
def yrc (T : St) (p : Nat) (day : Int32) : Int32 := (day - T 4 p) / 360
theorem C_alive (T : St) (p : Nat) (day : Int32) (h : p < 14) : f_X5_isAlive (nI p) day T = some (if alc T p day = true then 1 else 0) := by
  unfold f_X5_isAlive alc
  rw [ix_in h (by omega), ix_in h (by omega), tN_nI (by omega)]
  by_cases a1 : day < T 4 p <;> by_cases a2 : T 6 p ≤ day <;> simp [a1, a2]
theorem C_years (T : St) (p : Nat) (day : Int32) (h : p < 14) : f_X5_yearsOf (nI p) day T = some (yrc T p day) := by
  unfold f_X5_yearsOf yrc
  rw [ix_in h (by omega), tN_nI (by omega)]
theorem m1 (x : Int32) : x + (-1 : Int32) = x - 1 := (Int32.sub_eq_add_neg x 1).symm
theorem C_home_l (T : St) (p : Nat) (day : Int32) (hp : p < 14) : ∀ (k n : Nat), k ≤ 12 → k < n → f_X5_homeOf_7 n (nI p) day (nI k - 1) T = some (hmc T p day k) := by
  intro k
  induction k with
  | zero =>
    intro n h1 h2
    obtain ⟨n, rfl⟩ : ∃ m, n = m + 1 := ⟨n - 1, by omega⟩
    rw [f_X5_homeOf_7_s, if_pos (by decide)]
    unfold f_X5_homeOf_44
    rw [ix_in hp (by omega), tN_nI (by omega)]
    rfl
  | succ k ih =>
    intro n h1 h2
    obtain ⟨n, rfl⟩ : ∃ m, n = m + 1 := ⟨n - 1, by omega⟩
    rw [nI_pred, f_X5_homeOf_7_s, if_neg (nI_nn (by omega)), ix_in (by omega) (by omega), ix_in (by omega) (by omega), tN_nI (by omega)]
    unfold f_X5_homeOf_38 f_X5_homeOf_31
    rw [m1, ix_in (by omega) (by omega), tN_nI (by omega), ih n (by omega) (by omega)]
    have e : hmc T p day (k + 1) = if T 9 k = nI p ∧ ¬ day < T 8 k then T 10 k else hmc T p day k := rfl
    rw [e]
    by_cases a1 : T 9 k = nI p
    · rw [if_pos a1]
      by_cases a2 : day < T 8 k
      · rw [if_pos a2, if_neg (fun h => h.2 a2)]
      · rw [if_neg a2, if_pos ⟨a1, a2⟩]
    · rw [if_neg a1, if_neg (fun h => a1 h.1)]
theorem C_home (T : St) (p V : Nat) (day : Int32) (hp : p < 14) (hV : T 7 0 = nI V) (hV2 : V ≤ 12) : f_X5_homeOf (nI p) day T = some (hmc T p day V) := by
  unfold f_X5_homeOf
  rw [hV]
  exact C_home_l T p day hp V 1000 hV2 (by omega)
/-- the class's town but for its tally -/
def FrT (T T2 : St) : Prop := ∀ k, k < 16 → T2 k = T k
theorem FrT.rf {T : St} : FrT T T := fun _ _ => rfl
theorem FrT.tr {A B C : St} (h : FrT A B) (h2 : FrT B C) : FrT A C := fun k hk => (h2 k hk).trans (h k hk)
theorem hmc_congr {T T2 : St} (h : FrT T T2) (p : Nat) (day : Int32) : ∀ k, hmc T2 p day k = hmc T p day k
  | 0 => by show T2 5 p = T 5 p; rw [h 5 (by omega)]
  | k + 1 => by
    have ih := hmc_congr h p day k
    show (if T2 9 k = nI p ∧ ¬ day < T2 8 k then T2 10 k else hmc T2 p day k) = if T 9 k = nI p ∧ ¬ day < T 8 k then T 10 k else hmc T p day k
    rw [ih, h 8 (by omega), h 9 (by omega), h 10 (by omega)]
theorem alc_congr {T T2 : St} (h : FrT T T2) (p : Nat) (day : Int32) : alc T2 p day = alc T p day := by
  unfold alc
  rw [h 4 (by omega), h 6 (by omega)]
theorem yrc_congr {T T2 : St} (h : FrT T T2) (p : Nat) (day : Int32) : yrc T2 p day = yrc T p day := by
  unfold yrc
  rw [h 4 (by omega)]
def accC (T : St) (V : Nat) (house day : Int32) (q0 : Q4) : Nat → Q4 := accG (fun p => alc T p day) (fun p => hmc T p day V) (fun p => T 3 p) (fun p => yrc T p day) house q0
/-- who lives on the day lives in one of eight houses, and has no years below 0 -/
def okC (T : St) (P V : Nat) (day : Int32) : Prop := ∀ p, p < P → alc T p day = true → (∃ h, h < 8 ∧ hmc T p day V = nI h) ∧ 0 ≤ (yrc T p day).toInt
theorem C_tally_l (T0 : St) (P V : Nat) (day : Int32) (hP : T0 2 0 = nI P) (hP2 : P ≤ 14) (hV : T0 7 0 = nI V) (hV2 : V ≤ 12) (ok : okC T0 P V day) (Q : Nat → Q4) : ∀ (n k : Nat) (T : St), FrT T0 T → k + n > P → k ≤ P → (∀ h, h < 8 → t4 (sb 16 T) h = accC T0 V (nI h) day (Q h) k) → ∃ T' : St, f_X5_tallyOn_9 n day (nI k) T = some T' ∧ FrT T0 T' ∧ ∀ h, h < 8 → t4 (sb 16 T') h = accC T0 V (nI h) day (Q h) P := by
  intro n
  induction n with
  | zero => intro k T hF h1 h2; omega
  | succ n ih =>
    intro k T hF h1 h2 hq
    rw [f_X5_tallyOn_9_s]
    have hP' : T 2 0 = nI P := by rw [hF 2 (by omega)]; exact hP
    have hV' : T 7 0 = nI V := by rw [hF 7 (by omega)]; exact hV
    rw [hP']
    by_cases hk : k = P
    · subst hk
      rw [if_pos (nI_le (Nat.le_refl k) (by omega))]
      exact ⟨T, rfl, hF, hq⟩
    · rw [if_neg (nI_ge (by omega) (by omega)), C_alive T k day (by omega), bd_s, alc_congr hF]
      have nx : ∀ T2 : St, FrT T0 T2 → (∀ h, h < 8 → t4 (sb 16 T2) h = accC T0 V (nI h) day (Q h) (k + 1)) → ∃ T' : St, f_X5_tallyOn_51 (f_X5_tallyOn_9 n) day (nI k) T2 = some T' ∧ FrT T0 T' ∧ ∀ h, h < 8 → t4 (sb 16 T') h = accC T0 V (nI h) day (Q h) P := by
        intro T2 hF2 hq2
        unfold f_X5_tallyOn_51
        rw [p1]
        exact ih (k + 1) T2 hF2 (by omega) (by omega) hq2
      have e : ∀ h, accC T0 V (nI h) day (Q h) (k + 1) = if alc T0 k day = true ∧ hmc T0 k day V = nI h ∧ ¬ T0 3 k = 4 then stp (tl (T0 3 k) (yrc T0 k day)) (tw (T0 3 k)) (accC T0 V (nI h) day (Q h) k) else accC T0 V (nI h) day (Q h) k := fun _ => rfl
      by_cases a1 : alc T0 k day = true
      · rw [if_pos a1, if_neg (by decide), C_home T k V day (by omega) hV' hV2, bd_s, ix_in (by omega) (by omega), C_years T k day (by omega), bd_s, tN_nI (by omega), hmc_congr hF, yrc_congr hF]
        obtain ⟨⟨hh, hh8, he⟩, hy⟩ := ok k (by omega) a1
        rw [he]
        obtain ⟨U, u1, u2, u3⟩ := C_add (sb 16 T) hh hh8 (T 3 k) (yrc T0 k day) hy
        rw [u1, bd_s]
        have hF2 : FrT T0 (pt 16 4 U T) := fun j hj => by rw [pt_out (Or.inl hj)]; exact hF j hj
        refine nx _ hF2 (fun h h8 => ?_)
        have e2 : t4 (sb 16 (pt 16 4 U T)) h = t4 U h := rfl
        rw [e2, e h]
        have e3 : T 3 k = T0 3 k := by rw [hF 3 (by omega)]
        by_cases c : h = hh
        · subst c
          rw [u3, hq h h8, e3]
          by_cases d : T0 3 k = 4
          · rw [if_pos d, if_neg (fun q => q.2.2 d)]
          · rw [if_neg d, if_pos ⟨a1, he, d⟩]
        · rw [if_neg (fun q => c (by
            have q2 := q.2.1
            rw [he] at q2
            exact ((nI_eq (by omega) (by omega)).mp q2).symm)), ← hq h h8]
          unfold t4
          rw [u2 0 h (Or.inl c), u2 1 h (Or.inl c), u2 2 h (Or.inl c), u2 3 h (Or.inl c)]
      · rw [if_neg a1, if_pos rfl]
        exact nx T hF (fun h h8 => by rw [e h, if_neg (fun q => a1 q.1)]; exact hq h h8)
theorem C_clear_l (S0 : St) : ∀ (n k : Nat) (S : St), k + n > 8 → k ≤ 8 → (∀ j, j < 4 → 2 ≤ j → S j = S0 j) → (∀ h, h < k → S 0 h = 0 ∧ S 1 h = 0) → ∃ S' : St, f_X2_clear_2 n (nI k) S = some S' ∧ ∀ h, h < 8 → t4 S' h = (0, 0, S0 2 h, S0 3 h) := by
  intro n
  induction n with
  | zero => intro k S h1 h2; omega
  | succ n ih =>
    intro k S h1 h2 h3 h4
    rw [f_X2_clear_2_s, i8]
    by_cases hk : k = 8
    · subst hk
      rw [if_pos (nI_le (Nat.le_refl 8) (by omega))]
      exact ⟨S, rfl, fun h hh => by unfold t4; rw [(h4 h hh).1, (h4 h hh).2, h3 2 (by omega) (by omega), h3 3 (by omega) (by omega)]⟩
    · rw [if_neg (nI_ge (by omega) (by omega)), ix_in (by omega) (by omega), ix_in (by omega) (by omega), tN_nI (by omega), p1]
      refine ih (k + 1) _ (by omega) (by omega) (fun j h5 h6 => ?_) (fun h hh => ?_)
      · rw [st_ne (by omega), st_ne (by omega)]
        exact h3 j h5 h6
      · by_cases c : h = k
        · subst c
          simp [st_if, upd_if]
        · have := h4 h (by omega)
          simp [st_if, upd_if, c, this.1, this.2]
theorem C_tallyOn (T : St) (P V : Nat) (day : Int32) (hP : T 2 0 = nI P) (hP2 : P ≤ 14) (hV : T 7 0 = nI V) (hV2 : V ≤ 12) (ok : okC T P V day) : ∃ T' : St, f_X5_tallyOn day T = some T' ∧ FrT T T' ∧ ∀ h, h < 8 → eqv (t4 (sb 16 T') h) (accC T V (nI h) day (0, 0, 0, 0) P) := by
  unfold f_X5_tallyOn f_X2_clear
  obtain ⟨U, u1, u2⟩ := C_clear_l (sb 16 T) 1000 0 (sb 16 T) (by omega) (by omega) (fun _ _ _ => rfl) (fun h hh => by omega)
  have u1' : f_X2_clear_2 1000 0 (sb 16 T) = some U := u1
  rw [u1', bd_s]
  have hF : FrT T (pt 16 4 U T) := fun j hj => pt_out (Or.inl hj)
  obtain ⟨T', h1, h2, h3⟩ := C_tally_l T P V day hP hP2 hV hV2 ok (fun h => (0, 0, T 18 h, T 19 h)) 1000 0 (pt 16 4 U T) hF (by omega) (by omega) (fun h hh => by
    have e2 : t4 (sb 16 (pt 16 4 U T)) h = t4 U h := rfl
    rw [e2, u2 h hh]
    rfl)
  refine ⟨T', h1, h2, fun h hh => ?_⟩
  rw [h3 h hh]
  have e0 : eqv ((0, 0, T 18 h, T 19 h) : Q4) (0, 0, 0, 0) := ⟨rfl, rfl, Or.inl rfl⟩
  exact eqv_acc e0 P
theorem C_value (S : St) (h : Nat) (hh : h < 8) (law : Int32) : f_X2_valueOf (nI h) law S = some (told law (t4 S h)) := by
  have hix : ∀ {α : Type} (k : Option α), ix (nI h) 8 k = k := fun k => ix_in hh (by omega)
  unfold f_X2_valueOf told t4 nz
  rw [if_neg (nI_nn (by omega)), if_neg (by rw [i8]; exact nI_ge hh (by omega))]
  simp only [hix, tN_nI (show h < 2 ^ 31 by omega)]
  by_cases a1 : S 0 h = 0
  · rw [if_pos a1, if_pos a1]
  · rw [if_neg a1, if_neg a1, if_neg a1]
    by_cases a2 : law = 0
    · rw [if_pos a2, if_pos a2]
    · rw [if_neg a2, if_neg a2]
      by_cases a3 : law = 1
      · rw [if_pos a3, if_pos a3]
      · rw [if_neg a3, if_neg a3]
        by_cases a4 : law = 2
        · rw [if_pos a4, if_pos a4]
        · rw [if_neg a4, if_neg a4]
