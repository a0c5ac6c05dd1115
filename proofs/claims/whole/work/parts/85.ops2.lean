-- days: who lives, where, numbers, on both sides
theorem sb0 (S : St) : sb 0 S = S := by
  funext k
  show S (0 + k) = S k
  rw [Nat.zero_add]
theorem pg0 (M : St) : pg M 0 = M 0 := by
  funext k
  show M 0 (0 + k) = M 0 k
  rw [Nat.zero_add]
theorem tf (b : Bool) : b = true ∨ b = false := by cases b <;> simp
theorem RT.alive {T : St} {g : Nat → Int32} {H P V B : Nat} (h : RT T g H P V B) {p d : Nat} (hp : p < P) (hd : d < 36000) : alc T p (nI d) = alv g p (nI d) := by
  obtain ⟨-, h4, -, h6, -⟩ := h.2.2.1 p hp
  unfold alc alv
  rw [h4]
  rcases h6 with ⟨a, b⟩ | ⟨a, n, hn, b⟩
  · have e : ¬ T 6 p ≤ nI d := by rw [a, i36000]; exact nI_ge hd (by omega)
    simp [b, e]
  · have e : ¬ g (4 * p + 3) = -4 := i4ne b (by omega)
    rw [a]
    simp [e]
theorem RT.home {T : St} {g : Nat → Int32} {H P V B : Nat} (h : RT T g H P V B) {p : Nat} (hp : p < P) (day : Int32) : ∀ k, k ≤ V → hmc T p day k = hmv g p day k ∧ inB H (hmv g p day k)
  | 0, _ => by
    obtain ⟨-, -, h5, -, -, -, h7⟩ := h.2.2.1 p hp
    exact ⟨h5, h7⟩
  | k + 1, hk => by
    obtain ⟨i1, i2⟩ := RT.home h hp day k (by omega)
    obtain ⟨a, b, c, -, -, f⟩ := h.2.2.2.1 k (by omega)
    show (if T 9 k = nI p ∧ ¬ day < T 8 k then T 10 k else hmc T p day k) = (if g (40 + 3 * k + 1) = nI p ∧ ¬ day < g (40 + 3 * k) then g (40 + 3 * k + 2) else hmv g p day k) ∧ inB H (if g (40 + 3 * k + 1) = nI p ∧ ¬ day < g (40 + 3 * k) then g (40 + 3 * k + 2) else hmv g p day k)
    rw [a, b, c, i1]
    refine ⟨rfl, ?_⟩
    by_cases q : g (40 + 3 * k + 1) = nI p ∧ ¬ day < g (40 + 3 * k)
    · rw [if_pos q]
      exact f
    · rw [if_neg q]
      exact i2
theorem RT.years {T : St} {g : Nat → Int32} {H P V B : Nat} (h : RT T g H P V B) {p : Nat} (hp : p < P) (day : Int32) : yrc T p day = yrs g p day := by
  obtain ⟨-, h4, -⟩ := h.2.2.1 p hp
  unfold yrc yrs
  rw [h4]
theorem yrs_nn {g : Nat → Int32} {p b d : Nat} (hb : g (4 * p + 1) = nI b) (hb2 : b < 36000) (hd : d < 36000) (h : ¬ nI d < g (4 * p + 1)) : ∃ y, y < 101 ∧ yrs g p (nI d) = nI y := by
  have hbd : b ≤ d := by
    rw [hb] at h
    exact Nat.not_lt.mp (fun q => h (nI_lt q (by omega)))
  unfold yrs
  rw [hb, nI_sub hbd, i360, nI_div _ _ (by omega) (by omega)]
  exact ⟨(d - b) / 360, by omega, rfl⟩
theorem RT.ok {T : St} {g : Nat → Int32} {H P V B : Nat} (h : RT T g H P V B) {d : Nat} (hd : d < 36000) : okC T P V (nI d) := by
  intro p hp ha
  obtain ⟨e, j, hj, hi⟩ := h.home hp (nI d) V (Nat.le_refl V)
  have h8 := h.1.2.1
  refine ⟨⟨j, by omega, by rw [e, hi]⟩, ?_⟩
  rw [h.alive hp hd] at ha
  obtain ⟨-, -, -, -, -, ⟨b, hb, hb2⟩, -⟩ := h.2.2.1 p hp
  have hn : ¬ nI d < g (4 * p + 1) := by
    unfold alv at ha
    simp only [Bool.and_eq_true, Bool.not_eq_true', decide_eq_false_iff_not] at ha
    exact ha.1
  obtain ⟨y, hy, e2⟩ := yrs_nn hb2 hb hd hn
  rw [h.years hp, e2, nI_toInt (by omega)]
  omega
theorem RT.accAt {T : St} {g : Nat → Int32} {H P V B : Nat} (h : RT T g H P V B) {d : Nat} (hd : d < 36000) (house : Int32) (q : Q4) : accC T V house (nI d) q P = acc g V house (nI d) q P := by
  unfold accC acc
  refine accG_congr P (fun p hp => ⟨h.alive hp hd, fun _ => ⟨(h.home hp (nI d) V (Nat.le_refl V)).1, (h.2.2.1 p hp).1, h.years hp (nI d)⟩⟩)
/-- the class's number is the reference's -/
theorem C_tally {T : St} {g : Nat → Int32} {H P V B : Nat} (h : RT T g H P V B) {d : Nat} (hd : d < 36000) : ∃ T' : St, f_X5_tallyOn (nI d) T = some T' ∧ FrT T T' ∧ ∀ k, k < 8 → ∀ law : Int32, f_X2_valueOf (nI k) law (sb 16 T') = some (num g P V (nI k) (nI d) law) := by
  obtain ⟨-, t2, -, t7, -⟩ := id h.2.1
  have b := h.1
  obtain ⟨T', h1, h2, h3⟩ := C_tallyOn T P V (nI d) t2 (by omega) t7 (by omega) (h.ok hd)
  refine ⟨T', h1, h2, fun k hk law => ?_⟩
  rw [C_value _ k hk, eqv_told (h3 k hk), h.accAt hd]
  rfl
theorem C_numberOf {T : St} {g : Nat → Int32} {H P V B : Nat} (h : RT T g H P V B) {d k : Nat} (hd : d < 36000) (hk : k < 8) : ∃ T' : St, f_X5_numberOf (nI k) (nI d) T = some (num g P V (nI k) (nI d) (g 91), T') ∧ FrT T T' := by
  obtain ⟨T', h1, h2, h3⟩ := C_tally h hd
  refine ⟨T', ?_, h2⟩
  unfold f_X5_numberOf
  have e : T' 1 0 = g 91 := by
    rw [h2 1 (by omega)]
    exact h.2.1.2.2.2.2.2.2.2.1
  rw [h1, bd_s, e, h3 k hk, bd_s]
theorem FrT.fg {G U : St} (h : FrT G U) : FG G (pt 0 32 U G) := by
  intro k hk
  by_cases c : k < 32
  · rw [pt_in (by omega) (by omega), Nat.sub_zero]
    exact h k (by omega)
  · exact pt_out (by omega)

theorem Fr.fg {G M M' : St} (h : Fr M M') (hR : Rel G M) : Rel G M' := hR.cg FG.rf h.fm
theorem op_years : Op_years Rel := by
  intro x1 x2 G M hR
  obtain ⟨H, hH, ⟨P, V, B, hT⟩, -⟩ := id hR
  have hb := hT.1
  obtain ⟨-, t2, g88, -⟩ := id hT.2.1
  unfold f_X6_years f_X7_years
  rw [sb0, C_isOne t2 (by omega), M_isOne g88 (by omega), C_isDay, M_isDay]
  rcases tf (vd P x1) with v1 | v1
  · rw [vb_t v1, vb_t v1]
    rcases tf (vd 36000 x2) with v2 | v2
    · rw [vb_t v2, vb_t v2]
      obtain ⟨p, hp, rfl⟩ := vd_t v1
      obtain ⟨d, hd, rfl⟩ := vd_t v2
      have hA : f_X7_isAlive 0 (nI p) (nI d) M = _ := M_alive M 0 p (nI d) (by omega)
      rw [C_alive G p (nI d) (by omega), hA, hT.alive hp hd, pg0]
      rcases tf (alv (M 0) p (nI d)) with v3 | v3
      · rw [vb_t v3, vb_t v3, C_years G p (nI d) (by omega), bd_s, m4, p1, ix_in (by omega) (by omega), tN_nI (by omega), hT.years hp]
        exact ⟨_, rfl, rfl, hR⟩
      · rw [vb_f v3, vb_f v3]
        exact ⟨_, rfl, rfl, hR⟩
    · rw [vb_f v2, vb_f v2]
      exact ⟨_, rfl, rfl, hR⟩
  · rw [vb_f v1, vb_f v1]
    exact ⟨_, rfl, rfl, hR⟩
theorem op_lives : Op_lives Rel := by
  intro x1 x2 G M hR
  obtain ⟨H, hH, ⟨P, V, B, hT⟩, -⟩ := id hR
  have hb := hT.1
  obtain ⟨-, t2, g88, t7, g89, -⟩ := id hT.2.1
  unfold f_X6_lives f_X7_lives
  rw [sb0, C_isOne t2 (by omega), M_isOne g88 (by omega), C_isDay, M_isDay]
  rcases tf (vd P x1) with v1 | v1
  · rw [vb_t v1, vb_t v1]
    rcases tf (vd 36000 x2) with v2 | v2
    · rw [vb_t v2, vb_t v2]
      obtain ⟨p, hp, rfl⟩ := vd_t v1
      obtain ⟨d, hd, rfl⟩ := vd_t v2
      have hA : f_X7_isAlive 0 (nI p) (nI d) M = _ := M_alive M 0 p (nI d) (by omega)
      rw [C_alive G p (nI d) (by omega), hA, hT.alive hp hd, pg0]
      rcases tf (alv (M 0) p (nI d)) with v3 | v3
      · have hM : f_X7_homeOf 0 (nI p) (nI d) M = _ := M_home M 0 p V (nI d) (by simpa using g89) (by omega) (by omega) (by omega)
        rw [vb_t v3, vb_t v3, C_home G p V (nI d) (by omega) t7 (by omega), bd_s, hM, bd_s, pg0, (hT.home hp (nI d) V (Nat.le_refl V)).1]
        exact ⟨_, rfl, rfl, hR⟩
      · rw [vb_f v3, vb_f v3]
        exact ⟨_, rfl, rfl, hR⟩
    · rw [vb_f v2, vb_f v2]
      exact ⟨_, rfl, rfl, hR⟩
  · rw [vb_f v1, vb_f v1]
    exact ⟨_, rfl, rfl, hR⟩
/-- what the reference reckons on a day, out of the relation -/
theorem Rel.now {G M : St} {H P V B : Nat} (hT : RT G (M 0) H P V B) (house day : Int32) : ∃ M' : St, f_X7_numberNow house day M = some (num (M 0) P V house day (M 0 91), M') ∧ Fr M M' := by
  have hb := hT.1
  obtain ⟨-, t2, g88, t7, g89, -⟩ := id hT.2.1
  exact M_now M V P house day g89 (by omega) g88 (by omega)
theorem op_number : Op_number Rel := by
  intro x1 x2 G M hR
  obtain ⟨H, hH, ⟨P, V, B, hT⟩, -⟩ := id hR
  have hb := hT.1
  obtain ⟨t0, t2, g88, -⟩ := id hT.2.1
  unfold f_X6_number f_X7_number
  rw [sb0, C_isHouse t0 (by omega), M_isHouse hH (by omega), C_isDay, M_isDay]
  rcases tf (vd H x1) with v1 | v1
  · rw [vb_t v1, vb_t v1]
    rcases tf (vd 36000 x2) with v2 | v2
    · rw [vb_t v2, vb_t v2]
      obtain ⟨h, hh, rfl⟩ := vd_t v1
      obtain ⟨d, hd, rfl⟩ := vd_t v2
      obtain ⟨T', c1, c2⟩ := C_numberOf hT hd (show h < 8 by omega)
      obtain ⟨M', m1, m2⟩ := Rel.now hT (nI h) (nI d)
      rw [c1, bd_s, m1, bd_s]
      exact ⟨_, _, _, rfl, rfl, hR.cg c2.fg m2.fm⟩
    · rw [vb_f v2, vb_f v2]
      exact ⟨_, _, _, rfl, rfl, hR⟩
  · rw [vb_f v1, vb_f v1]
    exact ⟨_, _, _, rfl, rfl, hR⟩
