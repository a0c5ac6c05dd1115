-- fetch: aunts, their ways
theorem and_l {a b : Bool} (h : (a && b) = true) : a = true := by
  rw [Bool.and_eq_true] at h
  exact h.1
theorem ca_s {b : Nat → Bool} {n : Nat} : ca b (n + 1) = if b n = true then ca b n + 1 else ca b n := rfl
theorem ca_mono {b : Nat → Bool} {k : Nat} : ∀ r, ca b k ≤ ca b (k + r)
  | 0 => Nat.le_refl _
  | r + 1 => by
    have ih := ca_mono (b := b) (k := k) r
    rw [show k + (r + 1) = (k + r) + 1 by omega, ca_s]
    split <;> omega
theorem ca_in {b : Nat → Bool} {k n : Nat} (hk : k < n) (h : b k = true) : ca b k < ca b n := by
  have q := ca_mono (b := b) (k := k + 1) (n - (k + 1))
  rw [show k + 1 + (n - (k + 1)) = n by omega, ca_s, if_pos h] at q
  omega
theorem ca_surj {b : Nat → Bool} : ∀ n a, a < ca b n → ∃ p, p < n ∧ b p = true ∧ ca b p = a
  | 0, a, h => absurd h (Nat.not_lt_zero a)
  | n + 1, a, h => by
    rw [ca_s] at h
    by_cases c : b n = true
    · rw [if_pos c] at h
      by_cases e : a = ca b n
      · exact ⟨n, by omega, c, e.symm⟩
      · obtain ⟨p, h1, h2⟩ := ca_surj (b := b) n a (by omega)
        exact ⟨p, by omega, h2⟩
    · rw [if_neg c] at h
      obtain ⟨p, h1, h2⟩ := ca_surj (b := b) n a h
      exact ⟨p, by omega, h2⟩
theorem ca_inj {b : Nat → Bool} {p q : Nat} (hp : b p = true) (hq : b q = true) (e : ca b p = ca b q) : p = q := by
  apply Classical.byContradiction
  intro c
  by_cases k : p < q
  · have := ca_in k hp
    omega
  · have := ca_in (show q < p by omega) hq
    omega
/-- one who tells more, behind or ahead of another: the same count -/
theorem stp_comm {q : Q4} {k a b : Nat} {w w2 : Int32} (h : ok4 q k) (hk : k < 500) (ha : a < 101) (hb : b < 101) (hw : w = nI 1 ∨ w = nI 2) (hw2 : w2 = nI 1 ∨ w2 = nI 2) : eqv (stp (nI a) w (stp (nI b) w2 q)) (stp (nI b) w2 (stp (nI a) w q)) := by
  obtain ⟨c, s, h1, h2, e1, e2, h5⟩ := h
  obtain ⟨u, hu, rfl⟩ : ∃ u, (u = 1 ∨ u = 2) ∧ w = nI u := by
    rcases hw with z | z
    · exact ⟨1, Or.inl rfl, z⟩
    · exact ⟨2, Or.inr rfl, z⟩
  obtain ⟨u2, hu2, rfl⟩ : ∃ u, (u = 1 ∨ u = 2) ∧ w2 = nI u := by
    rcases hw2 with z | z
    · exact ⟨1, Or.inl rfl, z⟩
    · exact ⟨2, Or.inr rfl, z⟩
  have z1 : ¬ nI (c + u2) = 0 := nI_ne0 (by omega) (by omega)
  have z2 : ¬ nI (c + u) = 0 := nI_ne0 (by omega) (by omega)
  refine ⟨?_, ?_, Or.inr ?_⟩
  · show q.1 + nI u2 + nI u = q.1 + nI u + nI u2
    rw [e1, nI_add, nI_add, nI_add, nI_add]
    exact congrArg nI (by omega)
  · show q.2.1 + nI u2 * nI b + nI u * nI a = q.2.1 + nI u * nI a + nI u2 * nI b
    rw [e2, nI_mul, nI_mul, nI_add, nI_add, nI_add, nI_add]
    exact congrArg nI (by omega)
  · unfold stp
    dsimp only
    rw [e1, nI_add, nI_add]
    simp only [if_neg z1, if_neg z2]
    by_cases z : c = 0
    · subst z
      have z3 : nI 0 = 0 := rfl
      simp only [if_pos z3]
      constructor
      · by_cases y : a ≤ b
        · rw [if_pos (nI_le y (by omega))]
          by_cases y2 : b ≤ a
          · rw [if_pos (nI_le y2 (by omega)), show a = b by omega]
          · rw [if_neg (nI_ge (by omega) (by omega))]
        · rw [if_neg (nI_ge (by omega) (by omega)), if_pos (nI_le (by omega) (by omega))]
      · by_cases y : b ≤ a
        · rw [if_pos (nI_le y (by omega))]
          by_cases y2 : a ≤ b
          · rw [if_pos (nI_le y2 (by omega)), show a = b by omega]
          · rw [if_neg (nI_ge (by omega) (by omega))]
        · rw [if_neg (nI_ge (by omega) (by omega)), if_pos (nI_le (by omega) (by omega))]
    · have z3 : ¬ nI c = 0 := nI_ne0 (by omega) (by omega)
      rcases h5 with h5 | ⟨⟨m, hm, em⟩, ⟨l, hl, el⟩⟩
      · exact absurd h5 z
      · simp only [if_neg z3]
        rw [em, el]
        have mx : ∀ x y : Nat, x < 101 → y < 101 → (if nI x ≤ nI y then nI y else nI x) = nI (if x ≤ y then y else x) := by
          intro x y hx hy
          by_cases q : x ≤ y
          · rw [if_pos (nI_le q (by omega)), if_pos q]
          · rw [if_neg (nI_ge (by omega) (by omega)), if_neg q]
        have mn : ∀ x y : Nat, x < 101 → y < 101 → (if nI x ≤ nI y then nI x else nI y) = nI (if x ≤ y then x else y) := by
          intro x y hx hy
          by_cases q : x ≤ y
          · rw [if_pos (nI_le q (by omega)), if_pos q]
          · rw [if_neg (nI_ge (by omega) (by omega)), if_neg q]
        constructor
        · rw [mx b m hb hm, mx a m ha hm, mx a _ ha (by split <;> omega), mx b _ hb (by split <;> omega)]
          refine congrArg nI ?_
          repeat' split
          all_goals omega
        · rw [mn l b hl hb, mn l a hl ha, mn _ a (by split <;> omega) ha, mn _ b (by split <;> omega) hb]
          refine congrArg nI ?_
          repeat' split
          all_goals omega
theorem eqv_tr {a b c : Q4} (h : eqv a b) (h2 : eqv b c) : eqv a c := by
  obtain ⟨x1, x2, x3⟩ := h
  obtain ⟨y1, y2, y3⟩ := h2
  refine ⟨x1.trans y1, x2.trans y2, ?_⟩
  rcases x3 with x3 | ⟨x3, x4⟩
  · exact Or.inl x3
  · rcases y3 with y3 | ⟨y3, y4⟩
    · exact Or.inl (x1.trans y3)
    · exact Or.inr ⟨x3.trans y3, x4.trans y4⟩
theorem eqv_rf (a : Q4) : eqv a a := ⟨rfl, rfl, Or.inr ⟨rfl, rfl⟩⟩
theorem stp_pull {al : Nat → Bool} {hm kd yr : Nat → Int32} {house : Int32} {q : Q4} {k v : Nat} {w : Int32} (h : ok4 q k) (hv : v < 101) (hw : w = nI 1 ∨ w = nI 2) : ∀ n, k + n < 400 → (∀ p, p < n → al p = true → inB 101 (yr p)) → eqv (accG al hm kd yr house (stp (nI v) w q) n) (stp (nI v) w (accG al hm kd yr house q n))
  | 0, _, _ => eqv_rf _
  | n + 1, hn, hy => by
    have ih := stp_pull (al := al) (hm := hm) (kd := kd) (yr := yr) (house := house) h hv hw n (by omega) (fun p hp => hy p (by omega))
    have o := ok4_acc (al := al) (hm := hm) (kd := kd) (yr := yr) (house := house) h n (by omega) (fun p hp => hy p (by omega))
    unfold accG
    by_cases c : al n = true ∧ hm n = house ∧ ¬ kd n = 4
    · rw [if_pos c, if_pos c]
      obtain ⟨y, hy1, hy2⟩ := hy n (by omega) c.1
      obtain ⟨t, ht, et⟩ := tl_rg (kd n) hy1
      rw [hy2, et]
      exact eqv_tr (eqv_stp ih) (stp_comm o (by omega) ht hv (tw_rg _) hw)
    · rw [if_neg c, if_neg c]
      exact ih
/-- those of one sort may be counted behind the others -/
theorem acc_split {al b : Nat → Bool} {hm kd yr : Nat → Int32} {house : Int32} {q : Q4} {k : Nat} (h : ok4 q k) : ∀ n, k + n + n < 400 → (∀ p, p < n → al p = true → inB 101 (yr p)) → eqv (accG al hm kd yr house q n) (accG (fun p => al p && b p) hm kd yr house (accG (fun p => al p && !b p) hm kd yr house q n) n)
  | 0, _, _ => eqv_rf _
  | n + 1, hn, hy => by
    have ih := acc_split (al := al) (b := b) (hm := hm) (kd := kd) (yr := yr) (house := house) h n (by omega) (fun p hp => hy p (by omega))
    have o := ok4_acc (al := fun p => al p && !b p) (hm := hm) (kd := kd) (yr := yr) (house := house) h n (by omega) (fun p hp hq => hy p (by omega) (and_l hq))
    show eqv (if al n = true ∧ hm n = house ∧ ¬ kd n = 4 then stp (tl (kd n) (yr n)) (tw (kd n)) (accG al hm kd yr house q n) else accG al hm kd yr house q n) (if (al n && b n) = true ∧ hm n = house ∧ ¬ kd n = 4 then stp (tl (kd n) (yr n)) (tw (kd n)) (accG (fun p => al p && b p) hm kd yr house (if (al n && !b n) = true ∧ hm n = house ∧ ¬ kd n = 4 then stp (tl (kd n) (yr n)) (tw (kd n)) (accG (fun p => al p && !b p) hm kd yr house q n) else accG (fun p => al p && !b p) hm kd yr house q n) n) else accG (fun p => al p && b p) hm kd yr house (if (al n && !b n) = true ∧ hm n = house ∧ ¬ kd n = 4 then stp (tl (kd n) (yr n)) (tw (kd n)) (accG (fun p => al p && !b p) hm kd yr house q n) else accG (fun p => al p && !b p) hm kd yr house q n) n)
    by_cases c : al n = true ∧ hm n = house ∧ ¬ kd n = 4
    · rw [if_pos c]
      rcases tf (b n) with e | e
      · have c1 : (al n && b n) = true ∧ hm n = house ∧ ¬ kd n = 4 := ⟨by rw [c.1, e]; rfl, c.2⟩
        have c2 : ¬ ((al n && !b n) = true ∧ hm n = house ∧ ¬ kd n = 4) := fun z => by rw [e, c.1] at z; exact Bool.noConfusion z.1
        rw [if_pos c1, if_neg c2]
        exact eqv_stp ih
      · have c1 : ¬ ((al n && b n) = true ∧ hm n = house ∧ ¬ kd n = 4) := fun z => by rw [e, c.1] at z; exact Bool.noConfusion z.1
        have c2 : (al n && !b n) = true ∧ hm n = house ∧ ¬ kd n = 4 := ⟨by rw [c.1, e]; rfl, c.2⟩
        rw [if_neg c1, if_pos c2]
        obtain ⟨y, hy1, hy2⟩ := hy n (by omega) c.1
        obtain ⟨t, ht, et⟩ := tl_rg (kd n) hy1
        rw [hy2, et]
        have pl := stp_pull (al := fun p => al p && b p) (hm := hm) (kd := kd) (yr := yr) (house := house) o ht (tw_rg (kd n)) n (by omega) (fun p hp hq => hy p (by omega) (and_l hq))
        have eqv_sy : ∀ {a b : Q4}, eqv a b → eqv b a := by
          rintro a b ⟨x1, x2, x3⟩
          refine ⟨x1.symm, x2.symm, ?_⟩
          rcases x3 with x3 | ⟨x3, x4⟩
          · exact Or.inl (by rw [← x1]; exact x3)
          · exact Or.inr ⟨x3.symm, x4.symm⟩
        exact eqv_tr (eqv_stp ih) (eqv_sy pl)
    · have c1 : ¬ ((al n && b n) = true ∧ hm n = house ∧ ¬ kd n = 4) := fun z => c ⟨and_l z.1, z.2⟩
      have c2 : ¬ ((al n && !b n) = true ∧ hm n = house ∧ ¬ kd n = 4) := fun z => c ⟨and_l z.1, z.2⟩
      rw [if_neg c, if_neg c1, if_neg c2]
      exact ih
/-- an aunt who lives -/
def au (g : Nat → Int32) (d p : Nat) : Bool := alv g p (nI d) && decide (g (4 * p) = 1)
theorem au_i {g : Nat → Int32} {d p : Nat} : au g d p = true ↔ (alv g p (nI d) = true ∧ g (4 * p) = 1) := by
  unfold au
  rw [Bool.and_eq_true, decide_eq_true_iff]
theorem C_aunt {T : St} {g : Nat → Int32} {H P V B d p : Nat} (h : RT T g H P V B) (hd : d < 36000) (hp : p < P) : f_X5_isAuntOn (nI p) (nI d) T = some (if au g d p = true then 1 else 0) := by
  have hb := h.1
  obtain ⟨t0, t2, -⟩ := id h.2.1
  obtain ⟨e3, -⟩ := h.2.2.1 p hp
  unfold f_X5_isAuntOn
  rw [C_isOne t2 (by omega), vb_t (vd_nI hp (by omega)), ix_in (by omega) (by omega), tN_nI (by omega), e3]
  by_cases c : g (4 * p) = 1
  · rw [if_pos c, C_alive T p (nI d) (by omega), h.alive hp hd]
    rcases tf (alv g p (nI d)) with a | a
    · rw [vb_t a, if_pos (au_i.mpr ⟨a, c⟩)]
    · rw [vb_f a, if_neg (fun q => by rw [au_i, a] at q; exact Bool.noConfusion q.1)]
  · rw [if_neg c, if_neg (fun q => c (au_i.mp q).2)]
theorem C_aunts_l {T : St} {g : Nat → Int32} {H P V B d : Nat} (h : RT T g H P V B) (hd : d < 36000) : ∀ (r k n : Nat), k + r = P → r < n → f_X5_auntsOn_4 n (nI d) (nI (ca (au g d) k)) (nI k) T = some (nI (ca (au g d) P)) := by
  have hb := h.1
  obtain ⟨t0, t2, -⟩ := id h.2.1
  intro r
  induction r with
  | zero =>
    intro k n h1 h2
    obtain ⟨n, rfl⟩ : ∃ z, n = z + 1 := ⟨n - 1, by omega⟩
    obtain rfl : k = P := by omega
    rw [f_X5_auntsOn_4_s, t2, if_pos (nI_le (Nat.le_refl _) (by omega))]
  | succ r ih =>
    intro k n h1 h2
    obtain ⟨n, rfl⟩ : ∃ z, n = z + 1 := ⟨n - 1, by omega⟩
    have q := ih (k + 1) n (by omega) (by omega)
    rw [ca_s] at q
    rw [f_X5_auntsOn_4_s, t2, if_neg (nI_ge (by omega) (by omega)), C_aunt h hd (by omega)]
    unfold f_X5_auntsOn_24
    rw [p1, p1]
    rcases tf (au g d k) with a | a
    · rw [if_pos a] at q
      rw [vb_t a]
      exact q
    · rw [if_neg (by rw [a]; decide)] at q
      rw [vb_f a]
      exact q
theorem C_aunts {T : St} {g : Nat → Int32} {H P V B d : Nat} (h : RT T g H P V B) (hd : d < 36000) : f_X5_auntsOn (nI d) T = some (nI (ca (au g d) P)) := by
  have hb := h.1
  exact C_aunts_l h hd P 0 1000 (by omega) (by omega)
/-- the search behind its gathering, up to the k-th one -/
def GA (S S0 : St) (g : Nat → Int32) (V d k : Nat) (Q : Nat → Q4) : Prop := S 0 0 = nI (ca (au g d) k) ∧ (∀ p, p < k → au g d p = true → S 1 (ca (au g d) p) = nI p ∧ S 2 (ca (au g d) p) = hmv g p (nI d) V ∧ S 3 (ca (au g d) p) = yrs g p (nI d)) ∧ (∀ h, h < 8 → t4 (sb 8 S) h = accG (fun p => alv g p (nI d) && !au g d p) (fun p => hmv g p (nI d) V) (fun p => g (4 * p)) (fun p => yrs g p (nI d)) (nI h) (Q h) k) ∧ ∀ j, 16 ≤ j → S j = S0 j
theorem C_gather_l {S0 : St} {g : Nat → Int32} {H P V B d : Nat} (hT : RT (sb 16 S0) g H P V B) (hd : d < 36000) (hA : ca (au g d) P ≤ 4) (Q : Nat → Q4) : ∀ (r k n : Nat) (S : St), k + r = P → r < n → GA S S0 g V d k Q → ∃ S' : St, f_X0_gather_14 n (nI d) (nI k) S = some S' ∧ GA S' S0 g V d P Q := by
  have hb := hT.1
  intro r
  induction r with
  | zero =>
    intro k n S h1 h2 hS
    obtain ⟨n, rfl⟩ : ∃ z, n = z + 1 := ⟨n - 1, by omega⟩
    obtain rfl : k = P := by omega
    have t2 : S 18 0 = nI k := by
      rw [hS.2.2.2 18 (by omega)]
      exact hT.2.1.2.1
    exact ⟨S, by rw [f_X0_gather_14_s, t2, if_pos (nI_le (Nat.le_refl _) (by omega))], hS⟩
  | succ r ih =>
    intro k n S h1 h2 hS
    obtain ⟨n, rfl⟩ : ∃ z, n = z + 1 := ⟨n - 1, by omega⟩
    obtain ⟨g0, g1, g2, g3⟩ := hS
    have t2 : S 18 0 = nI P := by
      rw [g3 18 (by omega)]
      exact hT.2.1.2.1
    have hTS : ∀ S1 : St, (∀ j, 16 ≤ j → S1 j = S0 j) → RT (sb 16 S1) g H P V B := fun S1 q => hT.cg (fun j hj => q (16 + j) (by omega)) (fun _ _ => rfl)
    have hm : ∀ S1 : St, (∀ j, 16 ≤ j → S1 j = S0 j) → f_X5_homeOf (nI k) (nI d) (sb 16 S1) = some (hmv g k (nI d) V) := by
      intro S1 q
      have hR := hTS S1 q
      obtain ⟨-, -, -, t7, -⟩ := id hR.2.1
      rw [C_home (sb 16 S1) k V (nI d) (by omega) t7 (by omega), (hR.home (by omega) (nI d) V (Nat.le_refl V)).1]
    have ym : ∀ S1 : St, (∀ j, 16 ≤ j → S1 j = S0 j) → f_X5_yearsOf (nI k) (nI d) (sb 16 S1) = some (yrs g k (nI d)) := by
      intro S1 q
      rw [C_years (sb 16 S1) k (nI d) (by omega), (hTS S1 q).years (by omega)]
    have hT1 := hTS S g3
    have cm := ca_mono (b := au g d) (k := k + 1) (P - (k + 1))
    rw [show k + 1 + (P - (k + 1)) = P by omega, ca_s] at cm
    rw [f_X0_gather_14_s, t2, if_neg (nI_ge (by omega) (by omega)), C_aunt hT1 hd (by omega)]
    have es : ∀ h, accG (fun p => alv g p (nI d) && !au g d p) (fun p => hmv g p (nI d) V) (fun p => g (4 * p)) (fun p => yrs g p (nI d)) (nI h) (Q h) (k + 1) = if (alv g k (nI d) && !au g d k) = true ∧ hmv g k (nI d) V = nI h ∧ ¬ g (4 * k) = 4 then stp (tl (g (4 * k)) (yrs g k (nI d))) (tw (g (4 * k))) (accG (fun p => alv g p (nI d) && !au g d p) (fun p => hmv g p (nI d) V) (fun p => g (4 * p)) (fun p => yrs g p (nI d)) (nI h) (Q h) k) else accG (fun p => alv g p (nI d) && !au g d p) (fun p => hmv g p (nI d) V) (fun p => g (4 * p)) (fun p => yrs g p (nI d)) (nI h) (Q h) k := fun _ => rfl
    rcases tf (au g d k) with a | a
    · rw [if_pos a] at cm
      have z4 : ¬ (4 : Int32) ≤ S 0 0 := by
        rw [g0]
        exact nI_ge (b := 4) (by omega) (by omega)
      rw [vb_t a, if_neg z4, g0, ix_in (by omega) (by omega), tN_nI (by omega), hm _ (fun j hj => by rw [st_ne (by omega)]; exact g3 j hj), bd_s, ix_in (by omega) (by omega), ym _ (fun j hj => by rw [st_ne (by omega), st_ne (by omega)]; exact g3 j hj), bd_s, ix_in (by omega) (by omega)]
      unfold f_X0_gather_126
      rw [p1, p1]
      refine ih (k + 1) n _ (by omega) (by omega) ⟨?_, fun p hp ha => ?_, fun h hh => ?_, fun j hj => ?_⟩
      · rw [st_eq, ca_s, if_pos a]
      · rw [st_ne (by omega), st_ne (by omega), st_ne (by omega), st_eq, st_ne (by omega), st_ne (by omega), st_eq, st_ne (by omega), st_eq]
        by_cases e : p = k
        · subst e
          rw [upd_eq, upd_eq, upd_eq]
          exact ⟨rfl, rfl, rfl⟩
        · have ci := ca_in (show p < k by omega) ha
          rw [upd_ne (by omega), upd_ne (by omega), upd_ne (by omega)]
          exact g1 p (by omega) ha
      · have e1 : t4 (sb 8 (st 0 (fun _ => nI (ca (au g d) k + 1)) (st 3 (upd (S 3) (ca (au g d) k) (yrs g k (nI d))) (st 2 (upd (S 2) (ca (au g d) k) (hmv g k (nI d) V)) (st 1 (upd (S 1) (ca (au g d) k) (nI k)) S))))) h = t4 (sb 8 S) h := rfl
        rw [e1, g2 h hh, es h, if_neg (fun q => by rw [a, Bool.not_true, Bool.and_false] at q; exact Bool.noConfusion q.1)]
      · rw [st_ne (by omega), st_ne (by omega), st_ne (by omega), st_ne (by omega)]
        exact g3 j hj
    · rw [vb_f a]
      unfold f_X0_gather_92
      rw [C_alive (sb 16 S) k (nI d) (by omega), hT1.alive (by omega) hd]
      have nx : ∀ S1 : St, (∀ j, j < 8 → S1 j = S j) → (∀ j, 16 ≤ j → S1 j = S0 j) → (∀ h, h < 8 → t4 (sb 8 S1) h = accG (fun p => alv g p (nI d) && !au g d p) (fun p => hmv g p (nI d) V) (fun p => g (4 * p)) (fun p => yrs g p (nI d)) (nI h) (Q h) (k + 1)) → ∃ S' : St, f_X0_gather_126 (f_X0_gather_14 n) (nI d) (nI k) S1 = some S' ∧ GA S' S0 g V d P Q := by
        intro S1 q1 q2 q3
        unfold f_X0_gather_126
        rw [p1]
        refine ih (k + 1) n _ (by omega) (by omega) ⟨?_, fun p hp ha => ?_, q3, q2⟩
        · rw [q1 0 (by omega), g0, ca_s, if_neg (by rw [a]; decide)]
        · rw [q1 1 (by omega), q1 2 (by omega), q1 3 (by omega)]
          by_cases e : p = k
          · rw [e, a] at ha
            exact Bool.noConfusion ha
          · exact g1 p (by omega) ha
      rcases tf (alv g k (nI d)) with al | al
      · obtain ⟨hh, hh8, he⟩ := (hT1.home (show k < P by omega) (nI d) V (Nat.le_refl V)).2
        obtain ⟨y, hy, ey⟩ := hT1.yr_in hd (show k < P by omega) al
        have e3 : S 19 k = g (4 * k) := (hT1.2.2.1 k (by omega)).1
        rw [vb_t al, hm S g3, bd_s, ix_in (by omega) (by omega), tN_nI (by omega), ym S g3, bd_s, he, e3, ey]
        obtain ⟨U, u1, u2, u3⟩ := C_add (sb 8 S) hh (by omega) (g (4 * k)) (nI y) (by rw [nI_toInt (by omega)]; omega)
        rw [u1, bd_s]
        refine nx _ (fun j hj => pt_out (by omega)) (fun j hj => by rw [pt_out (by omega)]; exact g3 j hj) (fun h hh' => ?_)
        have e2 : t4 (sb 8 (pt 8 4 U S)) h = t4 U h := rfl
        rw [e2, es h, al, a, he, ey]
        by_cases c : h = hh
        · subst c
          rw [u3, g2 h hh']
          by_cases f : g (4 * k) = 4
          · rw [if_pos f, if_neg (fun q => q.2.2 f)]
          · rw [if_neg f, if_pos ⟨rfl, rfl, f⟩]
        · rw [if_neg (fun q => c ((nI_eq (by omega) (by omega)).mp q.2.1).symm), ← g2 h hh']
          unfold t4
          rw [u2 0 h (Or.inl c), u2 1 h (Or.inl c), u2 2 h (Or.inl c), u2 3 h (Or.inl c)]
      · rw [vb_f al]
        refine nx S (fun _ _ => rfl) g3 (fun h hh => ?_)
        rw [es h, al, if_neg (fun q => Bool.noConfusion q.1)]
        exact g2 h hh
theorem jn_sb (o : Nat) (S : St) : jn o (sb 0 S) (sb o S) = S := by
  funext k
  by_cases c : k < o
  · rw [jn_lo c]
    show S (0 + k) = S k
    rw [Nat.zero_add]
  · rw [jn_hi (by omega)]
    show S (o + (k - o)) = S k
    exact congrArg S (by omega)
theorem C_gather {S0 : St} {g : Nat → Int32} {H P V B d : Nat} (hT : RT (sb 16 S0) g H P V B) (hd : d < 36000) (hA : ca (au g d) P ≤ 4) : ∃ (S' : St) (Q : Nat → Q4), f_X0_gather (nI d) S0 = some S' ∧ GA S' S0 g V d P Q ∧ ∀ h, eqv (Q h) (0, 0, 0, 0) := by
  have hb := hT.1
  unfold f_X0_gather f_X2_clear
  obtain ⟨U, u1, u2⟩ := C_clear_l (sb 8 (st 0 (fun _ => (0 : Int32)) S0)) 1000 0 (sb 8 (st 0 (fun _ => (0 : Int32)) S0)) (by omega) (by omega) (fun _ _ _ => rfl) (fun h hh => by omega)
  have u1' : f_X2_clear_2 1000 0 (sb 8 (st 0 (fun _ => (0 : Int32)) S0)) = some U := u1
  rw [u1', bd_s]
  obtain ⟨S', k1, k2⟩ := C_gather_l hT hd hA (fun h => (0, 0, sb 8 (st 0 (fun _ => (0 : Int32)) S0) 2 h, sb 8 (st 0 (fun _ => (0 : Int32)) S0) 3 h)) P 0 1000 (pt 8 4 U (st 0 (fun _ => (0 : Int32)) S0)) (by omega) (by omega) ⟨rfl, fun p hp => by omega, fun h hh => by
    have e2 : t4 (sb 8 (pt 8 4 U (st 0 (fun _ => (0 : Int32)) S0))) h = t4 U h := rfl
    rw [e2, u2 h hh]
    rfl, fun j hj => by rw [pt_out (by omega), st_ne (by omega)]⟩
  exact ⟨S', _, k1, k2, fun h => ⟨rfl, rfl, Or.inl rfl⟩⟩
/-- where the k-th of A aunts goes by way v; how many of the last r go elsewhere -/
def gz (H A v k : Nat) : Nat := v / H ^ (A - 1 - k) % H
def md (H A v : Nat) (sy : Nat → Int32) : Nat → Nat
  | 0 => 0
  | r + 1 => if nI (gz H A v (A - 1 - r)) = sy (A - 1 - r) then md H A v sy r else md H A v sy r + 1
theorem md_b {H A v : Nat} {sy : Nat → Int32} : ∀ r, md H A v sy r ≤ r
  | 0 => Nat.le_refl 0
  | r + 1 => by
    have ih := md_b (H := H) (A := A) (v := v) (sy := sy) r
    show (if nI (gz H A v (A - 1 - r)) = sy (A - 1 - r) then md H A v sy r else md H A v sy r + 1) ≤ r + 1
    split <;> omega
theorem md_congr {H A v : Nat} {sy sy2 : Nat → Int32} (h : ∀ k, k < A → sy k = sy2 k) : ∀ r, r ≤ A → md H A v sy r = md H A v sy2 r
  | 0, _ => rfl
  | r + 1, hr => by
    have ih := md_congr (H := H) (v := v) h r (by omega)
    show (if nI (gz H A v (A - 1 - r)) = sy (A - 1 - r) then md H A v sy r else md H A v sy r + 1) = if nI (gz H A v (A - 1 - r)) = sy2 (A - 1 - r) then md H A v sy2 r else md H A v sy2 r + 1
    rw [ih, h (A - 1 - r) (by omega)]
theorem gz_lt {H A v k : Nat} (hH : 0 < H) : gz H A v k < H := Nat.mod_lt _ hH
theorem C_send_l {H A v : Nat} (hH : 1 ≤ H) (hH8 : H ≤ 8) (hA : A ≤ 4) (hv : v < 5000) : ∀ (j n : Nat) (S : St), j ≤ A → j < n → (∀ k, j ≤ k → k < A → S 4 k = nI (gz H A v k)) → ∃ S' : St, f_X0_send_13 n (nI H) (nI (v / H ^ (A - j))) (nI (md H A v (S 2) (A - j))) (nI j - 1) S = some (nI (md H A v (S 2) A), S') ∧ (∀ k, k ≠ 4 → S' k = S k) ∧ ∀ k, k < A → S' 4 k = nI (gz H A v k) := by
  intro j
  induction j with
  | zero =>
    intro n S h1 h2 h3
    obtain ⟨n, rfl⟩ : ∃ z, n = z + 1 := ⟨n - 1, by omega⟩
    exact ⟨S, by rw [f_X0_send_13_s, if_pos (by decide)]; rfl, fun _ _ => rfl, fun k hk => h3 k (by omega) hk⟩
  | succ j ih =>
    intro n S h1 h2 h3
    obtain ⟨n, rfl⟩ : ∃ z, n = z + 1 := ⟨n - 1, by omega⟩
    have z0 : ¬ nI H ≤ 0 := nI_nle (by omega) (by omega)
    have z1 : ¬ nI H = 0 := nI_ne0 (by omega) (by omega)
    have wb : v / H ^ (A - (j + 1)) ≤ v := Nat.div_le_self _ _
    have e1 : v / H ^ (A - (j + 1)) / H = v / H ^ (A - j) := by
      rw [Nat.div_div_eq_div_mul, ← Nat.pow_succ, show (A - (j + 1)).succ = A - j by omega]
    have e2 : v / H ^ (A - (j + 1)) % H = gz H A v j := by
      unfold gz
      rw [show A - 1 - j = A - (j + 1) by omega]
    have ms : md H A v (S 2) (A - j) = if nI (gz H A v j) = S 2 j then md H A v (S 2) (A - (j + 1)) else md H A v (S 2) (A - (j + 1)) + 1 := by
      rw [show A - j = (A - (j + 1)) + 1 by omega]
      show (if nI (gz H A v (A - 1 - (A - (j + 1)))) = S 2 (A - 1 - (A - (j + 1))) then _ else _) = _
      rw [show A - 1 - (A - (j + 1)) = j by omega]
    rw [nI_pred, f_X0_send_13_s, if_neg (nI_nn (by omega)), if_neg z0]
    unfold nz
    rw [if_neg z1, if_neg z1, ix_in (by omega) (by omega), ix_in (by omega) (by omega), ix_in (by omega) (by omega), tN_nI (by omega), upd_eq, nI_mod _ _ (by omega) (by omega), nI_div _ _ (by omega) (by omega), e1, e2]
    unfold f_X0_send_56
    rw [m1, p1]
    have k := ih n (st 4 (upd (S 4) j (nI (gz H A v j))) S) (by omega) (by omega) (fun k q1 q2 => by
      rw [st_eq]
      by_cases c : k = j
      · rw [c, upd_eq]
      · rw [upd_ne c]
        exact h3 k (by omega) q2)
    have s2 : st 4 (upd (S 4) j (nI (gz H A v j))) S 2 = S 2 := st_ne (by omega)
    rw [s2] at k
    obtain ⟨S', k1, k2, k3⟩ := k
    refine ⟨S', ?_, fun k hk => by rw [k2 k hk, st_ne hk], k3⟩
    rw [ms] at k1
    by_cases c : nI (gz H A v j) = S 2 j
    · rw [if_pos c] at k1
      rw [if_pos c]
      exact k1
    · rw [if_neg c] at k1
      rw [if_neg c]
      exact k1
