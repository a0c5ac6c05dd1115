-- fetch: the reference's side
/-- what fetch changes of the reference -/
def FX (M M' : St) : Prop := ∀ k, (k < 19 ∨ (22 < k ∧ k < 25) ∨ 30 < k) → M' k = M k
theorem FX.rf {M : St} : FX M M := fun _ _ => rfl
theorem FX.tr {A B C : St} (h : FX A B) (h2 : FX B C) : FX A C := fun k hk => (h2 k hk).trans (h k hk)
theorem FX.fm {M M' : St} (h : FX M M') : FM M M' := ⟨fun k hk => h k (by omega), fun j _ => by rw [h 0 (by omega)]⟩
/-- homes as laid -/
def hy (g : Nat → Int32) (V H A d v p : Nat) : Int32 := if au g d p = true then nI (gz H A v (ca (au g d) p)) else if alv g p (nI d) = true then hmv g p (nI d) V else -4
theorem hy_i {T : St} {g : Nat → Int32} {H P V B A d v p h : Nat} (hT : RT T g H P V B) (hp : p < P) (hh : h < 8) : hy g V H A d v p = nI h ↔ (alv g p (nI d) = true ∧ hx g V H A d v p = nI h) := by
  unfold hy hx
  rcases tf (au g d p) with a | a
  · rw [if_pos a, if_pos a]
    exact ⟨fun q => ⟨(au_i.mp a).1, q⟩, fun q => q.2⟩
  · have na : ¬ au g d p = true := by rw [a]; decide
    rw [if_neg na, if_neg na]
    by_cases c : alv g p (nI d) = true
    · rw [if_pos c]
      exact ⟨fun q => ⟨c, q⟩, fun q => q.2⟩
    · rw [if_neg c]
      exact ⟨fun q => absurd q.symm (i4ne rfl (by omega)), fun q => absurd q.1 c⟩
theorem M_ln_in {T M0 : St} {H P V B A d v h : Nat} (hT : RT T (M0 0) H P V B) (hh : h < 8) (k2 : Int32 → Int32 → St → Option St) (Q : Q4) : ∀ (r p n : Nat) (M : St), p + r = P → r < n → FX M0 M → (∀ j, j < P → M 27 j = hy (M0 0) V H A d v j) → q4 M = accG (fun p => alv (M0 0) p (nI d)) (hx (M0 0) V H A d v) (fun p => M0 0 (4 * p)) (fun p => yrs (M0 0) p (nI d)) (nI h) Q p → ∃ M' : St, f_X7_layNumbers_16 k2 n (nI d) (nI h) (nI p) M = f_X7_layNumbers_47 k2 (nI d) (nI h) M' ∧ Fr M M' ∧ q4 M' = accG (fun p => alv (M0 0) p (nI d)) (hx (M0 0) V H A d v) (fun p => M0 0 (4 * p)) (fun p => yrs (M0 0) p (nI d)) (nI h) Q P := by
  have hb := hT.1
  obtain ⟨t0, t2, g88, t7, g89, t11, g90, -⟩ := id hT.2.1
  intro r
  induction r with
  | zero =>
    intro p n M h1 h2 hF h27 hq
    obtain ⟨n, rfl⟩ : ∃ z, n = z + 1 := ⟨n - 1, by omega⟩
    obtain rfl : p = P := by omega
    have e0 : M 0 = M0 0 := hF 0 (by omega)
    exact ⟨M, by rw [f_X7_layNumbers_16_s, M_people (P := p) (by rw [e0]; exact g88), bd_s, if_pos (nI_le (Nat.le_refl _) (by omega))], Fr.rf, hq⟩
  | succ r ih =>
    intro p n M h1 h2 hF h27 hq
    obtain ⟨n, rfl⟩ : ∃ z, n = z + 1 := ⟨n - 1, by omega⟩
    have e0 : M 0 = M0 0 := hF 0 (by omega)
    have es : accG (fun p => alv (M0 0) p (nI d)) (hx (M0 0) V H A d v) (fun p => M0 0 (4 * p)) (fun p => yrs (M0 0) p (nI d)) (nI h) Q (p + 1) = if alv (M0 0) p (nI d) = true ∧ hx (M0 0) V H A d v p = nI h ∧ ¬ M0 0 (4 * p) = 4 then stp (tl (M0 0 (4 * p)) (yrs (M0 0) p (nI d))) (tw (M0 0 (4 * p))) (accG (fun p => alv (M0 0) p (nI d)) (hx (M0 0) V H A d v) (fun p => M0 0 (4 * p)) (fun p => yrs (M0 0) p (nI d)) (nI h) Q p) else accG (fun p => alv (M0 0) p (nI d)) (hx (M0 0) V H A d v) (fun p => M0 0 (4 * p)) (fun p => yrs (M0 0) p (nI d)) (nI h) Q p := rfl
    have hi := hy_i (A := A) (d := d) (v := v) hT (show p < P by omega) hh
    rw [f_X7_layNumbers_16_s, M_people (P := P) (by rw [e0]; exact g88), bd_s, if_neg (nI_ge (by omega) (by omega)), ix_in (by omega) (by omega), tN_nI (by omega), h27 p (by omega)]
    unfold f_X7_layNumbers_41
    rw [p1]
    by_cases c : hy (M0 0) V H A d v p = nI h
    · obtain ⟨c1, c2⟩ := hi.mp c
      obtain ⟨M1, m1, m2, m3⟩ := M_tellsOf M 0 p (nI d) (by omega)
      have m1' : f_X7_tellsOf 0 (nI p) (nI d) M = some M1 := m1
      rw [pg0, e0] at m3
      rw [if_pos c, m1', bd_s]
      obtain ⟨M', k1, k2', k3⟩ := ih (p + 1) n M1 (by omega) (by omega) (fun k hk => by rw [m2 k (by omega)]; exact hF k hk) (fun j hj => by rw [m2 27 (by omega)]; exact h27 j hj) (by
        rw [m3, es, hq]
        by_cases f : M0 0 (4 * p) = 4
        · rw [if_pos f, if_neg (fun q => q.2.2 f)]
        · rw [if_neg f, if_pos ⟨c1, c2, f⟩])
      exact ⟨M', k1, m2.tr k2', k3⟩
    · rw [if_neg c]
      exact ih (p + 1) n M (by omega) (by omega) hF h27 (by rw [es, if_neg (fun q => c (hi.mpr ⟨q.1, q.2.1⟩)), hq])
theorem M_ln_l {T M0 : St} {H P V B A d v : Nat} (hT : RT T (M0 0) H P V B) (hH : M0 1 0 = nI H) : ∀ (r h n : Nat) (M : St), h + r = H → r < n → FX M0 M → (∀ j, j < P → M 27 j = hy (M0 0) V H A d v j) → (∀ j, j < h → M 30 j = nf (M0 0) P V H A d v j) → ∃ M' : St, f_X7_layNumbers_2 n (nI d) (nI h) M = some M' ∧ (∀ k, (k < 19 ∨ 22 < k) → k ≠ 30 → M' k = M k) ∧ ∀ j, j < H → M' 30 j = nf (M0 0) P V H A d v j := by
  have hb := hT.1
  intro r
  induction r with
  | zero =>
    intro h n M h1 h2 hF h27 h30
    obtain ⟨n, rfl⟩ : ∃ z, n = z + 1 := ⟨n - 1, by omega⟩
    obtain rfl : h = H := by omega
    exact ⟨M, by rw [f_X7_layNumbers_2_s, hF 1 (by omega), hH, if_pos (nI_le (Nat.le_refl _) (by omega))], fun _ _ _ => rfl, h30⟩
  | succ r ih =>
    intro h n M h1 h2 hF h27 h30
    obtain ⟨n, rfl⟩ : ∃ z, n = z + 1 := ⟨n - 1, by omega⟩
    rw [f_X7_layNumbers_2_s, hF 1 (by omega), hH, if_neg (nI_ge (by omega) (by omega)), M_empties, bd_s]
    have hE : Fr M (st 20 (fun _ => 0) (st 19 (fun _ => 0) M)) := by
      intro k hk
      rw [st_ne (by omega), st_ne (by omega)]
    have hq : q4 (st 20 (fun _ => 0) (st 19 (fun _ => 0) M)) = (0, 0, M 21 0, M 22 0) := rfl
    obtain ⟨M1, k1, k2, k3⟩ := M_ln_in (A := A) (d := d) (v := v) (h := h) hT (by omega) (f_X7_layNumbers_2 n) (0, 0, M 21 0, M 22 0) P 0 1000 (st 20 (fun _ => 0) (st 19 (fun _ => 0) M)) (by omega) (by omega) (fun k hk => by rw [hE k (by omega)]; exact hF k hk) (fun j hj => by rw [hE 27 (by omega)]; exact h27 j hj) hq
    have k1' : f_X7_layNumbers_16 (f_X7_layNumbers_2 n) 1000 (nI d) (nI h) 0 (st 20 (fun _ => 0) (st 19 (fun _ => 0) M)) = f_X7_layNumbers_47 (f_X7_layNumbers_2 n) (nI d) (nI h) M1 := k1
    rw [k1']
    have hF1 : Fr M M1 := hE.tr k2
    have e0 : M1 0 = M0 0 := by rw [hF1 0 (by omega)]; exact hF 0 (by omega)
    unfold f_X7_layNumbers_47
    rw [i91, ix_in (by omega) (by omega), tN_nI (by omega), M_toldBy, bd_s, ix_in (by omega) (by omega), tN_nI (by omega), p1, k3, e0]
    have ev : told (M0 0 91) (accG (fun p => alv (M0 0) p (nI d)) (hx (M0 0) V H A d v) (fun p => M0 0 (4 * p)) (fun p => yrs (M0 0) p (nI d)) (nI h) (0, 0, M 21 0, M 22 0) P) = nf (M0 0) P V H A d v h := by
      have e1 : eqv ((0, 0, M 21 0, M 22 0) : Q4) (0, 0, 0, 0) := ⟨rfl, rfl, Or.inl rfl⟩
      exact eqv_told (eqv_acc e1 P)
    rw [ev]
    obtain ⟨M', n1, n2, n3⟩ := ih (h + 1) n (st 30 (upd (M1 30) h (nf (M0 0) P V H A d v h)) M1) (by omega) (by omega) (fun k hk => by rw [st_ne (by omega), hF1 k (by omega)]; exact hF k hk) (fun j hj => by rw [st_ne (by omega), hF1 27 (by omega)]; exact h27 j hj) (fun j hj => by
      rw [st_eq]
      by_cases z : j = h
      · rw [z, upd_eq]
      · rw [upd_ne z, hF1 30 (by omega)]
        exact h30 j (by omega))
    exact ⟨M', n1, fun k q1 q2 => by rw [n2 k q1 q2, st_ne q2, hF1 k q1], n3⟩
def bad (v : Nat → Int32) (H k : Nat) : Prop := k / 8 < k % 8 ∧ k % 8 < H ∧ ¬ v (k / 8) = -4 ∧ v (k / 8) = v (k % 8)
theorem bad_TW {v : Nat → Int32} {H : Nat} (hH : H ≤ 8) : (∀ k, k < 64 → ¬ bad v H k) ↔ ∀ i, ¬ TW v H i := by
  constructor
  · rintro q i ⟨h1, h2, k, h3, h4, h5⟩
    by_cases c : i < k
    · refine q (8 * i + k) (by omega) ⟨by omega, by omega, ?_, ?_⟩
      · rw [show (8 * i + k) / 8 = i by omega]
        exact h2
      · rw [show (8 * i + k) / 8 = i by omega, show (8 * i + k) % 8 = k by omega]
        exact h5.symm
    · refine q (8 * k + i) (by omega) ⟨by omega, by omega, ?_, ?_⟩
      · rw [show (8 * k + i) / 8 = k by omega, h5]
        exact h2
      · rw [show (8 * k + i) / 8 = k by omega, show (8 * k + i) % 8 = i by omega]
        exact h5
  · rintro q k hk ⟨h1, h2, h3, h4⟩
    exact q (k / 8) ⟨by omega, h3, k % 8, h2, by omega, h4.symm⟩
theorem zb01 {x : Int32} (h : x = 0 ∨ x = 1) : zb x (some x) = some x := by
  unfold zb
  rw [if_pos h]
theorem M_aw_p {M : St} {v : Nat → Int32} {H : Nat} {x1 : Int32} (hH1 : 1 ≤ H) (hH : H ≤ 8) (m1 : M 1 0 = nI H) (hv : ∀ j, j < H → M 30 j = v j) (W : Prop) : ∀ (r k n : Nat) (x2 : Int32), k + r = 64 → r < n → (x2 = 0 ∨ x2 = 1) → (x2 = 1 ↔ (W ∧ ∀ j, j < k → ¬ bad v H j)) → (x1 = 0 → k = 0) → ∃ x : Int32, f_X7_isAsWanted_56 n x1 x2 (nI k) M = some x ∧ (x = 0 ∨ x = 1) ∧ (x = 1 ↔ (W ∧ (x1 = 0 ∨ ∀ i, ¬ TW v H i))) := by
  intro r
  induction r with
  | zero =>
    intro k n x2 h1 h2 h3 h4 h5
    obtain ⟨n, rfl⟩ : ∃ z, n = z + 1 := ⟨n - 1, by omega⟩
    obtain rfl : k = 64 := by omega
    have q : (64 : Int32) ≤ nI 64 := nI_le (a := 64) (Nat.le_refl _) (by omega)
    have c : ¬ x1 = 0 := fun z => by have := h5 z; omega
    rw [f_X7_isAsWanted_56_s, if_pos q, zb01 h3]
    refine ⟨x2, rfl, h3, h4.trans ?_⟩
    rw [bad_TW hH]
    exact ⟨fun q => ⟨q.1, Or.inr q.2⟩, fun q => ⟨q.1, q.2.resolve_left c⟩⟩
  | succ r ih =>
    intro k n x2 h1 h2 h3 h4 h5
    obtain ⟨n, rfl⟩ : ∃ z, n = z + 1 := ⟨n - 1, by omega⟩
    have q : ¬ (64 : Int32) ≤ nI k := nI_ge (b := 64) (by omega) (by omega)
    rw [f_X7_isAsWanted_56_s, if_neg q]
    by_cases c : x1 = 0
    · rw [if_pos c, zb01 h3]
      refine ⟨x2, rfl, h3, h4.trans ⟨fun q => ⟨q.1, Or.inl c⟩, fun q => ⟨q.1, fun j hj => ?_⟩⟩⟩
      have := h5 c
      omega
    · rw [if_neg c]
      unfold f_X7_isAsWanted_131 f_X7_isAsWanted_127 f_X7_isAsWanted_132
      rw [i8, nI_mod _ _ (by omega) (by omega), nI_div _ _ (by omega) (by omega), p1, m1]
      have no : (x2 = 0 ∨ bad v H k) → ∃ x : Int32, f_X7_isAsWanted_56 n x1 0 (nI (k + 1)) M = some x ∧ (x = 0 ∨ x = 1) ∧ (x = 1 ↔ (W ∧ (x1 = 0 ∨ ∀ i, ¬ TW v H i))) := by
        intro z
        refine ih (k + 1) n 0 (by omega) (by omega) (Or.inl rfl) ⟨fun q => absurd q (by decide), fun q => ?_⟩ (fun q => absurd q c)
        rcases z with z | z
        · have := h4.mpr ⟨q.1, fun j hj => q.2 j (by omega)⟩
          rw [z] at this
          exact absurd this (by decide)
        · exact absurd z (q.2 k (by omega))
      have yes : ¬ x2 = 0 → ¬ bad v H k → ∃ x : Int32, f_X7_isAsWanted_56 n x1 1 (nI (k + 1)) M = some x ∧ (x = 0 ∨ x = 1) ∧ (x = 1 ↔ (W ∧ (x1 = 0 ∨ ∀ i, ¬ TW v H i))) := by
        intro z1 z2
        have e := h4.mp (h3.resolve_left z1)
        refine ih (k + 1) n 1 (by omega) (by omega) (Or.inr rfl) ⟨fun _ => ⟨e.1, fun j hj => ?_⟩, fun _ => rfl⟩ (fun q => absurd q c)
        by_cases z : j = k
        · rw [z]
          exact z2
        · exact e.2 j (by omega)
      by_cases c2 : x2 = 0
      · rw [if_pos c2]
        exact no (Or.inl c2)
      · rw [if_neg c2]
        by_cases c3 : k % 8 ≤ k / 8
        · rw [if_pos (nI_le c3 (by omega))]
          exact yes c2 (fun z => by have := z.1; omega)
        · rw [if_neg (nI_ge (by omega) (by omega))]
          by_cases c4 : H ≤ k % 8
          · rw [if_pos (nI_le c4 (by omega))]
            exact yes c2 (fun z => by have := z.2.1; omega)
          · rw [if_neg (nI_ge (by omega) (by omega)), ix_in (by omega) (by omega), ix_in (by omega) (by omega), ix_in (by omega) (by omega), tN_nI (by omega), tN_nI (by omega), hv _ (show k / 8 < H by omega), hv _ (show k % 8 < H by omega)]
            by_cases c5 : v (k / 8) = -4
            · rw [if_pos c5]
              exact yes c2 (fun z => z.2.2.1 c5)
            · rw [if_neg c5]
              by_cases c6 : v (k / 8) = v (k % 8)
              · rw [if_pos c6]
                exact no (Or.inr ⟨by omega, by omega, c5, c6⟩)
              · rw [if_neg c6]
                exact yes c2 (fun z => c6 z.2.2.2)
theorem M_aw_l {M : St} {v : Nat → Int32} {H w : Nat} {wh : Nat → Nat} {x1 : Int32} (hH1 : 1 ≤ H) (hH : H ≤ 8) (m1 : M 1 0 = nI H) (m24 : M 24 0 = nI w) (hw : w ≤ 4) (hs : ∀ j, j < w → M 23 (2 * j) = nI (wh j) ∧ wh j < H) (hv : ∀ j, j < H → M 30 j = v j) : ∀ (r i n : Nat) (x2 : Int32), i + r = w → r < n → (x2 = 0 ∨ x2 = 1) → (x2 = 1 ↔ ∀ j, j < i → v (wh j) = M 23 (2 * j + 1)) → ∃ x : Int32, f_X7_isAsWanted_4 n x1 x2 (nI i) M = some x ∧ (x = 0 ∨ x = 1) ∧ (x = 1 ↔ Wd v H w wh (fun j => M 23 (2 * j + 1)) x1) := by
  intro r
  induction r with
  | zero =>
    intro i n x2 h1 h2 h3 h4
    obtain ⟨n, rfl⟩ : ∃ z, n = z + 1 := ⟨n - 1, by omega⟩
    obtain rfl : i = w := by omega
    rw [f_X7_isAsWanted_4_s, m24, if_pos (nI_le (Nat.le_refl _) (by omega))]
    unfold f_X7_isAsWanted_54
    exact M_aw_p hH1 hH m1 hv (∀ j, j < i → v (wh j) = M 23 (2 * j + 1)) 64 0 1000 x2 (by omega) (by omega) h3 (h4.trans ⟨fun q => ⟨q, fun j hj => by omega⟩, fun q => q.1⟩) (fun _ => rfl)
  | succ r ih =>
    intro i n x2 h1 h2 h3 h4
    obtain ⟨n, rfl⟩ : ∃ z, n = z + 1 := ⟨n - 1, by omega⟩
    obtain ⟨e1, e2⟩ := hs i (by omega)
    have m2i : (2 : Int32) * nI i = nI (2 * i) := by rw [i2, nI_mul]
    rw [f_X7_isAsWanted_4_s, m24, if_neg (nI_ge (by omega) (by omega))]
    unfold f_X7_isAsWanted_46 f_X7_isAsWanted_47
    rw [m2i, p1, p1, ix_in (by omega) (by omega), ix_in (by omega) (by omega), tN_nI (by omega), tN_nI (by omega), e1, ix_in (by omega) (by omega), tN_nI (by omega), hv _ e2]
    by_cases c : x2 = 0
    · rw [if_pos c]
      refine ih (i + 1) n 0 (by omega) (by omega) (Or.inl rfl) ⟨fun q => absurd q (by decide), fun q => ?_⟩
      have := h4.mpr (fun j hj => q j (by omega))
      rw [c] at this
      exact absurd this (by decide)
    · rw [if_neg c]
      have e := h4.mp (h3.resolve_left c)
      by_cases c2 : v (wh i) = M 23 (2 * i + 1)
      · rw [if_pos c2]
        refine ih (i + 1) n 1 (by omega) (by omega) (Or.inr rfl) ⟨fun _ j hj => ?_, fun _ => rfl⟩
        by_cases z : j = i
        · rw [z]
          exact c2
        · exact e j (by omega)
      · rw [if_neg c2]
        exact ih (i + 1) n 0 (by omega) (by omega) (Or.inl rfl) ⟨fun q => absurd q (by decide), fun q => absurd (q i (by omega)) c2⟩
/-- the aunts of the reference, and where the others are -/
def MA (M M0 : St) (P V d : Nat) : Prop := M 26 0 = nI (ca (au (M0 0) d) P) ∧ (∀ p, p < P → au (M0 0) d p = true → M 25 (ca (au (M0 0) d) p) = nI p) ∧ (∀ p, p < P → au (M0 0) d p = false → M 27 p = if alv (M0 0) p (nI d) = true then hmv (M0 0) p (nI d) V else -4) ∧ FX M0 M
theorem MA.cg {M M2 M0 : St} {P V d : Nat} (h : MA M M0 P V d) (h1 : M2 26 = M 26) (h2 : M2 25 = M 25) (h3 : ∀ p, p < P → au (M0 0) d p = false → M2 27 p = M 27 p) (h4 : FX M M2) : MA M2 M0 P V d := by
  obtain ⟨a, b, c, e⟩ := h
  exact ⟨by rw [h1]; exact a, fun p hp q => by rw [h2]; exact b p hp q, fun p hp q => by rw [h3 p hp q]; exact c p hp q, e.tr h4⟩
theorem M_lay_in {T M0 : St} {H P V B d v : Nat} (hT : RT T (M0 0) H P V B) (hH : M0 1 0 = nI H) (hd : d < 36000) (hA : ca (au (M0 0) d) P ≤ 4) (hv : v < 5000) (sy : Nat → Int32) (hsy : ∀ p, p < P → au (M0 0) d p = true → sy (ca (au (M0 0) d) p) = hmv (M0 0) p (nI d) V) (k34 : Int32 → Int32 → Int32 → Int32 → Int32 → St → Option (Int32 × St)) (x2 x3 x4 x5 : Int32) : ∀ (j n : Nat) (M : St), j ≤ ca (au (M0 0) d) P → j < n → MA M M0 P V d → (∀ k, j ≤ k → k < ca (au (M0 0) d) P → M 28 k = nI (gz H (ca (au (M0 0) d) P) v k)) → (∀ p, p < P → au (M0 0) d p = true → j ≤ ca (au (M0 0) d) p → M 27 p = nI (gz H (ca (au (M0 0) d) P) v (ca (au (M0 0) d) p))) → ∃ M' : St, f_X7_layFetch_55 k34 n (nI d) x2 x3 x4 x5 (nI (v / H ^ (ca (au (M0 0) d) P - j))) (nI (md H (ca (au (M0 0) d) P) v sy (ca (au (M0 0) d) P - j))) (nI j - 1) M = f_X7_layFetch_141 k34 (nI d) x2 x3 x4 x5 (nI (md H (ca (au (M0 0) d) P) v sy (ca (au (M0 0) d) P))) M' ∧ MA M' M0 P V d ∧ (∀ k, k ≠ 27 → k ≠ 28 → M' k = M k) ∧ (∀ k, k < ca (au (M0 0) d) P → M' 28 k = nI (gz H (ca (au (M0 0) d) P) v k)) ∧ ∀ p, p < P → M' 27 p = hy (M0 0) V H (ca (au (M0 0) d) P) d v p := by
  have hb := hT.1
  obtain ⟨t0, t2, g88, t7, g89, t11, g90, -⟩ := id hT.2.1
  generalize hAA : ca (au (M0 0) d) P = A at *
  intro j
  induction j with
  | zero =>
    intro n M h1 h2 hM h28 h27
    obtain ⟨n, rfl⟩ : ∃ z, n = z + 1 := ⟨n - 1, by omega⟩
    refine ⟨M, by rw [f_X7_layFetch_55_s, if_pos (by decide)]; rfl, hM, fun _ _ _ => rfl, fun k hk => h28 k (by omega) hk, fun p hp => ?_⟩
    unfold hy
    rcases tf (au (M0 0) d p) with a | a
    · rw [if_pos a]
      exact h27 p hp a (by omega)
    · rw [if_neg (by rw [a]; decide)]
      exact hM.2.2.1 p hp a
  | succ j ih =>
    intro n M h1 h2 hM h28 h27
    obtain ⟨n, rfl⟩ : ∃ z, n = z + 1 := ⟨n - 1, by omega⟩
    obtain ⟨p, p1', p2', p3'⟩ := ca_surj (b := au (M0 0) d) P j (show j < ca (au (M0 0) d) P by omega)
    have e25 : M 25 j = nI p := by
      have := hM.2.1 p p1' p2'
      rw [p3'] at this
      exact this
    have e0 : M 0 = M0 0 := hM.2.2.2 0 (by omega)
    have e1 : M 1 0 = nI H := by
      rw [hM.2.2.2 1 (by omega)]
      exact hH
    have esy : sy j = hmv (M0 0) p (nI d) V := by
      have := hsy p p1' p2'
      rw [p3'] at this
      exact this
    have z1 : ¬ nI H = 0 := nI_ne0 (by omega) (by omega)
    have wb : v / H ^ (A - (j + 1)) ≤ v := Nat.div_le_self _ _
    have d1 : v / H ^ (A - (j + 1)) / H = v / H ^ (A - j) := by
      rw [Nat.div_div_eq_div_mul, ← Nat.pow_succ, show (A - (j + 1)).succ = A - j by omega]
    have d2 : v / H ^ (A - (j + 1)) % H = gz H A v j := by
      unfold gz
      rw [show A - 1 - j = A - (j + 1) by omega]
    have ms : md H A v sy (A - j) = if nI (gz H A v j) = sy j then md H A v sy (A - (j + 1)) else md H A v sy (A - (j + 1)) + 1 := by
      rw [show A - j = (A - (j + 1)) + 1 by omega]
      show (if nI (gz H A v (A - 1 - (A - (j + 1)))) = sy (A - 1 - (A - (j + 1))) then _ else _) = _
      rw [show A - 1 - (A - (j + 1)) = j by omega]
    have hm := M_home (st 28 (upd (M 28) j (nI (gz H A v j))) M) 0 p V (nI d) (by
      show M 0 (0 + 89) = nI V
      rw [e0, Nat.zero_add]
      exact g89) (by omega) (by omega) (by omega)
    rw [pg0] at hm
    have hm' : f_X7_homeOf 0 (nI p) (nI d) (st 28 (upd (M 28) j (nI (gz H A v j))) M) = some (hmv (M 0) p (nI d) V) := hm
    rw [nI_pred, f_X7_layFetch_55_s, if_neg (nI_nn (by omega))]
    unfold nz
    rw [e1, if_neg z1, if_neg z1, ix_in (by omega) (by omega), ix_in (by omega) (by omega), ix_in (by omega) (by omega), tN_nI (by omega), nI_mod _ _ (by omega) (by omega), nI_div _ _ (by omega) (by omega), d1, d2, e25, hm', bd_s, upd_eq, e0, ← esy]
    unfold f_X7_layFetch_113
    rw [ix_in (by omega) (by omega), ix_in (by omega) (by omega), tN_nI (by omega)]
    have s25 : st 28 (upd (M 28) j (nI (gz H A v j))) M 25 = M 25 := st_ne (by omega)
    have s27 : st 28 (upd (M 28) j (nI (gz H A v j))) M 27 = M 27 := st_ne (by omega)
    rw [s25, s27, st_eq, e25, ix_in (by omega) (by omega), tN_nI (by omega), upd_eq, m1]
    obtain ⟨M', k1, k2, k3, k4, k5⟩ := ih n (st 27 (upd (M 27) p (nI (gz H A v j))) (st 28 (upd (M 28) j (nI (gz H A v j))) M)) (by omega) (by omega) (hM.cg (by rw [st_ne (by omega), st_ne (by omega)]) (by rw [st_ne (by omega), st_ne (by omega)]) (fun p' hp' q => by
        rw [st_eq, upd_ne (fun z => by rw [z, p2'] at q; exact Bool.noConfusion q)]) (fun k hk => by rw [st_ne (by omega), st_ne (by omega)])) (fun k q1 q2 => by
        rw [st_ne (by omega), st_eq]
        by_cases z : k = j
        · rw [z, upd_eq]
        · rw [upd_ne z]
          exact h28 k (by omega) q2) (fun p' hp' q1 q2 => by
        rw [st_eq]
        by_cases z : p' = p
        · rw [z, upd_eq, p3']
        · rw [upd_ne z]
          refine h27 p' hp' q1 ?_
          have : ca (au (M0 0) d) p' ≠ j := fun y => z (ca_inj q1 p2' (by rw [y, p3']))
          omega)
    refine ⟨M', ?_, k2, fun k q1 q2 => by rw [k3 k q1 q2, st_ne q1, st_ne q2], k4, k5⟩
    rw [ms] at k1
    by_cases c : nI (gz H A v j) = sy j
    · rw [if_pos c] at k1
      rw [if_pos c, Int32.add_zero]
      exact k1
    · rw [if_neg c] at k1
      rw [if_neg c, ix_in (by omega) (by omega), ix_in (by omega) (by omega), ix_in (by omega) (by omega), p1]
      exact k1
theorem M_best_l {A : Nat} (hA : A ≤ 4) (k34 : Int32 → Int32 → Int32 → Int32 → Int32 → St → Option (Int32 × St)) (x1 x2 x3 x4 x5 : Int32) : ∀ (r k n : Nat) (M : St), k + r = A → r < n → M 26 0 = nI A → (∀ j, j < k → M 29 j = M 28 j) → ∃ M' : St, f_X7_layFetch_175 k34 n x1 x2 x3 x4 x5 (nI k) M = f_X7_layFetch_204 k34 x1 x2 x3 x4 x5 M' ∧ (∀ j, j ≠ 29 → M' j = M j) ∧ ∀ j, j < A → M' 29 j = M 28 j := by
  intro r
  induction r with
  | zero =>
    intro k n M h1 h2 h26 h29
    obtain ⟨n, rfl⟩ : ∃ z, n = z + 1 := ⟨n - 1, by omega⟩
    obtain rfl : k = A := by omega
    exact ⟨M, by rw [f_X7_layFetch_175_s, h26, if_pos (nI_le (Nat.le_refl _) (by omega))], fun _ _ => rfl, h29⟩
  | succ r ih =>
    intro k n M h1 h2 h26 h29
    obtain ⟨n, rfl⟩ : ∃ z, n = z + 1 := ⟨n - 1, by omega⟩
    rw [f_X7_layFetch_175_s, h26, if_neg (nI_ge (by omega) (by omega)), ix_in (by omega) (by omega), ix_in (by omega) (by omega), tN_nI (by omega), p1]
    obtain ⟨M', k1, k2, k3⟩ := ih (k + 1) n (st 29 (upd (M 29) k (M 28 k)) M) (by omega) (by omega) (by rw [st_ne (by omega)]; exact h26) (fun j hj => by
      rw [st_eq, st_ne (by omega)]
      by_cases z : j = k
      · rw [z, upd_eq]
      · rw [upd_ne z]
        exact h29 j (by omega))
    refine ⟨M', k1, fun j hj => by rw [k2 j hj, st_ne hj], fun j hj => ?_⟩
    rw [k3 j hj, st_ne (by omega)]
