-- fetch: way by way
/-- one round of the reference's: laid, looked at -/
theorem M_way {T M0 M : St} {H P V B d v w : Nat} {wh : Nat → Nat} {x2 : Int32} (hT : RT T (M0 0) H P V B) (hH : M0 1 0 = nI H) (hd : d < 36000) (hA : ca (au (M0 0) d) P ≤ 4) (hv : v < 5000) (sy : Nat → Int32) (hsy : ∀ p, p < P → au (M0 0) d p = true → sy (ca (au (M0 0) d) p) = hmv (M0 0) p (nI d) V) (m24 : M0 24 0 = nI w) (hw : w ≤ 4) (hs : ∀ j, j < w → M0 23 (2 * j) = nI (wh j) ∧ wh j < H) (hM : MA M M0 P V d) (k34 : Int32 → Int32 → Int32 → Int32 → Int32 → St → Option (Int32 × St)) (x3 x4 x5 : Int32) (hx5 : x5 = nI v) : ∃ (x : Int32) (M' : St), f_X7_layFetch_55 k34 1000 (nI d) x2 x3 x4 x5 x5 0 (M 26 0 - 1) M = (if x = 0 then f_X7_layFetch_204 k34 (nI d) x2 x3 x4 x5 M' else if x4 = -4 then f_X7_layFetch_168 k34 (nI d) x2 x3 x5 (nI (md H (ca (au (M0 0) d) P) v sy (ca (au (M0 0) d) P))) M' else if x4 ≤ nI (md H (ca (au (M0 0) d) P) v sy (ca (au (M0 0) d) P)) then f_X7_layFetch_204 k34 (nI d) x2 x3 x4 x5 M' else f_X7_layFetch_168 k34 (nI d) x2 x3 x5 (nI (md H (ca (au (M0 0) d) P) v sy (ca (au (M0 0) d) P))) M') ∧ (x = 0 ∨ x = 1) ∧ (x = 1 ↔ Wd (nf (M0 0) P V H (ca (au (M0 0) d) P) d v) H w wh (fun j => M0 23 (2 * j + 1)) x2) ∧ MA M' M0 P V d ∧ M' 29 = M 29 ∧ ∀ k, k < ca (au (M0 0) d) P → M' 28 k = nI (gz H (ca (au (M0 0) d) P) v k) := by
  subst hx5
  have hb := hT.1
  obtain ⟨M1, k1, k2, k3, k4, k5⟩ := M_lay_in hT hH hd hA hv sy hsy k34 x2 x3 x4 (nI v) (ca (au (M0 0) d) P) 1000 M (Nat.le_refl _) (by omega) hM (fun k q1 q2 => by omega) (fun p q1 q2 q3 => by have := ca_in q1 q2; omega)
  rw [Nat.sub_self, Nat.pow_zero, Nat.div_one] at k1
  have k1' : f_X7_layFetch_55 k34 1000 (nI d) x2 x3 x4 (nI v) (nI v) 0 (nI (ca (au (M0 0) d) P) - 1) M = f_X7_layFetch_141 k34 (nI d) x2 x3 x4 (nI v) (nI (md H (ca (au (M0 0) d) P) v sy (ca (au (M0 0) d) P))) M1 := k1
  obtain ⟨M2, n1, n2, n3⟩ := M_ln_l (A := ca (au (M0 0) d) P) (d := d) (v := v) (M0 := M0) hT hH H 0 1000 M1 (by omega) (by omega) k2.2.2.2 k5 (fun j hj => by omega)
  have n1' : f_X7_layNumbers (nI d) M1 = some M2 := n1
  have hMA2 : MA M2 M0 P V d := k2.cg (n2 26 (by omega) (by omega)) (n2 25 (by omega) (by omega)) (fun p _ _ => by rw [n2 27 (by omega) (by omega)]) (fun k hk => n2 k (by omega) (by omega))
  have hF2 := hMA2.2.2.2
  obtain ⟨x, a1, a2, a3⟩ := M_aw_l (M := M2) (v := nf (M0 0) P V H (ca (au (M0 0) d) P) d v) (H := H) (w := w) (wh := wh) (x1 := x2) hb.1 hb.2.1 (by rw [hF2 1 (by omega)]; exact hH) (by rw [hF2 24 (by omega)]; exact m24) hw (fun j hj => by rw [hF2 23 (by omega)]; exact hs j hj) n3 w 0 1000 1 (by omega) (by omega) (Or.inr rfl) ⟨fun _ j hj => by omega, fun _ => rfl⟩
  have a1' : f_X7_isAsWanted x2 M2 = some x := a1
  refine ⟨x, M2, ?_, a2, ?_, hMA2, ?_, fun k hk => ?_⟩
  · rw [hM.1, k1']
    unfold f_X7_layFetch_141
    rw [n1', bd_s, a1', bd_s]
  · rw [a3, hF2 23 (by omega)]
  · rw [n2 29 (by omega) (by omega), k3 29 (by omega) (by omega)]
  · rw [n2 28 (by omega) (by omega)]
    exact k4 k hk
theorem ft_stop {T M0 : St} {H P V B d w W : Nat} {wh : Nat → Nat} {x2 : Int32} (hT : RT T (M0 0) H P V B) (hH : M0 1 0 = nI H) (hd : d < 36000) (hA : ca (au (M0 0) d) P ≤ 4) (hW : W < 5000) (sy : Nat → Int32) (hsy : ∀ p, p < P → au (M0 0) d p = true → sy (ca (au (M0 0) d) p) = hmv (M0 0) p (nI d) V) (m24 : M0 24 0 = nI w) (hw : w ≤ 4) (hs : ∀ j, j < w → M0 23 (2 * j) = nI (wh j) ∧ wh j < H) : ∀ (r v m : Nat) (M : St), v + r = W → r < m → MA M M0 P V d → ∃ M' : St, f_X7_layFetch_34 m (nI d) x2 (nI W) 0 (nI v) M = some (0, M') ∧ MA M' M0 P V d ∧ M' 29 = M 29 := by
  intro r
  induction r with
  | zero =>
    intro v m M h1 h2 hM
    obtain ⟨m, rfl⟩ : ∃ z, m = z + 1 := ⟨m - 1, by omega⟩
    obtain rfl : v = W := by omega
    exact ⟨M, by rw [f_X7_layFetch_34_s, if_pos (nI_le (Nat.le_refl _) (by omega))], hM, rfl⟩
  | succ r ih =>
    intro v m M h1 h2 hM
    obtain ⟨m, rfl⟩ : ∃ z, m = z + 1 := ⟨m - 1, by omega⟩
    obtain ⟨x, M1, k1, k2, k3, k4, k5, k6⟩ := M_way (v := v) (wh := wh) (x2 := x2) hT hH hd hA (by omega) sy hsy m24 hw hs hM (f_X7_layFetch_34 m) (nI W) 0 (nI v) rfl
    have z4 : ¬ (0 : Int32) = -4 := by decide
    have z5 : (0 : Int32) ≤ nI (md H (ca (au (M0 0) d) P) v sy (ca (au (M0 0) d) P)) := nI_pos' (by have := md_b (H := H) (A := ca (au (M0 0) d) P) (v := v) (sy := sy) (ca (au (M0 0) d) P); omega)
    rw [f_X7_layFetch_34_s, if_neg (nI_ge (by omega) (by omega)), k1, if_neg z4, if_pos z5]
    obtain ⟨M', n1, n2, n3⟩ := ih (v + 1) m M1 (by omega) (by omega) k4
    have e : f_X7_layFetch_204 (f_X7_layFetch_34 m) (nI d) x2 (nI W) 0 (nI v) M1 = some (0, M') := by
      unfold f_X7_layFetch_204
      rw [p1]
      exact n1
    refine ⟨M', ?_, n2, n3.trans k5⟩
    rw [e]
    split <;> rfl
theorem GA.cg {S S2 S0 : St} {g : Nat → Int32} {V d k : Nat} {Q : Nat → Q4} (h : GA S S0 g V d k Q) (hS : ∀ j, (j < 4 ∨ (8 ≤ j ∧ j < 12) ∨ 16 ≤ j) → S2 j = S j) : GA S2 S0 g V d k Q := by
  obtain ⟨a, b, c, e⟩ := h
  refine ⟨by rw [hS 0 (by omega)]; exact a, fun p hp q => by rw [hS 1 (by omega), hS 2 (by omega), hS 3 (by omega)]; exact b p hp q, fun h hh => ?_, fun j hj => by rw [hS j (by omega)]; exact e j hj⟩
  rw [← c h hh]
  unfold t4 sb
  rw [hS (8 + 0) (by omega), hS (8 + 1) (by omega), hS (8 + 2) (by omega), hS (8 + 3) (by omega)]
theorem ft_loop {S0 M0 : St} {H P V B d w W : Nat} {wh : Nat → Nat} {x2 : Int32} {Q : Nat → Q4} (hT : RT (sb 16 S0) (M0 0) H P V B) (hH : M0 1 0 = nI H) (hd : d < 36000) (hA : ca (au (M0 0) d) P ≤ 4) (hW : W < 5000) (hQ : ∀ h, eqv (Q h) (0, 0, 0, 0)) (m24 : M0 24 0 = nI w) (s52 : S0 52 0 = nI w) (hw : w ≤ 4) (hs : ∀ j, j < w → M0 23 (2 * j) = nI (wh j) ∧ wh j < H) (hs2 : ∀ j, j < w → S0 49 j = nI (wh j) ∧ wh j < 8 ∧ S0 51 j = M0 23 (2 * j + 1)) : ∀ (r v n m : Nat) (fw : Int32) (S M : St), v + r = W → r < n → r < m → GA S S0 (M0 0) V d P Q → MA M M0 P V d → (fw = -4 ∨ ((∃ f, f ≤ 4 ∧ fw = nI f) ∧ ∀ k, k < ca (au (M0 0) d) P → S 5 k = M 29 k)) → ∃ (fw' : Int32) (S' M' : St), f_X0_fewest_43 4 n x2 (nI W) fw (nI v) S = some (fw', S') ∧ f_X7_layFetch_34 m (nI d) x2 (nI W) fw (nI v) M = some (fw', M') ∧ GA S' S0 (M0 0) V d P Q ∧ MA M' M0 P V d ∧ (fw' = -4 ∨ ((∃ f, f ≤ 4 ∧ fw' = nI f) ∧ ∀ k, k < ca (au (M0 0) d) P → S' 5 k = M' 29 k)) := by
  have hb := hT.1
  intro r
  induction r with
  | zero =>
    intro v n m fw S M h1 h2 h3 hS hM hf
    obtain ⟨n, rfl⟩ : ∃ z, n = z + 1 := ⟨n - 1, by omega⟩
    obtain ⟨m, rfl⟩ : ∃ z, m = z + 1 := ⟨m - 1, by omega⟩
    obtain rfl : v = W := by omega
    exact ⟨fw, S, M, by rw [f_X0_fewest_43_s, if_pos (nI_le (Nat.le_refl _) (by omega))], by rw [f_X7_layFetch_34_s, if_pos (nI_le (Nat.le_refl _) (by omega))], hS, hM, hf⟩
  | succ r ih =>
    intro v n m fw S M h1 h2 h3 hS hM hf
    obtain ⟨n, rfl⟩ : ∃ z, n = z + 1 := ⟨n - 1, by omega⟩
    have hsy : ∀ p, p < P → au (M0 0) d p = true → S 2 (ca (au (M0 0) d) p) = hmv (M0 0) p (nI d) V := fun p hp q => (hS.2.1 p hp q).2.1
    rw [f_X0_fewest_43_s, if_neg (nI_ge (by omega) (by omega))]
    by_cases c0 : fw = 0
    · rw [if_pos c0]
      obtain ⟨M', n1, n2, n3⟩ := ft_stop (wh := wh) (x2 := x2) hT hH hd hA hW (S 2) hsy m24 hw hs (r + 1) v m M h1 h3 hM
      refine ⟨fw, S, M', rfl, by rw [c0]; exact n1, hS, n2, ?_⟩
      rcases hf with hf | ⟨hf, hf2⟩
      · exact Or.inl hf
      · exact Or.inr ⟨hf, fun k hk => by rw [n3]; exact hf2 k hk⟩
    obtain ⟨m, rfl⟩ : ∃ z, m = z + 1 := ⟨m - 1, by omega⟩
    rw [if_neg c0, sb0]
    have s16 : S 16 0 = nI H := by
      rw [hS.2.2.2 16 (by omega)]
      exact hT.2.1.1
    have mb := md_b (H := H) (A := ca (au (M0 0) d) P) (v := v) (sy := S 2) (ca (au (M0 0) d) P)
    obtain ⟨S1, a1, a2, a3⟩ := C_send_l (H := H) (A := ca (au (M0 0) d) P) (v := v) hb.1 hb.2.1 hA (by omega) (ca (au (M0 0) d) P) 1000 S (Nat.le_refl _) (by omega) (fun k q1 q2 => by omega)
    rw [Nat.sub_self, Nat.pow_zero, Nat.div_one] at a1
    have a1' : f_X0_send (nI v) (nI H) S = some (nI (md H (ca (au (M0 0) d) P) v (S 2) (ca (au (M0 0) d) P)), S1) := by
      unfold f_X0_send
      rw [hS.1]
      exact a1
    have e1 : ∀ k, k ≠ 4 → pt 0 16 S1 S k = S k := by
      intro k hk
      by_cases c : k < 16
      · rw [pt_in (by omega) (by omega)]
        exact a2 k hk
      · rw [pt_out (by omega)]
    have e4 : pt 0 16 S1 S 4 = S1 4 := rfl
    have hS1 : GA (pt 0 16 S1 S) S0 (M0 0) V d P Q := hS.cg (fun j hj => e1 j (by omega))
    obtain ⟨x, M1, k1, k2, k3, k4, k5, k6⟩ := M_way (v := v) (wh := wh) (x2 := x2) hT hH hd hA (by omega) (S 2) hsy m24 hw hs hM (f_X7_layFetch_34 m) (nI W) fw (nI v) rfl
    rw [s16, a1', bd_s, f_X7_layFetch_34_s, if_neg (nI_ge (by omega) (by omega)), k1]
    generalize hmd : nI (md H (ca (au (M0 0) d) P) v (S 2) (ca (au (M0 0) d) P)) = mv at *
    have hmv' : ∃ f, f ≤ 4 ∧ mv = nI f := ⟨_, by omega, hmd.symm⟩
    -- nobody goes otherwise
    have stay : ∀ S2 : St, GA S2 S0 (M0 0) V d P Q → S2 5 = S 5 → ∃ (fw' : Int32) (S' M' : St), f_X0_fewest_110 4 (f_X0_fewest_43 4 n) x2 (nI W) fw (nI v) S2 = some (fw', S') ∧ f_X7_layFetch_204 (f_X7_layFetch_34 m) (nI d) x2 (nI W) fw (nI v) M1 = some (fw', M') ∧ GA S' S0 (M0 0) V d P Q ∧ MA M' M0 P V d ∧ (fw' = -4 ∨ ((∃ f, f ≤ 4 ∧ fw' = nI f) ∧ ∀ k, k < ca (au (M0 0) d) P → S' 5 k = M' 29 k)) := by
      intro S2 q1 q2
      unfold f_X0_fewest_110 f_X7_layFetch_204
      rw [p1]
      refine ih (v + 1) n m fw S2 M1 (by omega) (by omega) (by omega) q1 k4 ?_
      rw [q2, k5]
      exact hf
    obtain ⟨y, S2, b1, b2, b3, b4⟩ := C_isSo (x3 := x2) (wn := fun j => M0 23 (2 * j + 1)) hT hd hA hS1 hQ s52 hw hs2 (fun a ha => by rw [e4]; exact a3 a ha)
    have exy : y = x := by
      rcases b2 with b2 | b2 <;> rcases k2 with k2 | k2
      · rw [b2, k2]
      · have := b3.mpr (k3.mp k2)
        rw [b2] at this
        exact absurd this (by decide)
      · have := k3.mpr (b3.mp b2)
        rw [k2] at this
        exact absurd this (by decide)
      · rw [b2, k2]
    have hS2 : GA S2 S0 (M0 0) V d P Q := hS1.cg (fun j hj => b4 j (by omega))
    have s25 : S2 5 = S 5 := by rw [b4 5 (by omega), e1 5 (by omega)]
    have s24 : S2 4 = S1 4 := by rw [b4 4 (by omega), e4]
    have go : x = 1 → ∃ (fw' : Int32) (S' M' : St), f_X0_fewest_110 4 (f_X0_fewest_43 4 n) x2 (nI W) mv (nI v) (st 5 (va_cpy (S2 4) (S2 5) (Int32.toNatClampNeg (0 : Int32)) (Int32.toNatClampNeg (0 : Int32)) (Int32.toNatClampNeg (4 : Int32))) S2) = some (fw', S') ∧ f_X7_layFetch_168 (f_X7_layFetch_34 m) (nI d) x2 (nI W) (nI v) mv M1 = some (fw', M') ∧ GA S' S0 (M0 0) V d P Q ∧ MA M' M0 P V d ∧ (fw' = -4 ∨ ((∃ f, f ≤ 4 ∧ fw' = nI f) ∧ ∀ k, k < ca (au (M0 0) d) P → S' 5 k = M' 29 k)) := by
      intro _
      obtain ⟨M2, d1, d2, d3⟩ := M_best_l hA (f_X7_layFetch_34 m) (nI d) x2 (nI W) mv (nI v) (ca (au (M0 0) d) P) 0 1000 M1 (by omega) (by omega) k4.1 (fun j hj => by omega)
      have d1' : f_X7_layFetch_175 (f_X7_layFetch_34 m) 1000 (nI d) x2 (nI W) mv (nI v) 0 M1 = f_X7_layFetch_204 (f_X7_layFetch_34 m) (nI d) x2 (nI W) mv (nI v) M2 := d1
      unfold f_X7_layFetch_168
      rw [d1']
      unfold f_X0_fewest_110 f_X7_layFetch_204
      rw [p1]
      refine ih (v + 1) n m mv _ M2 (by omega) (by omega) (by omega) (hS2.cg (fun j hj => st_ne (by omega))) (k4.cg (d2 26 (by omega)) (d2 25 (by omega)) (fun p _ _ => by rw [d2 27 (by omega)]) (fun k hk => d2 k (by omega))) (Or.inr ⟨hmv', fun k hk => ?_⟩)
      rw [st_eq, t4c, cpy_in (show k < 4 by omega), d3 k hk, s24, a3 k hk, k6 k hk]
    have s81 : ∃ (fw' : Int32) (S' M' : St), f_X0_fewest_81 4 (f_X0_fewest_43 4 n) x2 (nI W) fw (nI v) mv (pt 0 16 S1 S) = some (fw', S') ∧ (if x = 0 then f_X7_layFetch_204 (f_X7_layFetch_34 m) (nI d) x2 (nI W) fw (nI v) M1 else f_X7_layFetch_168 (f_X7_layFetch_34 m) (nI d) x2 (nI W) (nI v) mv M1) = some (fw', M') ∧ GA S' S0 (M0 0) V d P Q ∧ MA M' M0 P V d ∧ (fw' = -4 ∨ ((∃ f, f ≤ 4 ∧ fw' = nI f) ∧ ∀ k, k < ca (au (M0 0) d) P → S' 5 k = M' 29 k)) := by
      unfold f_X0_fewest_81
      rw [b1, bd_s, exy]
      by_cases z : x = 0
      · rw [if_pos z, if_pos z]
        exact stay S2 hS2 s25
      · rw [if_neg z, if_neg z]
        exact go (k2.resolve_left z)
    by_cases c4 : fw = -4
    · rw [if_pos c4, if_pos c4]
      exact s81
    · rw [if_neg c4, if_neg c4]
      by_cases c5 : fw ≤ mv
      · rw [if_pos c5, if_pos c5]
        obtain ⟨fw', S', M', q1, q2, q3⟩ := stay (pt 0 16 S1 S) hS1 (e1 5 (by omega))
        refine ⟨fw', S', M', q1, ?_, q3⟩
        rw [q2]
        split <;> rfl
      · rw [if_neg c5, if_neg c5]
        exact s81
theorem pw_b {H A : Nat} (hH : H ≤ 8) (hA : A ≤ 4) : H ^ A ≤ 4096 := Nat.le_trans (Nat.pow_le_pow_left hH A) (Nat.le_trans (Nat.pow_le_pow_right (by decide) hA) (by decide))
theorem C_pw_l {S : St} {H A : Nat} (hH : H ≤ 8) (hA : A ≤ 4) (s0 : S 0 0 = nI A) (s16 : S 16 0 = nI H) (x4 : Int32) : ∀ (r k n : Nat), k + r = A → r < n → f_X0_fewest_12 4 n x4 (nI (H ^ k)) (nI k) S = f_X0_fewest_36 4 x4 (nI (H ^ A)) S := by
  intro r
  induction r with
  | zero =>
    intro k n h1 h2
    obtain ⟨n, rfl⟩ : ∃ z, n = z + 1 := ⟨n - 1, by omega⟩
    obtain rfl : k = A := by omega
    rw [f_X0_fewest_12_s, s0, if_pos (nI_le (Nat.le_refl _) (by omega))]
  | succ r ih =>
    intro k n h1 h2
    obtain ⟨n, rfl⟩ : ∃ z, n = z + 1 := ⟨n - 1, by omega⟩
    rw [f_X0_fewest_12_s, s0, if_neg (nI_ge (by omega) (by omega)), s16, nI_mul, ← Nat.pow_succ, p1]
    exact ih (k + 1) n (by omega) (by omega)
theorem M_pw_l {M : St} {H A : Nat} (hH : H ≤ 8) (hA : A ≤ 4) (m26 : M 26 0 = nI A) (m1 : M 1 0 = nI H) (x1 x2 x4 : Int32) : ∀ (r k n : Nat), k + r = A → r < n → f_X7_layFetch_9 n x1 x2 (nI (H ^ k)) x4 (nI k) M = f_X7_layFetch_31 x1 x2 (nI (H ^ A)) x4 M := by
  intro r
  induction r with
  | zero =>
    intro k n h1 h2
    obtain ⟨n, rfl⟩ : ∃ z, n = z + 1 := ⟨n - 1, by omega⟩
    obtain rfl : k = A := by omega
    rw [f_X7_layFetch_9_s, m26, if_pos (nI_le (Nat.le_refl _) (by omega))]
  | succ r ih =>
    intro k n h1 h2
    obtain ⟨n, rfl⟩ : ∃ z, n = z + 1 := ⟨n - 1, by omega⟩
    rw [f_X7_layFetch_9_s, m26, if_neg (nI_ge (by omega) (by omega)), m1, nI_mul, ← Nat.pow_succ, p1]
    exact ih (k + 1) n (by omega) (by omega)
theorem C_hf_l {S S0 : St} {g : Nat → Int32} {V d P p : Nat} {Q : Nat → Q4} (hS : GA S S0 g V d P Q) (hA : ca (au g d) P ≤ 4) (hP : P ≤ 10) (hp : p < P) (ha : au g d p = true) : ∀ (r a n : Nat), a + r = ca (au g d) p → r < n → f_X0_houseFor_2 n (nI p) (nI a) S = some (S 5 (ca (au g d) p)) := by
  have ci := ca_in hp ha
  intro r
  induction r with
  | zero =>
    intro a n h1 h2
    obtain ⟨n, rfl⟩ : ∃ z, n = z + 1 := ⟨n - 1, by omega⟩
    have e := (hS.2.1 p hp ha).1
    obtain rfl : a = ca (au g d) p := by omega
    rw [f_X0_houseFor_2_s, hS.1, if_neg (nI_ge (by omega) (by omega)), ix_in (by omega) (by omega), tN_nI (by omega), if_pos e]
    unfold f_X0_houseFor_20
    rw [ix_in (by omega) (by omega), tN_nI (by omega)]
  | succ r ih =>
    intro a n h1 h2
    obtain ⟨n, rfl⟩ : ∃ z, n = z + 1 := ⟨n - 1, by omega⟩
    obtain ⟨p', q1, q2, q3⟩ := ca_surj P a (show a < ca (au g d) P by omega)
    have e := (hS.2.1 p' q1 q2).1
    rw [q3] at e
    rw [f_X0_houseFor_2_s, hS.1, if_neg (nI_ge (by omega) (by omega)), ix_in (by omega) (by omega), tN_nI (by omega), e, if_neg, p1]
    · exact ih (a + 1) n (by omega) (by omega)
    · intro z
      have := (nI_eq (by omega) (by omega)).mp z
      subst this
      omega
/-- who is asked about among the first k -/
def WH (g : Nat → Int32) (d : Nat) (x3 : Int32) (k : Nat) (x4 : Int32) : Prop := (∃ p, p < k ∧ au g d p = true ∧ x3 = nI (10 + p) ∧ x4 = nI (ca (au g d) p)) ∨ (x4 = -4 ∧ ∀ p, p < k → au g d p = true → ¬ x3 = nI (10 + p))
theorem M_ga_l {T M0 : St} {H P V B d : Nat} (hT : RT T (M0 0) H P V B) (hd : d < 36000) (x2 x3 : Int32) : ∀ (r k n : Nat) (x4 : Int32) (M : St), k + r = P → r < n → M 26 0 = nI (ca (au (M0 0) d) k) → (∀ p, p < k → au (M0 0) d p = true → M 25 (ca (au (M0 0) d) p) = nI p) → (∀ p, p < k → au (M0 0) d p = false → M 27 p = if alv (M0 0) p (nI d) = true then hmv (M0 0) p (nI d) V else -4) → FX M0 M → WH (M0 0) d x3 k x4 → ∃ (x4' : Int32) (M' : St), f_X7_fetch_44 n (nI d) x2 x3 x4 (nI k) M = f_X7_fetch_153 (nI d) x2 x3 x4' M' ∧ MA M' M0 P V d ∧ WH (M0 0) d x3 P x4' := by
  have hb := hT.1
  obtain ⟨t0, t2, g88, t7, g89, t11, g90, -⟩ := id hT.2.1
  intro r
  induction r with
  | zero =>
    intro k n x4 M h1 h2 m26 m25 m27 hF hW
    obtain ⟨n, rfl⟩ : ∃ z, n = z + 1 := ⟨n - 1, by omega⟩
    obtain rfl : k = P := by omega
    have e0 : M 0 = M0 0 := hF 0 (by omega)
    exact ⟨x4, M, by rw [f_X7_fetch_44_s, M_people (P := k) (by rw [e0]; exact g88), bd_s, if_pos (nI_le (Nat.le_refl _) (by omega))], ⟨m26, m25, m27, hF⟩, hW⟩
  | succ r ih =>
    intro k n x4 M h1 h2 m26 m25 m27 hF hW
    obtain ⟨n, rfl⟩ : ∃ z, n = z + 1 := ⟨n - 1, by omega⟩
    have e0 : M 0 = M0 0 := hF 0 (by omega)
    have cb := ca_bd (a := au (M0 0) d) k
    have hAl : f_X7_isAlive 0 (nI k) (nI d) M = _ := M_alive M 0 k (nI d) (by omega)
    rw [pg0, e0] at hAl
    have hHm : f_X7_homeOf 0 (nI k) (nI d) M = _ := M_home M 0 k V (nI d) (by rw [e0]; simpa using g89) (by omega) (by omega) (by omega)
    rw [pg0, e0] at hHm
    rw [f_X7_fetch_44_s, M_people (P := P) (by rw [e0]; exact g88), bd_s, if_neg (nI_ge (by omega) (by omega)), hAl]
    have f27 : ∀ y M1, (M1 = st 27 (upd (M 27) k y) M) → (au (M0 0) d k = false → y = if alv (M0 0) k (nI d) = true then hmv (M0 0) k (nI d) V else -4) → ∀ p, p < k + 1 → au (M0 0) d p = false → M1 27 p = if alv (M0 0) p (nI d) = true then hmv (M0 0) p (nI d) V else -4 := by
      intro y M1 hM1 hy' p hp ha
      rw [hM1, st_eq]
      by_cases z : p = k
      · subst z
        rw [upd_eq]
        exact hy' ha
      · rw [upd_ne z]
        exact m27 p (by omega) ha
    have no : ∀ y, au (M0 0) d k = false → (y = if alv (M0 0) k (nI d) = true then hmv (M0 0) k (nI d) V else -4) → ∃ (x4' : Int32) (M' : St), f_X7_fetch_147 (f_X7_fetch_44 n) (nI d) x2 x3 x4 (nI k) (st 27 (upd (M 27) k y) M) = f_X7_fetch_153 (nI d) x2 x3 x4' M' ∧ MA M' M0 P V d ∧ WH (M0 0) d x3 P x4' := by
      intro y a hy'
      unfold f_X7_fetch_147
      rw [p1]
      refine ih (k + 1) n x4 _ (by omega) (by omega) ?_ (fun p hp ha => ?_) (f27 y _ rfl (fun _ => hy')) (hF.tr (fun j hj => st_ne (by omega))) ?_
      · rw [st_ne (by omega), ca_s, if_neg (by rw [a]; decide)]
        exact m26
      · rw [st_ne (by omega)]
        by_cases z : p = k
        · rw [z, a] at ha
          exact Bool.noConfusion ha
        · exact m25 p (by omega) ha
      · rcases hW with ⟨p, q1, q2⟩ | ⟨q1, q2⟩
        · exact Or.inl ⟨p, by omega, q2⟩
        · refine Or.inr ⟨q1, fun p hp ha => ?_⟩
          by_cases z : p = k
          · rw [z, a] at ha
            exact Bool.noConfusion ha
          · exact q2 p (by omega) ha
    rcases tf (alv (M0 0) k (nI d)) with al | al
    · rw [if_pos al, bd_s, if_neg (show ¬ (1 : Int32) = 0 by decide), hHm, bd_s]
      unfold f_X7_fetch_87
      rw [ix_in (by omega) (by omega), if_neg (show ¬ (1 : Int32) = 0 by decide), m4, ix_in (by omega) (by omega), tN_nI (by omega), tN_nI (by omega), e0]
      by_cases c : M0 0 (4 * k) = 1
      · have a : au (M0 0) d k = true := au_i.mpr ⟨al, c⟩
        have s26 : ∀ f, st 27 f M 26 = M 26 := fun f => st_ne (by omega)
        have s25 : ∀ f, st 27 f M 25 = M 25 := fun f => st_ne (by omega)
        have i10' : (10 : Int32) + nI k = nI (10 + k) := nI_add 10 k
        have fin : ∀ y4, WH (M0 0) d x3 (k + 1) y4 → ∃ (x4' : Int32) (M' : St), f_X7_fetch_124 (f_X7_fetch_44 n) (nI d) x2 x3 (nI k) y4 (st 27 (upd (M 27) k (hmv (M0 0) k (nI d) V)) M) = f_X7_fetch_153 (nI d) x2 x3 x4' M' ∧ MA M' M0 P V d ∧ WH (M0 0) d x3 P x4' := by
          intro y4 hy4
          unfold f_X7_fetch_124 f_X7_fetch_147
          rw [s26, s25, m26, ix_in (by omega) (by omega), tN_nI (by omega), p1, p1]
          refine ih (k + 1) n y4 _ (by omega) (by omega) ?_ (fun p hp ha => ?_) (fun p hp ha => ?_) (hF.tr (fun j hj => by rw [st_ne (by omega), st_ne (by omega), st_ne (by omega)])) hy4
          · rw [st_eq, ca_s, if_pos a]
          · rw [st_ne (by omega), st_eq]
            by_cases z : p = k
            · rw [z, upd_eq]
            · rw [upd_ne]
              · exact m25 p (by omega) ha
              · intro y
                exact z (ca_inj ha a y)
          · rw [st_ne (by omega), st_ne (by omega)]
            exact f27 _ _ rfl (fun z => by rw [a] at z; exact Bool.noConfusion z) p hp ha
        rw [if_pos c, i10', m26]
        by_cases w : x3 = nI (10 + k)
        · rw [if_pos w]
          exact fin _ (Or.inl ⟨k, by omega, a, w, rfl⟩)
        · rw [if_neg w]
          refine fin x4 ?_
          rcases hW with ⟨p, q1, q2⟩ | ⟨q1, q2⟩
          · exact Or.inl ⟨p, by omega, q2⟩
          · refine Or.inr ⟨q1, fun p hp ha => ?_⟩
            by_cases z : p = k
            · rw [z]
              exact w
            · exact q2 p (by omega) ha
      · have a : au (M0 0) d k = false := Bool.eq_false_iff.mpr (fun z => c (au_i.mp z).2)
        rw [if_neg c]
        exact no _ a (by rw [if_pos al])
    · have a : au (M0 0) d k = false := Bool.eq_false_iff.mpr (fun z => by rw [au_i, al] at z; exact Bool.noConfusion z.1)
      rw [if_neg (show ¬ alv (M0 0) k (nI d) = true by rw [al]; decide), bd_s, if_pos rfl]
      unfold f_X7_fetch_87
      rw [ix_in (by omega) (by omega), if_pos rfl, tN_nI (by omega)]
      exact no _ a (by rw [if_neg (by rw [al]; decide)])
theorem in10 (x : Int32) {P : Nat} (hP : P ≤ 10) : f_X7_in (Int32.toInt64 x) 10 (Int32.toInt64 ((9 : Int32) + nI P)) = some (if vd P (x - 10) = true then 1 else 0) := by
  rw [M_in0]
  have e9 : (9 : Int32) + nI P = nI (9 + P) := nI_add 9 P
  have e : (Int32.toInt64 x).toInt = x.toInt := Int32.toInt_toInt64 x
  have e1 : (10 : Int64).toInt = 10 := by decide
  have e2 : (Int32.toInt64 (nI (9 + P))).toInt = ((9 + P : Nat) : Int) := by rw [Int32.toInt_toInt64, nI_toInt (by omega)]
  have f10 : (10 : Int32).toInt = 10 := by decide
  have k : (10 ≤ Int32.toInt64 x ∧ Int32.toInt64 x ≤ Int32.toInt64 ((9 : Int32) + nI P)) ↔ vd P (x - 10) = true := by
    rw [Int64.le_iff_toInt_le, Int64.le_iff_toInt_le, e9, e, e1, e2]
    constructor
    · intro q
      obtain ⟨j, hj, rfl⟩ := nI_of (x := x) (fun z => by rw [lt0] at z; omega)
      rw [nI_toInt hj] at q
      rw [i10, nI_sub (by omega)]
      exact vd_nI (by omega) (by omega)
    · intro q
      obtain ⟨j, hj, ej⟩ := vd_t q
      have ex : x = nI (j + 10) := by
        rw [← nI_add, ← ej]
        exact (Int32.sub_add_cancel x 10).symm
      rw [ex, nI_toInt (by omega)]
      omega
  simp only [k]
theorem op_fetch : Op_fetch Rel := by
  intro x1 x2 x3 G M hx2 hR
  obtain ⟨H, hH, ⟨P, V, B, hT⟩, -, -, ⟨w0, w, hw, hw2, hw3, hw4⟩, -⟩ := id hR
  have hb := hT.1
  obtain ⟨t0, t2, g88, t7, g89, t11, g90, -⟩ := id hT.2.1
  unfold f_X6_fetch f_X7_fetch
  rw [C_isDay, M_isDay, sb0]
  rcases tf (vd 36000 x1) with v1 | v1
  · rw [vb_t v1, vb_t v1]
    obtain ⟨d, hd, rfl⟩ := vd_t v1
    -- behind the first tests
    have main : (x3 = 0 ∨ ∃ p, p < P ∧ x3 = nI (10 + p) ∧ au (M 0) d p = true) → ∃ (r : Int32) (G' M' : St), f_X6_fetch_32 (nI d) x2 x3 (x3 - 10) G = some (r, G') ∧ f_X7_fetch_32 (nI d) x2 x3 M = some (r, M') ∧ Rel G' M' := by
      intro hx3
      unfold f_X6_fetch_32 f_X7_fetch_32
      have hF26 : FX M (st 26 (fun _ => (0 : Int32)) M) := fun j hj => st_ne (by omega)
      obtain ⟨x4, M1, n1, n2, n3⟩ := M_ga_l (M0 := M) hT hd x2 x3 P 0 1000 (-4) (st 26 (fun _ => (0 : Int32)) M) (by omega) (by omega) rfl (fun p hp => by omega) (fun p hp => by omega) hF26 (Or.inr ⟨rfl, fun p hp => by omega⟩)
      have n1' : f_X7_fetch_44 1000 (nI d) x2 x3 (-4) 0 (st 26 (fun _ => (0 : Int32)) M) = f_X7_fetch_153 (nI d) x2 x3 x4 M1 := n1
      have e153 : f_X7_fetch_153 (nI d) x2 x3 x4 M1 = f_X7_fetch_166 (nI d) x2 x3 x4 M1 := by
        unfold f_X7_fetch_153
        by_cases c : x3 = 0
        · rw [if_pos c]
        · rw [if_neg c]
          rcases n3 with ⟨p, q1, q2, q3, q4⟩ | ⟨q1, q2⟩
          · rw [if_neg (i4ne q4 (by have := ca_bd (a := au (M 0) d) p; omega))]
          · rcases hx3 with hx3 | ⟨p, q3, q4, q5⟩
            · exact absurd hx3 c
            · exact absurd q4 (q2 p q3 q5)
      rw [sb0, C_aunts hT hd, bd_s, n1', e153]
      unfold f_X7_fetch_166 f_X7_fetch_196
      rw [n2.1]
      have cb := ca_bd (a := au (M 0) d) P
      by_cases hA : ca (au (M 0) d) P ≤ 4
      · have z4 : nI (ca (au (M 0) d) P) ≤ (4 : Int32) := nI_le (b := 4) hA (by omega)
        rw [if_pos z4, if_pos z4]
        generalize hS0 : jn 16 (sb 160 G) (jn 32 G (sb 144 G)) = S0
        have s16 : ∀ k, k < 32 → S0 (16 + k) = G k := by
          intro k hk
          rw [← hS0, jn_hi (by omega), jn_lo (by omega)]
          exact congrArg G (by omega)
        have s48 : ∀ k, S0 (48 + k) = G (144 + k) := by
          intro k
          rw [← hS0, jn_hi (by omega), jn_hi (by omega)]
          exact congrArg (fun z => G (144 + z)) (by omega)
        have hTS : RT (sb 16 S0) (M 0) H P V B := hT.cg (fun k hk => s16 k (by omega)) (fun _ _ => rfl)
        obtain ⟨S1, Q, q1, q2, q3⟩ := C_gather hTS hd hA
        have e1 : pt 16 32 (sb 16 S1) (pt 0 16 S1 S0) = S1 := by
          funext k
          by_cases c : 16 ≤ k ∧ k < 48
          · rw [pt_in (by omega) (by omega)]
            show S1 (16 + (k - 16)) = S1 k
            exact congrArg S1 (by omega)
          · rw [pt_out (by omega)]
            by_cases c2 : k < 16
            · rw [pt_in (by omega) (by omega)]
              rfl
            · rw [pt_out (by omega)]
              exact (q2.2.2.2 k (by omega)).symm
        have W5 := pw_b (H := H) (A := ca (au (M 0) d) P) hb.2.1 hA
        have s16' : S1 16 0 = nI H := by
          rw [q2.2.2.2 16 (by omega)]
          exact hTS.2.1.1
        have cp := C_pw_l (S := S1) hb.2.1 hA q2.1 s16' x2 (ca (au (M 0) d) P) 0 1000 (by omega) (by omega)
        rw [Nat.pow_zero] at cp
        have cp' : f_X0_fewest_12 4 1000 x2 1 0 S1 = f_X0_fewest_36 4 x2 (nI (H ^ ca (au (M 0) d) P)) S1 := cp
        have hF1 := n2.2.2.2
        have mp := M_pw_l (M := M1) hb.2.1 hA n2.1 (by rw [hF1 1 (by omega)]; exact hH) (nI d) x2 (-4) (ca (au (M 0) d) P) 0 1000 (by omega) (by omega)
        rw [Nat.pow_zero] at mp
        have mp' : f_X7_layFetch_9 1000 (nI d) x2 1 (-4) 0 M1 = f_X7_layFetch_31 (nI d) x2 (nI (H ^ ca (au (M 0) d) P)) (-4) M1 := mp
        have hwh : ∀ j, j < w → M 23 (2 * j) = nI (M 23 (2 * j)).toNatClampNeg ∧ (M 23 (2 * j)).toNatClampNeg < H := by
          intro j hj
          obtain ⟨-, -, ⟨a, ha, ea⟩, -⟩ := hw4 j hj
          rw [ea, tN_nI (by omega)]
          exact ⟨rfl, ha⟩
        obtain ⟨fw, S2, M2, l1, l2, l3, l4, l5⟩ := ft_loop (M0 := M) (S0 := S0) (wh := fun j => (M 23 (2 * j)).toNatClampNeg) (x2 := x2) (W := H ^ ca (au (M 0) d) P) hTS hH hd hA (by omega) q3 hw3 (by rw [s48 4]; exact hw2) hw hwh (fun j hj => by
          rw [s48 1, s48 3]
          have := (hwh j hj).2
          refine ⟨?_, by omega, (hw4 j hj).2.1⟩
          rw [← (hwh j hj).1]
          exact (hw4 j hj).1) (H ^ ca (au (M 0) d) P) 0 40000 40000 (-4) S1 M1 (by omega) (by omega) (by omega) q2 n2 (Or.inl rfl)
        have f1 : f_X0_fewest 4 (nI d) x2 S0 = some (fw, S2) := by
          unfold f_X0_fewest
          rw [jn_sb, q1, bd_s, e1, cp']
          unfold f_X0_fewest_36
          exact l1
        have f2 : f_X7_layFetch (nI d) x2 M1 = some (fw, M2) := by
          unfold f_X7_layFetch
          rw [mp']
          unfold f_X7_layFetch_31
          exact l2
        rw [f1, bd_s, f2, bd_s]
        have hG2 : FG G (pt 144 8 (sb 48 S2) (pt 0 32 (sb 16 S2) (pt 160 16 S2 G))) := by
          intro k hk
          by_cases c : 144 ≤ k ∧ k < 152
          · rw [pt_in (by omega) (by omega)]
            show S2 (48 + (k - 144)) = G k
            rw [l3.2.2.2 _ (by omega), s48]
            exact congrArg G (by omega)
          · rw [pt_out (by omega)]
            by_cases c2 : k < 32
            · rw [pt_in (by omega) (by omega)]
              show S2 (16 + (k - 0)) = G k
              rw [l3.2.2.2 _ (by omega), s16 _ (by omega)]
              rfl
            · rw [pt_out (by omega), pt_out (by omega)]
        have hRel := hR.cg hG2 l4.2.2.2.fm
        dsimp only
        by_cases c4 : fw = -4
        · rw [if_pos c4, if_pos c4]
          exact ⟨_, _, _, rfl, rfl, hRel⟩
        · rw [if_neg c4, if_neg c4]
          by_cases c0 : x3 = 0
          · rw [if_pos c0, if_pos c0]
            exact ⟨_, _, _, rfl, rfl, hRel⟩
          · rw [if_neg c0, if_neg c0]
            obtain ⟨p, p1', p2', p3'⟩ := hx3.resolve_left c0
            have x4e : x4 = nI (ca (au (M 0) d) p) := by
              rcases n3 with ⟨p', y1, y2, y3, y4⟩ | ⟨y1, y2⟩
              · have := (nI_eq (by omega) (by omega)).mp (p2'.symm.trans y3)
                have hpp : p' = p := by omega
                rw [y4, hpp]
              · exact absurd p2' (y2 p p1' p3')
            have ci := ca_in p1' p3'
            have hl5 := (l5.resolve_left c4).2 _ ci
            have xm : x3 - 10 = nI p := by
              rw [p2', i10, nI_sub (by omega)]
              exact congrArg nI (by omega)
            have sS : sb 160 (pt 144 8 (sb 48 S2) (pt 0 32 (sb 16 S2) (pt 160 16 S2 G))) = sb 160 (pt 160 16 S2 G) := by
              funext k
              show pt 144 8 (sb 48 S2) (pt 0 32 (sb 16 S2) (pt 160 16 S2 G)) (160 + k) = pt 160 16 S2 G (160 + k)
              rw [pt_out (by omega), pt_out (by omega)]
            have s3 : ∀ k, k < 16 → sb 160 (pt 160 16 S2 G) k = S2 k := by
              intro k hk
              rw [sbpt hk]
            have hf : f_X0_houseFor (nI p) (sb 160 (pt 160 16 S2 G)) = some (S2 5 (ca (au (M 0) d) p)) := by
              have hGA : GA (sb 160 (pt 160 16 S2 G)) (sb 160 (pt 160 16 S2 G)) (M 0) V d P Q := by
                obtain ⟨a, b, c, e⟩ := l3
                refine ⟨by rw [s3 0 (by omega)]; exact a, fun p hp q => by rw [s3 1 (by omega), s3 2 (by omega), s3 3 (by omega)]; exact b p hp q, fun h hh => ?_, fun _ _ => rfl⟩
                rw [← c h hh]
                show (sb 160 (pt 160 16 S2 G) (8 + 0) h, sb 160 (pt 160 16 S2 G) (8 + 1) h, sb 160 (pt 160 16 S2 G) (8 + 2) h, sb 160 (pt 160 16 S2 G) (8 + 3) h) = _
                rw [s3 _ (by omega), s3 _ (by omega), s3 _ (by omega), s3 _ (by omega)]
                rfl
              have k := C_hf_l hGA hA (by omega) p1' p3' (ca (au (M 0) d) p) 0 1000 (by omega) (by omega)
              rw [s3 5 (by omega)] at k
              exact k
            rw [xm, sS, hf, bd_s, x4e, ix_in (by omega) (by omega), tN_nI (by omega), hl5]
            exact ⟨_, _, _, rfl, rfl, hRel⟩
      · have z4 : ¬ nI (ca (au (M 0) d) P) ≤ (4 : Int32) := nI_ge (a := 4) (by omega) (by omega)
        rw [if_neg z4, if_neg z4]
        exact ⟨_, _, _, rfl, rfl, hR.cg FG.rf n2.2.2.2.fm⟩
    by_cases c : x3 = 0
    · rw [if_pos c, if_pos c]
      exact main (Or.inl c)
    · rw [if_neg c, if_neg c, M_people g88, bd_s, in10 x3 (by omega)]
      rcases tf (vd P (x3 - 10)) with v3 | v3
      · rw [vb_t v3]
        obtain ⟨p, hp, ep⟩ := vd_t v3
        have ex : x3 = nI (10 + p) := by
          rw [Nat.add_comm, ← nI_add, ← ep]
          exact (Int32.sub_add_cancel x3 10).symm
        rw [ep, C_aunt hT hd hp]
        rcases tf (au (M 0) d p) with a | a
        · rw [vb_t a, ← ep]
          exact main (Or.inr ⟨p, hp, ex, a⟩)
        · rw [vb_f a]
          unfold f_X7_fetch_32
          obtain ⟨x4, M1, n1, n2, n3⟩ := M_ga_l (M0 := M) hT hd x2 x3 P 0 1000 (-4) (st 26 (fun _ => (0 : Int32)) M) (by omega) (by omega) rfl (fun p hp => by omega) (fun p hp => by omega) (fun j hj => st_ne (by omega)) (Or.inr ⟨rfl, fun p hp => by omega⟩)
          have n1' : f_X7_fetch_44 1000 (nI d) x2 x3 (-4) 0 (st 26 (fun _ => (0 : Int32)) M) = f_X7_fetch_153 (nI d) x2 x3 x4 M1 := n1
          have x4e : x4 = -4 := by
            rcases n3 with ⟨p', y1, y2, y3, y4⟩ | ⟨y1, y2⟩
            · have := (nI_eq (by omega) (by omega)).mp (ex.symm.trans y3)
              have hpp : p' = p := by omega
              rw [hpp, a] at y2
              exact Bool.noConfusion y2
            · exact y1
          rw [n1']
          unfold f_X7_fetch_153
          rw [if_neg c, if_pos x4e]
          exact ⟨_, _, _, rfl, rfl, hR.cg FG.rf n2.2.2.2.fm⟩
      · rw [vb_f v3]
        unfold f_X5_isAuntOn
        rw [C_isOne t2 (by omega), vb_f v3, bd_s, if_pos rfl]
        exact ⟨_, _, _, rfl, rfl, hR⟩
  · rw [vb_f v1, vb_f v1]
    exact ⟨_, _, _, rfl, rfl, hR⟩
