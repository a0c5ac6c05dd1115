-- the text: line by line, its end
theorem Lo_z {F : Option (Int32 × St)} {R : Option St} {S M : St} {b : Nat → Int32} {L h : Nat} (hl : Lo F R S M b L h) : Lo (F.bind (fun q => zb q.1 (some (q.1, q.2)))) R S M b L h := by
  obtain ⟨r, S', M', h1, h2, h3, h4⟩ := hl
  refine ⟨r, S', M', ?_, h2, h3, h4⟩
  rw [h1, bd_s]
  rcases h4 with ⟨h4, -⟩ | ⟨h4, -⟩
  · rw [h4]
    exact zb0
  · rw [h4]
    exact zb1
theorem line_l {S M : St} {b : Nat → Int32} {L h H P V B : Nat} (hL : L ≤ 400) (hK : KS S b L) (htp : mTp M b L) (m17 : M 17 = zM0 17) (m18 : M 18 = zM0 18) (hl : Ld S M b L h) (hlt : h < tE b L h) (hw : Tw S M H P V B) : Lo (f_X3_line S) (f_X7_readLine M) S M b L h := by
  obtain ⟨x, n1, n2⟩ := M_name hL hl.1 htp m17 m18 hl.2.2.2.1
  have y1 : ∀ i, i < 15 → Nm b L h i → f_X3_isName i S = some 1 := fun i hi hn => C_n1 hi hL hl.1 hK.1 hl.2.2.1 hn
  have y0 : ∀ i, i < 15 → ¬ Nm b L h i → f_X3_isName i S = some 0 := fun i hi hn => C_n0 hi hL hl.1 hK.1 hl.2.2.1 hn
  unfold f_X3_line f_X7_readLine
  rw [n1, bd_s, in_l _ (lo := 0) (hi := 4) (a := 0) (c := 4) (by decide) (by decide), sb0]
  by_cases inr : 0 ≤ x.toInt ∧ x.toInt ≤ 4
  · rcases n2 with ⟨i, i1, i2, i3⟩ | ⟨i1, -⟩
    · subst i2
      have inr' := inr
      rw [nI_toInt (by omega)] at inr'
      have ye := y1 i i1 i3
      have no : ∀ j, j < 15 → j ≠ i → f_X3_isName j S = some 0 := fun j hj hne => y0 j hj (nm_ne i1 hj i3 (fun q => hne q.symm))
      rw [vb_t (decide_eq_true inr)]
      rcases (show i = 0 ∨ i = 1 ∨ i = 2 ∨ i = 3 ∨ i = 4 by omega) with rfl | rfl | rfl | rfl | rfl
      · rw [ye, bd_s, if_neg (show ¬ (1 : Int32) = 0 by decide), if_neg (by decide), if_neg (by decide), if_neg (by decide)]
        exact Lo_z (hou_line hL hK htp hl hlt hw)
      · rw [no 0 (by omega) (by omega), bd_s, if_pos rfl, ye, bd_s, if_neg (show ¬ (1 : Int32) = 0 by decide), if_neg (by decide), if_neg (by decide), if_neg (by decide)]
        exact Lo_z (law_line hL hK htp m17 m18 hl hlt hw (nI 1) (by decide))
      · rw [no 0 (by omega) (by omega), bd_s, if_pos rfl, no 1 (by omega) (by omega), bd_s, if_pos rfl, ye, bd_s, if_neg (show ¬ (1 : Int32) = 0 by decide), if_pos (show nI 2 = (2 : Int32) from rfl)]
        exact Lo_z (one_line hL hK htp m17 m18 hl hlt hw)
      · rw [no 0 (by omega) (by omega), bd_s, if_pos rfl, no 1 (by omega) (by omega), bd_s, if_pos rfl, no 2 (by omega) (by omega), bd_s, if_pos rfl, ye, bd_s, if_neg (show ¬ (1 : Int32) = 0 by decide), if_neg (show ¬ nI 3 = (2 : Int32) by decide), if_pos (show nI 3 = (3 : Int32) from rfl)]
        exact Lo_z (mov_line hL hK htp hl hlt hw)
      · rw [no 0 (by omega) (by omega), bd_s, if_pos rfl, no 1 (by omega) (by omega), bd_s, if_pos rfl, no 2 (by omega) (by omega), bd_s, if_pos rfl, no 3 (by omega) (by omega), bd_s, if_pos rfl, ye, bd_s, if_neg (show ¬ (1 : Int32) = 0 by decide), if_neg (show ¬ nI 4 = (2 : Int32) by decide), if_neg (show ¬ nI 4 = (3 : Int32) by decide), if_pos (show nI 4 = (4 : Int32) from rfl)]
        exact Lo_z (exp_line hL hK htp hl hlt hw)
    · rw [i1] at inr
      exact absurd inr (by decide)
  · have no : ∀ i, i < 5 → ¬ Nm b L h i := by
      intro i hi hn
      rcases n2 with ⟨i', i1, i2, i3⟩ | ⟨i1, i2⟩
      · have := Nm_u i1 (by omega) i3 hn
        rw [i2, nI_toInt (by omega)] at inr
        omega
      · exact i2 i (by omega) hn
    obtain ⟨f1, f2, f3, f4⟩ := f_at (c := 2) (by omega) (by omega) hl
    have f2' : f_X7_fails 2 M = _ := f2
    rw [vb_f (decide_eq_false inr), f2', bd_s, y0 0 (by omega) (no 0 (by omega)), bd_s, if_pos rfl, y0 1 (by omega) (no 1 (by omega)), bd_s, if_pos rfl, y0 2 (by omega) (no 2 (by omega)), bd_s, if_pos rfl, y0 3 (by omega) (no 3 (by omega)), bd_s, if_pos rfl, y0 4 (by omega) (no 4 (by omega)), bd_s, if_pos rfl]
    rw [sb0] at f1
    exact ⟨0, _, _, f1, rfl, f4, Or.inl ⟨rfl, f3⟩⟩
theorem tT_0 {b : Nat → Int32} {L h : Nat} : tT b L h = 0 ↔ h = L := by
  unfold tT
  by_cases c : h = L
  · rw [if_pos c]
    exact ⟨fun _ => c, fun _ => rfl⟩
  · rw [if_neg c]
    refine ⟨fun q => ?_, fun q => absurd q c⟩
    repeat' split at q
    all_goals omega
theorem tl_loop {M0 : St} {b : Nat → Int32} {L : Nat} (hL : L ≤ 400) (htp : mTp M0 b L) (m17 : M0 17 = zM0 17) (m18 : M0 18 = zM0 18) : ∀ (r k n m s H P V B : Nat) (S M : St), s + r = L → r < n → r < m → k ≤ s → KS S b L → kM M0 M → Sy S M b L s → Tw S M H P V B → S 2 0 = nI k → (∃ (S' M' : St) (x : Int32), f_X3_tell_36 n (nI k) S = some (0, S') ∧ f_X7_street_62 m (nI k) M = f_X7_street_86 x M' ∧ Fl S' M' ∧ kM M0 M') ∨ (∃ (S' M' : St) (k' H P V B : Nat), f_X3_tell_36 n (nI k) S = f_X3_tell_59 S' ∧ f_X7_street_62 m (nI k) M = f_X7_street_86 (nI k') M' ∧ M' 11 0 = 0 ∧ M' 14 0 = nI L ∧ S' 2 0 = nI k' ∧ S' 3 = S 3 ∧ KS S' b L ∧ Tw S' M' H P V B ∧ kM M0 M') := by
  intro r
  induction r using Nat.strongRecOn with
  | ind r ih =>
    intro k n m s H P V B S M h1 h2 h3 h4 hK hM hy hw hk
    obtain ⟨n, rfl⟩ : ∃ z, n = z + 1 := ⟨n - 1, by omega⟩
    obtain ⟨m, rfl⟩ : ∃ z, m = z + 1 := ⟨m - 1, by omega⟩
    have z4 : ¬ (400 : Int32) < nI k := nI_nlt (a := 400) (by omega) (by omega)
    obtain ⟨S1, a1, a2⟩ := nx_tok hL hK hy
    rw [f_X3_tell_36_s, f_X7_street_62_s, if_neg z4, sb0]
    rcases a2 with ⟨a2, a3, -⟩ | ⟨a2, a3, a4, a5, a6⟩
    · refine Or.inl ⟨S1, M, nI k, ?_, ?_, a3, hM⟩
      · rw [a2, bd_s, if_pos rfl, pt_C a1]
      · rw [if_neg a3.ne.2]
    · obtain ⟨c1, c2, c3, c4, c5⟩ := id a4
      obtain ⟨-, d6, -, -⟩ := id c3
      obtain ⟨-, g15, g14, -⟩ := id c4
      have tb : tT b L (tH b L s) < 4 := by
        unfold tT
        repeat' split
        all_goals omega
      rw [a2, bd_s, if_neg (show ¬ (1 : Int32) = 0 by decide), pt_C a1, show ((1 : Int32), S1).2 6 0 = nI (tT b L (tH b L s)) from d6, if_pos c5, g15]
      by_cases t0 : tT b L (tH b L s) = 0
      · have t0' : nI (tT b L (tH b L s)) = 0 := by rw [t0]; rfl
        rw [if_pos t0', if_pos t0']
        refine Or.inr ⟨S1, M, k, H, P, V, B, rfl, rfl, c5, ?_, by rw [a1 2 (by omega)]; exact hk, a5, hK.cg a1, hw.cg (fun j hj => a1 j (by omega)) (fun _ _ _ => rfl), hM⟩
        rw [g14, tT_0.mp t0]
      · have t0' : ¬ nI (tT b L (tH b L s)) = 0 := fun q => t0 ((nI_eq (b := 0) (by omega) (by omega)).mp q)
        have hlt : tH b L s < tE b L (tH b L s) := tE_s (by have : tH b L s ≠ L := fun q => t0 (tT_0.mpr q); omega) c2
        rw [if_neg t0', if_neg t0']
        obtain ⟨x, S2, M2, l1, l2, l3, l4⟩ := line_l hL (hK.cg a1) (htp.km hM) (by rw [hM 17 (by omega)]; exact m17) (by rw [hM 18 (by omega)]; exact m18) a4 hlt (hw.cg (fun j hj => a1 j (by omega)) (fun _ _ _ => rfl))
        rw [l1, bd_s, l2, bd_s]
        rcases l4 with ⟨e1, e2⟩ | ⟨e1, e2, e3, e4, t, H', P', V', B', e5, e6, e7⟩
        · subst e1
          obtain ⟨m, rfl⟩ : ∃ z, m = z + 1 := ⟨m - 1, by have := tE_b (b := b) c1; omega⟩
          refine Or.inl ⟨S2, M2, nI k + 1, ?_, ?_, e2, hM.tr l3⟩
          · rw [if_pos rfl]
          · rw [f_X7_street_62_s, if_neg e2.ne.2]
        · subst e1
          have tl : t ≤ L := e6.1
          have s2 : S2 2 0 = nI k := by rw [e2 2 (by omega), a1 2 (by omega)]; exact hk
          have sk : st 2 (fun _ => S2 2 0 + 1) S2 2 0 = nI (k + 1) := by
            rw [st_eq, s2, p1]
          have q := ih (L - t) (by omega) (k + 1) n m t H' P' V' B' (st 2 (fun _ => S2 2 0 + 1) S2) M2 (by omega) (by omega) (by omega) (by omega) ⟨by rw [st_ne (by omega), e2 0 (by omega), a1 0 (by omega)]; exact hK.1, by rw [st_ne (by omega), e2 1 (by omega), a1 1 (by omega)]; exact hK.2⟩ (hM.tr l3) (e6.cg (st_ne (by omega)) (fun _ _ _ => rfl)) (e7.cg (fun j hj => st_ne (by omega)) (fun _ _ _ => rfl)) sk
          have e33 : st 2 (fun _ => S2 2 0 + 1) S2 3 = S 3 := by rw [st_ne (by omega), e3, a5]
          rw [e33] at q
          rw [if_neg (show ¬ (1 : Int32) = 0 by decide), p1]
          exact q
