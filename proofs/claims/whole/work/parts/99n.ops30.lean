-- the text: a line of one
theorem bk_154 {M : St} (h : Bk M) : f_X7_readOne_154 M = some (st 2 (upd (M 2) 88 (M 2 88 + 1)) M) ∧ Bk (st 2 (upd (M 2) 88 (M 2 88 + 1)) M) := by
  refine ⟨?_, h.st (by omega)⟩
  unfold f_X7_readOne_154
  rw [i88, ix_in (by omega) (by omega), ix_in (by omega) (by omega), tN_nI (by omega)]
theorem e154 (M : St) : f_X7_readOne_154 M = some (st 2 (upd (M 2) 88 (M 2 88 + 1)) M) := by
  unfold f_X7_readOne_154
  rw [i88, ix_in (by omega) (by omega), ix_in (by omega) (by omega), tN_nI (by omega)]
theorem bk_124 {M : St} {p : Nat} (h : Bk M) (hp : p < 10) : ∃ M' : St, f_X7_readOne_124 (nI p) M = some M' ∧ kM M M' ∧ M' 11 = M 11 ∧ M' 12 = M 12 ∧ Bk M' := by
  unfold f_X7_readOne_124
  rw [bk_step h.1, bd_s, m4, p1, p3, ix_in (by omega) (by omega), bk_day h, bd_s, ix_in (by omega) (by omega), e154]
  exact ⟨_, rfl, (kM_st (by omega)).tr (kM_st (by omega)), rfl, rfl, Bk.st (Bk.st h (by omega)) (by omega)⟩
/-- one more person in the draft, and on the page -/
theorem one_w {S S7 M M9 : St} {H P V B k a h : Nat} {x y : Int32} (hT : Tg (sb 16 S) (M 2) H P V B (M 6 0) (M 7 0)) (w3 : M 3 0 = nI H) (w4 : S 10 0 = M 4 0) (w5 : S 11 0 = M 5 0) (hP : P < 10) (U : St) (kS : ∀ j, 10 ≤ j → S7 j = S j) (w1 : ∀ j, j ≠ 2 → j ≠ 3 → j ≠ 4 → j ≠ 5 → j ≠ 6 → U j = sb 16 S7 j) (w2 : U 2 0 = nI (P + 1)) (w6 : U 3 = upd (sb 16 S7 3) P (nI k)) (w7 : U 4 = upd (sb 16 S7 4) P (nI a)) (w8 : U 5 = upd (sb 16 S7 5) P (nI h)) (w9 : U 6 = upd (sb 16 S7 6) P x) (m : ∀ j, j = 3 ∨ j = 4 ∨ j = 5 ∨ j = 7 → M9 j = M j) (m6 : M9 6 0 = if nI h ≤ M 6 0 then M 6 0 else nI h) (hg : ∀ j, j < 4 * P ∨ (40 ≤ j ∧ j < 92 ∧ j ≠ 88) → M9 2 j = M 2 j) (e : M9 2 (4 * P) = nI k ∧ M9 2 (4 * P + 1) = nI a ∧ M9 2 (4 * P + 2) = nI h ∧ M9 2 (4 * P + 3) = y ∧ M9 2 88 = nI (P + 1)) (hk : k < 5) (ha : a < 36000) (hh : h < 8) (hd : dieR x y) : Tw (pt 16 32 U S7) M9 H (P + 1) V B := by
  have eT : ∀ k, sb 16 S7 k = sb 16 S k := fun k => kS (16 + k) (by omega)
  have eP : ∀ k, k < 32 → sb 16 (pt 16 32 U S7) k = U k := fun k hk => by
    show pt 16 32 U S7 (16 + k) = U k
    rw [pt_in (by omega) (by omega)]
    exact congrArg U (by omega)
  refine ⟨?_, by rw [m 3 (by omega)]; exact w3, ?_, ?_⟩
  · rw [m6, m 7 (by omega)]
    refine Tg.person (U := sb 16 (pt 16 32 U S7)) hT hP (fun k q1 q2 q3 q4 q5 => ?_) (by rw [eP 2 (by omega)]; exact w2) (by rw [eP 3 (by omega), w6, eT]) (by rw [eP 4 (by omega), w7, eT]) (by rw [eP 5 (by omega), w8, eT]) (by rw [eP 6 (by omega), w9, eT]) hg e hk ha hh hd
    by_cases q : k < 32
    · rw [eP k q, w1 k q1 q2 q3 q4 q5, eT]
    · show pt 16 32 U S7 (16 + k) = S (16 + k)
      rw [pt_out (by omega)]
      exact kS _ (by omega)
  · rw [pt_out (by omega), kS 10 (by omega), m 4 (by omega)]
    exact w4
  · rw [pt_out (by omega), kS 11 (by omega), m 5 (by omega)]
    exact w5
theorem up5 {g g2 : Nat → Int32} {P : Nat} {a b c d e : Int32} (hP : P < 10) (h : g2 = upd (upd (upd (upd (upd g (4 * P) a) (4 * P + 1) b) (4 * P + 2) c) (4 * P + 3) d) 88 e) : (∀ j, j < 4 * P ∨ (40 ≤ j ∧ j < 92 ∧ j ≠ 88) → g2 j = g j) ∧ (g2 (4 * P) = a ∧ g2 (4 * P + 1) = b ∧ g2 (4 * P + 2) = c ∧ g2 (4 * P + 3) = d ∧ g2 88 = e) := by
  subst h
  refine ⟨fun j hj => ?_, ?_, ?_, ?_, ?_, upd_eq⟩
  · rw [upd_ne (by omega), upd_ne (by omega), upd_ne (by omega), upd_ne (by omega), upd_ne (by omega)]
  · rw [upd_ne (by omega), upd_ne (by omega), upd_ne (by omega), upd_ne (by omega), upd_eq]
  · rw [upd_ne (by omega), upd_ne (by omega), upd_ne (by omega), upd_eq]
  · rw [upd_ne (by omega), upd_ne (by omega), upd_eq]
  · rw [upd_ne (by omega), upd_eq]
theorem one_line {S M : St} {b : Nat → Int32} {L h H P V B : Nat} (hL : L ≤ 400) (hK : KS S b L) (htp : mTp M b L) (m17 : M 17 = zM0 17) (m18 : M 18 = zM0 18) (hl : Ld S M b L h) (hlt : h < tE b L h) (hw : Tw S M H P V B) : Lo (f_X3_oneLine S) ((f_X7_readOne M).bind f_X7_readLine_64) S M b L h := by
  obtain ⟨hT, w3, w4, w5⟩ := id hw
  have hb := hT.1
  obtain ⟨-, t2, g88, -⟩ := id hT.2.1
  have t2' : S 18 0 = nI P := t2
  unfold f_X3_oneLine f_X7_readOne
  rw [t2', i88, ix_in (by omega) (by omega), tN_nI (by omega), g88]
  by_cases cP : P = 10
  · subst cP
    obtain ⟨f1, f2, f3, f4⟩ := f_at (c := 5) (by omega) (by omega) hl
    have f2' : f_X7_fails 5 M = _ := f2
    have z1 : ¬ nI 10 < (10 : Int32) := nI_nlt (b := 10) (Nat.le_refl _) (by omega)
    have z2 : nI 10 = (10 : Int32) := rfl
    rw [if_neg z1, if_pos z2, f2', bd_s, bd_s, bk_64 f3.ne]
    exact ⟨0, _, _, f1, rfl, f4, Or.inl ⟨rfl, f3⟩⟩
  · have z1 : nI P < (10 : Int32) := nI_lt (b := 10) (by omega) (by omega)
    have z2 : ¬ nI P = (10 : Int32) := fun q => cP ((nI_eq (b := 10) (by omega) (by omega)).mp q)
    obtain ⟨M1, y1, y2, y3⟩ := sp_tok hL htp hl
    have T1 := htp.kp y2
    obtain ⟨S1, a1, a2⟩ := nx_tok hL hK y3
    rw [if_pos z1, if_neg z2, y1, bd_s, sb0, m4, p1, p2, p3]
    rcases a2 with ⟨a2, a3, a4⟩ | ⟨a2, a3, a4, a5, a6⟩
    · have z : ¬ (0 : Int32) ≤ -4 - 10 := by decide
      rw [a2, bd_s, if_pos rfl, pt_C a1, M_noname a4, bd_s, if_neg z, bk_fails a3.ne.2, bd_s, bd_s, bk_64 a3.ne]
      exact ⟨0, S1, M1, rfl, rfl, y2.m, Or.inl ⟨rfl, a3⟩⟩
    · have K1 := hK.cg a1
      have q17 : M1 17 = zM0 17 := by rw [y2 17 (by omega)]; exact m17
      have q18 : M1 18 = zM0 18 := by rw [y2 18 (by omega)]; exact m18
      obtain ⟨x, n1, n2⟩ := M_name hL a4.1 T1 q17 q18 a4.2.2.2.1
      obtain ⟨l1, l2⟩ := kindN hL a4.1 K1.1 a4.2.2.1
      have i10z : (0 : Int32).toInt = 0 := by decide
      rw [a2, bd_s, if_neg (show ¬ (1 : Int32) = 0 by decide), pt_C a1, sb0, n1, bd_s]
      by_cases inr : 0 ≤ x - 10
      · rcases n2 with ⟨i, i1, i2, i3⟩ | ⟨i1, -⟩
        · subst i2
          have inr' := inr
          rw [Int32.le_iff_toInt_le, sub10 i i1, i10z] at inr'
          obtain ⟨k, rfl⟩ : ∃ k, i = 10 + k := ⟨i - 10, by omega⟩
          have hk : k < 5 := by omega
          have ex : nI (10 + k) - 10 = nI k := by
            rw [i10, nI_sub (by omega)]
            exact congrArg nI (by omega)
          obtain ⟨M2, u1, u2, u3⟩ := sp_tok hL T1 a4
          have eb := tE_b (b := b) a4.1
          rw [if_pos inr, ex, u1, bd_s, ix_in (by omega) (by omega), tN_nI (by omega), l1 k hk i3, bd_s, if_neg (i4ne rfl (by omega))]
          have k2 : kM M M2 := y2.m.tr u2.m
          -- born
          have T2 : mTp (st 2 (upd (M2 2) (4 * P) (nI k)) M2) b L := (htp.km k2).km (kM_st (by omega))
          have Y2 : Sy S1 (st 2 (upd (M2 2) (4 * P) (nI k)) M2) b L (tE b L (tH b L (tE b L h))) := u3.cg rfl (fun k _ _ => st_ne (by omega))
          obtain ⟨S3, M3, x3, b1, b2, b3, b4⟩ := date_day (lst := 0) hL K1 T2 Y2 (by omega)
          have b1' : f_X7_day 0 (st 2 (upd (M2 2) (4 * P) (nI k)) M2) = some (x3, M3) := b1
          have k3 : kM M M3 := k2.tr ((kM_st (by omega)).tr b3.m)
          rw [b1', bd_s, ix_in (by omega) (by omega), tN_nI (by omega)]
          -- what the reference does behind a house that has failed
          have bkH : ∀ (S' : St), Fl S' M3 → ∃ M' : St, ((f_X7_house (st 2 (upd (M3 2) (4 * P + 1) x3) M3)).bind (fun q8 => (ix (nI (4 * P + 2)) 92 (ix (nI (4 * P + 3)) 92 (if (q8.2 11 0) = 0 then (if (q8.2 15 0) = (1 : Int32) then ((f_X7_nameHere (st 2 (upd (upd (q8.2 2) (Int32.toNatClampNeg (nI (4 * P + 2))) q8.1) (Int32.toNatClampNeg (nI (4 * P + 3))) (-4 : Int32)) (st 2 (upd (q8.2 2) (Int32.toNatClampNeg (nI (4 * P + 2))) q8.1) q8.2))).bind (fun q9 => (if q9 = (5 : Int32) then (f_X7_readOne_124 (nI P) (st 2 (upd (upd (q8.2 2) (Int32.toNatClampNeg (nI (4 * P + 2))) q8.1) (Int32.toNatClampNeg (nI (4 * P + 3))) (-4 : Int32)) (st 2 (upd (q8.2 2) (Int32.toNatClampNeg (nI (4 * P + 2))) q8.1) q8.2))) else ((f_X7_fails (2 : Int32) (st 2 (upd (upd (q8.2 2) (Int32.toNatClampNeg (nI (4 * P + 2))) q8.1) (Int32.toNatClampNeg (nI (4 * P + 3))) (-4 : Int32)) (st 2 (upd (q8.2 2) (Int32.toNatClampNeg (nI (4 * P + 2))) q8.1) q8.2))).bind (fun q10 => (f_X7_readOne_124 (nI P) q10)))))) else (f_X7_readOne_154 (st 2 (upd (upd (q8.2 2) (Int32.toNatClampNeg (nI (4 * P + 2))) q8.1) (Int32.toNatClampNeg (nI (4 * P + 3))) (-4 : Int32)) (st 2 (upd (q8.2 2) (Int32.toNatClampNeg (nI (4 * P + 2))) q8.1) q8.2)))) else (f_X7_readOne_154 (st 2 (upd (upd (q8.2 2) (Int32.toNatClampNeg (nI (4 * P + 2))) q8.1) (Int32.toNatClampNeg (nI (4 * P + 3))) (-4 : Int32)) (st 2 (upd (q8.2 2) (Int32.toNatClampNeg (nI (4 * P + 2))) q8.1) q8.2)))))))) = some M' ∧ kM M M' ∧ Fl S' M' ∧ Bk M' := by
            intro S' F
            have B3 : Bk (st 2 (upd (M3 2) (4 * P + 1) x3) M3) := Bk.st F.ne (by omega)
            obtain ⟨f, ef⟩ := bk_house B3
            have B4 : Bk (st 6 f (st 2 (upd (M3 2) (4 * P + 1) x3) M3)) := B3.st (by omega)
            have c11 : ¬ ((0 : Int32), st 6 f (st 2 (upd (M3 2) (4 * P + 1) x3) M3)).2 11 0 = 0 := B4.2
            rw [ef, bd_s, ix_in (by omega) (by omega), ix_in (by omega) (by omega), if_neg c11, e154]
            exact ⟨_, rfl, k3.tr ((kM_st (by omega)).tr ((kM_st (by omega)).tr ((kM_st (by omega)).tr ((kM_st (by omega)).tr (kM_st (by omega)))))), F.cg rfl rfl rfl rfl, Bk.st (Bk.st (Bk.st B4 (by omega)) (by omega)) (by omega)⟩
          rcases b4 with ⟨b4, b5⟩ | ⟨b4, D, t, c1, c2, c3, c4, c5, c6⟩
          · rw [b4, bd_s, if_pos rfl, pt_D b2]
            obtain ⟨M', r1, r2, r3, r4⟩ := bkH S3 b5
            rw [r1, bd_s, bk_64 r4]
            exact ⟨0, S3, M', rfl, rfl, r2, Or.inl ⟨rfl, r3⟩⟩
          · obtain ⟨-, c7, c8⟩ := c6.resolve_right (fun q => by have := q.1; omega)
            subst c7
            have K3 := K1.cgD b2
            rw [b4, bd_s, if_neg (show ¬ (1 : Int32) = 0 by decide), pt_D b2, sb0]
            -- the house
            have T3 : mTp (st 2 (upd (M3 2) (4 * P + 1) (nI D)) M3) b L := (htp.km k3).km (kM_st (by omega))
            have Y3 : Sy S3 (st 2 (upd (M3 2) (4 * P + 1) (nI D)) M3) b L t := c8.cg rfl (fun k _ _ => st_ne (by omega))
            obtain ⟨S4, M4, x4, d1, d2, d3, d4⟩ := house_l hL K3 T3 Y3
            have k4 : kM M M4 := k3.tr ((kM_st (by omega)).tr (fun k hk => d3 k (by omega) (by omega)))
            rw [d1, bd_s, ix_in (by omega) (by omega), ix_in (by omega) (by omega), tN_nI (by omega), tN_nI (by omega)]
            generalize hX : st 2 (upd (upd (M4 2) (4 * P + 2) x4) (4 * P + 3) (-4 : Int32)) (st 2 (upd (M4 2) (4 * P + 2) x4) M4) = X
            have xX : ∀ k, k ≠ 2 → X k = M4 k := fun k hk => by rw [← hX, st_ne hk, st_ne hk]
            have x2 : X 2 = upd (upd (M4 2) (4 * P + 2) x4) (4 * P + 3) (-4 : Int32) := by rw [← hX, st_eq]
            have kX : kM M X := k4.tr (fun k hk => xX k (by omega))
            rcases d4 with ⟨v1, v2⟩ | ⟨v1, hs, v2, v3, v4, v5, v6, v7, v8, v9⟩
            · have B5 : Bk X := by
                unfold Bk
                rw [xX 11 (by omega)]
                exact v2.ne
              rw [v1, bd_s, if_pos rfl, pt_C d2, if_neg (show ¬ ((x4, M4) : Int32 × St).2 11 0 = 0 from v2.ne.2), e154, bd_s, bk_64 (B5.st (by omega))]
              exact ⟨0, S4, _, rfl, rfl, kX.tr (kM_st (by omega)), Or.inl ⟨rfl, v2.cg rfl rfl (xX 11 (by omega)) (xX 12 (by omega))⟩⟩
            · subst v3
              have K4 := K3.cg d2
              rw [v1, bd_s, if_neg (show ¬ (1 : Int32) = 0 by decide), pt_C d2, sb0]
              have v6X : Sy S4 X b L (tE b L (tH b L t)) := v6.cg rfl (fun k q _ => xX k (by omega))
              obtain ⟨S5, e1, e2⟩ := nx_tok hL K4 v6X
              have kS5 : kpD S S5 := ((a1.d.tr b2).tr d2.d).tr e1.d
              have kS10 : ∀ j, 10 ≤ j → S5 j = S j := fun j hj => kS5 j (by omega)
              rcases e2 with ⟨e2, e3, e4⟩ | ⟨e2, e3, e4, e5, e6⟩
              · have n11' : ¬ M4 11 0 = 0 := by rw [← xX 11 (by omega)]; exact e3.ne.2
                have n11 : ¬ ((nI hs, M4) : Int32 × St).2 11 0 = 0 := n11'
                rw [e2, bd_s, if_pos rfl, pt_C e1, if_neg n11, e154, bd_s, bk_64 (Bk.st e3.ne (by omega))]
                exact ⟨0, S5, _, rfl, rfl, kX.tr (kM_st (by omega)), Or.inl ⟨rfl, e3.cg rfl rfl rfl rfl⟩⟩
              · obtain ⟨f1, f2, f3, f4, f5⟩ := id e4
                have K5 := K4.cg e1
                obtain ⟨-, f6, f7, -⟩ := id f3
                obtain ⟨-, g15, g14, -⟩ := id f4
                have f5' : M4 11 0 = 0 := by rw [← xX 11 (by omega)]; exact f5
                have g15' : M4 15 0 = nI (tT b L (tH b L (tE b L (tH b L t)))) := by rw [← xX 15 (by omega)]; exact g15
                have tb : tT b L (tH b L (tE b L (tH b L t))) < 4 := by
                  unfold tT
                  repeat' split
                  all_goals omega
                have TX : mTp X b L := htp.km kX
                have r17 : X 17 = zM0 17 := by rw [kX 17 (by omega)]; exact m17
                have r18 : X 18 = zM0 18 := by rw [kX 18 (by omega)]; exact m18
                obtain ⟨xn, nn1, nn2⟩ := M_name hL f1 TX r17 r18 f4
                rw [e2, bd_s, if_neg (show ¬ (1 : Int32) = 0 by decide), pt_C e1, sb0, if_pos (show ((nI hs, M4) : Int32 × St).2 11 0 = 0 from f5'), show ((nI hs, M4) : Int32 × St).2 15 0 = nI (tT b L (tH b L (tE b L (tH b L t)))) from g15', show ((1 : Int32), S3).2 9 0 = nI D from c2, show ((1 : Int32), S4).2 8 0 = nI hs from v4, show ((1 : Int32), S5).2 6 0 = nI (tT b L (tH b L (tE b L (tH b L t)))) from f6, show ((1 : Int32), S5).2 7 0 = nI (tH b L (tE b L (tH b L t))) from f7]
                have m4 : ∀ j, j = 3 ∨ j = 4 ∨ j = 5 ∨ j = 7 → M4 j = M j := by
                  intro j hj
                  rw [d3 j (by omega) (by omega), st_ne (by omega), b3 j (by omega), st_ne (by omega), u2 j (by omega), y2 j (by omega)]
                have m46 : M4 6 0 = if nI hs ≤ M 6 0 then M 6 0 else nI hs := by
                  rw [v5, st_ne (by omega), b3 6 (by omega), st_ne (by omega), u2 6 (by omega), y2 6 (by omega)]
                have m42 : M4 2 = upd (upd (M 2) (4 * P) (nI k)) (4 * P + 1) (nI D) := by
                  rw [d3 2 (by omega) (by omega), st_eq, b3 2 (by omega), st_eq, u2 2 (by omega), y2 2 (by omega)]
                have e3S : S5 3 = S 3 ∧ S5 4 = S 4 := ⟨by rw [e5, v8, c4, a5], by rw [e6, v9, c5, a6]⟩
                have lt1 : h < tE b L (tH b L (tE b L (tH b L t))) := by
                  have := tE_b (b := b) f1
                  omega
                have hP10 : P < 10 := by omega
                -- not 'died'
                have plain : ¬ Nm b L (tH b L (tE b L (tH b L t))) 5 → (∀ R : Option St, (tT b L (tH b L (tE b L (tH b L t))) = 3 → R = f_X7_readOne_154 X) → (¬ tT b L (tH b L (tE b L (tH b L t))) = 3 → ∃ M' : St, R.bind f_X7_readLine_64 = some M' ∧ kM M M' ∧ M' 11 0 = 2 ∧ M' 12 0 = nI (tH b L (tE b L (tH b L t)))) → Lo ((f_X3_isName 5 S5).bind (fun q7 => (if q7 = 0 then ((f_X5_addOne (nI k) (nI D) (nI hs) (36000 : Int32) (sb 16 S5)).bind (fun q8 => (if nI (tT b L (tH b L (tE b L (tH b L t)))) = (3 : Int32) then (f_X3_oneLine_175 (pt 16 32 q8 S5)) else ((f_X3_fail (2 : Int32) (nI (tH b L (tE b L (tH b L t)))) (sb 0 (pt 16 32 q8 S5))).bind (fun q9 => (if q9.1 = 0 then (some ((0 : Int32), (pt 0 16 q9.2 (pt 16 32 q8 S5)))) else (f_X3_oneLine_175 (pt 0 16 q9.2 (pt 16 32 q8 S5))))))))) else ((f_X3_date S5).bind (fun q10 => (if q10.1 = 0 then (some ((0 : Int32), (pt 0 16 q10.2 S5))) else ((f_X5_addOne (nI k) (nI D) (nI hs) (q10.2 9 0) (sb 16 (pt 0 16 q10.2 S5))).bind (fun q11 => (if nI D < (q10.2 9 0) then ((f_X3_sign (sb 0 (pt 16 32 q11 (pt 0 16 q10.2 S5)))).bind (fun q12 => (zb q12.1 (some (q12.1, (pt 0 16 q12.2 (pt 16 32 q11 (pt 0 16 q10.2 S5)))))))) else ((f_X3_fail (4 : Int32) (q10.2 7 0) (sb 0 (pt 16 32 q11 (pt 0 16 q10.2 S5)))).bind (fun q13 => (zb q13.1 (some (q13.1, (pt 0 16 q13.2 (pt 16 32 q11 (pt 0 16 q10.2 S5))))))))))))))))) (R.bind f_X7_readLine_64) S M b L h) := by
                  intro no R hR3 hRn
                  obtain ⟨U, w1, w2, w6, w7, w8, w9, w10⟩ := C_addOne (T := sb 16 S5) (P := P) (nI k) (nI D) (nI hs) 36000 (by show S5 18 0 = nI P; rw [kS10 18 (by omega)]; exact t2') (by omega)
                  have kU : ∀ k, k < 16 → pt 16 32 U S5 k = S5 k := fun k hk => pt_out (by omega)
                  rw [C_n0 (by omega) hL f1 K5.1 f3 no, bd_s, if_pos rfl, w1, bd_s]
                  by_cases t3 : tT b L (tH b L (tE b L (tH b L t))) = 3
                  · have t3' : nI (tT b L (tH b L (tE b L (tH b L t)))) = 3 := by rw [t3]; rfl
                    rw [if_pos t3', hR3 t3, e154, bd_s]
                    have LX : Ld (pt 16 32 U S5) (st 2 (upd (X 2) 88 (X 2 88 + 1)) X) b L (tH b L (tE b L (tH b L t))) := by
                      refine ⟨f1, f2, ?_, f4, f5⟩
                      unfold cTok
                      rw [kU 5 (by omega), kU 6 (by omega), kU 7 (by omega), kU 8 (by omega)]
                      exact f3
                    obtain ⟨M9, z1', z2', z3'⟩ := sp_tok hL (TX.km (kM_st (k := 2) (f := upd (X 2) 88 (X 2 88 + 1)) (by omega))) LX
                    have c11 : st 2 (upd (X 2) 88 (X 2 88 + 1)) X 11 0 = 0 := f5
                    have c15 : st 2 (upd (X 2) 88 (X 2 88 + 1)) X 15 0 = 3 := by
                      show X 15 0 = 3
                      rw [g15]
                      exact t3'
                    have e64 : f_X7_readLine_64 (st 2 (upd (X 2) 88 (X 2 88 + 1)) X) = some M9 := by
                      unfold f_X7_readLine_64 f_X7_readLine_84
                      rw [if_pos c11, if_pos c15, z1', bd_s]
                    rw [e64]
                    unfold f_X3_oneLine_175
                    have X2e : X 2 = upd (upd (upd (upd (M 2) (4 * P) (nI k)) (4 * P + 1) (nI D)) (4 * P + 2) (nI hs)) (4 * P + 3) (-4) := by rw [x2, m42]
                    have m92 : M9 2 = upd (X 2) 88 (X 2 88 + 1) := by rw [z2' 2 (by omega), st_eq]
                    have X88 : X 2 88 = nI P := by
                      rw [X2e, upd_ne (by omega), upd_ne (by omega), upd_ne (by omega), upd_ne (by omega)]
                      exact g88
                    refine ⟨1, pt 16 32 U S5, M9, rfl, rfl, kX.tr ((kM_st (by omega)).tr z2'.m), Or.inr ⟨rfl, fun j hj => by rw [kU j (by omega)]; exact kS5 j (by omega), by rw [kU 3 (by omega)]; exact e3S.1, by rw [kU 4 (by omega)]; exact e3S.2, _, H, P + 1, V, B, lt1, z3', ?_⟩⟩
                    obtain ⟨g5, h5⟩ := up5 (g := M 2) (g2 := M9 2) (P := P) (a := nI k) (b := nI D) (c := nI hs) (d := -4) (e := nI (P + 1)) hP10 (by rw [m92, X88, p1, X2e])
                    refine one_w (S7 := S5) (k := k) (a := D) (h := hs) (x := 36000) (y := -4) hT w3 w4 w5 hP10 U kS10 w2 w6 w7 w8 w9 w10 (fun j hj => ?_) ?_ g5 h5 hk c1 v2 (Or.inl ⟨rfl, rfl⟩)
                    · rw [z2' j (by clear hR3 hRn; omega), st_ne (by clear hR3 hRn; omega), xX j (by clear hR3 hRn; omega), m4 j hj]
                    · rw [z2' 6 (by clear hR3 hRn; omega), st_ne (by clear hR3 hRn; omega), xX 6 (by clear hR3 hRn; omega)]
                      exact m46
                  · have t3' : ¬ nI (tT b L (tH b L (tE b L (tH b L t)))) = 3 := fun q => t3 ((nI_eq (b := 3) (by omega) (by omega)).mp q)
                    obtain ⟨M', r1, r2, r3, r4⟩ := hRn t3
                    rw [if_neg t3', r1]
                    unfold f_X3_fail
                    rw [bd_s, if_pos rfl, sb0]
                    have e : pt 0 16 (st 4 (fun _ => nI (tH b L (tE b L (tH b L t)))) (st 3 (fun _ => (2 : Int32)) (pt 16 32 U S5))) (pt 16 32 U S5) = st 4 (fun _ => nI (tH b L (tE b L (tH b L t)))) (st 3 (fun _ => (2 : Int32)) (pt 16 32 U S5)) := pt_id (fun k hk => by rw [st_ne (by omega), st_ne (by omega)])
                    dsimp only
                    rw [e]
                    exact ⟨0, _, M', rfl, rfl, r2, Or.inl ⟨rfl, 2, by omega, by omega, rfl, r3, r4.symm⟩⟩
                by_cases t1 : tT b L (tH b L (tE b L (tH b L t))) = 1
                · have t1' : nI (tT b L (tH b L (tE b L (tH b L t)))) = 1 := by rw [t1]; rfl
                  rw [if_pos t1', nn1, bd_s]
                  by_cases x5 : xn = 5
                  · have n5 : Nm b L (tH b L (tE b L (tH b L t))) 5 := by
                      rcases nn2 with ⟨i, i1', i2', i3'⟩ | ⟨i1', -⟩
                      · rw [i2'] at x5
                        have := (nI_eq (b := 5) (by omega) (by omega)).mp x5
                        rw [← this]
                        exact i3'
                      · rw [i1'] at x5
                        exact absurd x5 (by decide)
                    have X2e : X 2 = upd (upd (upd (upd (M 2) (4 * P) (nI k)) (4 * P + 1) (nI D)) (4 * P + 2) (nI hs)) (4 * P + 3) (-4) := by rw [x2, m42]
                    obtain ⟨M9, z1', z2', z3'⟩ := sp_tok hL TX e4
                    have m91 : M9 2 (4 * P + 1) = nI D := by
                      rw [z2' 2 (by omega), X2e, upd_ne (by omega), upd_ne (by omega), upd_eq]
                    have k9 : kM M M9 := kX.tr z2'.m
                    have T9 : mTp M9 b L := htp.km k9
                    obtain ⟨S6, M10, xd, o1, o2, o3, o4⟩ := date_day (lst := D + 1) hL K5 T9 z3' (by omega)
                    have k10 : kM M M10 := k9.tr o3.m
                    rw [if_pos x5, C_n1 (by omega) hL f1 K5.1 f3 n5, bd_s, if_neg (show ¬ (1 : Int32) = 0 by decide)]
                    have e124 : f_X7_readOne_124 (nI P) X = some (st 2 (upd (upd (M10 2) (4 * P + 3) xd) 88 (upd (M10 2) (4 * P + 3) xd 88 + 1)) (st 2 (upd (M10 2) (4 * P + 3) xd) M10)) := by
                      unfold f_X7_readOne_124
                      rw [z1', bd_s, show (4 : Int32) * nI P = nI (4 * P) from by rw [i4, nI_mul], p1, p3, ix_in (by omega) (by omega), tN_nI (by omega), m91, p1, o1, bd_s, ix_in (by omega) (by omega), tN_nI (by omega), e154]
                      rfl
                    rw [e124, bd_s]
                    have kS6 : kpD S S6 := kS5.tr o2
                    have kS6' : ∀ j, 10 ≤ j → S6 j = S j := fun j hj => kS6 j (by omega)
                    rcases o4 with ⟨o4, o5⟩ | ⟨o4, D2, t3, o5, o6, o7, o8, o9, o10⟩
                    · rw [o4, bd_s, if_pos rfl, pt_D o2, bk_64 (Bk.st (Bk.st o5.ne (by omega)) (by omega))]
                      exact ⟨0, S6, _, rfl, rfl, k10.tr ((kM_st (by omega)).tr (kM_st (by omega))), Or.inl ⟨rfl, o5.cg rfl rfl rfl rfl⟩⟩
                    · obtain ⟨U, w1, w2, w6, w7, w8, w9, w10⟩ := C_addOne (T := sb 16 S6) (P := P) (nI k) (nI D) (nI hs) (nI D2) (by show S6 18 0 = nI P; rw [kS6' 18 (by omega)]; exact t2') (by omega)
                      have kU : ∀ k, k < 16 → pt 16 32 U S6 k = S6 k := fun k hk => pt_out (by omega)
                      rw [o4, bd_s, if_neg (show ¬ (1 : Int32) = 0 by decide), pt_D o2, show ((1 : Int32), S6).2 9 0 = nI D2 from o6, w1, bd_s]
                      by_cases cc : D < D2
                      · obtain ⟨-, o11, o12⟩ := o10.resolve_right (fun q => by have := q.1; omega)
                        subst o11
                        rw [if_pos (nI_lt cc (by omega))]
                        have m10 : ∀ j, j = 3 ∨ j = 4 ∨ j = 5 ∨ j = 7 → M10 j = M j := by
                          intro j hj
                          rw [o3 j (by omega), z2' j (by omega), xX j (by omega), m4 j hj]
                        have m106 : M10 6 0 = if nI hs ≤ M 6 0 then M 6 0 else nI hs := by
                          rw [o3 6 (by omega), z2' 6 (by omega), xX 6 (by omega)]
                          exact m46
                        have m102 : M10 2 = upd (upd (upd (upd (M 2) (4 * P) (nI k)) (4 * P + 1) (nI D)) (4 * P + 2) (nI hs)) (4 * P + 3) (-4) := by rw [o3 2 (by omega), z2' 2 (by omega), X2e]
                        have m88 : upd (M10 2) (4 * P + 3) (nI D2) 88 = nI P := by
                          rw [upd_ne (by omega), m102, upd_ne (by omega), upd_ne (by omega), upd_ne (by omega), upd_ne (by omega)]
                          exact g88
                        refine end_l hL (S := pt 16 32 U S6) (s := t3) (H := H) (P := P + 1) (V := V) (B := B) ?_ ?_ ?_ (by omega) ?_ ?_ ?_
                        · exact ⟨by rw [kU 0 (by omega), kS6 0 (by omega)]; exact hK.1, by rw [kU 1 (by omega), kS6 1 (by omega)]; exact hK.2⟩
                        · exact (htp.km k10).km ((kM_st (by omega)).tr (kM_st (by omega)))
                        · exact o12.cg (kU 5 (by omega)) (fun k _ _ => by rw [st_ne (by omega), st_ne (by omega)])
                        · refine one_w (S7 := S6) (k := k) (a := D) (h := hs) (x := nI D2) (y := nI D2) hT w3 w4 w5 (by omega) U kS6' w2 w6 w7 w8 w9 w10 (fun j hj => ?_) ?_ (fun j hj => ?_) ⟨?_, ?_, ?_, ?_, ?_⟩ hk c1 v2 (Or.inr ⟨rfl, D2, o5, rfl⟩)
                          · rw [st_ne (by omega), st_ne (by omega), m10 j hj]
                          · rw [st_ne (by omega), st_ne (by omega)]
                            exact m106
                          · rw [st_eq, upd_ne (by omega), upd_ne (by omega), m102, upd_ne (by omega), upd_ne (by omega), upd_ne (by omega), upd_ne (by omega)]
                          · rw [st_eq, upd_ne (by omega), upd_ne (by omega), m102, upd_ne (by omega), upd_ne (by omega), upd_ne (by omega), upd_eq]
                          · rw [st_eq, upd_ne (by omega), upd_ne (by omega), m102, upd_ne (by omega), upd_ne (by omega), upd_eq]
                          · rw [st_eq, upd_ne (by omega), upd_ne (by omega), m102, upd_ne (by omega), upd_eq]
                          · rw [st_eq, upd_ne (by omega), upd_eq]
                          · rw [st_eq, upd_eq, m88, p1]
                        · intro k hk
                          rw [kU k (by omega)]
                          rcases (show k < 3 ∨ k = 3 ∨ k = 4 by omega) with q | q | q
                          · exact kS6 k (by omega)
                          · rw [q, o8]
                            exact e3S.1
                          · rw [q, o9]
                            exact e3S.2
                        · exact k10.tr ((kM_st (by omega)).tr (kM_st (by omega)))
                      · obtain ⟨-, o11, o12⟩ := o10.resolve_left (fun q => by have := q.1; omega)
                        rw [if_neg (nI_nlt (by omega) (by omega)), c_fail]
                        have F : Fl (st 4 (fun _ => S6 7 0) (st 3 (fun _ => (4 : Int32)) (pt 16 32 U S6))) M10 := ⟨4, by omega, by omega, rfl, o11, o12.symm⟩
                        rw [bk_64 (Bk.st (Bk.st F.ne (by omega)) (by omega))]
                        exact ⟨0, _, _, rfl, rfl, k10.tr ((kM_st (by omega)).tr (kM_st (by omega))), Or.inl ⟨rfl, F.cg rfl rfl rfl rfl⟩⟩
                  · rw [if_neg x5]
                    have no : ¬ Nm b L (tH b L (tE b L (tH b L t))) 5 := by
                      intro q
                      rcases nn2 with ⟨i, i1', i2', i3'⟩ | ⟨-, i2'⟩
                      · have := Nm_u i1' (by omega) i3' q
                        exact x5 (by rw [i2', this]; rfl)
                      · exact i2' 5 (by omega) q
                    refine plain no _ (fun q => by omega) (fun _ => ?_)
                    have F : Bk (st 12 (fun _ => X 14 0) (st 11 (fun _ => (2 : Int32)) X)) := (Fl_mk (S := S) (c := 2) (by omega) (by omega) g14).ne
                    obtain ⟨M', r1, r2, r3, r4, r5⟩ := bk_124 (p := P) F (by omega)
                    rw [ok_fails f5, bd_s, r1, bd_s, bk_64 r5]
                    exact ⟨M', rfl, kX.tr ((kM_st (by omega)).tr ((kM_st (by omega)).tr r2)), by rw [r3]; rfl, by rw [r4]; exact g14⟩
                · have t1' : ¬ nI (tT b L (tH b L (tE b L (tH b L t)))) = 1 := fun q => t1 ((nI_eq (b := 1) (by omega) (by omega)).mp q)
                  rw [if_neg t1']
                  refine plain (fun q => t1 q.1) _ (fun _ => rfl) (fun t3 => ?_)
                  have t3' : ¬ nI (tT b L (tH b L (tE b L (tH b L t)))) = 3 := fun q => t3 ((nI_eq (b := 3) (by omega) (by omega)).mp q)
                  have c11 : st 2 (upd (X 2) 88 (X 2 88 + 1)) X 11 0 = 0 := f5
                  have c15 : ¬ st 2 (upd (X 2) 88 (X 2 88 + 1)) X 15 0 = 3 := by
                    show ¬ X 15 0 = 3
                    rw [g15]
                    exact t3'
                  have F : Bk (st 12 (fun _ => X 14 0) (st 11 (fun _ => (2 : Int32)) (st 2 (upd (X 2) 88 (X 2 88 + 1)) X))) := (Fl_mk (S := S) (M := st 2 (upd (X 2) 88 (X 2 88 + 1)) X) (c := 2) (by omega) (by omega) g14).ne
                  refine ⟨st 12 (fun _ => X 14 0) (st 11 (fun _ => (2 : Int32)) (st 2 (upd (X 2) 88 (X 2 88 + 1)) X)), ?_, kX.tr ((kM_st (by omega)).tr ((kM_st (by omega)).tr (kM_st (by omega)))), rfl, g14⟩
                  rw [e154, bd_s]
                  unfold f_X7_readLine_64 f_X7_readLine_84
                  rw [if_pos c11, if_neg c15, ok_fails c11, bd_s]
                  show (f_X7_step (st 12 (fun _ => X 14 0) (st 11 (fun _ => (2 : Int32)) (st 2 (upd (X 2) 88 (X 2 88 + 1)) X)))).bind _ = _
                  rw [bk_step F.1, bd_s]
        · rw [i1] at inr
          exact absurd inr (by decide)
      · have no : ∀ i, i < 5 → ¬ Nm b L (tH b L (tE b L h)) (10 + i) := by
          intro i hi hn
          rcases n2 with ⟨i', i1, i2, i3⟩ | ⟨i1, i2⟩
          · have := Nm_u i1 (by omega) i3 hn
            rw [i2, Int32.le_iff_toInt_le, sub10 i' i1, i10z] at inr
            omega
          · exact i2 (10 + i) (by omega) hn
        obtain ⟨-, -, ⟨-, -, t7, -⟩, ⟨-, -, m14, -⟩, c5⟩ := id a4
        have F := Fl_mk (S := S1) (c := 2) (by omega) (by omega) m14
        rw [if_neg inr, l2 no, bd_s, if_pos rfl, c_fail2, ok_fails c5, bd_s, bd_s, show ((1 : Int32), S1).2 7 0 = nI (tH b L (tE b L h)) from t7]
        exact ⟨0, _, st 12 (fun _ => M1 14 0) (st 11 (fun _ => nI 2) M1), rfl, bk_64 F.ne, y2.m.tr ((kM_st (by omega)).tr (kM_st (by omega))), Or.inl ⟨rfl, F⟩⟩
