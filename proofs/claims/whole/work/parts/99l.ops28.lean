-- the text: a line of a move
theorem c_fail2 {S : St} {c x : Int32} : (f_X3_fail c x S).bind (fun q => zb q.1 (some (q.1, pt 0 16 q.2 S))) = some ((0 : Int32), st 4 (fun _ => x) (st 3 (fun _ => c) S)) := by
  have e := c_fail (S := S) (c := c) (x := x)
  rw [sb0] at e
  exact e
theorem C_early {T : St} {g : Nat → Int32} {V D : Nat} (hm : RTm T g 8 10 V) (t7 : T 7 0 = nI V) (hV : V ≤ 12) (hD : D < 36000) : f_X5_isTooEarly (nI D) T = some (if (if V = 0 then 0 else (g (40 + 3 * (V - 1))).toNatClampNeg) ≤ D then 0 else 1) := by
  unfold f_X5_isTooEarly
  rw [t7]
  by_cases c : V = 0
  · have z : nI V ≤ 0 := by rw [c]; exact Int32.le_refl 0
    rw [if_pos z, if_pos c, if_pos (Nat.zero_le _)]
  · obtain ⟨e, -, -, ⟨a, ha, ea⟩, -⟩ := hm (V - 1) (by omega)
    rw [if_neg (nI_nle (by omega) (by omega)), if_neg c, i1, nI_sub (by omega), ix_in (by omega) (by omega), tN_nI (by omega), e, ea, tN_nI (by omega)]
    by_cases c2 : a ≤ D
    · rw [if_pos (nI_le c2 (by omega)), if_pos c2]
    · rw [if_neg (nI_ge (by omega) (by omega)), if_neg c2]
theorem bk_103 {M : St} {o : Nat} (h : Bk M) (ho : o + 2 < 92) (y : Int32) : ∃ M' : St, f_X7_readMove_103 (nI o) y M = some M' ∧ kM M M' ∧ M' 11 = M 11 ∧ M' 12 = M 12 ∧ Bk M' := by
  obtain ⟨f, e⟩ := bk_house (M := st 7 (fun _ => y) M) (h.st (by omega))
  unfold f_X7_readMove_103
  rw [e, bd_s, p2, i89, ix_in (by omega) (by omega), ix_in (by omega) (by omega), ix_in (by omega) (by omega)]
  exact ⟨_, rfl, (kM_st (by omega)).tr ((kM_st (by omega)).tr ((kM_st (by omega)).tr (kM_st (by omega)))), rfl, rfl, Bk.st (Bk.st (Bk.st (Bk.st h (by omega)) (by omega)) (by omega)) (by omega)⟩
theorem mv_103 {M : St} {o : Nat} (ho : o + 2 < 92) (x : Int32) : (ix (nI o + 1) 92 (ix (nI o + 1) 92 (if (upd (M 2) (Int32.toNatClampNeg (nI o + 1)) x) (Int32.toNatClampNeg (nI o + 1)) ≤ M 7 0 then f_X7_readMove_103 (nI o) (M 7 0) (st 2 (upd (M 2) (Int32.toNatClampNeg (nI o + 1)) x) M) else ix (nI o + 1) 92 (f_X7_readMove_103 (nI o) ((upd (M 2) (Int32.toNatClampNeg (nI o + 1)) x) (Int32.toNatClampNeg (nI o + 1))) (st 2 (upd (M 2) (Int32.toNatClampNeg (nI o + 1)) x) M))))) = f_X7_readMove_103 (nI o) (if x ≤ M 7 0 then M 7 0 else x) (st 2 (upd (M 2) (o + 1) x) M) := by
  rw [p1, ix_in (by omega) (by omega), ix_in (by omega) (by omega), ix_in (by omega) (by omega), tN_nI (by omega), upd_eq]
  by_cases c : x ≤ M 7 0
  · rw [if_pos c, if_pos c]
  · rw [if_neg c, if_neg c]
theorem mov_line {S M : St} {b : Nat → Int32} {L h H P V B : Nat} (hL : L ≤ 400) (hK : KS S b L) (htp : mTp M b L) (hl : Ld S M b L h) (hlt : h < tE b L h) (hw : Tw S M H P V B) : Lo (f_X3_moveLine S) ((f_X7_readMove M).bind f_X7_readLine_64) S M b L h := by
  obtain ⟨hT, w3, w4, w5⟩ := id hw
  have hb := hT.1
  obtain ⟨-, -, -, t7, g89, -⟩ := id hT.2.1
  have t7' : S 23 0 = nI V := t7
  have hm := hT.2.2.2.1
  unfold f_X3_moveLine f_X7_readMove
  rw [t7', i89, ix_in (by omega) (by omega), tN_nI (by omega), g89]
  by_cases cV : V = 12
  · subst cV
    obtain ⟨f1, f2, f3, f4⟩ := f_at (c := 5) (by omega) (by omega) hl
    have f2' : f_X7_fails 5 M = _ := f2
    have z1 : ¬ nI 12 < (12 : Int32) := nI_nlt (b := 12) (Nat.le_refl _) (by omega)
    have z2 : nI 12 = (12 : Int32) := rfl
    rw [if_neg z1, if_pos z2, f2', bd_s, bd_s, bk_64 f3.ne]
    exact ⟨0, _, _, f1, rfl, f4, Or.inl ⟨rfl, f3⟩⟩
  · have z1 : nI V < (12 : Int32) := nI_lt (b := 12) (by omega) (by omega)
    have z2 : ¬ nI V = (12 : Int32) := fun q => cV ((nI_eq (b := 12) (by omega) (by omega)).mp q)
    obtain ⟨M1, y1, y2, y3⟩ := sp_tok hL htp hl
    have e53 : (if nI V = 0 then f_X7_readMove_53 (nI (40 + 3 * V)) (nI (40 + 3 * V)) 0 M1 else ix (nI (40 + 3 * V) - 3) 92 (f_X7_readMove_53 (nI (40 + 3 * V)) (nI (40 + 3 * V)) (M1 2 (Int32.toNatClampNeg (nI (40 + 3 * V) - 3))) M1)) = f_X7_readMove_53 (nI (40 + 3 * V)) (nI (40 + 3 * V)) (nI (if V = 0 then 0 else (M 2 (40 + 3 * (V - 1))).toNatClampNeg)) M1 := by
      by_cases c : V = 0
      · subst c
        rw [if_pos (show nI 0 = 0 from rfl), if_pos (show (0 : Nat) = 0 from rfl)]
        rfl
      · obtain ⟨e, -, -, ⟨a, ha, ea⟩, -⟩ := hm (V - 1) (by omega)
        rw [if_neg (nI_ne0 (by omega) (by omega)), if_neg c, i3, nI_sub (by omega), ix_in (by omega) (by omega), tN_nI (by omega), y2 2 (by omega), show 40 + 3 * V - 3 = 40 + 3 * (V - 1) by omega, ea, tN_nI (by omega)]
    have hlst : (if V = 0 then 0 else (M 2 (40 + 3 * (V - 1))).toNatClampNeg) ≤ 36000 := by
      by_cases c : V = 0
      · rw [if_pos c]
        omega
      · obtain ⟨e, -, -, ⟨a, ha, ea⟩, -⟩ := hm (V - 1) (by omega)
        rw [if_neg c, ea, tN_nI (by omega)]
        omega
    have er : ∀ (T : St) (D : Nat), (∀ k, k < 16 → T k = sb 16 S k) → D < 36000 → f_X5_isTooEarly (nI D) T = some (if (if V = 0 then 0 else (M 2 (40 + 3 * (V - 1))).toNatClampNeg) ≤ D then 0 else 1) := by
      intro T D q hD
      exact C_early (hm.cg (Nat.le_refl _) (fun p hp => by rw [q 8 (by omega), q 9 (by omega), q 10 (by omega)]; exact ⟨rfl, rfl, rfl⟩) (fun _ _ _ => rfl)) (by rw [q 7 (by omega)]; exact t7) (by omega) hD
    generalize (if V = 0 then 0 else (M 2 (40 + 3 * (V - 1))).toNatClampNeg) = lst at *
    rw [if_pos z1, if_neg z2, y1, bd_s, i40, ad3, e53]
    unfold f_X7_readMove_53
    obtain ⟨S2, M2, x2, a1, a2, a3, a4⟩ := date_day (lst := lst) hL hK (htp.kp y2) y3 hlst
    rw [a1, bd_s, ix_in (by omega) (by omega), tN_nI (by omega), sb0]
    have k2 : kM M M2 := y2.m.tr a3.m
    have bk53 : ∀ (S' : St), Fl S' M2 → ∃ M' : St, (((f_X7_numeral 0 9 (st 2 (upd (M2 2) (40 + 3 * V) x2) M2)).bind (fun q3 => (ix (nI (40 + 3 * V) + 1) 92 (ix (nI (40 + 3 * V) + 1) 92 (if ((upd (q3.2 2) (Int32.toNatClampNeg (nI (40 + 3 * V) + 1)) q3.1) (Int32.toNatClampNeg (nI (40 + 3 * V) + 1))) ≤ (q3.2 7 0) then (f_X7_readMove_103 (nI (40 + 3 * V)) (q3.2 7 0) (st 2 (upd (q3.2 2) (Int32.toNatClampNeg (nI (40 + 3 * V) + 1)) q3.1) q3.2)) else (ix (nI (40 + 3 * V) + 1) 92 (f_X7_readMove_103 (nI (40 + 3 * V)) ((upd (q3.2 2) (Int32.toNatClampNeg (nI (40 + 3 * V) + 1)) q3.1) (Int32.toNatClampNeg (nI (40 + 3 * V) + 1))) (st 2 (upd (q3.2 2) (Int32.toNatClampNeg (nI (40 + 3 * V) + 1)) q3.1) q3.2)))))))).bind f_X7_readLine_64) = some M' ∧ kM M M' ∧ Fl S' M' := by
      intro S' F
      have B2 : Bk (st 2 (upd (M2 2) (40 + 3 * V) x2) M2) := Bk.st F.ne (by omega)
      rw [bk_num B2.1 B2.2, bd_s]
      obtain ⟨M', r1, r2, r3, r4, r5⟩ := bk_103 (M := st 2 (upd ((st 2 (upd (M2 2) (40 + 3 * V) x2) M2) 2) (40 + 3 * V + 1) 0) (st 2 (upd (M2 2) (40 + 3 * V) x2) M2)) (o := 40 + 3 * V) (B2.st (by omega)) (by omega) (if 0 ≤ (st 2 (upd (M2 2) (40 + 3 * V) x2) M2) 7 0 then (st 2 (upd (M2 2) (40 + 3 * V) x2) M2) 7 0 else 0)
      have r0 := mv_103 (M := st 2 (upd (M2 2) (40 + 3 * V) x2) M2) (o := 40 + 3 * V) (by omega) 0
      rw [r1] at r0
      refine ⟨M', ?_, k2.tr ((kM_st (by omega)).tr ((kM_st (by omega)).tr r2)), F.cg rfl rfl r3 r4⟩
      refine (congrArg (fun z => Option.bind z f_X7_readLine_64) r0).trans ?_
      exact (bd_s _ _).trans (bk_64 r5)
    rcases a4 with ⟨a4, a5⟩ | ⟨a4, D, t, c1, c2, c3, c4, c5, c6⟩
    · rw [a4, bd_s, if_pos rfl, pt_D a2]
      obtain ⟨M', r1, r2, r3⟩ := bk53 S2 a5
      exact ⟨0, S2, M', rfl, r1, r2, Or.inl ⟨rfl, r3⟩⟩
    · have K2 := hK.cgD a2
      rw [a4, bd_s, if_neg (show ¬ (1 : Int32) = 0 by decide), pt_D a2, sb0, show ((1 : Int32), S2).2 9 0 = nI D from c2, er (sb 16 S2) D (fun k hk => a2 (16 + k) (by omega)) c1, bd_s]
      rcases c6 with ⟨c6, c7, c8⟩ | ⟨c6, c7, c8⟩
      · subst c7
        rw [if_pos c6, if_pos rfl]
        have T2 : mTp (st 2 (upd (M2 2) (40 + 3 * V) (nI D)) M2) b L := (htp.km k2).km (kM_st (by omega))
        have Y2 : Sy S2 (st 2 (upd (M2 2) (40 + 3 * V) (nI D)) M2) b L t := c8.cg rfl (fun k _ _ => st_ne (by omega))
        obtain ⟨S3, M3, x3, d1, d2, d3, d4⟩ := fig_num (lo := 0) (hi := 9) hL K2 T2 Y2 (by omega) (by omega)
        have d1' : f_X7_numeral 0 9 (st 2 (upd (M2 2) (40 + 3 * V) (nI D)) M2) = some (x3, M3) := d1
        rw [d1', bd_s]
        dsimp only
        have k3 : kM M M3 := k2.tr ((kM_st (by omega)).tr d3.m)
        have r0 := mv_103 (M := M3) (o := 40 + 3 * V) (by omega) x3
        refine (?_ : Lo _ ((f_X7_readMove_103 (nI (40 + 3 * V)) (if x3 ≤ M3 7 0 then M3 7 0 else x3) (st 2 (upd (M3 2) (40 + 3 * V + 1) x3) M3)).bind f_X7_readLine_64) S M b L h) |> fun z => by rw [← r0] at z; exact z
        rcases d4 with ⟨d4, d5, -⟩ | ⟨d4, j, e1, e2, e3, -, e4, -, e5, e6, e7, e8⟩
        · have d4' : f_X3_figure 0 9 S2 = some (0, S3) := d4
          rw [d4', bd_s, if_pos rfl, pt_C d2]
          obtain ⟨M', r1, r2, r3, r4, r5⟩ := bk_103 (M := st 2 (upd (M3 2) (40 + 3 * V + 1) x3) M3) (o := 40 + 3 * V) (Bk.st d5.ne (by omega)) (by omega) (if x3 ≤ M3 7 0 then M3 7 0 else x3)
          rw [r1, bd_s, bk_64 r5]
          exact ⟨0, S3, M', rfl, rfl, k3.tr ((kM_st (by omega)).tr r2), Or.inl ⟨rfl, d5.cg rfl rfl r3 r4⟩⟩
        · subst e3
          have d4' : f_X3_figure 0 9 S2 = some (1, S3) := d4
          rw [d4', bd_s, if_neg (show ¬ (1 : Int32) = 0 by decide), pt_C d2, sb0]
          unfold f_X7_readMove_103
          generalize hox : (if nI j ≤ M3 7 0 then M3 7 0 else nI j) = ox
          have K3 := K2.cg d2
          have T3 : mTp (st 7 (fun _ => ox) (st 2 (upd (M3 2) (40 + 3 * V + 1) (nI j)) M3)) b L := ((htp.km k3).km (kM_st (by omega))).km (kM_st (by omega))
          have Y3 : Sy S3 (st 7 (fun _ => ox) (st 2 (upd (M3 2) (40 + 3 * V + 1) (nI j)) M3)) b L (tE b L (tH b L t)) := e5.cg rfl (fun k _ _ => by rw [st_ne (by omega), st_ne (by omega)])
          obtain ⟨S4, M4, x4, u1, u2, u3, u4⟩ := house_l hL K3 T3 Y3
          rw [u1, bd_s, p2, i89, ix_in (by omega) (by omega), ix_in (by omega) (by omega), ix_in (by omega) (by omega), tN_nI (by omega), tN_nI (by omega), bd_s]
          have k4 : kM M M4 := k3.tr ((kM_st (by omega)).tr ((kM_st (by omega)).tr (fun k hk => u3 k (by omega) (by omega))))
          rcases u4 with ⟨v1, v2⟩ | ⟨v1, hs, v2, v3, v4, v5, v6, v7, v8, v9⟩
          · rw [v1, bd_s, if_pos rfl, pt_C u2, bk_64 (Bk.st (Bk.st v2.ne (by omega)) (by omega))]
            exact ⟨0, S4, _, rfl, rfl, k4.tr ((kM_st (by omega)).tr (kM_st (by omega))), Or.inl ⟨rfl, v2.cg rfl rfl rfl rfl⟩⟩
          · subst v3
            have kS : kpD S S4 := (a2.tr d2.d).tr u2.d
            have eT : ∀ k, k < 31 → sb 16 S4 k = sb 16 S k := fun k hk => kS (16 + k) (by omega)
            obtain ⟨U, w1, w2, w6, w7, w8, w9⟩ := C_putMove (T := sb 16 S4) (V := V) (nI D) (nI j) (nI hs) (by rw [eT 7 (by omega)]; exact t7) (by omega)
            rw [v1, bd_s, if_neg (show ¬ (1 : Int32) = 0 by decide), pt_C u2, show ((1 : Int32), S3).2 8 0 = nI j from e4, show ((1 : Int32), S4).2 8 0 = nI hs from v4, w1, bd_s]
            have kU : ∀ k, k < 16 → pt 16 32 U S4 k = S4 k := fun k hk => pt_out (by omega)
            have m4 : ∀ k, k = 3 ∨ k = 4 ∨ k = 5 → M4 k = M k := by
              intro k hk
              rw [u3 k (by omega) (by omega), st_ne (by omega), st_ne (by omega), d3 k (by omega), st_ne (by omega), a3 k (by omega), y2 k (by omega)]
            have m47 : M4 7 0 = if nI j ≤ M 7 0 then M 7 0 else nI j := by
              rw [u3 7 (by omega) (by omega), st_eq, ← hox, d3 7 (by omega), st_ne (by omega), a3 7 (by omega), y2 7 (by omega)]
            have m46 : M4 6 0 = if nI hs ≤ M 6 0 then M 6 0 else nI hs := by
              rw [v5, st_ne (by omega), st_ne (by omega), d3 6 (by omega), st_ne (by omega), a3 6 (by omega), y2 6 (by omega)]
            have m42 : M4 2 = upd (upd (M 2) (40 + 3 * V) (nI D)) (40 + 3 * V + 1) (nI j) := by
              rw [u3 2 (by omega) (by omega), st_ne (by omega), st_eq, d3 2 (by omega), st_eq, a3 2 (by omega), y2 2 (by omega)]
            refine end_l hL (S := pt 16 32 U S4) (s := tE b L (tH b L (tE b L (tH b L t)))) (H := H) (P := P) (V := V + 1) (B := B) ?_ ?_ ?_ (by omega) ?_ ?_ ?_
            · exact ⟨by rw [kU 0 (by omega), kS 0 (by omega)]; exact hK.1, by rw [kU 1 (by omega), kS 1 (by omega)]; exact hK.2⟩
            · exact (htp.km k4).km ((kM_st (by omega)).tr (kM_st (by omega)))
            · exact v6.cg (kU 5 (by omega)) (fun k _ _ => by rw [st_ne (by omega), st_ne (by omega)])
            · refine ⟨?_, ?_, ?_, ?_⟩
              · have eP : ∀ k, k < 32 → sb 16 (pt 16 32 U S4) k = U k := fun k hk => by
                  show pt 16 32 U S4 (16 + k) = U k
                  rw [pt_in (by omega) (by omega)]
                  exact congrArg U (by omega)
                have g2e : st 2 (upd (upd (M4 2) (40 + 3 * V + 2) (nI hs)) 89 (upd (M4 2) (40 + 3 * V + 2) (nI hs) 89 + 1)) (st 2 (upd (M4 2) (40 + 3 * V + 2) (nI hs)) M4) 2 = upd (upd (upd (upd (M 2) (40 + 3 * V) (nI D)) (40 + 3 * V + 1) (nI j)) (40 + 3 * V + 2) (nI hs)) 89 (nI (V + 1)) := by
                  rw [st_eq, upd_ne (show 89 ≠ 40 + 3 * V + 2 by omega), m42, upd_ne (show 89 ≠ 40 + 3 * V + 1 by omega), upd_ne (show 89 ≠ 40 + 3 * V by omega), g89, p1]
                have base := Tg.putM (U := sb 16 (pt 16 32 U S4)) (g2 := upd (upd (upd (upd (M 2) (40 + 3 * V) (nI D)) (40 + 3 * V + 1) (nI j)) (40 + 3 * V + 2) (nI hs)) 89 (nI (V + 1))) (h := hs) (a := D) (c := j) hT (by omega) (fun k q1 q2 q3 q4 => by
                    by_cases q : k < 32
                    · rw [eP k q, w2 k q1 q2 q3 q4]
                      exact kS (16 + k) (by omega)
                    · show pt 16 32 U S4 (16 + k) = S (16 + k)
                      rw [pt_out (by omega)]
                      exact kS _ (by omega)) (by rw [eP 7 (by omega)]; exact w6) (by rw [eP 8 (by omega), w7, eT 8 (by omega)]) (by rw [eP 9 (by omega), w8, eT 9 (by omega)]) (by rw [eP 10 (by omega), w9, eT 10 (by omega)]) (fun j hj => by rw [upd_ne (by omega), upd_ne (by omega), upd_ne (by omega), upd_ne (by omega)]) ⟨by rw [upd_ne (by omega), upd_ne (by omega), upd_ne (by omega), upd_eq], by rw [upd_ne (by omega), upd_ne (by omega), upd_eq], by rw [upd_ne (by omega), upd_eq], upd_eq⟩ v2 (by omega) c1
                have e6' : ∀ f g : Nat → Int32, st 2 f (st 2 g M4) 6 0 = if nI hs ≤ M 6 0 then M 6 0 else nI hs := fun f g => by rw [st_ne (by omega), st_ne (by omega)]; exact m46
                have e7' : ∀ f g : Nat → Int32, st 2 f (st 2 g M4) 7 0 = if nI j ≤ M 7 0 then M 7 0 else nI j := fun f g => by rw [st_ne (by omega), st_ne (by omega)]; exact m47
                dsimp only
                rw [g2e, e6', e7']
                exact base
              · show M4 3 0 = nI H
                rw [m4 3 (by omega)]
                exact w3
              · show pt 16 32 U S4 10 0 = M4 4 0
                rw [kU 10 (by omega), kS 10 (by omega), m4 4 (by omega)]
                exact w4
              · show pt 16 32 U S4 11 0 = M4 5 0
                rw [kU 11 (by omega), kS 11 (by omega), m4 5 (by omega)]
                exact w5
            · intro k hk
              rw [kU k (by omega)]
              rcases (show k < 3 ∨ k = 3 ∨ k = 4 by omega) with q | q | q
              · exact kS k (by omega)
              · rw [q, v8, e7, c4]
              · rw [q, v9, e8, c5]
            · exact k4.tr ((kM_st (by omega)).tr (kM_st (by omega)))
      · rw [if_neg (show ¬ lst ≤ D by omega), if_neg (show ¬ (1 : Int32) = 0 by decide), c_fail2]
        have F : Fl (st 4 (fun _ => S2 7 0) (st 3 (fun _ => (4 : Int32)) S2)) M2 := ⟨4, by omega, by omega, rfl, c7, c8.symm⟩
        obtain ⟨M', r1, r2, r3⟩ := bk53 _ F
        exact ⟨0, _, M', rfl, r1, r2, Or.inl ⟨rfl, r3⟩⟩
