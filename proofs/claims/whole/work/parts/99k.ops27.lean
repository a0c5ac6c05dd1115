-- the text: a line of what is expected, of a move
theorem zb0 {α : Type} {k : Option α} : zb (0 : Int32) k = k := if_pos (Or.inl rfl)
theorem zb1 {α : Type} {k : Option α} : zb (1 : Int32) k = k := if_pos (Or.inr rfl)
/-- the class's failure behind what it has read -/
theorem c_fail {S : St} {c x : Int32} : (f_X3_fail c x (sb 0 S)).bind (fun q => zb q.1 (some (q.1, pt 0 16 q.2 S))) = some ((0 : Int32), st 4 (fun _ => x) (st 3 (fun _ => c) S)) := by
  have e : pt 0 16 (st 4 (fun _ => x) (st 3 (fun _ => c) S)) S = st 4 (fun _ => x) (st 3 (fun _ => c) S) := pt_id (fun k hk => by rw [st_ne (by omega), st_ne (by omega)])
  unfold f_X3_fail
  rw [bd_s, sb0]
  show zb (0 : Int32) (some ((0 : Int32), pt 0 16 (st 4 (fun _ => x) (st 3 (fun _ => c) S)) S)) = _
  rw [e, zb0]
/-- the sign at the end of a line, on both sides -/
theorem end_l {S M S0 M0 : St} {b : Nat → Int32} {L s h H P V B : Nat} (hL : L ≤ 400) (hK : KS S b L) (htp : mTp M b L) (h1 : Sy S M b L s) (hs : h < s) (hw : Tw S M H P V B) (hS : ∀ k, k < 5 → S k = S0 k) (hM : kM M0 M) : Lo ((f_X3_sign (sb 0 S)).bind (fun q => zb q.1 (some (q.1, pt 0 16 q.2 S)))) (f_X7_readLine_64 M) S0 M0 b L h := by
  obtain ⟨S', M', a1, a2, a3, a4⟩ := sign_l hL hK htp h1
  rw [sb0, a1]
  rcases a4 with ⟨b1, b2⟩ | ⟨b1, t, b2, b3, b4, b5⟩
  · refine ⟨0, S', M', ?_, rfl, hM.tr a3.m, Or.inl ⟨rfl, b2⟩⟩
    rw [b1, bd_s, zb0, pt_C a2]
  · refine ⟨1, S', M', ?_, rfl, hM.tr a3.m, Or.inr ⟨rfl, fun k hk => by rw [a2 k (by omega)]; exact hS k (by omega), by rw [b4]; exact hS 3 (by omega), by rw [b5]; exact hS 4 (by omega), t, H, P, V, B, by omega, b3, hw.cg (fun k hk => a2 k (by omega)) (fun k q1 q2 => a3 k (by omega))⟩⟩
    rw [b1, bd_s, zb1, pt_C a2]
theorem exp_line {S M : St} {b : Nat → Int32} {L h H P V B : Nat} (hL : L ≤ 400) (hK : KS S b L) (htp : mTp M b L) (hl : Ld S M b L h) (hlt : h < tE b L h) (hw : Tw S M H P V B) : Lo (f_X3_expectLine S) ((f_X7_readExpect M).bind f_X7_readLine_64) S M b L h := by
  obtain ⟨hT, w3, w4, w5⟩ := id hw
  have hb := hT.1
  obtain ⟨-, -, -, -, -, t11, g90, -⟩ := id hT.2.1
  have t11' : S 27 0 = nI B := t11
  unfold f_X3_expectLine f_X7_readExpect
  rw [t11', i90, ix_in (by omega) (by omega), tN_nI (by omega), g90]
  by_cases cB : B = 4
  · subst cB
    obtain ⟨f1, f2, f3, f4⟩ := f_at (c := 5) (by omega) (by omega) hl
    have f2' : f_X7_fails 5 M = _ := f2
    have z1 : ¬ nI 4 < (4 : Int32) := nI_nlt (b := 4) (Nat.le_refl _) (by omega)
    have z2 : nI 4 = (4 : Int32) := rfl
    rw [if_neg z1, if_pos z2, f2', bd_s, bd_s, bk_64 f3.ne]
    exact ⟨0, _, _, f1, rfl, f4, Or.inl ⟨rfl, f3⟩⟩
  · have z1 : nI B < (4 : Int32) := nI_lt (b := 4) (by omega) (by omega)
    have z2 : ¬ nI B = (4 : Int32) := fun q => cB ((nI_eq (b := 4) (by omega) (by omega)).mp q)
    obtain ⟨M1, y1, y2, y3⟩ := sp_tok hL htp hl
    obtain ⟨S2, M2, x2, u1, u2, u3, u4⟩ := house_l hL hK (htp.kp y2) y3
    rw [if_pos z1, if_neg z2, y1, bd_s, u1, bd_s, i76, ad3, p1, p2, ix_in (by omega) (by omega), tN_nI (by omega), sb0]
    have k2 : kM M M2 := y2.m.tr (fun k hk => u3 k (by omega) (by omega))
    rcases u4 with ⟨v1, v2⟩ | ⟨v1, hs, v2, v3, v4, v5, v6, v7, v8, v9⟩
    · rw [v1, bd_s, if_pos rfl, pt_C u2]
      have B2 : Bk (st 2 (upd (M2 2) (76 + 3 * B) x2) M2) := Bk.st v2.ne (by omega)
      rw [bk_day B2, bd_s, ix_in (by omega) (by omega), ix_in (by omega) (by omega), tN_nI (by omega), bk_day (B2.st (by omega)), bd_s, ix_in (by omega) (by omega), ix_in (by omega) (by omega), ix_in (by omega) (by omega), bd_s, bk_64 (Bk.st (Bk.st (B2.st (by omega)) (by omega)) (by omega))]
      exact ⟨0, S2, _, rfl, rfl, k2.tr ((kM_st (by omega)).tr ((kM_st (by omega)).tr ((kM_st (by omega)).tr (kM_st (by omega))))), Or.inl ⟨rfl, v2.cg rfl rfl rfl rfl⟩⟩
    · subst v3
      have K2 := hK.cg u2
      have T2 : mTp (st 2 (upd (M2 2) (76 + 3 * B) (nI hs)) M2) b L := (htp.km k2).km (kM_st (by omega))
      have Y2 : Sy S2 (st 2 (upd (M2 2) (76 + 3 * B) (nI hs)) M2) b L (tE b L (tH b L (tE b L h))) := v6.cg rfl (fun k _ _ => st_ne (by omega))
      obtain ⟨S3, M3, x3, a1, a2, a3, a4⟩ := date_day (lst := 0) hL K2 T2 Y2 (by omega)
      have a1' : f_X7_day 0 (st 2 (upd (M2 2) (76 + 3 * B) (nI hs)) M2) = some (x3, M3) := a1
      rw [v1, bd_s, if_neg (show ¬ (1 : Int32) = 0 by decide), pt_C u2, sb0, a1', bd_s, ix_in (by omega) (by omega), ix_in (by omega) (by omega), tN_nI (by omega)]
      have k3 : kM M M3 := k2.tr ((kM_st (by omega)).tr a3.m)
      rcases a4 with ⟨a4, a5⟩ | ⟨a4, D, t, c1, c2, c3, c4, c5, c6⟩
      · rw [a4, bd_s, if_pos rfl, pt_D a2]
        have B3 : Bk (st 2 (upd (M3 2) (76 + 3 * B + 1) x3) M3) := Bk.st a5.ne (by omega)
        rw [bk_day B3, bd_s, ix_in (by omega) (by omega), ix_in (by omega) (by omega), ix_in (by omega) (by omega), bd_s, bk_64 (Bk.st (Bk.st B3 (by omega)) (by omega))]
        exact ⟨0, S3, _, rfl, rfl, k3.tr ((kM_st (by omega)).tr ((kM_st (by omega)).tr (kM_st (by omega)))), Or.inl ⟨rfl, a5.cg rfl rfl rfl rfl⟩⟩
      · rcases c6 with ⟨-, c7, c8⟩ | ⟨c7, -⟩
        · subst c7
          have K3 := K2.cgD a2
          have T3 : mTp (st 2 (upd (M3 2) (76 + 3 * B + 1) (nI D)) M3) b L := (htp.km k3).km (kM_st (by omega))
          have Y3 : Sy S3 (st 2 (upd (M3 2) (76 + 3 * B + 1) (nI D)) M3) b L t := c8.cg rfl (fun k _ _ => st_ne (by omega))
          obtain ⟨S4, M4, x4, d1, d2, d3, d4⟩ := date_day (lst := D) hL K3 T3 Y3 (by omega)
          rw [a4, bd_s, if_neg (show ¬ (1 : Int32) = 0 by decide), pt_D a2, sb0, upd_eq, d1, bd_s, ix_in (by omega) (by omega), ix_in (by omega) (by omega), ix_in (by omega) (by omega), tN_nI (by omega), bd_s]
          have k4 : kM M M4 := k3.tr ((kM_st (by omega)).tr d3.m)
          rcases d4 with ⟨d4, d5⟩ | ⟨d4, D2, t2, e1, e2, e3, e4, e5, e6⟩
          · rw [d4, bd_s, if_pos rfl, pt_D d2, bk_64 (Bk.st (Bk.st d5.ne (by omega)) (by omega))]
            exact ⟨0, S4, _, rfl, rfl, k4.tr ((kM_st (by omega)).tr (kM_st (by omega))), Or.inl ⟨rfl, d5.cg rfl rfl rfl rfl⟩⟩
          · have kS : kpD S S4 := (u2.d.tr a2).tr d2
            have s27 : sb 16 S4 11 0 = nI B := by
              show S4 27 0 = nI B
              rw [kS 27 (by omega)]
              exact t11'
            obtain ⟨U, w1, w2, w6, w7, w8, w9⟩ := C_addBirth (T := sb 16 S4) (V := B) (nI hs) (nI D) (nI D2) s27 (by omega)
            have eT : ∀ k, k < 31 → sb 16 S4 k = sb 16 S k := fun k hk => kS (16 + k) (by omega)
            rw [d4, bd_s, if_neg (show ¬ (1 : Int32) = 0 by decide), pt_D d2, show ((1 : Int32), S2).2 8 0 = nI hs from v4, show ((1 : Int32), S3).2 9 0 = nI D from c2, show ((1 : Int32), S4).2 9 0 = nI D2 from e2, w1, bd_s]
            by_cases cc : D ≤ D2
            · obtain ⟨-, e7, e8⟩ := e6.resolve_right (fun q => by have := q.1; omega)
              subst e7
              rw [if_pos (nI_le cc (by omega))]
              have kU : ∀ k, k < 16 → pt 16 32 U S4 k = S4 k := fun k hk => pt_out (by omega)
              have m4 : ∀ k, k = 3 ∨ k = 4 ∨ k = 5 ∨ k = 7 → M4 k = M k := by
                intro k hk
                rw [d3 k (by omega), st_ne (by omega), a3 k (by omega), st_ne (by omega), u3 k (by omega) (by omega), y2 k (by omega)]
              have m46 : M4 6 0 = if nI hs ≤ M 6 0 then M 6 0 else nI hs := by
                rw [d3 6 (by omega), st_ne (by omega), a3 6 (by omega), st_ne (by omega), v5, y2 6 (by omega)]
              have m42 : M4 2 = upd (upd (M 2) (76 + 3 * B) (nI hs)) (76 + 3 * B + 1) (nI D) := by
                rw [d3 2 (by omega), st_eq, a3 2 (by omega), st_eq, u3 2 (by omega) (by omega), y2 2 (by omega)]
              refine end_l hL (S := pt 16 32 U S4) (s := t2) (H := H) (P := P) (V := V) (B := B + 1) ?_ ?_ ?_ (by have := v7; omega) ?_ ?_ ?_
              · exact ⟨by rw [kU 0 (by omega), kS 0 (by omega)]; exact hK.1, by rw [kU 1 (by omega), kS 1 (by omega)]; exact hK.2⟩
              · exact (htp.km k4).km ((kM_st (by omega)).tr (kM_st (by omega)))
              · exact e8.cg (kU 5 (by omega)) (fun k _ _ => by rw [st_ne (by omega), st_ne (by omega)])
              · refine ⟨?_, ?_, ?_, ?_⟩
                · have eP : ∀ k, k < 32 → sb 16 (pt 16 32 U S4) k = U k := fun k hk => by
                    show pt 16 32 U S4 (16 + k) = U k
                    rw [pt_in (by omega) (by omega)]
                    exact congrArg U (by omega)
                  have g2e : st 2 (upd (upd (M4 2) (76 + 3 * B + 2) (nI D2)) 90 (upd (M4 2) (76 + 3 * B + 2) (nI D2) 90 + 1)) (st 2 (upd (M4 2) (76 + 3 * B + 2) (nI D2)) M4) 2 = upd (upd (upd (upd (M 2) (76 + 3 * B) (nI hs)) (76 + 3 * B + 1) (nI D)) (76 + 3 * B + 2) (nI D2)) 90 (nI (B + 1)) := by
                    rw [st_eq, upd_ne (show 90 ≠ 76 + 3 * B + 2 by omega), m42, upd_ne (show 90 ≠ 76 + 3 * B + 1 by omega), upd_ne (show 90 ≠ 76 + 3 * B by omega), g90, p1]
                  have base := Tg.birth (U := sb 16 (pt 16 32 U S4)) (g2 := upd (upd (upd (upd (M 2) (76 + 3 * B) (nI hs)) (76 + 3 * B + 1) (nI D)) (76 + 3 * B + 2) (nI D2)) 90 (nI (B + 1))) (h := hs) (a := D) (c := D2) hT (by omega) (fun k q1 q2 q3 q4 => by
                      by_cases q : k < 32
                      · rw [eP k q, w2 k q1 q2 q3 q4]
                        exact kS (16 + k) (by omega)
                      · show pt 16 32 U S4 (16 + k) = S (16 + k)
                        rw [pt_out (by omega)]
                        exact kS _ (by omega)) (by rw [eP 11 (by omega)]; exact w6) (by rw [eP 12 (by omega), w7, eT 12 (by omega)]) (by rw [eP 13 (by omega), w8, eT 13 (by omega)]) (by rw [eP 14 (by omega), w9, eT 14 (by omega)]) (fun j hj => by rw [upd_ne (by omega), upd_ne (by omega), upd_ne (by omega), upd_ne (by omega)]) ⟨by rw [upd_ne (by omega), upd_ne (by omega), upd_ne (by omega), upd_eq], by rw [upd_ne (by omega), upd_ne (by omega), upd_eq], by rw [upd_ne (by omega), upd_eq], upd_eq⟩ v2 cc e1
                  have e6' : ∀ f g : Nat → Int32, st 2 f (st 2 g M4) 6 0 = if nI hs ≤ M 6 0 then M 6 0 else nI hs := fun f g => by rw [st_ne (by omega), st_ne (by omega)]; exact m46
                  have e7' : ∀ f g : Nat → Int32, st 2 f (st 2 g M4) 7 0 = M 7 0 := fun f g => by rw [st_ne (by omega), st_ne (by omega), m4 7 (by omega)]
                  dsimp only
                  rw [g2e, e6', e7']
                  exact base
                · show M4 3 0 = nI H
                  rw [m4 3 (by omega)]
                  exact w3
                · show pt 16 32 U S4 10 0 = M4 4 0
                  rw [kU 10 (by omega), kS 10 (by omega), m4 4 (by omega)]
                  exact w4
                · show pt 16 32 U S4 11 0 = M4 5 0
                  rw [kU 11 (by omega), kS 11 (by omega), m4 5 (by omega)]
                  exact w5
              · intro k hk
                rw [kU k (by omega)]
                rcases (show k < 3 ∨ k = 3 ∨ k = 4 by omega) with q | q | q
                · exact kS k (by omega)
                · rw [q, e4, c4, v8]
                · rw [q, e5, c5, v9]
              · exact k4.tr ((kM_st (by omega)).tr (kM_st (by omega)))
            · obtain ⟨-, e7, e8⟩ := e6.resolve_left (fun q => by have := q.1; omega)
              rw [if_neg (nI_ge (by omega) (by omega)), c_fail]
              have F : Fl (st 4 (fun _ => S4 7 0) (st 3 (fun _ => (4 : Int32)) (pt 16 32 U S4))) M4 := ⟨4, by omega, by omega, rfl, e7, e8.symm⟩
              rw [bk_64 (Bk.st (Bk.st F.ne (by omega)) (by omega))]
              exact ⟨0, _, _, rfl, rfl, k4.tr ((kM_st (by omega)).tr (kM_st (by omega))), Or.inl ⟨rfl, F.cg rfl rfl rfl rfl⟩⟩
        · omega
