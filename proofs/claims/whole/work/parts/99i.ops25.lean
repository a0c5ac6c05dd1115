-- the text: dates, houses, signs
def kpD (S S' : St) : Prop := ∀ k, (k < 3 ∨ 9 < k) → S' k = S k
theorem kpC.d {S S' : St} (h : kpC S S') : kpD S S' := fun k hk => h k (by omega)
theorem kpD.tr {A B C : St} (h : kpD A B) (h2 : kpD B C) : kpD A C := fun k hk => (h2 k hk).trans (h k hk)
theorem KS.cgD {S S2 : St} {b : Nat → Int32} {L : Nat} (h : KS S b L) (hk : kpD S S2) : KS S2 b L := ⟨by rw [hk 0 (by omega)]; exact h.1, by rw [hk 1 (by omega)]; exact h.2⟩
theorem mTp.kp {M M2 : St} {b : Nat → Int32} {L : Nat} (h : mTp M b L) (hk : kpM M M2) : mTp M2 b L := h.cg (hk 8 (by omega)) (hk 9 (by omega))
theorem date_day {S M : St} {b : Nat → Int32} {L s lst : Nat} (hL : L ≤ 400) (hK : KS S b L) (htp : mTp M b L) (h : Sy S M b L s) (hl : lst ≤ 36000) : ∃ (S' M' : St) (x : Int32), f_X7_day (nI lst) M = some (x, M') ∧ kpD S S' ∧ kpM M M' ∧ ((f_X3_date S = some (0, S') ∧ Fl S' M') ∨ (f_X3_date S = some (1, S') ∧ ∃ D t, D < 36000 ∧ S' 9 0 = nI D ∧ s ≤ t ∧ S' 3 = S 3 ∧ S' 4 = S 4 ∧ ((lst ≤ D ∧ x = nI D ∧ Sy S' M' b L t) ∨ (D < lst ∧ M' 11 0 = 4 ∧ M' 12 0 = S' 7 0)))) := by
  obtain ⟨S1, M1, x1, a1, a2, a3, a4⟩ := fig_num (lo := 0) (hi := 99) hL hK htp h (by omega) (by omega)
  have a1' : f_X7_numeral 0 99 M = some (x1, M1) := a1
  unfold f_X7_day
  rw [a1', bd_s]
  rcases a4 with ⟨a4, a5, -⟩ | ⟨a4, Y, y1, y2, y3, -, y4, -, y5, y6, y7, y8⟩
  · obtain ⟨n1, n2⟩ := a5.ne
    refine ⟨S1, M1, (360 : Int32) * x1 + 0, ?_, a2.d, a3, Or.inl ⟨?_, a5⟩⟩
    · rw [if_neg n2]
      unfold f_X7_day_57
      rw [bk_num n1 n2, bd_s]
    · have a4' : f_X3_figure 0 99 S = some (0, S1) := a4
      unfold f_X3_date
      rw [a4', bd_s, if_pos rfl]
  · have a4' : f_X3_figure 0 99 S = some (1, S1) := a4
    subst y3
    have s1b := y5.1
    obtain ⟨S2, M2, x2, b1, b2, b3, b4⟩ := fig_num (lo := 0) (hi := 359) hL (hK.cg a2) (htp.kp a3) y5 (by omega) (by omega)
    have b1' : f_X7_numeral 0 359 M1 = some (x2, M2) := b1
    have n57 : f_X7_day_57 (nI Y) M1 = some ((360 : Int32) * nI Y + x2, M2) := by
      unfold f_X7_day_57
      rw [b1', bd_s]
    have kk : kpC S S2 := a2.tr b2
    rcases b4 with ⟨b4, b5, b6⟩ | ⟨b4, j, z1, z2, z3, ⟨q1, q2, q3, q4⟩, z4, z5, z6, z7, z8, z9⟩
    · have b4' : f_X3_figure 0 359 S1 = some (0, S2) := b4
      refine ⟨S2, M2, (360 : Int32) * nI Y + x2, ?_, kk.d, a3.tr b3, Or.inl ⟨?_, b5⟩⟩
      · dsimp only
        by_cases c1 : M1 11 0 = 0
        · rw [if_pos c1]
          by_cases c2 : M1 15 0 = 2
          · rw [if_pos c2, in_l (M1 16 0) (lo := 0) (hi := 359) (a := 0) (c := 359) (by decide) (by decide)]
            have c3 : ¬ (0 ≤ (M1 16 0).toInt ∧ (M1 16 0).toInt ≤ 359) := fun q => b6 ⟨c1, c2, q⟩
            rw [vb_f (decide_eq_false c3)]
            exact n57
          · rw [if_neg c2]
            exact n57
        · rw [if_neg c1]
          exact n57
      · unfold f_X3_date
        rw [a4', bd_s, if_neg (show ¬ (1 : Int32) = 0 by decide), b4', bd_s, if_pos rfl]
    · have b4' : f_X3_figure 0 359 S1 = some (1, S2) := b4
      have cd : f_X3_date S = some (1, st 9 (fun _ => S1 8 0 * 360 + S2 8 0) S2) := by
        unfold f_X3_date
        rw [a4', bd_s, if_neg (show ¬ (1 : Int32) = 0 by decide), b4', bd_s, if_neg (show ¬ (1 : Int32) = 0 by decide)]
      have e9 : S1 8 0 * 360 + S2 8 0 = nI (Y * 360 + j) := by
        rw [y4, z4, i360, nI_mul, nI_add]
      have e360 : (360 : Int32) * nI Y + nI j = nI (360 * Y + j) := by
        rw [i360, nI_mul, nI_add]
      have c3 : 0 ≤ (M1 16 0).toInt ∧ (M1 16 0).toInt ≤ 359 := by
        rw [q3, nI_toInt (by omega)]
        omega
      have k9 : kpD S (st 9 (fun _ => S1 8 0 * 360 + S2 8 0) S2) := fun k hk => by rw [st_ne (by omega)]; exact kk k (by omega)
      dsimp only
      rw [if_pos q1, if_pos q2, in_l (M1 16 0) (lo := 0) (hi := 359) (a := 0) (c := 359) (by decide) (by decide), vb_t (decide_eq_true c3)]
      have tst : (nI lst ≤ (360 : Int32) * nI Y + M1 16 0) ↔ lst ≤ 360 * Y + j := by
        rw [q3, e360, nI_leI (by omega) (by omega)]
      by_cases c : lst ≤ 360 * Y + j
      · rw [if_pos (tst.mpr c), n57, z3, e360]
        refine ⟨_, M2, _, rfl, k9, a3.tr b3, Or.inr ⟨cd, Y * 360 + j, _, by omega, by rw [st_eq]; exact e9, Nat.le_trans y6 z7, by rw [st_ne (by omega), z8, y7], by rw [st_ne (by omega), z9, y8], Or.inl ⟨by omega, congrArg nI (by omega), z6.cg (st_ne (by omega)) (fun _ _ _ => rfl)⟩⟩⟩
      · rw [if_neg (fun q => c (tst.mp q)), ok_fails q1, bd_s]
        have F : Fl (st 4 (fun _ => nI (tH b L (tE b L (tH b L s)))) (st 3 (fun _ => nI 4) S)) (st 12 (fun _ => M1 14 0) (st 11 (fun _ => nI 4) M1)) := Fl_mk (by omega) (by omega) q4
        obtain ⟨n1, n2⟩ := F.ne
        have n57' : f_X7_day_57 (nI Y) (st 12 (fun _ => M1 14 0) (st 11 (fun _ => nI 4) M1)) = some ((360 : Int32) * nI Y + 0, st 12 (fun _ => M1 14 0) (st 11 (fun _ => nI 4) M1)) := by
          unfold f_X7_day_57
          rw [bk_num n1 n2, bd_s]
        have n57'' : f_X7_day_57 (nI Y) (st 12 (fun _ => M1 14 0) (st 11 (fun _ => (4 : Int32)) M1)) = _ := n57'
        rw [n57'']
        refine ⟨_, _, _, rfl, k9, fun k hk => by rw [st_ne (by omega), st_ne (by omega)]; exact a3 k hk, Or.inr ⟨cd, Y * 360 + j, _, by omega, by rw [st_eq]; exact e9, Nat.le_trans y6 z7, by rw [st_ne (by omega), z8, y7], by rw [st_ne (by omega), z9, y8], Or.inr ⟨by omega, rfl, ?_⟩⟩⟩
        rw [st_ne (show 7 ≠ 9 by omega), z5, ← q4]
        rfl
theorem house_l {S M : St} {b : Nat → Int32} {L s : Nat} (hL : L ≤ 400) (hK : KS S b L) (htp : mTp M b L) (h : Sy S M b L s) : ∃ (S' M' : St) (x : Int32), f_X7_house M = some (x, M') ∧ kpC S S' ∧ (∀ k, (k < 11 ∨ 16 < k) → k ≠ 6 → M' k = M k) ∧ ((f_X3_figure 0 7 S = some (0, S') ∧ Fl S' M') ∨ (f_X3_figure 0 7 S = some (1, S') ∧ ∃ j, j < 8 ∧ x = nI j ∧ S' 8 0 = nI j ∧ M' 6 0 = (if nI j ≤ M 6 0 then M 6 0 else nI j) ∧ Sy S' M' b L (tE b L (tH b L s)) ∧ s ≤ tE b L (tH b L s) ∧ S' 3 = S 3 ∧ S' 4 = S 4)) := by
  obtain ⟨S1, M1, x1, a1, a2, a3, a4⟩ := fig_num (lo := 0) (hi := 7) hL hK htp h (by omega) (by omega)
  have a1' : f_X7_numeral 0 7 M = some (x1, M1) := a1
  have h6 : M1 6 0 = M 6 0 := by rw [a3 6 (by omega)]
  have hk : ∀ f : Nat → Int32, ∀ k, (k < 11 ∨ 16 < k) → k ≠ 6 → st 6 f M1 k = M k := fun f k q1 q2 => by rw [st_ne q2]; exact a3 k q1
  unfold f_X7_house f_X7_house_25
  rw [a1', bd_s]
  dsimp only
  have cs : (if x1 ≤ M1 6 0 then some (x1, st 6 (fun _ => M1 6 0) M1) else some (x1, st 6 (fun _ => x1) M1)) = some (x1, st 6 (fun _ => if x1 ≤ M1 6 0 then M1 6 0 else x1) M1) := by
    by_cases c : x1 ≤ M1 6 0
    · rw [if_pos c]
      simp only [if_pos c]
    · rw [if_neg c]
      simp only [if_neg c]
  refine ⟨S1, st 6 (fun _ => if x1 ≤ M1 6 0 then M1 6 0 else x1) M1, x1, cs, a2, hk _, ?_⟩
  rcases a4 with ⟨a4, a5, -⟩ | ⟨a4, j, y1, y2, y3, -, y4, -, y5, y6, y7, y8⟩
  · refine Or.inl ⟨a4, ?_⟩
    obtain ⟨c, c1, c2, c3, c4, c5⟩ := a5
    exact ⟨c, c1, c2, c3, by rw [st_ne (by omega)]; exact c4, by rw [c5, st_ne (by omega)]⟩
  · refine Or.inr ⟨a4, j, by omega, y3, y4, ?_, y5.cg rfl (fun k _ _ => st_ne (by omega)), y6, y7, y8⟩
    rw [st_eq, y3, h6]
theorem sign_l {S M : St} {b : Nat → Int32} {L s : Nat} (hL : L ≤ 400) (hK : KS S b L) (htp : mTp M b L) (h : Sy S M b L s) : ∃ (S' M' : St), f_X7_readLine_64 M = some M' ∧ kpC S S' ∧ kpM M M' ∧ ((f_X3_sign S = some (0, S') ∧ Fl S' M') ∨ (f_X3_sign S = some (1, S') ∧ ∃ t, s ≤ t ∧ Sy S' M' b L t ∧ S' 3 = S 3 ∧ S' 4 = S 4)) := by
  obtain ⟨S1, k1, k2⟩ := nx_tok hL hK h
  unfold f_X7_readLine_64 f_X7_readLine_84
  rcases k2 with ⟨a1, a2, a3⟩ | ⟨a1, a2, a3, a4, a5⟩
  · obtain ⟨n1, n2⟩ := a2.ne
    refine ⟨S1, M, ?_, k1, kpM.rf, Or.inl ⟨?_, a2⟩⟩
    · rw [if_neg n2, bk_step n1]
      rfl
    · unfold f_X3_sign
      rw [a1, bd_s, if_pos rfl]
  · obtain ⟨c1, c2, c3, c4, c5⟩ := id a3
    have eb := tE_b (b := b) c1
    have tb : tT b L (tH b L s) < 4 := by
      unfold tT
      repeat' split
      all_goals omega
    obtain ⟨d5, d6, d7, d8⟩ := c3
    obtain ⟨m13, m15, m14, m16⟩ := c4
    have cf : f_X3_sign S = (if S1 6 0 = 3 then f_X3_sign_27 S1 else (f_X3_fail 2 (S1 7 0) S1).bind (fun q2 => if q2.1 = 0 then some ((0 : Int32), q2.2) else f_X3_sign_27 q2.2)) := by
      unfold f_X3_sign
      rw [a1, bd_s, if_neg (show ¬ (1 : Int32) = 0 by decide)]
    rw [cf, d6, d7, if_pos c5, m15]
    by_cases t3 : tT b L (tH b L s) = 3
    · have t3' : nI (tT b L (tH b L s)) = 3 := by rw [t3]; rfl
      obtain ⟨M', y1, y2, y3⟩ := sp_tok hL htp a3
      rw [if_pos t3', if_pos t3', y1, bd_s]
      exact ⟨S1, M', rfl, k1, y2, Or.inr ⟨rfl, _, by omega, y3, a4, a5⟩⟩
    · have t3' : ¬ nI (tT b L (tH b L s)) = 3 := fun q => t3 ((nI_eq (b := 3) (by omega) (by omega)).mp q)
      rw [if_neg t3', if_neg t3', ok_fails c5, bd_s]
      have F := Fl_mk (S := S1) (c := 2) (by omega) (by omega) m14
      obtain ⟨n1, n2⟩ := F.ne
      have n1' : ¬ st 12 (fun _ => M 14 0) (st 11 (fun _ => (2 : Int32)) M) 11 0 ≤ 0 := n1
      rw [bk_step n1', bd_s]
      exact ⟨st 4 (fun _ => nI (tH b L s)) (st 3 (fun _ => 2) S1), _, rfl, fun k hk => by rw [st_ne (by omega), st_ne (by omega)]; exact k1 k hk, fun k hk => by rw [st_ne (by omega), st_ne (by omega)], Or.inl ⟨rfl, F⟩⟩
