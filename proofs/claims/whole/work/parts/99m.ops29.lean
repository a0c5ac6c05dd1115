-- the text: lines of houses, of the law
def Nm (b : Nat → Int32) (L h i : Nat) : Prop := tT b L h = 1 ∧ nm b h (tE b L h) i
theorem Nm_u {b : Nat → Int32} {L h i j : Nat} (hi : i < 15) (hj : j < 15) (h1 : Nm b L h i) (h2 : Nm b L h j) : i = j := nm_u hi hj h1.2 h2.2
theorem C_n1 {b : Nat → Int32} {S : St} {h L i : Nat} (hi : i < 15) (hL : L ≤ 400) (h1 : h ≤ L) (s0 : S 0 = b) (ht : cTok S b L h) (hn : Nm b L h i) : f_X3_isName i S = some 1 := by
  obtain ⟨x, x1, x2, x3⟩ := C_name hi hL h1 s0 ht
  rw [x1, x3.mpr hn]
theorem C_n0 {b : Nat → Int32} {S : St} {h L i : Nat} (hi : i < 15) (hL : L ≤ 400) (h1 : h ≤ L) (s0 : S 0 = b) (ht : cTok S b L h) (hn : ¬ Nm b L h i) : f_X3_isName i S = some 0 := by
  obtain ⟨x, x1, x2, x3⟩ := C_name hi hL h1 s0 ht
  rcases x2 with x2 | x2
  · rw [x1, x2]
  · exact absurd (x3.mp x2) hn
theorem nm_ne {b : Nat → Int32} {L h i j : Nat} (hi : i < 15) (hj : j < 15) (h1 : Nm b L h i) (hne : i ≠ j) : ¬ Nm b L h j := fun q => hne (Nm_u hi hj h1 q)
theorem lawN {b : Nat → Int32} {S : St} {h L : Nat} (hL : L ≤ 400) (h1 : h ≤ L) (s0 : S 0 = b) (ht : cTok S b L h) : (∀ i, i < 4 → Nm b L h (6 + i) → f_X3_lawNamed S = some (nI i)) ∧ ((∀ i, i < 4 → ¬ Nm b L h (6 + i)) → f_X3_lawNamed S = some (-4)) := by
  have y1 : ∀ i, i < 15 → Nm b L h i → f_X3_isName i S = some 1 := fun i hi hn => C_n1 hi hL h1 s0 ht hn
  have y0 : ∀ i, i < 15 → ¬ Nm b L h i → f_X3_isName i S = some 0 := fun i hi hn => C_n0 hi hL h1 s0 ht hn
  constructor
  · intro i hi hn
    have no : ∀ j, j < 15 → j ≠ 6 + i → f_X3_isName j S = some 0 := fun j hj hne => y0 j hj (nm_ne (by omega) hj hn (fun q => hne q.symm))
    have ye := y1 (6 + i) (by omega) hn
    unfold f_X3_lawNamed
    rcases (show i = 0 ∨ i = 1 ∨ i = 2 ∨ i = 3 by omega) with rfl | rfl | rfl | rfl
    · rw [ye]
      rfl
    · rw [no 6 (by omega) (by omega), ye]
      rfl
    · rw [no 6 (by omega) (by omega), no 7 (by omega) (by omega), ye]
      rfl
    · rw [no 6 (by omega) (by omega), no 7 (by omega) (by omega), no 8 (by omega) (by omega), ye]
      rfl
  · intro hn
    unfold f_X3_lawNamed
    rw [y0 6 (by omega) (hn 0 (by omega)), y0 7 (by omega) (hn 1 (by omega)), y0 8 (by omega) (hn 2 (by omega)), y0 9 (by omega) (hn 3 (by omega))]
    rfl
theorem kindN {b : Nat → Int32} {S : St} {h L : Nat} (hL : L ≤ 400) (h1 : h ≤ L) (s0 : S 0 = b) (ht : cTok S b L h) : (∀ i, i < 5 → Nm b L h (10 + i) → f_X3_kindNamed S = some (nI i)) ∧ ((∀ i, i < 5 → ¬ Nm b L h (10 + i)) → f_X3_kindNamed S = some (-4)) := by
  have y1 : ∀ i, i < 15 → Nm b L h i → f_X3_isName i S = some 1 := fun i hi hn => C_n1 hi hL h1 s0 ht hn
  have y0 : ∀ i, i < 15 → ¬ Nm b L h i → f_X3_isName i S = some 0 := fun i hi hn => C_n0 hi hL h1 s0 ht hn
  constructor
  · intro i hi hn
    have no : ∀ j, j < 15 → j ≠ 10 + i → f_X3_isName j S = some 0 := fun j hj hne => y0 j hj (nm_ne (by omega) hj hn (fun q => hne q.symm))
    have ye := y1 (10 + i) (by omega) hn
    unfold f_X3_kindNamed
    rcases (show i = 0 ∨ i = 1 ∨ i = 2 ∨ i = 3 ∨ i = 4 by omega) with rfl | rfl | rfl | rfl | rfl
    · rw [ye]
      rfl
    · rw [no 10 (by omega) (by omega), ye]
      rfl
    · rw [no 10 (by omega) (by omega), no 11 (by omega) (by omega), ye]
      rfl
    · rw [no 10 (by omega) (by omega), no 11 (by omega) (by omega), no 12 (by omega) (by omega), ye]
      rfl
    · rw [no 10 (by omega) (by omega), no 11 (by omega) (by omega), no 12 (by omega) (by omega), no 13 (by omega) (by omega), ye]
      rfl
  · intro hn
    unfold f_X3_kindNamed
    rw [y0 10 (by omega) (hn 0 (by omega)), y0 11 (by omega) (hn 1 (by omega)), y0 12 (by omega) (hn 2 (by omega)), y0 13 (by omega) (hn 3 (by omega)), y0 14 (by omega) (hn 4 (by omega))]
    rfl
theorem Tg.houses {T U : St} {g : Nat → Int32} {H P V B j : Nat} {m o : Int32} (h : Tg T g H P V B m o) (hU : ∀ k, k ≠ 0 → U k = T k) (h0 : U 0 0 = nI j) (j1 : 1 ≤ j) (j8 : j ≤ 8) : Tg U g j P V B m o := by
  obtain ⟨b1, ⟨s1, s2, s3, s4, s5, s6, s7, s8, s9⟩, b3, b4, b5, b6, b7⟩ := h
  refine ⟨by omega, ⟨h0, by rw [hU 2 (by omega)]; exact s2, s3, by rw [hU 7 (by omega)]; exact s4, s5, by rw [hU 11 (by omega)]; exact s6, s7, by rw [hU 1 (by omega)]; exact s8, s9⟩, b3.cg (fun p hp => by rw [hU 3 (by omega), hU 4 (by omega), hU 5 (by omega), hU 6 (by omega)]; exact ⟨rfl, rfl, rfl, rfl⟩) (fun _ _ => rfl), b4.cg (Nat.le_refl _) (fun p hp => by rw [hU 8 (by omega), hU 9 (by omega), hU 10 (by omega)]; exact ⟨rfl, rfl, rfl⟩) (fun _ _ _ => rfl), b5.cg (fun p hp => by rw [hU 12 (by omega), hU 13 (by omega), hU 14 (by omega)]; exact ⟨rfl, rfl, rfl⟩) (fun _ _ _ => rfl), ?_, ?_⟩
  · unfold Us
    rw [hU 5 (by omega), hU 10 (by omega), hU 12 (by omega)]
    exact b6
  · unfold Uo
    rw [hU 9 (by omega)]
    exact b7
theorem Tg.law {T U : St} {g g2 : Nat → Int32} {H P V B j : Nat} {m o : Int32} (h : Tg T g H P V B m o) (hU : ∀ k, k ≠ 1 → U k = T k) (h1 : U 1 0 = nI j) (hg : ∀ k, k ≠ 91 → g2 k = g k) (hg2 : g2 91 = nI j) (hj : j < 4) : Tg U g2 H P V B m o := by
  obtain ⟨b1, ⟨s1, s2, s3, s4, s5, s6, s7, s8, s9⟩, b3, b4, b5, b6, b7⟩ := h
  refine ⟨b1, ⟨by rw [hU 0 (by omega)]; exact s1, by rw [hU 2 (by omega)]; exact s2, by rw [hg 88 (by omega)]; exact s3, by rw [hU 7 (by omega)]; exact s4, by rw [hg 89 (by omega)]; exact s5, by rw [hU 11 (by omega)]; exact s6, by rw [hg 90 (by omega)]; exact s7, by rw [h1, hg2], ⟨j, hj, hg2⟩⟩, b3.cg (fun p hp => by rw [hU 3 (by omega), hU 4 (by omega), hU 5 (by omega), hU 6 (by omega)]; exact ⟨rfl, rfl, rfl, rfl⟩) (fun k hk => hg k (by omega)), b4.cg (Nat.le_refl _) (fun p hp => by rw [hU 8 (by omega), hU 9 (by omega), hU 10 (by omega)]; exact ⟨rfl, rfl, rfl⟩) (fun k q1 q2 => hg k (by omega)), b5.cg (fun p hp => by rw [hU 12 (by omega), hU 13 (by omega), hU 14 (by omega)]; exact ⟨rfl, rfl, rfl⟩) (fun k q1 q2 => hg k (by omega)), ?_, ?_⟩
  · unfold Us
    rw [hU 5 (by omega), hU 10 (by omega), hU 12 (by omega)]
    exact b6
  · unfold Uo
    rw [hU 9 (by omega)]
    exact b7
theorem hou_line {S M : St} {b : Nat → Int32} {L h H P V B : Nat} (hL : L ≤ 400) (hK : KS S b L) (htp : mTp M b L) (hl : Ld S M b L h) (hlt : h < tE b L h) (hw : Tw S M H P V B) : Lo (f_X3_housesLine S) ((f_X7_readOnce 0 M).bind f_X7_readLine_64) S M b L h := by
  obtain ⟨hT, w3, w4, w5⟩ := id hw
  have hb := hT.1
  unfold f_X3_housesLine f_X7_readOnce
  rw [if_pos (show (0 : Int32) = 0 from rfl), w4]
  by_cases c : M 4 0 = 0
  · rw [if_pos c, if_pos c]
    unfold f_X7_readOnce_16
    have hl1 : Ld (st 10 (fun _ => (1 : Int32)) S) (st 4 (fun _ => (1 : Int32)) M) b L h := hl
    have T1 : mTp (st 4 (fun _ => (1 : Int32)) M) b L := htp.km (kM_st (by omega))
    have K1 : KS (st 10 (fun _ => (1 : Int32)) S) b L := hK
    obtain ⟨M1, y1, y2, y3⟩ := sp_tok hL T1 hl1
    obtain ⟨S2, M2, x2, a1, a2, a3, a4⟩ := fig_num (lo := 1) (hi := 8) hL K1 (T1.kp y2) y3 (by omega) (by omega)
    have a1' : f_X7_numeral 1 8 M1 = some (x2, M2) := a1
    have k2 : kM M M2 := (kM_st (by omega)).tr (y2.m.tr a3.m)
    rw [y1, bd_s, a1', bd_s, bd_s, sb0]
    rcases a4 with ⟨a4, a5, -⟩ | ⟨a4, j, e1, e2, e3, -, e4, -, e5, e6, e7, e8⟩
    · have a4' : f_X3_figure 1 8 (st 10 (fun _ => (1 : Int32)) S) = some (0, S2) := a4
      rw [a4', bd_s, if_pos rfl, pt_C a2, bk_64 (Bk.st a5.ne (by omega))]
      exact ⟨0, S2, _, rfl, rfl, k2.tr (kM_st (by omega)), Or.inl ⟨rfl, a5.cg rfl rfl rfl rfl⟩⟩
    · subst e3
      have a4' : f_X3_figure 1 8 (st 10 (fun _ => (1 : Int32)) S) = some (1, S2) := a4
      rw [a4', bd_s, if_neg (show ¬ (1 : Int32) = 0 by decide), pt_C a2, show ((1 : Int32), S2).2 8 0 = nI j from e4]
      have kk : ∀ k, 10 < k → S2 k = S k := fun k hk => by rw [a2 k (by omega), st_ne (by omega)]
      have mm : ∀ k, 2 ≤ k → k < 8 → k ≠ 4 → M2 k = M k := fun k q1 q2 q3 => by rw [a3 k (by omega), y2 k (by omega), st_ne q3]
      refine end_l hL (S := st 16 (fun _ => nI j) S2) (s := tE b L (tH b L (tE b L h))) (H := j) (P := P) (V := V) (B := B) ?_ ?_ ?_ (by omega) ?_ ?_ ?_
      · have q : KS S2 b L := K1.cg a2
        exact q
      · exact (htp.km k2).km (kM_st (by omega))
      · exact e5.cg (st_ne (by omega)) (fun k _ _ => st_ne (by omega))
      · refine ⟨?_, rfl, ?_, ?_⟩
        · have e6' : ∀ f : Nat → Int32, st 3 f M2 6 0 = M 6 0 := fun f => by rw [st_ne (by omega), mm 6 (by omega) (by omega) (by omega)]
          have e7' : ∀ f : Nat → Int32, st 3 f M2 7 0 = M 7 0 := fun f => by rw [st_ne (by omega), mm 7 (by omega) (by omega) (by omega)]
          have e2' : ∀ f : Nat → Int32, st 3 f M2 2 = M 2 := fun f => by rw [st_ne (by omega), mm 2 (by omega) (by omega) (by omega)]
          dsimp only
          rw [e6', e7', e2']
          refine hT.houses (fun k hk => ?_) rfl e1 e2
          show st 16 (fun _ => nI j) S2 (16 + k) = S (16 + k)
          rw [st_ne (by omega), kk _ (by omega)]
        · show S2 10 0 = M2 4 0
          rw [a2 10 (by omega), a3 4 (by omega), y2 4 (by omega)]
          rfl
        · show S2 11 0 = M2 5 0
          rw [kk 11 (by omega), mm 5 (by omega) (by omega) (by omega)]
          exact w5
      · intro k hk
        rw [st_ne (by omega)]
        rcases (show k < 3 ∨ k = 3 ∨ k = 4 by omega) with q | q | q
        · rw [a2 k (by omega), st_ne (by omega)]
        · rw [q, e7]
          rfl
        · rw [q, e8]
          rfl
      · exact k2.tr (kM_st (by omega))
  · rw [if_neg c, if_neg c]
    obtain ⟨f1, f2, f3, f4⟩ := f_at (c := 4) (by omega) (by omega) hl
    have f2' : f_X7_fails 4 M = _ := f2
    rw [f2', bd_s]
    unfold f_X7_readOnce_16
    have B1 : Bk (st 4 (fun _ => (1 : Int32)) (st 12 (fun _ => M 14 0) (st 11 (fun _ => nI 4) M))) := Bk.st f3.ne (by omega)
    rw [bk_step B1.1, bd_s, bk_num B1.1 B1.2, bd_s, bd_s, bk_64 (B1.st (by omega))]
    exact ⟨0, _, _, f1, rfl, f4.tr ((kM_st (by omega)).tr (kM_st (by omega))), Or.inl ⟨rfl, f3.cg rfl rfl rfl rfl⟩⟩
theorem sub6 : ∀ i, i < 15 → (nI i - 6).toInt = (i : Int) - 6 := by decide +kernel
theorem sub10 : ∀ i, i < 15 → (nI i - 10).toInt = (i : Int) - 10 := by decide +kernel
theorem law_line {S M : St} {b : Nat → Int32} {L h H P V B : Nat} (hL : L ≤ 400) (hK : KS S b L) (htp : mTp M b L) (m17 : M 17 = zM0 17) (m18 : M 18 = zM0 18) (hl : Ld S M b L h) (hlt : h < tE b L h) (hw : Tw S M H P V B) (x1 : Int32) (hx1 : ¬ x1 = 0) : Lo (f_X3_lawLine S) ((f_X7_readOnce x1 M).bind f_X7_readLine_64) S M b L h := by
  obtain ⟨hT, w3, w4, w5⟩ := id hw
  have hb := hT.1
  unfold f_X3_lawLine f_X7_readOnce
  rw [if_neg hx1, w5]
  by_cases c : M 5 0 = 0
  · rw [if_pos c, if_pos c]
    unfold f_X7_readOnce_49
    have hl1 : Ld (st 11 (fun _ => (1 : Int32)) S) (st 5 (fun _ => (1 : Int32)) M) b L h := hl
    have T1 : mTp (st 5 (fun _ => (1 : Int32)) M) b L := htp.km (kM_st (by omega))
    have K1 : KS (st 11 (fun _ => (1 : Int32)) S) b L := hK
    obtain ⟨M1, y1, y2, y3⟩ := sp_tok hL T1 hl1
    have T2 := T1.kp y2
    have k1 : kM M M1 := (kM_st (by omega)).tr y2.m
    obtain ⟨S2, a1, a2⟩ := nx_tok hL K1 y3
    rw [y1, bd_s, sb0]
    rcases a2 with ⟨a2, a3, a4⟩ | ⟨a2, a3, a4, a5, a6⟩
    · have z : ¬ (0 ≤ ((-4 : Int32) - 6).toInt ∧ ((-4 : Int32) - 6).toInt ≤ 3) := by decide
      rw [a2, bd_s, if_pos rfl, pt_C a1, M_noname a4, bd_s, in_l _ (lo := 0) (hi := 3) (a := 0) (c := 3) (by decide) (by decide), vb_f (decide_eq_false z), bk_fails a3.ne.2, bd_s, bd_s, bk_64 a3.ne]
      exact ⟨0, S2, M1, rfl, rfl, k1, Or.inl ⟨rfl, a3⟩⟩
    · have K2 := K1.cg a1
      have q17 : M1 17 = zM0 17 := by rw [k1 17 (by omega)]; exact m17
      have q18 : M1 18 = zM0 18 := by rw [k1 18 (by omega)]; exact m18
      obtain ⟨x, n1, n2⟩ := M_name hL a4.1 T2 q17 q18 a4.2.2.2.1
      obtain ⟨l1, l2⟩ := lawN hL a4.1 K2.1 a4.2.2.1
      rw [a2, bd_s, if_neg (show ¬ (1 : Int32) = 0 by decide), pt_C a1, sb0, n1, bd_s, in_l _ (lo := 0) (hi := 3) (a := 0) (c := 3) (by decide) (by decide)]
      have bad : (¬ (0 ≤ (x - 6).toInt ∧ (x - 6).toInt ≤ 3)) → (∀ i, i < 4 → ¬ Nm b L (tH b L (tE b L h)) (6 + i)) → Lo ((f_X3_lawNamed S2).bind (fun q2 => (if q2 = (-4 : Int32) then ((f_X3_fail (2 : Int32) (((1 : Int32), S2).2 7 0) (sb 0 (st 17 (fun _ => q2) S2))).bind (fun q3 => (zb q3.1 (some (q3.1, (pt 0 16 q3.2 (st 17 (fun _ => q2) S2))))))) else ((f_X3_sign (sb 0 (st 17 (fun _ => q2) S2))).bind (fun q4 => (zb q4.1 (some (q4.1, (pt 0 16 q4.2 (st 17 (fun _ => q2) S2)))))))))) (((some (if decide (0 ≤ (x - 6).toInt ∧ (x - 6).toInt ≤ 3) = true then (1 : Int32) else 0)).bind (fun q5 => (if q5 = 0 then ((f_X7_fails (2 : Int32) M1).bind (fun q6 => (some q6))) else (ix (91 : Int32) 92 ((f_X7_step (st 2 (upd (M1 2) (Int32.toNatClampNeg (91 : Int32)) (x - (6 : Int32))) M1)).bind (fun q7 => (some q7))))))).bind f_X7_readLine_64) S M b L h := by
        intro z no
        obtain ⟨-, -, ⟨-, -, t7, -⟩, ⟨-, -, m14, -⟩, c5⟩ := id a4
        have F := Fl_mk (S := st 17 (fun _ => (-4 : Int32)) S2) (c := 2) (by omega) (by omega) m14
        rw [l2 no, bd_s, if_pos rfl, c_fail, vb_f (decide_eq_false z), ok_fails c5, bd_s, bd_s, show ((1 : Int32), S2).2 7 0 = nI (tH b L (tE b L h)) from t7]
        refine ⟨0, _, st 12 (fun _ => M1 14 0) (st 11 (fun _ => nI 2) M1), rfl, bk_64 F.ne, k1.tr ((kM_st (by omega)).tr (kM_st (by omega))), Or.inl ⟨rfl, F⟩⟩
      by_cases inr : 0 ≤ (x - 6).toInt ∧ (x - 6).toInt ≤ 3
      · rcases n2 with ⟨i, i1, i2, i3⟩ | ⟨i1, -⟩
        · subst i2
          rw [sub6 i i1] at inr
          obtain ⟨j, rfl⟩ : ∃ j, i = 6 + j := ⟨i - 6, by omega⟩
          have hj : j < 4 := by omega
          have ex : nI (6 + j) - 6 = nI j := by
            rw [show (6 : Int32) = nI 6 from rfl, nI_sub (by omega)]
            exact congrArg nI (by omega)
          have inr' : 0 ≤ (nI j).toInt ∧ (nI j).toInt ≤ 3 := by
            rw [nI_toInt (by omega)]
            omega
          have T3 : mTp (st 2 (upd (M1 2) 91 (nI j)) M1) b L := T2.km (kM_st (by omega))
          have L3 : Ld S2 (st 2 (upd (M1 2) 91 (nI j)) M1) b L (tH b L (tE b L h)) := a4
          obtain ⟨M3, u1, u2, u3⟩ := sp_tok hL T3 L3
          have eb := tE_b (b := b) a4.1
          rw [ex, vb_t (decide_eq_true inr'), l1 j hj i3, bd_s, if_neg (i4ne rfl (by omega)), i91, ix_in (by omega) (by omega), tN_nI (by omega), u1, bd_s, bd_s]
          have mm : ∀ k, 2 ≤ k → k < 8 → k ≠ 5 → k ≠ 2 → M3 k = M k := fun k q1 q2 q3 q4 => by rw [u2 k (by omega), st_ne q4, y2 k (by omega), st_ne q3]
          have m32 : M3 2 = upd (M 2) 91 (nI j) := by
            rw [u2 2 (by omega), st_eq, y2 2 (by omega)]
            rfl
          have kk : ∀ k, 11 < k → S2 k = S k := fun k hk => by rw [a1 k (by omega), st_ne (by omega)]
          refine end_l hL (S := st 17 (fun _ => nI j) S2) (s := tE b L (tH b L (tE b L h))) (H := H) (P := P) (V := V) (B := B) ?_ ?_ ?_ (by omega) ?_ ?_ ?_
          · exact K2
          · exact T3.kp u2
          · exact u3.cg (st_ne (by omega)) (fun k _ _ => rfl)
          · refine ⟨?_, by rw [mm 3 (by omega) (by omega) (by omega) (by omega)]; exact w3, ?_, ?_⟩
            · rw [mm 6 (by omega) (by omega) (by omega) (by omega), mm 7 (by omega) (by omega) (by omega) (by omega), m32]
              refine hT.law (fun k hk => ?_) rfl (fun k hk => upd_ne hk) upd_eq hj
              show st 17 (fun _ => nI j) S2 (16 + k) = S (16 + k)
              rw [st_ne (by omega), kk _ (by omega)]
            · show S2 10 0 = M3 4 0
              rw [a1 10 (by omega), mm 4 (by omega) (by omega) (by omega) (by omega)]
              exact w4
            · show S2 11 0 = M3 5 0
              rw [u2 5 (by omega), show st 2 (upd (M1 2) 91 (nI j)) M1 5 = M1 5 from st_ne (by omega), y2 5 (by omega), a1 11 (by omega)]
              rfl
          · intro k hk
            rw [st_ne (by omega)]
            rcases (show k < 3 ∨ k = 3 ∨ k = 4 by omega) with q | q | q
            · rw [a1 k (by omega), st_ne (by omega)]
            · rw [q, a5]
              rfl
            · rw [q, a6]
              rfl
          · exact k1.tr ((kM_st (by omega)).tr u2.m)
        · rw [i1] at inr
          exact absurd inr (by decide)
      · refine bad inr (fun i hi hn => ?_)
        rcases n2 with ⟨i', i1, i2, i3⟩ | ⟨i1, i2⟩
        · have := Nm_u i1 (by omega) i3 hn
          rw [i2, sub6 i' i1] at inr
          omega
        · exact i2 (6 + i) (by omega) hn
  · rw [if_neg c, if_neg c]
    obtain ⟨f1, f2, f3, f4⟩ := f_at (c := 4) (by omega) (by omega) hl
    have f2' : f_X7_fails 4 M = _ := f2
    rw [f2', bd_s]
    unfold f_X7_readOnce_49
    have B1 : Bk (st 5 (fun _ => (1 : Int32)) (st 12 (fun _ => M 14 0) (st 11 (fun _ => nI 4) M))) := Bk.st f3.ne (by omega)
    have T9 : mTp (st 5 (fun _ => (1 : Int32)) (st 12 (fun _ => M 14 0) (st 11 (fun _ => nI 4) M))) b L := (htp.km f4).km (kM_st (by omega))
    have L9 : mTok (st 5 (fun _ => (1 : Int32)) (st 12 (fun _ => M 14 0) (st 11 (fun _ => nI 4) M))) b L h := hl.2.2.2.1
    obtain ⟨x, n1, n2⟩ := M_name hL hl.1 T9 m17 m18 L9
    rw [bk_step B1.1, bd_s, n1, bd_s, in_l _ (lo := 0) (hi := 3) (a := 0) (c := 3) (by decide) (by decide)]
    by_cases inr : 0 ≤ (x - 6).toInt ∧ (x - 6).toInt ≤ 3
    · have B2 : ∀ f : Nat → Int32, Bk (st 2 f (st 5 (fun _ => (1 : Int32)) (st 12 (fun _ => M 14 0) (st 11 (fun _ => nI 4) M)))) := fun f => B1.st (by omega)
      rw [vb_t (decide_eq_true inr), i91, ix_in (by omega) (by omega), bk_step (B2 _).1, bd_s, bd_s, bk_64 (B2 _)]
      exact ⟨0, _, _, f1, rfl, f4.tr ((kM_st (by omega)).tr (kM_st (by omega))), Or.inl ⟨rfl, f3.cg rfl rfl rfl rfl⟩⟩
    · rw [vb_f (decide_eq_false inr), bk_fails B1.2, bd_s, bd_s, bk_64 B1]
      exact ⟨0, _, _, f1, rfl, f4.tr (kM_st (by omega)), Or.inl ⟨rfl, f3.cg rfl rfl rfl rfl⟩⟩
