-- the text: names; numerals, dates
def nm (b : Nat → Int32) (h e i : Nat) : Prop := e - h = zLen.getD i 0 ∧ ∀ k, k < zLen.getD i 0 → b (h + k) = (zByt.getD i []).getD k 0
theorem zLen_b : ∀ i, i < 15 → zLen.getD i 0 ≤ 8 := by decide +kernel
theorem nm_d : ∀ i, i < 15 → ∀ j, j < 15 → i ≠ j → zLen.getD i 0 ≠ zLen.getD j 0 ∨ ∃ k, k < 8 ∧ (k < zLen.getD i 0 ∧ (zByt.getD i []).getD k 0 ≠ (zByt.getD j []).getD k 0) := by decide +kernel
theorem nm_u {b : Nat → Int32} {h e i j : Nat} (hi : i < 15) (hj : j < 15) (h1 : nm b h e i) (h2 : nm b h e j) : i = j := by
  apply Classical.byContradiction
  intro n
  rcases nm_d i hi j hj n with q | ⟨k, -, q1, q2⟩
  · exact q (h1.1.symm.trans h2.1)
  · exact q2 ((h1.2 k q1).symm.trans (h2.2 k (by rw [← h2.1, h1.1]; exact q1)))
theorem C_nm_l {b : Nat → Int32} {S : St} {h e L i : Nat} (hi : i < 15) (hL : L ≤ 400) (h1 : h ≤ e) (h2 : e ≤ L) (s0 : S 0 = b) (s7 : S 7 0 = nI h) (hl : e - h = zLen.getD i 0) : ∀ (r k n : Nat), k + r = zLen.getD i 0 → r < n → (∀ j, j < k → b (h + j) = (zByt.getD i []).getD j 0) → ∃ x : Int32, f_X3_isName_28 n i (nI k) S = some x ∧ (x = 0 ∨ x = 1) ∧ (x = 1 ↔ nm b h e i) := by
  have lb := zLen_b i hi
  have zl : zlen i = nI (zLen.getD i 0) := rfl
  intro r
  induction r with
  | zero =>
    intro k n e1 e2 e3
    obtain ⟨n, rfl⟩ : ∃ z, n = z + 1 := ⟨n - 1, by omega⟩
    rw [f_X3_isName_28_s]
    unfold sx
    rw [if_pos hi, zl, if_pos (nI_le (by omega) (by omega))]
    exact ⟨1, rfl, Or.inr rfl, fun _ => ⟨hl, fun j hj => e3 j (by omega)⟩, fun _ => rfl⟩
  | succ r ih =>
    intro k n e1 e2 e3
    obtain ⟨n, rfl⟩ : ∃ z, n = z + 1 := ⟨n - 1, by omega⟩
    have zc : zch i (nI k) = (zByt.getD i []).getD k 0 := by
      unfold zch
      rw [tN_nI (by omega)]
    rw [f_X3_isName_28_s]
    unfold sx
    rw [if_pos hi, if_pos hi, zl, if_neg (nI_ge (by omega) (by omega)), s7, nI_add, ix_in (by omega) (by omega), ix_in (by omega) (by omega), tN_nI (by omega), s0, zc, p1]
    by_cases c : b (h + k) = (zByt.getD i []).getD k 0
    · rw [if_pos c]
      refine ih (k + 1) n (by omega) (by omega) (fun j hj => ?_)
      by_cases z : j = k
      · rw [z]
        exact c
      · exact e3 j (by omega)
    · rw [if_neg c]
      exact ⟨0, rfl, Or.inl rfl, fun q => absurd q (by decide), fun q => absurd (q.2 k (by omega)) c⟩
theorem C_name {b : Nat → Int32} {S : St} {h L i : Nat} (hi : i < 15) (hL : L ≤ 400) (h1 : h ≤ L) (s0 : S 0 = b) (ht : cTok S b L h) : ∃ x : Int32, f_X3_isName i S = some x ∧ (x = 0 ∨ x = 1) ∧ (x = 1 ↔ (tT b L h = 1 ∧ nm b h (tE b L h) i)) := by
  obtain ⟨t5, t6, t7, -⟩ := ht
  have eb := tE_b (b := b) h1
  have lb := zLen_b i hi
  have zl : zlen i = nI (zLen.getD i 0) := rfl
  have tb : tT b L h < 4 := by
    unfold tT
    repeat' split
    all_goals omega
  unfold f_X3_isName
  rw [t6, t5, t7]
  by_cases c : tT b L h = 1
  · have c' : nI (tT b L h) = 1 := by rw [c]; rfl
    unfold sx
    rw [if_pos c', if_pos hi, nI_sub eb.1, zl]
    by_cases c2 : tE b L h - h = zLen.getD i 0
    · rw [if_pos (by rw [c2])]
      obtain ⟨x, x1, x2, x3⟩ := C_nm_l (b := b) (S := S) hi hL eb.1 eb.2 s0 t7 c2 (zLen.getD i 0) 0 1000 (by omega) (by omega) (fun j hj => by omega)
      exact ⟨x, x1, x2, x3.trans ⟨fun q => ⟨c, q⟩, fun q => q.2⟩⟩
    · rw [if_neg (fun q => c2 ((nI_eq (by omega) (by omega)).mp q))]
      exact ⟨0, rfl, Or.inl rfl, fun q => absurd q (by decide), fun q => absurd q.2.1 c2⟩
  · have c' : ¬ nI (tT b L h) = 1 := fun q => c ((nI_eq (b := 1) (by omega) (by omega)).mp q)
    rw [if_neg c']
    exact ⟨0, rfl, Or.inl rfl, fun q => absurd q (by decide), fun q => absurd q.1 c⟩
def ct (i : Nat) : Nat := (zM0 17 i).toNatClampNeg
theorem ct_f : ∀ i, i < 16 → zM0 17 i = nI (ct i) ∧ ct i ≤ 72 := by decide +kernel
theorem ct_d : ∀ i, i < 15 → nI (ct (i + 1)) - nI (ct i) = nI (zLen.getD i 0) := by decide +kernel
theorem let_f : ∀ i, i < 15 → ∀ k, k < 8 → k < zLen.getD i 0 → ct i + k < 72 ∧ zM0 18 (ct i + k) = (zByt.getD i []).getD k 0 := by decide +kernel
theorem M_nm_in {b : Nat → Int32} {M : St} {h e L i : Nat} (hi : i < 15) (hL : L ≤ 400) (h1 : h ≤ e) (h2 : e ≤ L) (ht : mTp M b L) (m13 : M 13 0 = nI e) (m14 : M 14 0 = nI h) (m17 : M 17 = zM0 17) (m18 : M 18 = zM0 18) (hl : e - h = zLen.getD i 0) (k2 : Int32 → St → Option Int32) : ∀ (r k n : Nat), k + r = zLen.getD i 0 → r + 1 < n → (∀ j, j < k → b (h + j) = (zByt.getD i []).getD j 0) → (nm b h e i ∧ f_X7_nameHere_51 k2 n (nI i) 1 (nI k) M = some (nI i)) ∨ (¬ nm b h e i ∧ f_X7_nameHere_51 k2 n (nI i) 1 (nI k) M = k2 (nI (i + 1)) M) := by
  have lb := zLen_b i hi
  intro r
  induction r with
  | zero =>
    intro k n e1 e2 e3
    obtain ⟨n, rfl⟩ : ∃ z, n = z + 1 := ⟨n - 1, by omega⟩
    refine Or.inl ⟨⟨hl, fun j hj => e3 j (by omega)⟩, ?_⟩
    rw [f_X7_nameHere_51_s, if_neg (by decide), m13, m14, nI_sub h1, if_pos (nI_le (by omega) (by omega))]
    unfold f_X7_nameHere_106
    rw [if_neg (by decide)]
  | succ r ih =>
    intro k n e1 e2 e3
    obtain ⟨n, rfl⟩ : ∃ z, n = z + 1 + 1 := ⟨n - 2, by omega⟩
    obtain ⟨l1, l2⟩ := let_f i hi k (by omega) (by omega)
    rw [f_X7_nameHere_51_s, if_neg (by decide), m13, m14, nI_sub h1, if_neg (nI_ge (by omega) (by omega)), nI_add, M_byte ht hL (by omega), bd_s, ix_in (by omega) (by omega), tN_nI (by omega), m17, (ct_f i (by omega)).1, nI_add, ix_in (by omega) (by omega), tN_nI (by omega), m18, l2, if_pos (show h + k < L by omega)]
    unfold f_X7_nameHere_99
    rw [p1]
    by_cases c : b (h + k) = (zByt.getD i []).getD k 0
    · rw [if_pos c]
      refine ih (k + 1) (n + 1) (by omega) (by omega) (fun j hj => ?_)
      by_cases z : j = k
      · rw [z]
        exact c
      · exact e3 j (by omega)
    · rw [if_neg c]
      refine Or.inr ⟨fun q => c (q.2 k (by omega)), ?_⟩
      rw [f_X7_nameHere_51_s, if_pos rfl]
      unfold f_X7_nameHere_106
      rw [if_pos rfl, p1]
theorem M_nm_l {b : Nat → Int32} {M : St} {h e L : Nat} (hL : L ≤ 400) (h1 : h ≤ e) (h2 : e ≤ L) (ht : mTp M b L) (m15 : M 15 0 = 1) (m13 : M 13 0 = nI e) (m14 : M 14 0 = nI h) (m17 : M 17 = zM0 17) (m18 : M 18 = zM0 18) : ∀ (r i n : Nat), i + r = 15 → r < n → (∀ j, j < i → ¬ nm b h e j) → ∃ x : Int32, f_X7_nameHere_2 n (nI i) M = some x ∧ ((∃ i, i < 15 ∧ x = nI i ∧ nm b h e i) ∨ (x = -4 ∧ ∀ i, i < 15 → ¬ nm b h e i)) := by
  intro r
  induction r with
  | zero =>
    intro i n e1 e2 e3
    obtain ⟨n, rfl⟩ : ∃ z, n = z + 1 := ⟨n - 1, by omega⟩
    have q : (15 : Int32) ≤ nI i := nI_le (a := 15) (by omega) (by omega)
    rw [f_X7_nameHere_2_s, if_pos q]
    exact ⟨-4, rfl, Or.inr ⟨rfl, fun j hj => e3 j (by omega)⟩⟩
  | succ r ih =>
    intro i n e1 e2 e3
    obtain ⟨n, rfl⟩ : ∃ z, n = z + 1 := ⟨n - 1, by omega⟩
    have q : ¬ (15 : Int32) ≤ nI i := nI_ge (b := 15) (by omega) (by omega)
    have lb := zLen_b i (by omega)
    rw [f_X7_nameHere_2_s, if_neg q, if_pos m15, p1, ix_in (by omega) (by omega), ix_in (by omega) (by omega), tN_nI (by omega), tN_nI (by omega), m13, m14, nI_sub h1, m17, (ct_f i (by omega)).1, (ct_f (i + 1) (by omega)).1, ct_d i (by omega)]
    unfold f_X7_nameHere_48
    have nx : ¬ nm b h e i → ∃ x : Int32, f_X7_nameHere_2 n (nI (i + 1)) M = some x ∧ ((∃ i, i < 15 ∧ x = nI i ∧ nm b h e i) ∨ (x = -4 ∧ ∀ i, i < 15 → ¬ nm b h e i)) := by
      intro z
      refine ih (i + 1) n (by omega) (by omega) (fun j hj => ?_)
      by_cases y : j = i
      · rw [y]
        exact z
      · exact e3 j (by omega)
    by_cases c : e - h = zLen.getD i 0
    · rw [if_pos (by rw [c])]
      rcases M_nm_in (b := b) (M := M) (show i < 15 by omega) hL h1 h2 ht m13 m14 m17 m18 c (f_X7_nameHere_2 n) (zLen.getD i 0) 0 1000 (by omega) (by omega) (fun j hj => by omega) with ⟨y1, y2⟩ | ⟨y1, y2⟩
      · have y2' : f_X7_nameHere_51 (f_X7_nameHere_2 n) 1000 (nI i) 1 0 M = some (nI i) := y2
        exact ⟨nI i, y2', Or.inl ⟨i, by omega, rfl, y1⟩⟩
      · have y2' : f_X7_nameHere_51 (f_X7_nameHere_2 n) 1000 (nI i) 1 0 M = f_X7_nameHere_2 n (nI (i + 1)) M := y2
        rw [y2']
        exact nx y1
    · rw [if_neg (fun z => c ((nI_eq (by omega) (by omega)).mp z)), show (1000 : Nat) = 999 + 1 from rfl, f_X7_nameHere_51_s, if_pos rfl]
      unfold f_X7_nameHere_106
      rw [if_pos rfl, p1]
      exact nx (fun z => c z.1)
theorem M_name {b : Nat → Int32} {M : St} {h L : Nat} (hL : L ≤ 400) (h1 : h ≤ L) (htp : mTp M b L) (m17 : M 17 = zM0 17) (m18 : M 18 = zM0 18) (ht : mTok M b L h) : ∃ x : Int32, f_X7_nameHere M = some x ∧ ((∃ i, i < 15 ∧ x = nI i ∧ tT b L h = 1 ∧ nm b h (tE b L h) i) ∨ (x = -4 ∧ ∀ i, i < 15 → ¬ (tT b L h = 1 ∧ nm b h (tE b L h) i))) := by
  obtain ⟨t13, t15, t14, -⟩ := ht
  have eb := tE_b (b := b) h1
  have tb : tT b L h < 4 := by
    unfold tT
    repeat' split
    all_goals omega
  unfold f_X7_nameHere
  by_cases c : tT b L h = 1
  · have c' : M 15 0 = 1 := by rw [t15, c]; rfl
    obtain ⟨x, x1, x2⟩ := M_nm_l (b := b) hL eb.1 eb.2 htp c' t13 t14 m17 m18 15 0 1000 (by omega) (by omega) (fun j hj => by omega)
    refine ⟨x, x1, ?_⟩
    rcases x2 with ⟨i, y1, y2, y3⟩ | ⟨y1, y2⟩
    · exact Or.inl ⟨i, y1, y2, c, y3⟩
    · exact Or.inr ⟨y1, fun i hi q => y2 i hi q.2⟩
  · have c' : ¬ M 15 0 = 1 := by
      rw [t15]
      exact fun q => c ((nI_eq (b := 1) (by omega) (by omega)).mp q)
    refine ⟨-4, ?_, Or.inr ⟨rfl, fun i hi q => c q.1⟩⟩
    rw [show (1000 : Nat) = 999 + 1 from rfl, f_X7_nameHere_2_s, if_neg (by decide), if_neg c']
theorem M_noname {M : St} (h : ¬ M 15 0 = 1) : f_X7_nameHere M = some (-4) := by
  unfold f_X7_nameHere
  rw [show (1000 : Nat) = 999 + 1 from rfl, f_X7_nameHere_2_s, if_neg (by decide), if_neg h]
/-- the class behind a token, the reference one token ahead -/
def Sy (S M : St) (b : Nat → Int32) (L s : Nat) : Prop := s ≤ L ∧ S 5 0 = nI s ∧ ((tB b L (tH b L s) ∧ M 11 0 = 1 ∧ M 12 0 = nI (tH b L s) ∧ ¬ M 15 0 = 1) ∨ (¬ tB b L (tH b L s) ∧ M 11 0 = 0 ∧ mTok M b L (tH b L s)))
/-- both have failed alike -/
def Fl (S M : St) : Prop := ∃ c, 1 ≤ c ∧ c ≤ 6 ∧ S 3 0 = nI c ∧ M 11 0 = nI c ∧ S 4 0 = M 12 0
/-- both hold the token at h -/
def Ld (S M : St) (b : Nat → Int32) (L h : Nat) : Prop := h ≤ L ∧ ¬ tB b L h ∧ cTok S b L h ∧ mTok M b L h ∧ M 11 0 = 0
def KS (S : St) (b : Nat → Int32) (L : Nat) : Prop := S 0 = b ∧ S 1 0 = nI L
theorem KS.cg {S S2 : St} {b : Nat → Int32} {L : Nat} (h : KS S b L) (hk : kpC S S2) : KS S2 b L := ⟨by rw [hk 0 (by omega)]; exact h.1, by rw [hk 1 (by omega)]; exact h.2⟩
theorem Sy.cg {S S2 M M2 : St} {b : Nat → Int32} {L s : Nat} (h : Sy S M b L s) (h5 : S2 5 = S 5) (hM : ∀ k, 11 ≤ k → k ≤ 16 → M2 k = M k) : Sy S2 M2 b L s := by
  unfold Sy mTok
  rw [h5, hM 11 (by omega) (by omega), hM 12 (by omega) (by omega), hM 13 (by omega) (by omega), hM 14 (by omega) (by omega), hM 15 (by omega) (by omega), hM 16 (by omega) (by omega)]
  exact h
theorem nx_tok {S M : St} {b : Nat → Int32} {L s : Nat} (hL : L ≤ 400) (hK : KS S b L) (h : Sy S M b L s) : ∃ S' : St, kpC S S' ∧ ((f_X3_next S = some (0, S') ∧ Fl S' M ∧ ¬ M 15 0 = 1) ∨ (f_X3_next S = some (1, S') ∧ s ≤ tH b L s ∧ Ld S' M b L (tH b L s) ∧ S' 3 = S 3 ∧ S' 4 = S 4)) := by
  obtain ⟨h1, h2, h3⟩ := h
  obtain ⟨S', k1, k2⟩ := C_next hL h1 hK.1 hK.2 h2
  have hb := tH_b (b := b) h1
  refine ⟨S', k1, ?_⟩
  rcases k2 with ⟨a1, a2, a3, a4, a5⟩ | ⟨a1, a2, a3, a4⟩
  · rcases h3 with ⟨c1, -⟩ | ⟨c1, c2, c3⟩
    · exact absurd c1 a1
    · exact Or.inr ⟨a2, hb.1, ⟨hb.2, a1, a3, c3, c2⟩, a4, a5⟩
  · rcases h3 with ⟨c1, c2, c3, c4⟩ | ⟨c1, -⟩
    · exact Or.inl ⟨a2, ⟨1, by omega, by omega, a3, c2, by rw [a4, c3]⟩, c4⟩
    · exact absurd a1 c1
theorem sp_tok {S M : St} {b : Nat → Int32} {L h : Nat} (hL : L ≤ 400) (htp : mTp M b L) (hl : Ld S M b L h) : ∃ M' : St, f_X7_step M = some M' ∧ kpM M M' ∧ Sy S M' b L (tE b L h) := by
  obtain ⟨h1, h2, h3, h4, h5⟩ := hl
  have eb := tE_b (b := b) h1
  obtain ⟨M', k1, k2, k3⟩ := M_step hL eb.2 htp h5 h4.1
  refine ⟨M', k1, k2, eb.2, h3.1, ?_⟩
  rcases k3 with ⟨a1, a2, a3⟩ | ⟨a1, a2, a3, a4⟩
  · exact Or.inr ⟨a1, a2, a3⟩
  · exact Or.inl ⟨a1, a2, a3, a4⟩
theorem bk_le {M : St} {c : Nat} (h : M 11 0 = nI c) (h1 : 1 ≤ c) (h2 : c ≤ 6) : ¬ M 11 0 ≤ 0 ∧ ¬ M 11 0 = 0 := by
  rw [h]
  exact ⟨nI_nle (by omega) (by omega), nI_ne0 (by omega) (by omega)⟩
theorem Fl.ne {S M : St} (h : Fl S M) : ¬ M 11 0 ≤ 0 ∧ ¬ M 11 0 = 0 := by
  obtain ⟨c, h1, h2, -, h4, -⟩ := h
  exact bk_le h4 h1 h2
theorem bk_step {M : St} (h : ¬ M 11 0 ≤ 0) : f_X7_step M = some M := by
  unfold f_X7_step
  rw [if_neg h]
theorem bk_num {M : St} (h : ¬ M 11 0 ≤ 0) (h2 : ¬ M 11 0 = 0) (x y : Int32) : f_X7_numeral x y M = some (x, M) := by
  unfold f_X7_numeral f_X7_numeral_20 f_X7_numeral_47 f_X7_numeral_62
  rw [if_neg h2, if_neg h2, if_neg h2, bk_step h]
  rfl
theorem bk_fails {M : St} (h2 : ¬ M 11 0 = 0) (x : Int32) : f_X7_fails x M = some M := by
  unfold f_X7_fails
  rw [if_neg h2]
theorem ok_fails {M : St} (h2 : M 11 0 = 0) (x : Int32) : f_X7_fails x M = some (st 12 (fun _ => M 14 0) (st 11 (fun _ => x) M)) := by
  unfold f_X7_fails
  rw [if_pos h2]
theorem Fl_mk {S M : St} {c h : Nat} (h1 : 1 ≤ c) (h2 : c ≤ 6) (m14 : M 14 0 = nI h) : Fl (st 4 (fun _ => nI h) (st 3 (fun _ => nI c) S)) (st 12 (fun _ => M 14 0) (st 11 (fun _ => nI c) M)) := ⟨c, h1, h2, rfl, rfl, m14.symm⟩
theorem fig_num {S M : St} {b : Nat → Int32} {L s lo hi : Nat} (hL : L ≤ 400) (hK : KS S b L) (htp : mTp M b L) (h : Sy S M b L s) (hhi : hi < 1000) (hlo : lo ≤ hi) : ∃ (S' M' : St) (x : Int32), f_X7_numeral (nI lo) (nI hi) M = some (x, M') ∧ kpC S S' ∧ kpM M M' ∧ ((f_X3_figure (nI lo) (nI hi) S = some (0, S') ∧ Fl S' M' ∧ ¬ (M 11 0 = 0 ∧ M 15 0 = 2 ∧ (lo : Int) ≤ (M 16 0).toInt ∧ (M 16 0).toInt ≤ (hi : Int))) ∨ (f_X3_figure (nI lo) (nI hi) S = some (1, S') ∧ ∃ j, lo ≤ j ∧ j ≤ hi ∧ x = nI j ∧ (M 11 0 = 0 ∧ M 15 0 = 2 ∧ M 16 0 = nI j ∧ M 14 0 = nI (tH b L s)) ∧ S' 8 0 = nI j ∧ S' 7 0 = nI (tH b L s) ∧ Sy S' M' b L (tE b L (tH b L s)) ∧ s ≤ tE b L (tH b L s) ∧ S' 3 = S 3 ∧ S' 4 = S 4)) := by
  obtain ⟨S1, k1, k2⟩ := nx_tok hL hK h
  rcases k2 with ⟨a1, a2, a3⟩ | ⟨a1, a2, a3, a4, a5⟩
  · obtain ⟨n1, n2⟩ := a2.ne
    refine ⟨S1, M, nI lo, bk_num n1 n2 _ _, k1, kpM.rf, Or.inl ⟨?_, a2, fun q => n2 q.1⟩⟩
    unfold f_X3_figure
    rw [a1, bd_s, if_pos rfl]
  · obtain ⟨c1, c2, c3, c4, c5⟩ := id a3
    have tb : tT b L (tH b L s) < 4 := by
      unfold tT
      repeat' split
      all_goals omega
    have eb := tE_b (b := b) c1
    obtain ⟨d5, d6, d7, d8⟩ := c3
    obtain ⟨m13, m15, m14, m16⟩ := c4
    have cf : f_X3_figure (nI lo) (nI hi) S = (if S1 6 0 = 2 then (if S1 8 0 < nI lo then f_X3_figure_43 S1 else if S1 8 0 ≤ nI hi then f_X3_figure_55 S1 else f_X3_figure_43 S1) else (f_X3_fail 2 (S1 7 0) S1).bind (fun q3 => zb q3.1 (some (q3.1, q3.2)))) := by
      unfold f_X3_figure
      rw [a1, bd_s, if_neg (show ¬ (1 : Int32) = 0 by decide)]
    rw [cf, d6, d8]
    unfold f_X7_numeral f_X7_numeral_20
    rw [if_pos c5, m15]
    have fl : ∀ c : Nat, 1 ≤ c → c ≤ 6 → ∃ (S' M' : St) (x : Int32), f_X7_numeral_47 (nI lo) (st 12 (fun _ => M 14 0) (st 11 (fun _ => nI c) M)) = some (x, M') ∧ f_X3_fail (nI c) (S1 7 0) S1 = some (0, S') ∧ kpC S S' ∧ kpM M M' ∧ Fl S' M' := by
      intro c q1 q2
      have F := Fl_mk (S := S1) q1 q2 m14
      obtain ⟨n1, n2⟩ := F.ne
      refine ⟨_, st 12 (fun _ => M 14 0) (st 11 (fun _ => nI c) M), nI lo, ?_, rfl, fun k hk => by rw [st_ne (by omega), st_ne (by omega)]; exact k1 k hk, fun k hk => by rw [st_ne (by omega), st_ne (by omega)], ?_⟩
      · unfold f_X7_numeral_47 f_X7_numeral_62
        rw [if_neg n2, bk_step n1]
        rfl
      · rw [d7]
        exact F
    by_cases t2 : tT b L (tH b L s) = 2
    · have t2' : nI (tT b L (tH b L s)) = 2 := by rw [t2]; rfl
      rw [if_pos t2', if_pos t2', if_pos c5, in_l (M 16 0) (a := (lo : Int)) (c := (hi : Int)) (by rw [Int32.toInt_toInt64, nI_toInt (by omega)]) (by rw [Int32.toInt_toInt64, nI_toInt (by omega)]), m16]
      generalize tV b L (tH b L s) = v at *
      have fr : ¬ ((lo : Int) ≤ v.toInt ∧ v.toInt ≤ (hi : Int)) → ∃ (S' M' : St) (x : Int32), ((f_X7_fails 3 M).bind fun q3 => f_X7_numeral_47 (nI lo) q3) = some (x, M') ∧ f_X3_figure_43 S1 = some (0, S') ∧ kpC S S' ∧ kpM M M' ∧ Fl S' M' := by
        intro _
        obtain ⟨S', M', x, y1, y2, y3, y4, y5⟩ := fl 3 (by omega) (by omega)
        refine ⟨S', M', x, ?_, ?_, y3, y4, y5⟩
        · rw [ok_fails c5, bd_s]
          exact y1
        · unfold f_X3_figure_43
          have y2' : f_X3_fail 3 (S1 7 0) S1 = some (0, S') := y2
          rw [y2', bd_s, if_pos rfl]
      by_cases z1 : v < nI lo
      · rw [if_pos z1]
        rw [Int32.lt_iff_toInt_lt, nI_toInt (by omega)] at z1
        have z : ¬ ((lo : Int) ≤ v.toInt ∧ v.toInt ≤ (hi : Int)) := by omega
        obtain ⟨S', M', x, y1, y2, y3, y4, y5⟩ := fr z
        refine ⟨S', M', x, ?_, y3, y4, Or.inl ⟨y2, y5, fun q => z q.2.2⟩⟩
        rw [vb_f (decide_eq_false z)]
        exact y1
      · rw [if_neg z1]
        rw [Int32.lt_iff_toInt_lt, nI_toInt (by omega)] at z1
        by_cases z2 : v ≤ nI hi
        · rw [if_pos z2]
          rw [Int32.le_iff_toInt_le, nI_toInt (by omega)] at z2
          obtain ⟨j, hj, ej⟩ := nI_of (x := v) (fun z => by rw [lt0] at z; omega)
          rw [ej, nI_toInt hj] at z1 z2
          have zz : (lo : Int) ≤ v.toInt ∧ v.toInt ≤ (hi : Int) := by rw [ej, nI_toInt hj]; omega
          obtain ⟨M', y1, y2, y3⟩ := sp_tok hL htp a3
          refine ⟨S1, M', nI j, ?_, k1, y2, Or.inr ⟨rfl, j, by omega, by omega, rfl, ⟨c5, t2', ej, m14⟩, by rw [d8, ej], d7, y3, by omega, a4, a5⟩⟩
          rw [vb_t (decide_eq_true zz)]
          unfold f_X7_numeral_47 f_X7_numeral_62
          rw [if_pos c5, y1, bd_s, m16, ej]
        · rw [if_neg z2]
          rw [Int32.le_iff_toInt_le, nI_toInt (by omega)] at z2
          have z : ¬ ((lo : Int) ≤ v.toInt ∧ v.toInt ≤ (hi : Int)) := by omega
          obtain ⟨S', M', x, y1, y2, y3, y4, y5⟩ := fr z
          refine ⟨S', M', x, ?_, y3, y4, Or.inl ⟨y2, y5, fun q => z q.2.2⟩⟩
          rw [vb_f (decide_eq_false z)]
          exact y1
    · have t2' : ¬ nI (tT b L (tH b L s)) = 2 := fun q => t2 ((nI_eq (b := 2) (by omega) (by omega)).mp q)
      rw [if_neg t2', if_neg t2', ok_fails c5, bd_s]
      obtain ⟨S', M', x, y1, y2, y3, y4, y5⟩ := fl 2 (by omega) (by omega)
      obtain ⟨n1, n2⟩ := (Fl_mk (S := S1) (c := 2) (by omega) (by omega) m14).ne
      have y2' : f_X3_fail 2 (S1 7 0) S1 = some (0, S') := y2
      refine ⟨S', M', x, ?_, y3, y4, Or.inl ⟨?_, y5, fun q => t2' q.2.1⟩⟩
      · have n2' : ¬ st 12 (fun _ => M 14 0) (st 11 (fun _ => (2 : Int32)) M) 11 0 = 0 := n2
        rw [if_neg n2']
        exact y1
      · rw [y2', bd_s]
        rfl
