-- the text: looked through; street
def Wh (T : St) (H P V B : Nat) : Prop := (∀ p, p < P → inB H (T 5 p)) ∧ (∀ k, k < V → inB P (T 9 k) ∧ inB H (T 10 k)) ∧ ∀ e, e < B → inB H (T 12 e)
theorem vd_in {n : Nat} {x : Int32} (hn : n < 2 ^ 31) : vd n x = true ↔ inB n x := by
  constructor
  · intro h
    obtain ⟨j, hj, e⟩ := vd_t h
    exact ⟨j, hj, e⟩
  · rintro ⟨j, hj, e⟩
    rw [e]
    exact vd_nI hj hn
theorem C_wh_b {S : St} {H B : Nat} (hH : H ≤ 8) (hB : B ≤ 4) (t0 : S 16 0 = nI H) (t11 : S 27 0 = nI B) (W : Prop) (hW : W) : ∀ (r e n : Nat), e + r = B → r < n → (∀ j, j < e → inB H (S 28 j)) → ∃ x : Int32, f_X3_isWhole_77 n (nI e) S = some x ∧ (x = 0 ∨ x = 1) ∧ (x = 1 ↔ (W ∧ ∀ j, j < B → inB H (S 28 j))) := by
  intro r
  induction r with
  | zero =>
    intro e n h1 h2 h3
    obtain ⟨n, rfl⟩ : ∃ z, n = z + 1 := ⟨n - 1, by omega⟩
    obtain rfl : e = B := by omega
    rw [f_X3_isWhole_77_s, t11, if_pos (nI_le (Nat.le_refl _) (by omega))]
    exact ⟨1, rfl, Or.inr rfl, fun _ => ⟨hW, h3⟩, fun _ => rfl⟩
  | succ r ih =>
    intro e n h1 h2 h3
    obtain ⟨n, rfl⟩ : ∃ z, n = z + 1 := ⟨n - 1, by omega⟩
    have t0' : sb 16 S 0 0 = nI H := t0
    rw [f_X3_isWhole_77_s, t11, if_neg (nI_ge (by omega) (by omega)), ix_in (by omega) (by omega), tN_nI (by omega), C_isHouse t0' (by omega), p1]
    rcases tf (vd H (S 28 e)) with v | v
    · rw [vb_t v]
      refine ih (e + 1) n (by omega) (by omega) (fun j hj => ?_)
      by_cases z : j = e
      · rw [z]
        exact (vd_in (by omega)).mp v
      · exact h3 j (by omega)
    · rw [vb_f v]
      refine ⟨0, rfl, Or.inl rfl, fun q => absurd q (by decide), fun q => ?_⟩
      have := (vd_in (by omega)).mpr (q.2 e (by omega))
      rw [v] at this
      exact Bool.noConfusion this
theorem C_wh_m {S : St} {H P V B : Nat} (hH : H ≤ 8) (hP : P ≤ 10) (hV : V ≤ 12) (hB : B ≤ 4) (t0 : S 16 0 = nI H) (t2 : S 18 0 = nI P) (t7 : S 23 0 = nI V) (t11 : S 27 0 = nI B) (W : Prop) (hW : W) : ∀ (r k n : Nat), k + r = V → r < n → (∀ j, j < k → inB P (S 25 j) ∧ inB H (S 26 j)) → ∃ x : Int32, f_X3_isWhole_33 n (nI k) S = some x ∧ (x = 0 ∨ x = 1) ∧ (x = 1 ↔ (W ∧ (∀ j, j < V → inB P (S 25 j) ∧ inB H (S 26 j)) ∧ ∀ j, j < B → inB H (S 28 j))) := by
  intro r
  induction r with
  | zero =>
    intro k n h1 h2 h3
    obtain ⟨n, rfl⟩ : ∃ z, n = z + 1 := ⟨n - 1, by omega⟩
    obtain rfl : k = V := by omega
    rw [f_X3_isWhole_33_s, t7, if_pos (nI_le (Nat.le_refl _) (by omega))]
    unfold f_X3_isWhole_75
    obtain ⟨x, x1, x2, x3⟩ := C_wh_b (S := S) hH hB t0 t11 (W ∧ ∀ j, j < k → inB P (S 25 j) ∧ inB H (S 26 j)) ⟨hW, h3⟩ B 0 1000 (by omega) (by omega) (fun j hj => by omega)
    exact ⟨x, x1, x2, x3.trans ⟨fun q => ⟨q.1.1, q.1.2, q.2⟩, fun q => ⟨⟨q.1, q.2.1⟩, q.2.2⟩⟩⟩
  | succ r ih =>
    intro k n h1 h2 h3
    obtain ⟨n, rfl⟩ : ∃ z, n = z + 1 := ⟨n - 1, by omega⟩
    have t0' : sb 16 S 0 0 = nI H := t0
    have t2' : sb 16 S 2 0 = nI P := t2
    have no : ¬ (inB P (S 25 k) ∧ inB H (S 26 k)) → ∃ x : Int32, some (0 : Int32) = some x ∧ (x = 0 ∨ x = 1) ∧ (x = 1 ↔ (W ∧ (∀ j, j < V → inB P (S 25 j) ∧ inB H (S 26 j)) ∧ ∀ j, j < B → inB H (S 28 j))) := fun z => ⟨0, rfl, Or.inl rfl, fun q => absurd q (by decide), fun q => absurd (q.2.1 k (by omega)) z⟩
    rw [f_X3_isWhole_33_s, t7, if_neg (nI_ge (by omega) (by omega)), ix_in (by omega) (by omega), tN_nI (by omega), C_isOne t2' (by omega), p1]
    rcases tf (vd P (S 25 k)) with v | v
    · rw [vb_t v, ix_in (by omega) (by omega), C_isHouse t0' (by omega)]
      rcases tf (vd H (S 26 k)) with v2 | v2
      · rw [vb_t v2]
        refine ih (k + 1) n (by omega) (by omega) (fun j hj => ?_)
        by_cases z : j = k
        · rw [z]
          exact ⟨(vd_in (by omega)).mp v, (vd_in (by omega)).mp v2⟩
        · exact h3 j (by omega)
      · rw [vb_f v2]
        refine no (fun q => ?_)
        have := (vd_in (by omega)).mpr q.2
        rw [v2] at this
        exact Bool.noConfusion this
    · rw [vb_f v]
      refine no (fun q => ?_)
      have := (vd_in (by omega)).mpr q.1
      rw [v] at this
      exact Bool.noConfusion this
theorem C_wh_p {S : St} {H P V B : Nat} (hH : H ≤ 8) (hP : P ≤ 10) (hV : V ≤ 12) (hB : B ≤ 4) (t0 : S 16 0 = nI H) (t2 : S 18 0 = nI P) (t7 : S 23 0 = nI V) (t11 : S 27 0 = nI B) : ∀ (r p n : Nat), p + r = P → r < n → (∀ j, j < p → inB H (S 21 j)) → ∃ x : Int32, f_X3_isWhole_2 n (nI p) S = some x ∧ (x = 0 ∨ x = 1) ∧ (x = 1 ↔ Wh (sb 16 S) H P V B) := by
  intro r
  induction r with
  | zero =>
    intro p n h1 h2 h3
    obtain ⟨n, rfl⟩ : ∃ z, n = z + 1 := ⟨n - 1, by omega⟩
    obtain rfl : p = P := by omega
    rw [f_X3_isWhole_2_s, t2, if_pos (nI_le (Nat.le_refl _) (by omega))]
    unfold f_X3_isWhole_31
    exact C_wh_m (S := S) hH hP hV hB t0 t2 t7 t11 (∀ j, j < p → inB H (S 21 j)) h3 V 0 1000 (by omega) (by omega) (fun j hj => by omega)
  | succ r ih =>
    intro p n h1 h2 h3
    obtain ⟨n, rfl⟩ : ∃ z, n = z + 1 := ⟨n - 1, by omega⟩
    have t0' : sb 16 S 0 0 = nI H := t0
    rw [f_X3_isWhole_2_s, t2, if_neg (nI_ge (by omega) (by omega)), ix_in (by omega) (by omega), tN_nI (by omega), C_isHouse t0' (by omega), p1]
    rcases tf (vd H (S 21 p)) with v | v
    · rw [vb_t v]
      refine ih (p + 1) n (by omega) (by omega) (fun j hj => ?_)
      by_cases z : j = p
      · rw [z]
        exact (vd_in (by omega)).mp v
      · exact h3 j (by omega)
    · rw [vb_f v]
      refine ⟨0, rfl, Or.inl rfl, fun q => absurd q (by decide), fun q => ?_⟩
      have this : vd H (S 21 p) = true := (vd_in (by omega)).mpr (q.1 p (by omega))
      rw [v] at this
      exact Bool.noConfusion this
theorem in_lt {j n : Nat} {x : Int32} (e : x = nI j) (hj : j < 2 ^ 31) (h : j < n) : inB n x := ⟨j, h, e⟩
/-- the reference looks by the greatest -/
theorem wh_max {T : St} {g : Nat → Int32} {H P V B : Nat} {m o : Int32} (h : Tg T g H P V B m o) : Wh T H P V B ↔ (¬ nI H ≤ m ∧ o < nI P) := by
  obtain ⟨b1, b2, b3, b4, b5, ⟨u1, u2⟩, ⟨o1, o2⟩⟩ := h
  have f1 : (-1 : Int32).toInt = -1 := by decide
  have i5 : ∀ p, p < P → ∃ j, j < 8 ∧ T 5 p = nI j := by
    intro p hp
    obtain ⟨-, -, e, -, -, -, ⟨j, hj, ej⟩⟩ := b3 p hp
    exact ⟨j, hj, by rw [e, ej]⟩
  have i9 : ∀ k, k < V → (∃ j, j < 10 ∧ T 9 k = nI j) ∧ ∃ j, j < 8 ∧ T 10 k = nI j := by
    intro k hk
    obtain ⟨-, e, e2, -, ⟨j, hj, ej⟩, ⟨i, hi, ei⟩⟩ := b4 k hk
    exact ⟨⟨j, hj, by rw [e, ej]⟩, i, hi, by rw [e2, ei]⟩
  have i12 : ∀ e, e < B → ∃ j, j < 8 ∧ T 12 e = nI j := by
    intro e he
    obtain ⟨q, -, -, ⟨j, hj, ej⟩, -⟩ := b5 e he
    exact ⟨j, hj, by rw [q, ej]⟩
  constructor
  · rintro ⟨w1, w2, w3⟩
    constructor
    · intro c
      have n1 : ¬ m = -1 := by
        intro z
        rw [z, Int32.le_iff_toInt_le, nI_toInt (by omega), f1] at c
        omega
      have key : inB H m := by
        rcases u2.resolve_left n1 with ⟨p, hp, e⟩ | ⟨k, hk, e⟩ | ⟨x, hx', e⟩
        · rw [← e]
          exact w1 p hp
        · rw [← e]
          exact (w2 k hk).2
        · rw [← e]
          exact w3 x hx'
      obtain ⟨j, hj, ej⟩ := key
      rw [ej] at c
      exact absurd c (nI_ge hj (by omega))
    · rcases o2 with z | ⟨k, hk, e⟩
      · rw [z, Int32.lt_iff_toInt_lt, nI_toInt (by omega), f1]
        omega
      · obtain ⟨j, hj, ej⟩ := (w2 k hk).1
        rw [← e, ej]
        exact nI_lt hj (by omega)
  · rintro ⟨c1, c2⟩
    have lt : ∀ x, Us T P V B x → ∀ j, j < 8 → x = nI j → inB H x := by
      intro x hx' j hj ej
      refine ⟨j, Classical.byContradiction fun z => c1 ?_, ej⟩
      have := u1 x hx'
      rw [ej] at this
      exact le_tr (nI_le (by omega) (by omega)) this
    refine ⟨fun p hp => ?_, fun k hk => ⟨?_, ?_⟩, fun e he => ?_⟩
    · obtain ⟨j, hj, ej⟩ := i5 p hp
      exact lt _ (Or.inl ⟨p, hp, rfl⟩) j hj ej
    · obtain ⟨⟨j, hj, ej⟩, -⟩ := i9 k hk
      refine ⟨j, ?_, ej⟩
      have q := o1 (T 9 k) ⟨k, hk, rfl⟩
      rw [ej, Int32.le_iff_toInt_le, nI_toInt (by omega)] at q
      rw [Int32.lt_iff_toInt_lt, nI_toInt (by omega)] at c2
      omega
    · obtain ⟨-, j, hj, ej⟩ := i9 k hk
      exact lt _ (Or.inr (Or.inl ⟨k, hk, rfl⟩)) j hj ej
    · obtain ⟨j, hj, ej⟩ := i12 e he
      exact lt _ (Or.inr (Or.inr ⟨e, he, rfl⟩)) j hj ej
theorem Tg.rt {T : St} {g : Nat → Int32} {H P V B : Nat} {m o : Int32} (h : Tg T g H P V B m o) (hW : Wh T H P V B) : RT T g H P V B := by
  obtain ⟨b1, b2, b3, b4, b5, -, -⟩ := h
  obtain ⟨w1, w2, w3⟩ := hW
  refine RT.mk b1 b2 (fun p hp => ?_) (fun k hk => ?_) (fun e he => ?_)
  · obtain ⟨e1, e2, e3, e4, e5, e6, -⟩ := b3 p hp
    exact ⟨e1, e2, e3, e4, e5, e6, by rw [← e3]; exact w1 p hp⟩
  · obtain ⟨e1, e2, e3, e4, -, -⟩ := b4 k hk
    exact ⟨e1, e2, e3, e4, by rw [← e2]; exact (w2 k hk).1, by rw [← e3]; exact (w2 k hk).2⟩
  · obtain ⟨e1, e2, e3, -, e5⟩ := b5 e he
    exact ⟨e1, e2, e3, by rw [← e1]; exact w3 e he, e5⟩
theorem M_clr_l : ∀ (r k n : Nat) (x : Int32) (M : St), k + r = 92 → r < n → (∀ j, j < k → M 2 j = 0) → ∃ M' : St, f_X7_street_39 n x (nI k) M = f_X7_street_58 x M' ∧ (∀ j, j ≠ 2 → M' j = M j) ∧ ∀ j, j < 92 → M' 2 j = 0 := by
  intro r
  induction r with
  | zero =>
    intro k n x M h1 h2 h3
    obtain ⟨n, rfl⟩ : ∃ z, n = z + 1 := ⟨n - 1, by omega⟩
    have q : (92 : Int32) ≤ nI k := nI_le (a := 92) (by omega) (by omega)
    exact ⟨M, by rw [f_X7_street_39_s, if_pos q], fun _ _ => rfl, fun j hj => h3 j (by omega)⟩
  | succ r ih =>
    intro k n x M h1 h2 h3
    obtain ⟨n, rfl⟩ : ∃ z, n = z + 1 := ⟨n - 1, by omega⟩
    have q : ¬ (92 : Int32) ≤ nI k := nI_ge (b := 92) (by omega) (by omega)
    rw [f_X7_street_39_s, if_neg q, ix_in (by omega) (by omega), tN_nI (by omega), p1]
    obtain ⟨M', k1, k2, k3⟩ := ih (k + 1) n x (st 2 (upd (M 2) k 0) M) (by omega) (by omega) (fun j hj => by
      rw [st_eq]
      by_cases z : j = k
      · rw [z, upd_eq]
      · rw [upd_ne z]
        exact h3 j (by omega))
    exact ⟨M', k1, fun j hj => by rw [k2 j hj, st_ne hj], k3⟩
theorem M_cpy_l (M0 : St) : ∀ (r k n : Nat) (x : Int32) (M : St), k + r = 92 → r < n → (∀ j, j ≠ 0 → M j = M0 j) → (∀ j, j < k → M 0 j = M0 2 j) → (∀ j, 92 ≤ j → M 0 j = M0 0 j) → ∃ M' : St, f_X7_street_154 n x (nI k) M = f_X7_street_178 x M' ∧ (∀ j, j ≠ 0 → M' j = M0 j) ∧ (∀ j, j < 92 → M' 0 j = M0 2 j) ∧ ∀ j, 92 ≤ j → M' 0 j = M0 0 j := by
  intro r
  induction r with
  | zero =>
    intro k n x M h1 h2 h3 h4 h5
    obtain ⟨n, rfl⟩ : ∃ z, n = z + 1 := ⟨n - 1, by omega⟩
    have q : (92 : Int32) ≤ nI k := nI_le (a := 92) (by omega) (by omega)
    exact ⟨M, by rw [f_X7_street_154_s, if_pos q], h3, fun j hj => h4 j (by omega), h5⟩
  | succ r ih =>
    intro k n x M h1 h2 h3 h4 h5
    obtain ⟨n, rfl⟩ : ∃ z, n = z + 1 := ⟨n - 1, by omega⟩
    have q : ¬ (92 : Int32) ≤ nI k := nI_ge (b := 92) (by omega) (by omega)
    rw [f_X7_street_154_s, if_neg q, ix_in (by omega) (by omega), ix_in (by omega) (by omega), tN_nI (by omega), p1, h3 2 (by omega)]
    refine ih (k + 1) n x _ (by omega) (by omega) (fun j hj => by rw [st_ne hj]; exact h3 j hj) (fun j hj => ?_) (fun j hj => ?_)
    · rw [st_eq]
      by_cases z : j = k
      · rw [z, upd_eq]
      · rw [upd_ne z]
        exact h4 j (by omega)
    · rw [st_eq, upd_ne (by omega)]
      exact h5 j hj
theorem none_U {T : St} {x : Int32} : ¬ Us T 0 0 0 x := by
  rintro (⟨p, h, -⟩ | ⟨p, h, -⟩ | ⟨p, h, -⟩) <;> omega
theorem none_o {T : St} {x : Int32} : ¬ Uo T 0 x := by
  rintro ⟨p, h, -⟩
  omega
/-- the whole text, on both sides: a fault, or all of it -/
theorem tell_l {G M : St} {b : Nat → Int32} {L : Nat} (hL : L ≤ 400) (g0 : G 0 = b) (g1 : G 1 0 = nI L) (htp : mTp M b L) (m17 : M 17 = zM0 17) (m18 : M 18 = zM0 18) : (∃ (S' M' : St) (c : Nat) (r : Int32), f_X3_tell G = some (0, S') ∧ f_X7_street M = some (r, M') ∧ r = -10 - S' 4 0 ∧ 1 ≤ c ∧ S' 3 0 = nI c ∧ M' 10 0 = nI c ∧ M' 9 0 = 0 ∧ ∀ k, (k < 2 ∨ k = 8 ∨ 16 < k) → M' k = M k) ∨ (∃ (S' M1 : St) (H P V B : Nat) (x : Int32), f_X3_tell G = some (1, S') ∧ f_X7_street M = f_X7_street_154 1000 x 0 (st 10 (fun _ => M1 11 0) (st 9 (fun _ => 0) M1)) ∧ M1 11 0 = 0 ∧ S' 2 0 = x ∧ S' 3 0 = 0 ∧ RT (sb 16 S') (M1 2) H P V B ∧ M1 3 0 = nI H ∧ kM M M1) := by
  -- the beginning
  have eb : f_X5_begin (sb 16 G) = some (st 11 (fun _ => (0 : Int32)) (st 7 (fun _ => (0 : Int32)) (st 2 (fun _ => (0 : Int32)) (st 1 (fun _ => (0 : Int32)) (st 0 (fun _ => (4 : Int32)) (sb 16 G)))))) := rfl
  unfold f_X3_tell f_X7_street
  rw [eb, bd_s]
  generalize hS : st 11 (fun _ => (0 : Int32)) (st 10 (fun _ => (0 : Int32)) (st 4 (fun _ => (0 : Int32)) (st 3 (fun _ => (0 : Int32)) (st 2 (fun _ => (0 : Int32)) (st 5 (fun _ => (0 : Int32)) (pt 16 32 (st 11 (fun _ => (0 : Int32)) (st 7 (fun _ => (0 : Int32)) (st 2 (fun _ => (0 : Int32)) (st 1 (fun _ => (0 : Int32)) (st 0 (fun _ => (4 : Int32)) (sb 16 G)))))) G)))))) = S
  generalize hM : st 7 (fun _ => (-1 : Int32)) (st 6 (fun _ => (-1 : Int32)) (st 5 (fun _ => (0 : Int32)) (st 4 (fun _ => (0 : Int32)) (st 3 (fun _ => (4 : Int32)) (st 13 (fun _ => (0 : Int32)) (st 11 (fun _ => (0 : Int32)) M)))))) = M1
  have kM1 : kM M M1 := by
    rw [← hM]
    exact (kM_st (by omega)).tr ((kM_st (by omega)).tr ((kM_st (by omega)).tr ((kM_st (by omega)).tr ((kM_st (by omega)).tr ((kM_st (by omega)).tr (kM_st (by omega)))))))
  obtain ⟨M2, c1, c2, c3⟩ := M_clr_l 92 0 1000 0 M1 (by omega) (by omega) (fun j hj => by omega)
  have c1' : f_X7_street_39 1000 0 0 M1 = f_X7_street_58 0 M2 := c1
  have kM2 : kM M M2 := kM1.tr (fun k hk => c2 k (by omega))
  have e11 : M2 11 0 = 0 := by rw [c2 11 (by omega), ← hM]; rfl
  have e13 : M2 13 0 = nI 0 := by rw [c2 13 (by omega), ← hM]; rfl
  obtain ⟨M3, y1, y2, y3⟩ := M_step (b := b) hL (Nat.zero_le L) (htp.km kM2) e11 e13
  rw [c1']
  unfold f_X7_street_58
  rw [y1, bd_s]
  have S0 : S 0 = b := by rw [← hS]; exact g0
  have S1 : S 1 0 = nI L := by rw [← hS]; exact g1
  have S5 : S 5 0 = nI 0 := by rw [← hS]; rfl
  have S2 : S 2 0 = nI 0 := by rw [← hS]; rfl
  have S3 : S 3 0 = 0 := by rw [← hS]; rfl
  have hy : Sy S M3 b L 0 := by
    refine ⟨Nat.zero_le L, S5, ?_⟩
    rcases y3 with ⟨q1, q2, q3⟩ | ⟨q1, q2, q3, q4⟩
    · exact Or.inr ⟨q1, q2, q3⟩
    · exact Or.inl ⟨q1, q2, q3, q4⟩
  have m3 : ∀ k, 2 ≤ k → k < 8 → M3 k = M2 k := fun k q1 q2 => y2 k (by omega)
  have hw : Tw S M3 4 0 0 0 := by
    refine ⟨⟨by omega, ⟨by rw [← hS]; rfl, by rw [← hS]; rfl, ?_, by rw [← hS]; rfl, ?_, by rw [← hS]; rfl, ?_, ?_, ?_⟩, fun p hp => by omega, fun p hp => by omega, fun p hp => by omega, ⟨fun x q => absurd q none_U, Or.inl ?_⟩, ⟨fun x q => absurd q none_o, Or.inl ?_⟩⟩, ?_, ?_, ?_⟩
    · rw [m3 2 (by omega) (by omega)]
      exact c3 88 (by omega)
    · rw [m3 2 (by omega) (by omega)]
      exact c3 89 (by omega)
    · rw [m3 2 (by omega) (by omega)]
      exact c3 90 (by omega)
    · rw [m3 2 (by omega) (by omega), c3 91 (by omega), ← hS]
      rfl
    · rw [m3 2 (by omega) (by omega), c3 91 (by omega)]
      exact ⟨0, by omega, rfl⟩
    · rw [m3 6 (by omega) (by omega), c2 6 (by omega), ← hM]
      rfl
    · rw [m3 7 (by omega) (by omega), c2 7 (by omega), ← hM]
      rfl
    · rw [m3 3 (by omega) (by omega), c2 3 (by omega), ← hM]
      rfl
    · rw [m3 4 (by omega) (by omega), c2 4 (by omega), ← hM, ← hS]
      rfl
    · rw [m3 5 (by omega) (by omega), c2 5 (by omega), ← hM, ← hS]
      rfl
  have kM3 : kM M M3 := kM2.tr y2.m
  have fin : ∀ (S' M' : St) (x : Int32), Fl S' M' → kM M M' → ∃ (c : Nat) (r : Int32) (M2 : St), f_X7_street_124 x M' = some (r, M2) ∧ r = -10 - S' 4 0 ∧ 1 ≤ c ∧ S' 3 0 = nI c ∧ M2 10 0 = nI c ∧ M2 9 0 = 0 ∧ ∀ k, (k < 2 ∨ k = 8 ∨ 16 < k) → M2 k = M k := by
    intro S' M' x F kk
    obtain ⟨c, h1, h2, h3, h4, h5⟩ := id F
    unfold f_X7_street_124
    rw [if_neg F.ne.1]
    exact ⟨c, _, _, rfl, by rw [h5], h1, h3, h4, rfl, fun k hk => by rw [st_ne (by omega), st_ne (by omega)]; exact kk k (by omega)⟩
  rcases tl_loop hL htp m17 m18 L 0 1000 1000 0 4 0 0 0 S M3 (by omega) (by omega) (by omega) (by omega) ⟨S0, S1⟩ kM3 hy hw S2 with ⟨S', M', x, d1, d2, d3, d4⟩ | ⟨S', M', k', H, P, V, B, d1, d2, d3, d4, d5, d6, d7, d8, d9⟩
  · have d1' : f_X3_tell_36 1000 0 S = some (0, S') := d1
    have d2' : f_X7_street_62 1000 0 M3 = f_X7_street_86 x M' := d2
    rw [d1', d2']
    unfold f_X7_street_86
    rw [if_neg d3.ne.2]
    obtain ⟨c, r, M4, f1, f2, f3, f4, f5, f6, f7⟩ := fin S' M' x d3 d4
    exact Or.inl ⟨S', M4, c, r, rfl, f1, f2, f3, f4, f5, f6, f7⟩
  · have d1' : f_X3_tell_36 1000 0 S = f_X3_tell_59 S' := d1
    have d2' : f_X7_street_62 1000 0 M3 = f_X7_street_86 (nI k') M' := d2
    rw [d1', d2']
    obtain ⟨hT, w3, w4, w5⟩ := id d8
    have hb := hT.1
    obtain ⟨t0, t2, g88, t7, -, t11, -⟩ := id hT.2.1
    obtain ⟨x, x1, x2, x3⟩ := C_wh_p (S := S') hb.2.1 hb.2.2.1 hb.2.2.2.1 hb.2.2.2.2 t0 t2 t7 t11 P 0 1000 (by omega) (by omega) (fun j hj => by omega)
    have x1' : f_X3_isWhole S' = some x := x1
    unfold f_X3_tell_59 f_X7_street_86 f_X7_street_118 f_X3_tell_80
    rw [x1', bd_s, if_pos d3, w3, i88, ix_in (by omega) (by omega), tN_nI (by omega), g88]
    have wm := wh_max hT
    rcases x2 with x2 | x2
    · have nw : ¬ (¬ nI H ≤ M' 6 0 ∧ M' 7 0 < nI P) := fun q => by
        have := x3.mpr (wm.mpr q)
        rw [x2] at this
        exact absurd this (by decide)
      have F : Fl (st 4 (fun _ => S' 1 0) (st 3 (fun _ => (6 : Int32)) S')) (st 12 (fun _ => M' 14 0) (st 11 (fun _ => (6 : Int32)) M')) := ⟨6, by omega, by omega, rfl, rfl, by rw [st_eq, st_eq, d7.2, d4]⟩
      obtain ⟨c, r, M4, f1, f2, f3, f4, f5, f6, f7⟩ := fin _ _ (nI k') F (d9.tr ((kM_st (by omega)).tr (kM_st (by omega))))
      have e6 : (if nI H ≤ M' 6 0 then (f_X7_fails 6 M').bind (fun q1 => f_X7_street_124 (nI k') q1) else if M' 7 0 < nI P then f_X7_street_124 (nI k') M' else (f_X7_fails 6 M').bind (fun q1 => f_X7_street_124 (nI k') q1)) = some (r, M4) := by
        rw [ok_fails d3, bd_s, f1]
        by_cases z : nI H ≤ M' 6 0
        · rw [if_pos z]
        · rw [if_neg z, if_neg (fun q => nw ⟨z, q⟩)]
      have ef : f_X3_fail 6 (S' 1 0) (sb 0 S') = some (0, st 4 (fun _ => S' 1 0) (st 3 (fun _ => (6 : Int32)) S')) := by
        unfold f_X3_fail
        rw [sb0]
      rw [x2, if_pos rfl, e6, ef, bd_s, if_pos rfl, pt_id (S' := st 4 (fun _ => S' 1 0) (st 3 (fun _ => (6 : Int32)) S')) (fun k hk => by rw [st_ne (by omega), st_ne (by omega)])]
      exact Or.inl ⟨_, M4, c, r, rfl, rfl, f2, f3, f4, f5, f6, f7⟩
    · have hW := x3.mp x2
      obtain ⟨z1, z2⟩ := wm.mp hW
      rw [x2, if_neg (show ¬ (1 : Int32) = 0 by decide), if_neg z1, if_pos z2]
      unfold f_X7_street_124
      have z0 : M' 11 0 ≤ 0 := by rw [d3]; exact Int32.le_refl 0
      rw [if_pos z0]
      exact Or.inr ⟨S', M', H, P, V, B, nI k', rfl, rfl, d3, d5, by rw [d6]; exact S3, hT.rt hW, w3, d9⟩
