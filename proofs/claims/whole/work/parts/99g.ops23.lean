-- the text: tokens
def rn (q : Int32 → Bool) (b : Nat → Int32) : Nat → Nat → Nat
  | 0, s => s
  | r + 1, s => if q (b s) = true then rn q b r (s + 1) else s
theorem rn_b {q : Int32 → Bool} {b : Nat → Int32} : ∀ r s, s ≤ rn q b r s ∧ rn q b r s ≤ s + r
  | 0, s => ⟨Nat.le_refl _, Nat.le_refl _⟩
  | r + 1, s => by
    have ih := rn_b (q := q) (b := b) r (s + 1)
    show s ≤ (if q (b s) = true then rn q b r (s + 1) else s) ∧ (if q (b s) = true then rn q b r (s + 1) else s) ≤ s + (r + 1)
    split <;> omega
theorem rn_t {q : Int32 → Bool} {b : Nat → Int32} {r s : Nat} (h : q (b s) = true) : rn q b (r + 1) s = rn q b r (s + 1) := if_pos h
theorem rn_f {q : Int32 → Bool} {b : Nat → Int32} {r s : Nat} (h : q (b s) = false) : rn q b (r + 1) s = s := if_neg (by rw [h]; decide)
def spc (x : Int32) : Bool := decide (x = 32)
def ltr (x : Int32) : Bool := decide (97 ≤ x.toInt ∧ x.toInt ≤ 122)
def dig (x : Int32) : Bool := decide (48 ≤ x.toInt ∧ x.toInt ≤ 57)
/-- the value of figures: three of them at most -/
def vn (b : Nat → Int32) (h : Nat) : Nat → Nat → Int32 → Int32
  | 0, _, v => v
  | r + 1, s, v => if dig (b s) = true then vn b h r (s + 1) (if s - h < 3 then v * 10 + b s - 48 else v) else v
def tH (b : Nat → Int32) (L s : Nat) : Nat := rn spc b (L - s) s
def tT (b : Nat → Int32) (L h : Nat) : Nat := if h = L then 0 else if b h = 59 then 3 else if ltr (b h) = true then 1 else 2
def tE (b : Nat → Int32) (L h : Nat) : Nat := if h = L then h else if b h = 59 then h + 1 else if ltr (b h) = true then rn ltr b (L - h) h else rn dig b (L - h) h
def tV (b : Nat → Int32) (L h : Nat) : Int32 := if h = L then 0 else if b h = 59 then 0 else if ltr (b h) = true then 0 else vn b h (L - h) h 0
def tB (b : Nat → Int32) (L h : Nat) : Prop := h < L ∧ ¬ b h = 59 ∧ ltr (b h) = false ∧ (rn dig b (L - h) h = h ∨ 3 < rn dig b (L - h) h - h)
theorem tH_b {b : Nat → Int32} {L s : Nat} (h : s ≤ L) : s ≤ tH b L s ∧ tH b L s ≤ L := by
  have := rn_b (q := spc) (b := b) (L - s) s
  unfold tH
  omega
theorem tE_b {b : Nat → Int32} {L h : Nat} (hh : h ≤ L) : h ≤ tE b L h ∧ tE b L h ≤ L := by
  have a := rn_b (q := ltr) (b := b) (L - h) h
  have c := rn_b (q := dig) (b := b) (L - h) h
  unfold tE
  repeat' split
  all_goals omega
/-- another token than the end takes place -/
theorem tE_s {b : Nat → Int32} {L h : Nat} (hh : h < L) (hb : ¬ tB b L h) : h < tE b L h := by
  have c := rn_b (q := dig) (b := b) (L - h) h
  unfold tE
  rw [if_neg (by omega)]
  by_cases e : b h = 59
  · rw [if_pos e]
    omega
  · rw [if_neg e]
    rcases tf (ltr (b h)) with l | l
    · rw [if_pos l]
      obtain ⟨r, hr⟩ : ∃ r, L - h = r + 1 := ⟨L - h - 1, by omega⟩
      have := rn_b (q := ltr) (b := b) r (h + 1)
      rw [hr, rn_t l]
      omega
    · rw [if_neg (by rw [l]; decide)]
      by_cases z : rn dig b (L - h) h = h
      · exact absurd ⟨hh, e, l, Or.inl z⟩ hb
      · omega
/-- the class has read a token, that at h -/
def cTok (S : St) (b : Nat → Int32) (L h : Nat) : Prop := S 5 0 = nI (tE b L h) ∧ S 6 0 = nI (tT b L h) ∧ S 7 0 = nI h ∧ S 8 0 = tV b L h
def mTok (M : St) (b : Nat → Int32) (L h : Nat) : Prop := M 13 0 = nI (tE b L h) ∧ M 15 0 = nI (tT b L h) ∧ M 14 0 = nI h ∧ M 16 0 = tV b L h
def kpC (S S' : St) : Prop := ∀ k, (k < 3 ∨ 8 < k) → S' k = S k
theorem kpC.rf {S : St} : kpC S S := fun _ _ => rfl
theorem kpC.tr {A B C : St} (h : kpC A B) (h2 : kpC B C) : kpC A C := fun k hk => (h2 k hk).trans (h k hk)
theorem C_letter (x : Int32) : f_X3_isLetter x = some (if ltr x = true then 1 else 0) := by
  have f97 : (97 : Int32).toInt = 97 := by decide
  have f122 : (122 : Int32).toInt = 122 := by decide
  unfold f_X3_isLetter ltr
  by_cases a : x < 97
  · rw [if_pos a]
    rw [Int32.lt_iff_toInt_lt, f97] at a
    rw [decide_eq_false (by omega)]
    rfl
  · rw [if_neg a]
    rw [Int32.lt_iff_toInt_lt, f97] at a
    by_cases c : 122 < x
    · rw [if_pos c]
      rw [Int32.lt_iff_toInt_lt, f122] at c
      rw [decide_eq_false (by omega)]
      rfl
    · rw [if_neg c]
      rw [Int32.lt_iff_toInt_lt, f122] at c
      rw [decide_eq_true (by omega)]
      rfl
theorem C_num_l {b : Nat → Int32} {L h : Nat} (hL : L ≤ 400) : ∀ (r s n : Nat) (v : Int32) (S : St), s + r = L → h ≤ s → r < n → S 0 = b → S 1 0 = nI L → S 5 0 = nI s → S 7 0 = nI h → S 8 0 = v → ∃ S' : St, f_X3_nextNumber_5 n S = some (if rn dig b r s ≤ h ∨ 3 < rn dig b r s - h then 0 else 1, S') ∧ (∀ k, k ≠ 5 → k ≠ 8 → S' k = S k) ∧ S' 5 0 = nI (rn dig b r s) ∧ S' 8 0 = vn b h r s v := by
  intro r
  induction r with
  | zero =>
    intro s n v S h1 hs h2 s0 s1 s5 s7 s8
    obtain ⟨n, rfl⟩ : ∃ z, n = z + 1 := ⟨n - 1, by omega⟩
    obtain rfl : s = L := by omega
    rw [f_X3_nextNumber_5_s, s1, s5, if_pos (nI_le (Nat.le_refl _) (by omega))]
    unfold f_X3_nextNumber_94
    refine ⟨S, ?_, fun _ _ _ => rfl, s5, s8⟩
    have e : rn dig b 0 s = s := rfl
    rw [e, s5, s7]
    by_cases c : s ≤ h
    · rw [if_pos (nI_le c (by omega)), if_pos (Or.inl c)]
    · rw [if_neg (nI_ge (by omega) (by omega)), nI_sub hs]
      by_cases c2 : 3 < s - h
      · have : (3 : Int32) < nI (s - h) := nI_lt (a := 3) c2 (by omega)
        rw [if_pos this, if_pos (Or.inr c2)]
      · have : ¬ (3 : Int32) < nI (s - h) := nI_nlt (a := 3) (by omega) (by omega)
        rw [if_neg this, if_neg (by omega)]
  | succ r ih =>
    intro s n v S h1 hs h2 s0 s1 s5 s7 s8
    obtain ⟨n, rfl⟩ : ∃ z, n = z + 1 := ⟨n - 1, by omega⟩
    have f48 : (48 : Int32).toInt = 48 := by decide
    have f57 : (57 : Int32).toInt = 57 := by decide
    rw [f_X3_nextNumber_5_s, s1, s5, if_neg (nI_ge (by omega) (by omega)), ix_in (by omega) (by omega), ix_in (by omega) (by omega), ix_in (by omega) (by omega), tN_nI (by omega), s0]
    have stop : dig (b s) = false → ∃ S' : St, f_X3_nextNumber_94 S = some (if rn dig b (r + 1) s ≤ h ∨ 3 < rn dig b (r + 1) s - h then 0 else 1, S') ∧ (∀ k, k ≠ 5 → k ≠ 8 → S' k = S k) ∧ S' 5 0 = nI (rn dig b (r + 1) s) ∧ S' 8 0 = vn b h (r + 1) s v := by
      intro d
      have e2 : vn b h (r + 1) s v = v := if_neg (by rw [d]; decide)
      rw [rn_f d, e2]
      unfold f_X3_nextNumber_94
      refine ⟨S, ?_, fun _ _ _ => rfl, s5, s8⟩
      rw [s5, s7]
      by_cases c : s ≤ h
      · rw [if_pos (nI_le c (by omega)), if_pos (Or.inl c)]
      · rw [if_neg (nI_ge (by omega) (by omega)), nI_sub hs]
        by_cases c2 : 3 < s - h
        · have : (3 : Int32) < nI (s - h) := nI_lt (a := 3) c2 (by omega)
          rw [if_pos this, if_pos (Or.inr c2)]
        · have : ¬ (3 : Int32) < nI (s - h) := nI_nlt (a := 3) (by omega) (by omega)
          rw [if_neg this, if_neg (by omega)]
    by_cases a : b s < 48
    · rw [if_pos a]
      rw [Int32.lt_iff_toInt_lt, f48] at a
      exact stop (decide_eq_false (by omega))
    · rw [if_neg a]
      rw [Int32.lt_iff_toInt_lt, f48] at a
      by_cases c : 57 < b s
      · rw [if_pos c]
        rw [Int32.lt_iff_toInt_lt, f57] at c
        exact stop (decide_eq_false (by omega))
      · rw [if_neg c]
        rw [Int32.lt_iff_toInt_lt, f57] at c
        have d : dig (b s) = true := decide_eq_true (by omega)
        have e2 : vn b h (r + 1) s v = vn b h r (s + 1) (if s - h < 3 then v * 10 + b s - 48 else v) := if_pos d
        rw [rn_t d, e2, s7, nI_sub hs]
        unfold f_X3_nextNumber_81
        by_cases c3 : s - h < 3
        · have : ¬ (3 : Int32) ≤ nI (s - h) := nI_ge (b := 3) c3 (by omega)
          rw [if_neg this, if_pos c3]
          obtain ⟨S', k1, k2, k3, k4⟩ := ih (s + 1) n (v * 10 + b s - 48) (st 5 (fun _ => nI (s + 1)) (st 8 (fun _ => v * 10 + b s - 48) S)) (by omega) (by omega) (by omega) s0 s1 rfl s7 rfl
          refine ⟨S', ?_, fun k q1 q2 => by rw [k2 k q1 q2, st_ne q1, st_ne q2], k3, k4⟩
          have s5' : st 8 (fun _ => S 8 0 * 10 + b s - 48) S 5 = S 5 := st_ne (by omega)
          rw [s5', s5, p1, s8]
          exact k1
        · have : (3 : Int32) ≤ nI (s - h) := nI_le (a := 3) (by omega) (by omega)
          rw [if_pos this, if_neg c3]
          obtain ⟨S', k1, k2, k3, k4⟩ := ih (s + 1) n v (st 5 (fun _ => nI (s + 1)) S) (by omega) (by omega) (by omega) s0 s1 rfl s7 s8
          refine ⟨S', ?_, fun k q1 q2 => by rw [k2 k q1 q2, st_ne q1], k3, k4⟩
          rw [s5, p1]
          exact k1
theorem C_let_l {b : Nat → Int32} {L : Nat} (hL : L ≤ 400) : ∀ (r s n : Nat) (S : St), s + r = L → r < n → S 0 = b → S 1 0 = nI L → S 5 0 = nI s → ∃ S' : St, f_X3_next_100 n S = f_X3_next_139 S' ∧ (∀ k, k ≠ 5 → S' k = S k) ∧ S' 5 0 = nI (rn ltr b r s) := by
  intro r
  induction r with
  | zero =>
    intro s n S h1 h2 s0 s1 s5
    obtain ⟨n, rfl⟩ : ∃ z, n = z + 1 := ⟨n - 1, by omega⟩
    obtain rfl : s = L := by omega
    exact ⟨S, by rw [f_X3_next_100_s, s1, s5, if_pos (nI_le (Nat.le_refl _) (by omega))], fun _ _ => rfl, s5⟩
  | succ r ih =>
    intro s n S h1 h2 s0 s1 s5
    obtain ⟨n, rfl⟩ : ∃ z, n = z + 1 := ⟨n - 1, by omega⟩
    rw [f_X3_next_100_s, s1, s5, if_neg (nI_ge (by omega) (by omega)), ix_in (by omega) (by omega), tN_nI (by omega), s0, C_letter, p1]
    rcases tf (ltr (b s)) with l | l
    · rw [vb_t l, rn_t l]
      obtain ⟨S', k1, k2, k3⟩ := ih (s + 1) n (st 5 (fun _ => nI (s + 1)) S) (by omega) (by omega) s0 s1 rfl
      exact ⟨S', k1, fun k q => by rw [k2 k q, st_ne q], k3⟩
    · rw [vb_f l, rn_f l]
      exact ⟨S, rfl, fun _ _ => rfl, s5⟩
theorem C_spc_l {b : Nat → Int32} {L : Nat} (hL : L ≤ 400) : ∀ (r s n : Nat) (S : St), s + r = L → r < n → S 0 = b → S 1 0 = nI L → S 5 0 = nI s → ∃ S' : St, f_X3_next_0 n S = f_X3_next_38 S' ∧ (∀ k, k ≠ 5 → S' k = S k) ∧ S' 5 0 = nI (rn spc b r s) := by
  intro r
  induction r with
  | zero =>
    intro s n S h1 h2 s0 s1 s5
    obtain ⟨n, rfl⟩ : ∃ z, n = z + 1 := ⟨n - 1, by omega⟩
    obtain rfl : s = L := by omega
    exact ⟨S, by rw [f_X3_next_0_s, s1, s5, if_pos (nI_le (Nat.le_refl _) (by omega))], fun _ _ => rfl, s5⟩
  | succ r ih =>
    intro s n S h1 h2 s0 s1 s5
    obtain ⟨n, rfl⟩ : ∃ z, n = z + 1 := ⟨n - 1, by omega⟩
    rw [f_X3_next_0_s, s1, s5, if_neg (nI_ge (by omega) (by omega)), ix_in (by omega) (by omega), tN_nI (by omega), s0, p1]
    by_cases l : b s = 32
    · rw [if_pos l, rn_t (decide_eq_true l)]
      obtain ⟨S', k1, k2, k3⟩ := ih (s + 1) n (st 5 (fun _ => nI (s + 1)) S) (by omega) (by omega) s0 s1 rfl
      exact ⟨S', k1, fun k q => by rw [k2 k q, st_ne q], k3⟩
    · rw [if_neg l, rn_f (decide_eq_false l)]
      exact ⟨S, rfl, fun _ _ => rfl, s5⟩
/-- the class reads the next token -/
theorem C_next {b : Nat → Int32} {L s : Nat} {S : St} (hL : L ≤ 400) (hs : s ≤ L) (s0 : S 0 = b) (s1 : S 1 0 = nI L) (s5 : S 5 0 = nI s) : ∃ S' : St, kpC S S' ∧ ((¬ tB b L (tH b L s) ∧ f_X3_next S = some (1, S') ∧ cTok S' b L (tH b L s) ∧ S' 3 = S 3 ∧ S' 4 = S 4) ∨ (tB b L (tH b L s) ∧ f_X3_next S = some (0, S') ∧ S' 3 0 = 1 ∧ S' 4 0 = nI (tH b L s))) := by
  obtain ⟨S1, k1, k2, k3⟩ := C_spc_l (b := b) hL (L - s) s 1000 S (by omega) (by omega) s0 s1 s5
  have hb := tH_b (b := b) hs
  have k3' : S1 5 0 = nI (tH b L s) := k3
  generalize tH b L s = h at *
  unfold f_X3_next
  rw [k1]
  unfold f_X3_next_38
  have a0 : S1 0 = b := by rw [k2 0 (by omega)]; exact s0
  have a1 : S1 1 0 = nI L := by rw [k2 1 (by omega)]; exact s1
  rw [a1, k3']
  by_cases c : h < L
  · rw [if_pos (nI_lt c (by omega)), ix_in (by omega) (by omega), tN_nI (by omega), a0]
    by_cases c2 : b h = 59
    · rw [if_pos c2, p1]
      refine ⟨_, ?_, Or.inl ⟨fun q => q.2.1 c2, rfl, ?_, ?_, ?_⟩⟩
      · intro k hk
        rw [st_ne (by omega), st_ne (by omega), st_ne (by omega), st_ne (by omega), k2 k (by omega)]
      · refine ⟨?_, ?_, ?_, ?_⟩
        · unfold tE
          rw [st_eq, if_neg (by omega), if_pos c2]
        · unfold tT
          rw [st_ne (by omega), st_eq, if_neg (by omega), if_pos c2]
          rfl
        · rw [st_ne (by omega), st_ne (by omega), st_ne (by omega), st_eq]
        · unfold tV
          rw [st_ne (by omega), st_ne (by omega), st_eq, if_neg (by omega), if_pos c2]
      · rw [st_ne (by omega), st_ne (by omega), st_ne (by omega), st_ne (by omega), k2 3 (by omega)]
      · rw [st_ne (by omega), st_ne (by omega), st_ne (by omega), st_ne (by omega), k2 4 (by omega)]
    · rw [if_neg c2]
      obtain ⟨S2, n1, n2, n3⟩ := C_let_l (b := b) hL (L - h) h 1000 (st 8 (fun _ => (0 : Int32)) (st 7 (fun _ => nI h) S1)) (by omega) (by omega) a0 a1 k3'
      rw [n1]
      unfold f_X3_next_139
      have e7 : S2 7 0 = nI h := by rw [n2 7 (by omega), st_ne (by omega), st_eq]
      have e8 : S2 8 0 = 0 := by rw [n2 8 (by omega), st_eq]
      rw [n3, e7]
      have ke : ∀ k, k ≠ 5 → k ≠ 7 → k ≠ 8 → S2 k = S k := fun k q1 q2 q3 => by rw [n2 k q1, st_ne q3, st_ne q2, k2 k q1]
      rcases tf (ltr (b h)) with l | l
      · have hr := rn_b (q := ltr) (b := b) (L - h - 1) (h + 1)
        have er : rn ltr b (L - h) h = rn ltr b (L - h - 1) (h + 1) := by
          obtain ⟨r, hr⟩ : ∃ r, L - h = r + 1 := ⟨L - h - 1, by omega⟩
          rw [hr, rn_t l]
          rfl
        rw [if_neg (nI_ge (by omega) (by omega))]
        refine ⟨_, fun k hk => by rw [st_ne (by omega), ke k (by omega) (by omega) (by omega)], Or.inl ⟨fun q => by have z := q.2.2.1; rw [l] at z; exact Bool.noConfusion z, rfl, ⟨?_, ?_, ?_, ?_⟩, ?_, ?_⟩⟩
        · unfold tE
          rw [st_ne (by omega), n3, if_neg (by omega), if_neg c2, if_pos l]
        · unfold tT
          rw [st_eq, if_neg (by omega), if_neg c2, if_pos l]
          rfl
        · rw [st_ne (by omega)]
          exact e7
        · unfold tV
          rw [st_ne (by omega), if_neg (by omega), if_neg c2, if_pos l]
          exact e8
        · rw [st_ne (by omega), ke 3 (by omega) (by omega) (by omega)]
        · rw [st_ne (by omega), ke 4 (by omega) (by omega) (by omega)]
      · have nl : ¬ ltr (b h) = true := by rw [l]; decide
        have er : rn ltr b (L - h) h = h := by
          obtain ⟨r, hr⟩ : ∃ r, L - h = r + 1 := ⟨L - h - 1, by omega⟩
          rw [hr, rn_f l]
        rw [er] at n3
        rw [er, if_pos (nI_le (Nat.le_refl _) (by omega))]
        obtain ⟨S3, m1, m2, m3, m4⟩ := C_num_l (b := b) (h := h) hL (L - h) h 1000 0 (st 6 (fun _ => (2 : Int32)) S2) (by omega) (Nat.le_refl _) (by omega) (by rw [st_ne (by omega), ke 0 (by omega) (by omega) (by omega)]; exact s0) (by rw [st_ne (by omega), ke 1 (by omega) (by omega) (by omega)]; exact s1) n3 e7 e8
        have m1' : f_X3_nextNumber S2 = _ := m1
        rw [m1', bd_s]
        have hr := rn_b (q := dig) (b := b) (L - h) h
        have kf : ∀ k, k ≠ 5 → k ≠ 6 → k ≠ 7 → k ≠ 8 → S3 k = S k := fun k q1 q2 q3 q4 => by rw [m2 k q1 q4, st_ne q2, ke k q1 q3 q4]
        have f7 : S3 7 0 = nI h := by rw [m2 7 (by omega) (by omega), st_ne (by omega)]; exact e7
        by_cases z : rn dig b (L - h) h ≤ h ∨ 3 < rn dig b (L - h) h - h
        · have zb : tB b L h := ⟨c, c2, l, by omega⟩
          rw [if_pos z]
          unfold f_X3_fail
          refine ⟨st 4 (fun _ => S3 7 0) (st 3 (fun _ => 1) S3), fun k hk => by rw [st_ne (by omega), st_ne (by omega), kf k (by omega) (by omega) (by omega) (by omega)], Or.inr ⟨zb, rfl, rfl, f7⟩⟩
        · have zb : ¬ tB b L h := fun q => by have := q.2.2.2; omega
          rw [if_neg z]
          unfold f_X3_next_176
          refine ⟨S3, fun k hk => kf k (by omega) (by omega) (by omega) (by omega), Or.inl ⟨zb, rfl, ⟨?_, ?_, f7, ?_⟩, kf 3 (by omega) (by omega) (by omega) (by omega), kf 4 (by omega) (by omega) (by omega) (by omega)⟩⟩
          · unfold tE
            rw [if_neg (by omega), if_neg c2, if_neg nl]
            exact m3
          · unfold tT
            rw [m2 6 (by omega) (by omega), st_eq, if_neg (by omega), if_neg c2, if_neg nl]
            rfl
          · unfold tV
            rw [if_neg (by omega), if_neg c2, if_neg nl]
            exact m4
  · obtain rfl : h = L := by omega
    rw [if_neg (nI_nlt (Nat.le_refl _) (by omega))]
    refine ⟨_, ?_, Or.inl ⟨fun q => by have := q.1; omega, rfl, ⟨?_, ?_, ?_, ?_⟩, ?_, ?_⟩⟩
    · intro k hk
      rw [st_ne (by omega), st_ne (by omega), st_ne (by omega), k2 k (by omega)]
    · unfold tE
      rw [st_ne (by omega), st_ne (by omega), st_ne (by omega), if_pos rfl]
      exact k3'
    · unfold tT
      rw [st_eq, if_pos rfl]
      rfl
    · rw [st_ne (by omega), st_ne (by omega), st_eq]
    · unfold tV
      rw [st_ne (by omega), st_eq, if_pos rfl]
    · rw [st_ne (by omega), st_ne (by omega), st_ne (by omega), k2 3 (by omega)]
    · rw [st_ne (by omega), st_ne (by omega), st_ne (by omega), k2 4 (by omega)]
-- the same in the reference: it reads ahead
def kpM (M M' : St) : Prop := ∀ k, (k < 11 ∨ 16 < k) → M' k = M k
theorem kpM.rf {M : St} : kpM M M := fun _ _ => rfl
theorem kpM.tr {A B C : St} (h : kpM A B) (h2 : kpM B C) : kpM A C := fun k hk => (h2 k hk).trans (h k hk)
def mTp (M : St) (b : Nat → Int32) (L : Nat) : Prop := M 9 0 = nI L ∧ ∀ j, j < L → M 8 j = b j ∧ inB 256 (b j)
theorem mTp.cg {M M2 : St} {b : Nat → Int32} {L : Nat} (h : mTp M b L) (h8 : M2 8 = M 8) (h9 : M2 9 = M 9) : mTp M2 b L := by
  unfold mTp
  rw [h8, h9]
  exact h
theorem M_byte {M : St} {b : Nat → Int32} {L k : Nat} (h : mTp M b L) (hL : L ≤ 400) (hk : k ≤ 500) : f_X7_byteAt (nI k) M = some (if k < L then b k else -4) := by
  unfold f_X7_byteAt
  rw [h.1]
  by_cases c : k < L
  · rw [if_neg (nI_ge c (by omega)), if_pos c, ix_in (by omega) (by omega), tN_nI (by omega), (h.2 k c).1]
  · rw [if_pos (nI_le (by omega) (by omega)), if_neg c]
theorem in_l (x : Int32) {lo hi : Int64} {a c : Int} (ha : lo.toInt = a) (hc : hi.toInt = c) : f_X7_in (Int32.toInt64 x) lo hi = some (if decide (a ≤ x.toInt ∧ x.toInt ≤ c) = true then 1 else 0) := by
  rw [M_in0]
  have e : (Int32.toInt64 x).toInt = x.toInt := Int32.toInt_toInt64 x
  have k : (lo ≤ Int32.toInt64 x ∧ Int32.toInt64 x ≤ hi) ↔ (a ≤ x.toInt ∧ x.toInt ≤ c) := by
    rw [Int64.le_iff_toInt_le, Int64.le_iff_toInt_le, e, ha, hc]
  simp only [k, decide_eq_true_iff]
theorem M_ltr (x : Int32) : f_X7_in (Int32.toInt64 x) 97 122 = some (if ltr x = true then 1 else 0) := in_l x (by decide) (by decide)
theorem M_dig (x : Int32) : f_X7_in (Int32.toInt64 x) 48 57 = some (if dig x = true then 1 else 0) := in_l x (by decide) (by decide)
theorem ltr4 : ltr (-4) = false := by decide
theorem dig4 : dig (-4) = false := by decide
theorem M_spc_l {b : Nat → Int32} {L : Nat} (hL : L ≤ 400) : ∀ (r s n : Nat) (M : St), s + r = L → r < n → mTp M b L → M 13 0 = nI s → ∃ M' : St, f_X7_step_8 n M = f_X7_step_34 M' ∧ (∀ k, k ≠ 13 → M' k = M k) ∧ M' 13 0 = nI (rn spc b r s) := by
  intro r
  induction r with
  | zero =>
    intro s n M h1 h2 ht h13
    obtain ⟨n, rfl⟩ : ∃ z, n = z + 1 := ⟨n - 1, by omega⟩
    refine ⟨M, ?_, fun _ _ => rfl, h13⟩
    rw [f_X7_step_8_s, h13, M_byte ht hL (by omega), bd_s, if_neg (show ¬ s < L by omega), if_neg (by decide)]
  | succ r ih =>
    intro s n M h1 h2 ht h13
    obtain ⟨n, rfl⟩ : ∃ z, n = z + 1 := ⟨n - 1, by omega⟩
    rw [f_X7_step_8_s, h13, M_byte ht hL (by omega), bd_s, if_pos (show s < L by omega), p1]
    by_cases l : b s = 32
    · rw [if_pos l, rn_t (decide_eq_true l)]
      obtain ⟨M', k1, k2, k3⟩ := ih (s + 1) n (st 13 (fun _ => nI (s + 1)) M) (by omega) (by omega) (ht.cg (st_ne (by omega)) (st_ne (by omega))) rfl
      exact ⟨M', k1, fun k q => by rw [k2 k q, st_ne q], k3⟩
    · rw [if_neg l, rn_f (decide_eq_false l)]
      exact ⟨M, rfl, fun _ _ => rfl, h13⟩
theorem M_let_l {b : Nat → Int32} {L : Nat} (hL : L ≤ 400) : ∀ (r s n : Nat) (M : St), s + r = L → r < n → mTp M b L → M 13 0 = nI s → ∃ M' : St, f_X7_step_84 n M = some (st 15 (fun _ => 1) M') ∧ (∀ k, k ≠ 13 → M' k = M k) ∧ M' 13 0 = nI (rn ltr b r s) := by
  intro r
  induction r with
  | zero =>
    intro s n M h1 h2 ht h13
    obtain ⟨n, rfl⟩ : ∃ z, n = z + 1 := ⟨n - 1, by omega⟩
    refine ⟨M, ?_, fun _ _ => rfl, h13⟩
    rw [f_X7_step_84_s, h13, M_byte ht hL (by omega), bd_s, if_neg (show ¬ s < L by omega), M_ltr, vb_f ltr4]
    rfl
  | succ r ih =>
    intro s n M h1 h2 ht h13
    obtain ⟨n, rfl⟩ : ∃ z, n = z + 1 := ⟨n - 1, by omega⟩
    rw [f_X7_step_84_s, h13, M_byte ht hL (by omega), bd_s, if_pos (show s < L by omega), p1, M_ltr]
    rcases tf (ltr (b s)) with l | l
    · rw [vb_t l, rn_t l]
      obtain ⟨M', k1, k2, k3⟩ := ih (s + 1) n (st 13 (fun _ => nI (s + 1)) M) (by omega) (by omega) (ht.cg (st_ne (by omega)) (st_ne (by omega))) rfl
      exact ⟨M', k1, fun k q => by rw [k2 k q, st_ne q], k3⟩
    · rw [vb_f l, rn_f l]
      exact ⟨M, rfl, fun _ _ => rfl, h13⟩
theorem M_num_l {b : Nat → Int32} {L h : Nat} (hL : L ≤ 400) : ∀ (r s n : Nat) (v : Int32) (M : St), s + r = L → h ≤ s → r < n → mTp M b L → M 13 0 = nI s → M 14 0 = nI h → M 16 0 = v → ∃ M' : St, f_X7_step_140 n M = f_X7_step_217 M' ∧ (∀ k, k ≠ 13 → k ≠ 16 → M' k = M k) ∧ M' 13 0 = nI (rn dig b r s) ∧ M' 16 0 = vn b h r s v := by
  intro r
  induction r with
  | zero =>
    intro s n v M h1 hs h2 ht h13 h14 h16
    obtain ⟨n, rfl⟩ : ∃ z, n = z + 1 := ⟨n - 1, by omega⟩
    refine ⟨M, ?_, fun _ _ _ => rfl, h13, h16⟩
    rw [f_X7_step_140_s, h13, M_byte ht hL (by omega), bd_s, if_neg (show ¬ s < L by omega), M_dig, vb_f dig4]
  | succ r ih =>
    intro s n v M h1 hs h2 ht h13 h14 h16
    obtain ⟨n, rfl⟩ : ∃ z, n = z + 1 := ⟨n - 1, by omega⟩
    rw [f_X7_step_140_s, h13, M_byte ht hL (by omega), bd_s, if_pos (show s < L by omega), M_dig]
    rcases tf (dig (b s)) with d | d
    · have e2 : vn b h (r + 1) s v = vn b h r (s + 1) (if s - h < 3 then v * 10 + b s - 48 else v) := if_pos d
      rw [vb_t d, rn_t d, e2, h14, nI_sub hs]
      unfold f_X7_step_201
      by_cases c3 : s - h < 3
      · have : ¬ (3 : Int32) ≤ nI (s - h) := nI_ge (b := 3) c3 (by omega)
        have cm : (10 : Int32) * v = v * 10 := Int32.mul_comm 10 v
        rw [if_neg this, if_pos c3, bd_s, h16, cm]
        obtain ⟨M', k1, k2, k3, k4⟩ := ih (s + 1) n (v * 10 + b s - 48) (st 13 (fun _ => nI (s + 1)) (st 16 (fun _ => v * 10 + b s - 48) M)) (by omega) (by omega) (by omega) (ht.cg (by rw [st_ne (by omega), st_ne (by omega)]) (by rw [st_ne (by omega), st_ne (by omega)])) rfl h14 rfl
        refine ⟨M', ?_, fun k q1 q2 => by rw [k2 k q1 q2, st_ne q1, st_ne q2], k3, k4⟩
        rw [h13, p1]
        exact k1
      · have : (3 : Int32) ≤ nI (s - h) := nI_le (a := 3) (by omega) (by omega)
        rw [if_pos this, if_neg c3]
        obtain ⟨M', k1, k2, k3, k4⟩ := ih (s + 1) n v (st 13 (fun _ => nI (s + 1)) (st 16 (fun _ => v) M)) (by omega) (by omega) (by omega) (ht.cg (by rw [st_ne (by omega), st_ne (by omega)]) (by rw [st_ne (by omega), st_ne (by omega)])) rfl h14 rfl
        refine ⟨M', ?_, fun k q1 q2 => by rw [k2 k q1 q2, st_ne q1, st_ne q2], k3, k4⟩
        rw [h13, h16, p1]
        exact k1
    · have e2 : vn b h (r + 1) s v = v := if_neg (by rw [d]; decide)
      rw [vb_f d, rn_f d, e2]
      exact ⟨M, rfl, fun _ _ _ => rfl, h13, h16⟩
/-- the reference steps to the next token -/
theorem M_step {b : Nat → Int32} {L s : Nat} {M : St} (hL : L ≤ 400) (hs : s ≤ L) (ht : mTp M b L) (h11 : M 11 0 = 0) (h13 : M 13 0 = nI s) : ∃ M' : St, f_X7_step M = some M' ∧ kpM M M' ∧ ((¬ tB b L (tH b L s) ∧ M' 11 0 = 0 ∧ mTok M' b L (tH b L s)) ∨ (tB b L (tH b L s) ∧ M' 11 0 = 1 ∧ M' 12 0 = nI (tH b L s) ∧ ¬ M' 15 0 = 1)) := by
  obtain ⟨M1, k1, k2, k3⟩ := M_spc_l (b := b) hL (L - s) s 1000 M (by omega) (by omega) ht h13
  have hb := tH_b (b := b) hs
  have k3' : M1 13 0 = nI (tH b L s) := k3
  generalize tH b L s = h at *
  have z11 : (0 : Int32) ≤ 0 := Int32.le_refl 0
  unfold f_X7_step
  rw [h11, if_pos z11, k1]
  unfold f_X7_step_34
  have ht1 : mTp M1 b L := ht.cg (k2 8 (by omega)) (k2 9 (by omega))
  have ht2 : mTp (st 14 (fun _ => M1 13 0) M1) b L := ht1.cg (st_ne (by omega)) (st_ne (by omega))
  have a11 : M1 11 0 = 0 := by rw [k2 11 (by omega)]; exact h11
  rw [k3']
  rw [k3'] at ht2
  rw [M_byte ht2 hL (by omega), bd_s]
  by_cases c : h < L
  · rw [if_pos c]
    have n4 : ¬ b h = -4 := by
      obtain ⟨j, hj, e⟩ := (ht.2 h c).2
      exact i4ne e (by omega)
    rw [if_neg n4, M_ltr]
    rcases tf (ltr (b h)) with l | l
    · have n59 : ¬ b h = 59 := by
        intro q
        rw [q] at l
        exact absurd l (by decide)
      rw [vb_t l]
      obtain ⟨M2, m1, m2, m3⟩ := M_let_l (b := b) hL (L - h) h 1000 (st 16 (fun _ => (0 : Int32)) (st 14 (fun _ => nI h) M1)) (by omega) (by omega) (ht2.cg (st_ne (by omega)) (st_ne (by omega))) k3'
      rw [m1]
      refine ⟨_, rfl, fun k hk => by rw [st_ne (by omega), m2 k (by omega), st_ne (by omega), st_ne (by omega), k2 k (by omega)], Or.inl ⟨fun q => by have z := q.2.2.1; rw [l] at z; exact Bool.noConfusion z, ?_, ?_, ?_, ?_, ?_⟩⟩
      · rw [st_ne (by omega), m2 11 (by omega), st_ne (by omega), st_ne (by omega)]
        exact a11
      · unfold tE
        rw [st_ne (by omega), m3, if_neg (by omega), if_neg n59, if_pos l]
      · unfold tT
        rw [st_eq, if_neg (by omega), if_neg n59, if_pos l]
        rfl
      · rw [st_ne (by omega), m2 14 (by omega), st_ne (by omega), st_eq]
      · unfold tV
        rw [st_ne (by omega), m2 16 (by omega), st_eq, if_neg (by omega), if_neg n59, if_pos l]
    · have nl : ¬ ltr (b h) = true := by rw [l]; decide
      rw [vb_f l, M_dig]
      rcases tf (dig (b h)) with d | d
      · have n59 : ¬ b h = 59 := by
          intro q
          rw [q] at d
          exact absurd d (by decide)
        rw [vb_t d]
        obtain ⟨M2, m1, m2, m3, m4⟩ := M_num_l (b := b) (h := h) hL (L - h) h 1000 0 (st 16 (fun _ => (0 : Int32)) (st 14 (fun _ => nI h) M1)) (by omega) (Nat.le_refl _) (by omega) (ht2.cg (st_ne (by omega)) (st_ne (by omega))) k3' rfl rfl
        have hr := rn_b (q := dig) (b := b) (L - h - 1) (h + 1)
        have er : rn dig b (L - h) h = rn dig b (L - h - 1) (h + 1) := by
          obtain ⟨r, hr⟩ : ∃ r, L - h = r + 1 := ⟨L - h - 1, by omega⟩
          rw [hr, rn_t d]
          rfl
        have b14 : M2 14 0 = nI h := by rw [m2 14 (by omega) (by omega), st_ne (by omega), st_eq]
        have b11 : M2 11 0 = 0 := by rw [m2 11 (by omega) (by omega), st_ne (by omega), st_ne (by omega)]; exact a11
        have kk : kpM M M2 := fun k hk => by rw [m2 k (by omega) (by omega), st_ne (by omega), st_ne (by omega), k2 k (by omega)]
        rw [m1]
        unfold f_X7_step_217
        rw [m3, b14, nI_sub (by omega)]
        by_cases z : rn dig b (L - h) h - h ≤ 3
        · have z3 : nI (rn dig b (L - h) h - h) ≤ (3 : Int32) := nI_le (b := 3) z (by omega)
          rw [if_pos z3]
          refine ⟨_, rfl, fun k hk => by rw [st_ne (by omega), kk k hk], Or.inl ⟨fun q => by have := q.2.2.2; omega, ?_, ?_, ?_, ?_, ?_⟩⟩
          · rw [st_ne (by omega)]
            exact b11
          · unfold tE
            rw [st_ne (by omega), m3, if_neg (by omega), if_neg n59, if_neg nl]
          · unfold tT
            rw [st_eq, if_neg (by omega), if_neg n59, if_neg nl]
            rfl
          · rw [st_ne (by omega)]
            exact b14
          · unfold tV
            rw [st_ne (by omega), m4, if_neg (by omega), if_neg n59, if_neg nl]
        · have z3 : ¬ nI (rn dig b (L - h) h - h) ≤ (3 : Int32) := nI_ge (a := 3) (by omega) (by omega)
          rw [if_neg z3]
          unfold f_X7_fails
          have c11 : st 15 (fun _ => (2 : Int32)) M2 11 0 = 0 := b11
          rw [if_pos c11, bd_s]
          refine ⟨_, rfl, fun k hk => by rw [st_ne (by omega), st_ne (by omega), st_ne (by omega), kk k hk], Or.inr ⟨⟨c, n59, l, by omega⟩, rfl, b14, ?_⟩⟩
          rw [st_ne (by omega), st_ne (by omega), st_eq]
          decide
      · rw [vb_f d]
        have kk : ∀ (f g : Nat → Int32) (x y z : Nat → Int32), kpM M (st 13 f (st 15 g (st 16 x (st 14 y M1)))) := fun f g x y z k hk => by rw [st_ne (by omega), st_ne (by omega), st_ne (by omega), st_ne (by omega), k2 k (by omega)]
        by_cases c2 : b h = 59
        · rw [if_pos c2]
          refine ⟨_, rfl, kk _ _ _ _ (fun _ => 0), Or.inl ⟨fun q => q.2.1 c2, a11, ?_, ?_, rfl, ?_⟩⟩
          · unfold tE
            rw [st_eq, if_neg (by omega), if_pos c2, p1]
          · unfold tT
            rw [st_ne (by omega), st_eq, if_neg (by omega), if_pos c2]
            rfl
          · unfold tV
            rw [st_ne (by omega), st_ne (by omega), st_eq, if_neg (by omega), if_pos c2]
        · rw [if_neg c2]
          unfold f_X7_fails
          have er : rn dig b (L - h) h = h := by
            obtain ⟨r, hr⟩ : ∃ r, L - h = r + 1 := ⟨L - h - 1, by omega⟩
            rw [hr, rn_f d]
          have c11 : st 13 (fun _ => nI h + 1) (st 15 (fun _ => (3 : Int32)) (st 16 (fun _ => (0 : Int32)) (st 14 (fun _ => nI h) M1))) 11 0 = 0 := a11
          rw [if_pos c11, bd_s]
          refine ⟨_, rfl, fun k hk => by rw [st_ne (by omega), st_ne (by omega)]; exact kk _ _ _ _ (fun _ => 0) k hk, Or.inr ⟨⟨c, c2, l, Or.inl er⟩, rfl, rfl, ?_⟩⟩
          rw [st_ne (by omega), st_ne (by omega), st_ne (by omega), st_eq]
          decide
  · obtain rfl : h = L := by omega
    rw [if_neg c, if_pos rfl]
    refine ⟨_, rfl, fun k hk => by rw [st_ne (by omega), st_ne (by omega), st_ne (by omega), k2 k (by omega)], Or.inl ⟨fun q => by have := q.1; omega, a11, ?_, ?_, rfl, ?_⟩⟩
    · unfold tE
      rw [st_ne (by omega), st_ne (by omega), st_ne (by omega), k3', if_pos rfl]
    · unfold tT
      rw [st_eq, if_pos rfl]
      rfl
    · unfold tV
      rw [st_ne (by omega), st_eq, if_pos rfl]
