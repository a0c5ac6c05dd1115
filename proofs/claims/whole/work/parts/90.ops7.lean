-- Int32 by its bits (began as rows of kit/laws/BITS.to-paste)
def bt (x : Int32) (i : Nat) : Bool := x.toBitVec.getLsbD i
theorem b_ext {x y : Int32} (h : ∀ i, i < 32 → bt x i = bt y i) : x = y := Int32.toBitVec_inj.mp (BitVec.eq_of_getLsbD_eq (fun i hi => h i hi))
theorem b_or (x y : Int32) (i : Nat) : bt (x ||| y) i = (bt x i || bt y i) := by unfold bt; rw [Int32.toBitVec_or, BitVec.getLsbD_or]
theorem b_and (x y : Int32) (i : Nat) : bt (x &&& y) i = (bt x i && bt y i) := by unfold bt; rw [Int32.toBitVec_and, BitVec.getLsbD_and]
theorem b_xor (x y : Int32) (i : Nat) : bt (x ^^^ y) i = (bt x i ^^ bt y i) := by unfold bt; rw [Int32.toBitVec_xor, BitVec.getLsbD_xor]
theorem b_big {x : Int32} {i : Nat} (h : 32 ≤ i) : bt x i = false := BitVec.getLsbD_of_ge _ _ h
theorem b_255 (i : Nat) : bt 255 i = decide (i < 8) := by
  rcases Nat.lt_or_ge i 32 with h | h
  · exact (by decide +kernel : ∀ i, i < 32 → bt 255 i = decide (i < 8)) i h
  · rw [b_big h, decide_eq_false (by omega)]
theorem b_65535 (i : Nat) : bt 65535 i = decide (i < 16) := by
  rcases Nat.lt_or_ge i 32 with h | h
  · exact (by decide +kernel : ∀ i, i < 32 → bt 65535 i = decide (i < 16)) i h
  · rw [b_big h, decide_eq_false (by omega)]
theorem b_m1 : ∀ i, i < 32 → bt (-1) i = true := by decide +kernel
theorem b_0 (i : Nat) : bt 0 i = false := BitVec.getLsbD_zero
theorem s_l : ∀ n, n < 32 → ((nI n &&& 31).toBitVec.smod 32).toNat = n := by decide +kernel
theorem s_u : ∀ n, n < 32 → (((nI n).toUInt32 &&& Int32.toUInt32 31).toBitVec % 32).toNat = n := by decide +kernel
theorem b_shl (n : Nat) (hn : n < 32) (x : Int32) {i : Nat} (hi : i < 32) : bt (x <<< (nI n &&& 31)) i = (decide (n ≤ i) && bt x (i - n)) := by
  unfold bt
  rw [Int32.toBitVec_shiftLeft]
  show (x.toBitVec <<< ((nI n &&& 31).toBitVec.smod 32).toNat).getLsbD i = _
  rw [s_l n hn, BitVec.getLsbD_shiftLeft]
  rcases Nat.lt_or_ge i n with h | h
  · simp [h, Nat.not_le.mpr h]
  · simp [hi, h, Nat.not_lt.mpr h]
theorem b_ushr (n : Nat) (hn : n < 32) (x : Int32) (i : Nat) : bt ((x.toUInt32 >>> ((nI n).toUInt32 &&& Int32.toUInt32 31)).toInt32) i = bt x (n + i) := by
  show (x.toUInt32 >>> ((nI n).toUInt32 &&& Int32.toUInt32 31)).toBitVec.getLsbD i = x.toUInt32.toBitVec.getLsbD (n + i)
  rw [UInt32.toBitVec_shiftRight]
  show (x.toUInt32.toBitVec >>> (((nI n).toUInt32 &&& Int32.toUInt32 31).toBitVec % 32).toNat).getLsbD i = _
  rw [s_u n hn, BitVec.getLsbD_ushiftRight]
theorem b_sshr (n : Nat) (hn : n < 32) (x : Int32) {i : Nat} (hi : i < 32) : bt (x >>> (nI n &&& 31)) i = if n + i < 32 then bt x (n + i) else bt x 31 := by
  unfold bt
  rw [Int32.toBitVec_shiftRight]
  show (x.toBitVec.sshiftRight ((nI n &&& 31).toBitVec.smod 32).toNat).getLsbD i = _
  rw [s_l n hn, BitVec.getLsbD_sshiftRight, BitVec.msb_eq_getLsbD_last]
  simp [hi]
theorem b_shl8 (x : Int32) {i : Nat} (hi : i < 32) : bt (x <<< ((8 : Int32) &&& 31)) i = (decide (8 ≤ i) && bt x (i - 8)) := b_shl 8 (by omega) x hi
theorem b_shl16 (x : Int32) {i : Nat} (hi : i < 32) : bt (x <<< ((16 : Int32) &&& 31)) i = (decide (16 ≤ i) && bt x (i - 16)) := b_shl 16 (by omega) x hi
theorem b_shl24 (x : Int32) {i : Nat} (hi : i < 32) : bt (x <<< ((24 : Int32) &&& 31)) i = (decide (24 ≤ i) && bt x (i - 24)) := b_shl 24 (by omega) x hi
theorem b_sshr8 (x : Int32) {i : Nat} (hi : i < 32) : bt (x >>> ((8 : Int32) &&& 31)) i = if 8 + i < 32 then bt x (8 + i) else bt x 31 := b_sshr 8 (by omega) x hi
theorem nx_and (a b : Nat) : nI a &&& nI b = nI (a &&& b) := by
  apply Int32.toBitVec_inj.1
  show BitVec.ofNat 32 a &&& BitVec.ofNat 32 b = BitVec.ofNat 32 (a &&& b)
  apply BitVec.eq_of_getLsbD_eq
  intro i hi
  simp [hi]
theorem nx_or (a b : Nat) : nI a ||| nI b = nI (a ||| b) := by
  apply Int32.toBitVec_inj.1
  show BitVec.ofNat 32 a ||| BitVec.ofNat 32 b = BitVec.ofNat 32 (a ||| b)
  apply BitVec.eq_of_getLsbD_eq
  intro i hi
  simp [hi]
theorem nI_self (x : Int32) : x = nI x.toBitVec.toNat := by
  apply Int32.toBitVec_inj.1
  show x.toBitVec = BitVec.ofNat 32 x.toBitVec.toNat
  simp
theorem by_in (x : Int32) : inB 256 (x &&& 255) := by
  refine ⟨x.toBitVec.toNat &&& 255, ?_, ?_⟩
  · have := Nat.and_le_right (n := x.toBitVec.toNat) (m := 255)
    omega
  · rw [← nx_and, ← nI_self]
    rfl
theorem l_sl : ∀ n, n < 64 → ((Int32.toInt64 (nI n) &&& 63).toBitVec.smod 64).toNat = n := by decide +kernel
theorem l_su : ∀ n, n < 64 → (((nI n).toInt64.toUInt64 &&& Int64.toUInt64 63).toBitVec % 64).toNat = n := by decide +kernel
theorem by_eq (x : Int64) (s : Nat) (hs : s ≤ 56) : (Int64.toInt32 (zlushr x (nI s))) &&& (255 : Int32) = (Int64.toInt32 (x >>> (Int32.toInt64 (nI s) &&& 63))) &&& (255 : Int32) := by
  apply b_ext
  intro i hi
  rw [b_and, b_and, b_255]
  by_cases h : i < 8
  · rw [decide_eq_true h, Bool.and_true, Bool.and_true]
    unfold bt
    have e1 : (zlushr x (nI s)).toInt32.toBitVec = (zlushr x (nI s)).toBitVec.signExtend 32 := rfl
    have e2 : (x >>> (Int32.toInt64 (nI s) &&& 63)).toInt32.toBitVec = (x >>> (Int32.toInt64 (nI s) &&& 63)).toBitVec.signExtend 32 := rfl
    have e3 : (zlushr x (nI s)).toBitVec = x.toBitVec >>> (((nI s).toInt64.toUInt64 &&& Int64.toUInt64 63).toBitVec % 64).toNat := rfl
    have e4 : (x >>> (Int32.toInt64 (nI s) &&& 63)).toBitVec = x.toBitVec.sshiftRight ((Int32.toInt64 (nI s) &&& 63).toBitVec.smod 64).toNat := rfl
    rw [e1, e2, BitVec.getLsbD_signExtend, BitVec.getLsbD_signExtend, e3, e4, l_sl s (by omega), l_su s (by omega), BitVec.getLsbD_ushiftRight, BitVec.getLsbD_sshiftRight]
    simp [show i < 64 by omega, show s + i < 64 by omega, show ¬ 64 ≤ i by omega]
  · rw [decide_eq_false h, Bool.and_false, Bool.and_false]
theorem fd_loop (x : Int64) : ∀ (r n m : Nat) (S M : St), r ≤ 8 → r < n → m + r ≤ 400 → S 1 0 = nI m → M 9 0 = nI m → (∀ j, j < m → S 0 j = M 8 j ∧ inB 256 (M 8 j)) → ∃ S' M' : St, f_X3_append_18 n x (nI (8 * r) - 8) S = some (1, S') ∧ f_X7_feed_19 n x (nI (8 * r) - 8) M = some (nI (m + r), M') ∧ (∀ k, k ≠ 0 → k ≠ 1 → S' k = S k) ∧ (∀ k, k ≠ 8 → k ≠ 9 → M' k = M k) ∧ S' 1 0 = nI (m + r) ∧ M' 9 0 = nI (m + r) ∧ ∀ j, j < m + r → S' 0 j = M' 8 j ∧ inB 256 (M' 8 j) := by
  intro r
  induction r with
  | zero =>
    intro n m S M h0 h1 h2 h3 h4 h5
    obtain ⟨n, rfl⟩ : ∃ k, n = k + 1 := ⟨n - 1, by omega⟩
    have e : (nI (8 * 0) - 8 : Int32) < 0 := by decide
    rw [f_X3_append_18_s, f_X7_feed_19_s, if_pos e, if_pos e, h4]
    exact ⟨S, M, rfl, rfl, fun _ _ _ => rfl, fun _ _ _ => rfl, h3, h4, h5⟩
  | succ r ih =>
    intro n m S M h0 h1 h2 h3 h4 h5
    obtain ⟨n, rfl⟩ : ∃ k, n = k + 1 := ⟨n - 1, by omega⟩
    have e : (nI (8 * (r + 1)) - 8 : Int32) = nI (8 * r) := by
      rw [i8, nI_sub (by omega)]
      exact congrArg nI (by omega)
    have e2 : (nI (8 * r) + (-8) : Int32) = nI (8 * r) - 8 := (Int32.sub_eq_add_neg _ _).symm
    rw [e, f_X3_append_18_s, f_X7_feed_19_s, if_neg (nI_nn (by omega)), if_neg (nI_nn (by omega)), h3, h4, ix_in (by omega) (by omega), ix_in (by omega) (by omega), tN_nI (by omega), p1, e2]
    obtain ⟨S', M', a1, a2, a3, a4, a5, a6, a7⟩ := ih n (m + 1) (st 1 (fun _ => nI (m + 1)) (st 0 (upd (S 0) m ((Int64.toInt32 (zlushr x (nI (8 * r)))) &&& (255 : Int32))) S)) (st 9 (fun _ => nI (m + 1)) (st 8 (upd (M 8) m ((Int64.toInt32 (x >>> (Int32.toInt64 (nI (8 * r)) &&& 63))) &&& (255 : Int32))) M)) (by omega) (by omega) (by omega) rfl rfl (by
      intro j hj
      show upd (S 0) m ((Int64.toInt32 (zlushr x (nI (8 * r)))) &&& (255 : Int32)) j = upd (M 8) m ((Int64.toInt32 (x >>> (Int32.toInt64 (nI (8 * r)) &&& 63))) &&& (255 : Int32)) j ∧ inB 256 (upd (M 8) m ((Int64.toInt32 (x >>> (Int32.toInt64 (nI (8 * r)) &&& 63))) &&& (255 : Int32)) j)
      by_cases c : j = m
      · subst c
        rw [upd_eq, upd_eq]
        exact ⟨by_eq x _ (by omega), by_in _⟩
      · rw [upd_ne c, upd_ne c]
        exact h5 j (by omega))
    refine ⟨S', M', a1, ?_, ?_, ?_, ?_, ?_, ?_⟩
    · rw [a2]
      exact congrArg (fun z => some (nI z, M')) (by omega)
    · intro k k1 k2
      rw [a3 k k1 k2, st_ne k2, st_ne k1]
    · intro k k1 k2
      rw [a4 k k1 k2, st_ne k2, st_ne k1]
    · rw [a5]
      exact congrArg nI (by omega)
    · rw [a6]
      exact congrArg nI (by omega)
    · intro j hj
      exact a7 j (by omega)
theorem op_feed : Op_feed Rel := by
  intro x1 G M hR
  obtain ⟨H, hH, ⟨P, V, B, hT⟩, -, ⟨w, hw, hw2, hw3, hw4⟩, -⟩ := id hR
  have hb := hT.1
  unfold f_X6_feed f_X7_feed f_X3_append
  have e1 : sb 128 G 1 0 = nI w := hw2
  rw [e1, hw3, i8, nI_add, show (400 : Int32) = nI 400 from rfl]
  by_cases q : w + 8 ≤ 400
  · rw [if_pos (nI_le q (by omega)), if_pos (nI_le q (by omega))]
    obtain ⟨S', M', a1, a2, a3, a4, a5, a6, a7⟩ := fd_loop x1 8 1000 w (sb 128 G) M (by omega) (by omega) q e1 hw3 hw4
    have e56 : (nI (8 * 8) - 8 : Int32) = 56 := by decide
    rw [e56] at a1 a2
    rw [a1, a2, bd_s, if_neg (show ¬ (1 : Int32) = 0 by decide)]
    refine ⟨_, _, _, congrArg (fun z => some (z, pt 128 16 S' G)) a5, rfl, hR.tape hH (by omega) (fun k hk => pt_out (by omega)) (fun k hk => a4 k (by omega) (by omega)) ⟨w + 8, q, ?_, a6, ?_⟩⟩
    · rw [pt_in (by omega) (by omega)]
      exact a5
    · intro j hj
      rw [pt_in (by omega) (by omega)]
      exact a7 j hj
  · rw [if_neg (nI_ge (by omega) (by omega)), if_neg (nI_ge (by omega) (by omega)), bd_s, if_pos rfl]
    refine ⟨_, _, _, rfl, rfl, hR.tape hH (by omega) (fun k hk => pt_out (by omega)) (fun k hk => rfl) ⟨w, hw, ?_, hw3, ?_⟩⟩
    · rw [pt_in (by omega) (by omega)]
      exact hw2
    · intro j hj
      rw [pt_in (by omega) (by omega)]
      exact hw4 j hj
