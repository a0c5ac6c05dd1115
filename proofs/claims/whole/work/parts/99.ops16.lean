-- can: births told ahead, three days for each on one side, who is there on the other
def iE (g : Nat → Int32) (B h e : Nat) : Bool := decide (e < B ∧ g (76 + 3 * e) = nI h)
def aE (g : Nat → Int32) (e : Nat) : Nat := (g (76 + 3 * e + 1)).toNatClampNeg
def bE (g : Nat → Int32) (e : Nat) : Nat := (g (76 + 3 * e + 2)).toNatClampNeg
def xE (g : Nat → Int32) (B h e : Nat) : Nat := ca (iE g B h) e
theorem xE_s {g : Nat → Int32} {B h e : Nat} : xE g B h (e + 1) = if iE g B h e = true then xE g B h e + 1 else xE g B h e := rfl
theorem xE_b {g : Nat → Int32} {B h e : Nat} : xE g B h e ≤ e := ca_bd e
theorem xE_m {g : Nat → Int32} {B h e : Nat} : ∀ r, xE g B h e ≤ xE g B h (e + r)
  | 0 => Nat.le_refl _
  | r + 1 => by
    have ih := xE_m (g := g) (B := B) (h := h) (e := e) r
    rw [show e + (r + 1) = (e + r) + 1 by omega, xE_s]
    split <;> omega
/-- the day of one who is expected, by the choice made -/
def dt (g : Nat → Int32) (d e c : Nat) : Nat := if c = 0 then aE g e else if c = 1 then (if (if bE g e ≤ d then bE g e else d) ≤ aE g e then aE g e else (if bE g e ≤ d then bE g e else d)) else bE g e
theorem RT.e_of {T : St} {g : Nat → Int32} {H P V B e : Nat} (h : RT T g H P V B) (he : e < B) : T 12 e = g (76 + 3 * e) ∧ T 13 e = nI (aE g e) ∧ T 14 e = nI (bE g e) ∧ g (76 + 3 * e + 1) = nI (aE g e) ∧ g (76 + 3 * e + 2) = nI (bE g e) ∧ aE g e ≤ bE g e ∧ bE g e < 36000 := by
  obtain ⟨e1, e2, e3, -, a, b, h1, h2, h3, h4⟩ := h.2.2.2.2 e he
  have ka : aE g e = a := by
    unfold aE
    rw [h3, tN_nI (by omega)]
  have kb : bE g e = b := by
    unfold bE
    rw [h4, tN_nI (by omega)]
  rw [ka, kb, e1, e2, e3]
  exact ⟨rfl, h3, h4, h3, h4, h1, h2⟩
theorem RT.ext {T U : St} {g : Nat → Int32} {H P V B : Nat} (h : RT T g H P V B) (h3 : ∀ k, k = 0 ∨ k = 1 ∨ k = 2 ∨ k = 7 ∨ k = 11 → U k 0 = T k 0) (h4 : ∀ k p, 3 ≤ k → k < 7 → p < P → U k p = T k p) (h5 : ∀ k p, 8 ≤ k → k < 11 → p < V → U k p = T k p) (h6 : ∀ k p, 12 ≤ k → k < 15 → p < B → U k p = T k p) : RT U g H P V B := by
  obtain ⟨a, b, c, d, e⟩ := h.un
  refine RT.mk a ?_ (c.cg (fun p hp => ⟨h4 3 p (by omega) (by omega) hp, h4 4 p (by omega) (by omega) hp, h4 5 p (by omega) (by omega) hp, h4 6 p (by omega) (by omega) hp⟩) (fun _ _ => rfl)) (d.cg (Nat.le_refl _) (fun p hp => ⟨h5 8 p (by omega) (by omega) hp, h5 9 p (by omega) (by omega) hp, h5 10 p (by omega) (by omega) hp⟩) (fun _ _ _ => rfl)) (e.cg (fun p hp => ⟨h6 12 p (by omega) (by omega) hp, h6 13 p (by omega) (by omega) hp, h6 14 p (by omega) (by omega) hp⟩) (fun _ _ _ => rfl))
  unfold RTs at b ⊢
  rw [h3 0 (by omega), h3 1 (by omega), h3 2 (by omega), h3 7 (by omega), h3 11 (by omega)]
  exact b
/-- the copy with i expected ones behind the people -/
def BX (T : St) (g : Nat → Int32) (H P V B h i : Nat) : Prop := RT (st 2 (fun _ => nI P) T) g H P V B ∧ T 2 0 = nI (P + i) ∧ ∀ j, j < i → T 3 (P + j) = 0 ∧ T 5 (P + j) = nI h ∧ T 6 (P + j) = 36000
theorem BX.ext {T U : St} {g : Nat → Int32} {H P V B h i : Nat} (hx : BX T g H P V B h i) (h3 : ∀ k, k < 15 → k ≠ 4 → U k = T k) (h4 : ∀ p, p < P → U 4 p = T 4 p) : BX U g H P V B h i := by
  obtain ⟨a, b, c⟩ := hx
  refine ⟨a.ext (fun k hk => ?_) (fun k p k1 k2 hp => ?_) (fun k p k1 k2 hp => ?_) (fun k p k1 k2 hp => ?_), by rw [h3 2 (by omega) (by omega)]; exact b, fun j hj => by rw [h3 3 (by omega) (by omega), h3 5 (by omega) (by omega), h3 6 (by omega) (by omega)]; exact c j hj⟩
  · by_cases z : k = 2
    · subst z
      rfl
    · rw [st_ne z, st_ne z, h3 k (by omega) (by omega)]
  · rw [st_ne (by omega), st_ne (by omega)]
    by_cases z : k = 4
    · subst z
      exact h4 p hp
    · rw [h3 k (by omega) z]
  · rw [st_ne (by omega), st_ne (by omega), h3 k (by omega) (by omega)]
  · rw [st_ne (by omega), st_ne (by omega), h3 k (by omega) (by omega)]
theorem BX.e_of {T : St} {g : Nat → Int32} {H P V B h i e : Nat} (hx : BX T g H P V B h i) (he : e < B) : T 12 e = g (76 + 3 * e) ∧ T 13 e = nI (aE g e) ∧ T 14 e = nI (bE g e) ∧ aE g e ≤ bE g e ∧ bE g e < 36000 := by
  obtain ⟨e1, e2, e3, -, -, e4, e5⟩ := hx.1.e_of he
  exact ⟨e1, e2, e3, e4, e5⟩
theorem nI_e {x : Int32} {j k : Nat} (h : x = nI j) (hj : j < 2 ^ 31) (hk : k < 2 ^ 31) : x = nI k ↔ j = k := by
  rw [h]
  exact nI_eq hj hk
theorem C_bear_l {g : Nat → Int32} {H P V B h : Nat} : ∀ (r e n : Nat) (T : St), e + r = B → r < n → BX T g H P V B h (xE g B h e) → ∃ T' : St, f_X5_bearExpected_4 n (nI h) (nI (3 ^ xE g B h e)) (nI e) T = some (nI (3 ^ xE g B h B), T') ∧ BX T' g H P V B h (xE g B h B) := by
  intro r
  induction r with
  | zero =>
    intro e n T h1 h2 hx
    obtain ⟨n, rfl⟩ : ∃ z, n = z + 1 := ⟨n - 1, by omega⟩
    obtain rfl : e = B := by omega
    have hb := hx.1.1
    obtain ⟨-, -, -, -, -, t11, -⟩ := hx.1.2.1
    have t11' : T 11 0 = nI e := t11
    exact ⟨T, by rw [f_X5_bearExpected_4_s, t11', if_pos (nI_le (Nat.le_refl _) (by omega))], hx⟩
  | succ r ih =>
    intro e n T h1 h2 hx
    obtain ⟨n, rfl⟩ : ∃ z, n = z + 1 := ⟨n - 1, by omega⟩
    have hb := hx.1.1
    obtain ⟨-, -, -, -, -, t11, -⟩ := hx.1.2.1
    have t11' : T 11 0 = nI B := t11
    obtain ⟨e1, e2, e3, e4, e5⟩ := hx.e_of (show e < B by omega)
    have xb := xE_b (g := g) (B := B) (h := h) (e := e)
    rw [f_X5_bearExpected_4_s, t11', if_neg (nI_ge (by omega) (by omega)), ix_in (by omega) (by omega), ix_in (by omega) (by omega), tN_nI (by omega), e1, e2]
    unfold f_X5_bearExpected_40
    rw [p1]
    by_cases c : g (76 + 3 * e) = nI h
    · have ci : iE g B h e = true := decide_eq_true ⟨by omega, c⟩
      obtain ⟨U, u1, u2, u3, u4, u5, u6, u7⟩ := C_addOne (T := T) (P := P + xE g B h e) 0 (nI (aE g e)) (nI h) 36000 hx.2.1 (by omega)
      rw [if_pos c, u1, bd_s, i3, nI_mul]
      have k := ih (e + 1) n U (by omega) (by omega)
      rw [xE_s, if_pos ci, Nat.pow_succ] at k
      refine k ⟨hx.1.ext (fun k hk => ?_) (fun k p k1 k2 hp => ?_) (fun k p k1 k2 hp => ?_) (fun k p k1 k2 hp => ?_), u3, fun j hj => ?_⟩
      · by_cases z : k = 2
        · subst z
          rfl
        · rw [st_ne z, st_ne z, u2 k z (by omega) (by omega) (by omega) (by omega)]
      · rw [st_ne (by omega), st_ne (by omega)]
        rcases (show k = 3 ∨ k = 4 ∨ k = 5 ∨ k = 6 by omega) with rfl | rfl | rfl | rfl
        · rw [u4, upd_ne (by omega)]
        · rw [u5, upd_ne (by omega)]
        · rw [u6, upd_ne (by omega)]
        · rw [u7, upd_ne (by omega)]
      · rw [st_ne (by omega), st_ne (by omega), u2 k (by omega) (by omega) (by omega) (by omega) (by omega)]
      · rw [st_ne (by omega), st_ne (by omega), u2 k (by omega) (by omega) (by omega) (by omega) (by omega)]
      · rw [u4, u6, u7]
        by_cases z : j = xE g B h e
        · subst z
          rw [upd_eq, upd_eq, upd_eq]
          exact ⟨rfl, rfl, rfl⟩
        · rw [upd_ne (by omega), upd_ne (by omega), upd_ne (by omega)]
          exact hx.2.2 j (by omega)
    · have ci : ¬ iE g B h e = true := fun z => c (of_decide_eq_true z).2
      rw [if_neg c]
      have k := ih (e + 1) n T (by omega) (by omega)
      rw [xE_s, if_neg ci] at k
      exact k hx
theorem zmax_n {a b : Nat} (ha : a < 2 ^ 31) (hb : b < 2 ^ 31) : zmax (nI a) (nI b) = nI (if b ≤ a then a else b) := by
  rw [zmax_e]
  by_cases c : b ≤ a
  · rw [if_pos (nI_le c ha), if_pos c]
  · rw [if_neg (nI_ge (by omega) hb), if_neg c]
theorem dt_b {g : Nat → Int32} {d e c : Nat} (hd : d < 36000) (h1 : aE g e ≤ bE g e) (h2 : bE g e < 36000) : dt g d e c < 36000 := by
  unfold dt
  repeat' split
  all_goals omega
theorem xE_B {g : Nat → Int32} {B h e : Nat} (he : e < B) (ci : iE g B h e = true) : xE g B h e < xE g B h B := by
  have k := xE_m (g := g) (B := B) (h := h) (e := e + 1) (B - (e + 1))
  rw [show e + 1 + (B - (e + 1)) = B by omega, xE_s, if_pos ci] at k
  omega
theorem C_choose_l {g : Nat → Int32} {H P V B h d w : Nat} (hd : d < 36000) (hw : w < 100) : ∀ (r e n : Nat) (S : St), e + r = B → r < n → BX S g H P V B h (xE g B h B) → ∃ S' : St, f_X5_chooseBirths_13 n (nI h) (nI d) (nI (w / 3 ^ xE g B h e)) (nI (P + xE g B h e)) (nI e) S = some S' ∧ (∀ k, k ≠ 4 → S' k = S k) ∧ (∀ p, p < P + xE g B h e → S' 4 p = S 4 p) ∧ (∀ j, xE g B h e ≤ j → j < xE g B h B → inB 36000 (S' 4 (P + j))) ∧ ∀ e', e ≤ e' → e' < B → iE g B h e' = true → S' 4 (P + xE g B h e') = nI (dt g d e' (w / 3 ^ xE g B h e' % 3)) := by
  intro r
  induction r with
  | zero =>
    intro e n S h1 h2 hx
    obtain ⟨n, rfl⟩ : ∃ z, n = z + 1 := ⟨n - 1, by omega⟩
    obtain rfl : e = B := by omega
    have hb := hx.1.1
    obtain ⟨-, -, -, -, -, t11, -⟩ := hx.1.2.1
    have t11' : S 11 0 = nI e := t11
    exact ⟨S, by rw [f_X5_chooseBirths_13_s, t11', if_pos (nI_le (Nat.le_refl _) (by omega))], fun _ _ => rfl, fun _ _ => rfl, fun j q1 q2 => by omega, fun e' q1 q2 => by omega⟩
  | succ r ih =>
    intro e n S h1 h2 hx
    obtain ⟨n, rfl⟩ : ∃ z, n = z + 1 := ⟨n - 1, by omega⟩
    have hb := hx.1.1
    obtain ⟨-, -, -, -, -, t11, -⟩ := hx.1.2.1
    have t11' : S 11 0 = nI B := t11
    obtain ⟨e1, e2, e3, e4, e5⟩ := hx.e_of (show e < B by omega)
    have xb := xE_b (g := g) (B := B) (h := h) (e := e)
    have xB := xE_b (g := g) (B := B) (h := h) (e := B)
    have wb : w / 3 ^ xE g B h e ≤ w := Nat.div_le_self _ _
    rw [f_X5_chooseBirths_13_s, t11', if_neg (nI_ge (by omega) (by omega)), ix_in (by omega) (by omega), ix_in (by omega) (by omega), ix_in (by omega) (by omega), tN_nI (by omega), e1, e2, e3, hx.2.1]
    by_cases c : g (76 + 3 * e) = nI h
    · have ci : iE g B h e = true := decide_eq_true ⟨by omega, c⟩
      have xl := xE_B (show e < B by omega) ci
      rw [if_pos c, if_neg (nI_ge (by omega) (by omega)), i3, nI_mod _ _ (by omega) (by omega), zmin_n (by omega) (by omega), zmax_n (by omega) (by split <;> omega)]
      have go : ∀ y : Nat, y = dt g d e (w / 3 ^ xE g B h e % 3) → ∃ S' : St, f_X5_chooseBirths_108 (f_X5_chooseBirths_13 n) (nI h) (nI d) (nI (w / 3 ^ xE g B h e)) (nI (P + xE g B h e)) (nI e) (nI (P + xE g B h e)) (nI y) S = some S' ∧ (∀ k, k ≠ 4 → S' k = S k) ∧ (∀ p, p < P + xE g B h e → S' 4 p = S 4 p) ∧ (∀ j, xE g B h e ≤ j → j < xE g B h B → inB 36000 (S' 4 (P + j))) ∧ ∀ e', e ≤ e' → e' < B → iE g B h e' = true → S' 4 (P + xE g B h e') = nI (dt g d e' (w / 3 ^ xE g B h e' % 3)) := by
        intro y hy
        unfold f_X5_chooseBirths_108 f_X5_chooseBirths_118
        rw [ix_in (by omega) (by omega), tN_nI (by omega), p1, p1, i3, nI_div _ _ (by omega) (by omega), Nat.div_div_eq_div_mul, ← Nat.pow_succ]
        have k := ih (e + 1) n (st 4 (upd (S 4) (P + xE g B h e) (nI y)) S) (by omega) (by omega) (hx.ext (fun k _ hk => st_ne hk) (fun p hp => by rw [st_eq, upd_ne (by omega)]))
        rw [xE_s, if_pos ci] at k
        obtain ⟨S', k1, k2, k3, k4, k5⟩ := k
        have kv : S' 4 (P + xE g B h e) = nI y := by rw [k3 _ (by omega), st_eq, upd_eq]
        have yb : y < 36000 := by
          rw [hy]
          exact dt_b hd e4 e5
        refine ⟨S', k1, fun k hk => by rw [k2 k hk, st_ne hk], fun p hp => by rw [k3 p (by omega), st_eq, upd_ne (by omega)], fun j q1 q2 => ?_, fun e' q1 q2 q3 => ?_⟩
        · by_cases z : j = xE g B h e
          · rw [z, kv]
            exact ⟨y, yb, rfl⟩
          · exact k4 j (by omega) q2
        · by_cases z : e' = e
          · rw [z, kv, hy]
          · exact k5 e' (by omega) q2 q3
      have md := Nat.mod_lt (w / 3 ^ xE g B h e) (show 0 < 3 by omega)
      unfold dt at go
      generalize hq : w / 3 ^ xE g B h e % 3 = q at *
      rcases (show q = 0 ∨ q = 1 ∨ q = 2 by omega) with z | z | z
      · subst z
        rw [if_pos n0]
        exact go _ rfl
      · subst z
        rw [if_neg (by decide), if_pos n1]
        exact go _ rfl
      · subst z
        rw [if_neg (by decide), if_neg (by decide)]
        exact go _ rfl
    · have ci : ¬ iE g B h e = true := fun z => c (of_decide_eq_true z).2
      rw [if_neg c]
      unfold f_X5_chooseBirths_118
      rw [p1]
      have k := ih (e + 1) n S (by omega) (by omega) hx
      rw [xE_s, if_neg ci] at k
      obtain ⟨S', k1, k2, k3, k4, k5⟩ := k
      refine ⟨S', k1, k2, k3, k4, fun e' q1 q2 q3 => ?_⟩
      by_cases z : e' = e
      · rw [z] at q3
        exact absurd q3 ci
      · exact k5 e' (by omega) q2 q3
/-- those who are there of the expected ones, counted behind q -/
def cf (c : Nat → Option Nat) (q : Q4) : Nat → Q4
  | 0 => q
  | e + 1 => (c e).elim (cf c q e) (fun y => stp (nI y) 1 (cf c q e))
theorem cf_congr {c c2 : Nat → Option Nat} {q : Q4} : ∀ n, (∀ e, e < n → c e = c2 e) → cf c q n = cf c2 q n
  | 0, _ => rfl
  | n + 1, h => by
    have ih := cf_congr (q := q) n (fun e he => h e (by omega))
    show (c n).elim (cf c q n) (fun y => stp (nI y) 1 (cf c q n)) = (c2 n).elim (cf c2 q n) (fun y => stp (nI y) 1 (cf c2 q n))
    rw [ih, h n (by omega)]
theorem cf_more {c : Nat → Option Nat} {q : Q4} {n : Nat} : ∀ r, (∀ e, n ≤ e → c e = none) → cf c q (n + r) = cf c q n
  | 0, _ => rfl
  | r + 1, h => by
    have ih := cf_more (q := q) r h
    show (c (n + r)).elim (cf c q (n + r)) (fun y => stp (nI y) 1 (cf c q (n + r))) = _
    rw [h (n + r) (by omega), ih]
    rfl
theorem eqv_cf {c : Nat → Option Nat} {q q2 : Q4} (h : eqv q q2) : ∀ n, eqv (cf c q n) (cf c q2 n)
  | 0 => h
  | n + 1 => by
    have ih := eqv_cf (c := c) h n
    show eqv ((c n).elim (cf c q n) (fun y => stp (nI y) 1 (cf c q n))) ((c n).elim (cf c q2 n) (fun y => stp (nI y) 1 (cf c q2 n)))
    cases c n with
    | none => exact ih
    | some y => exact eqv_stp ih
def cC (g : Nat → Int32) (B h d w e : Nat) : Option Nat := if iE g B h e = true ∧ dt g d e (w / 3 ^ xE g B h e % 3) ≤ d then some ((d - dt g d e (w / 3 ^ xE g B h e % 3)) / 360) else none
theorem hmc_no {T : St} {p P : Nat} {day : Int32} (hp : P ≤ p) (hp2 : p < 100) : ∀ k, (∀ j, j < k → inB P (T 9 j)) → hmc T p day k = T 5 p
  | 0, _ => rfl
  | k + 1, h => by
    have ih := hmc_no (T := T) (day := day) hp hp2 k (fun j hj => h j (by omega))
    show (if T 9 k = nI p ∧ ¬ day < T 8 k then T 10 k else hmc T p day k) = T 5 p
    rw [ih, if_neg]
    rintro ⟨q, -⟩
    obtain ⟨j, hj, e⟩ := h k (by omega)
    have := (nI_e e (by omega) (by omega)).mp q
    omega
theorem hmc_2 {T : St} {f : Nat → Int32} {p : Nat} {day : Int32} : ∀ k, hmc (st 2 f T) p day k = hmc T p day k
  | 0 => rfl
  | k + 1 => by
    have ih := hmc_2 (T := T) (f := f) (p := p) (day := day) k
    show (if T 9 k = nI p ∧ ¬ day < T 8 k then T 10 k else hmc (st 2 f T) p day k) = if T 9 k = nI p ∧ ¬ day < T 8 k then T 10 k else hmc T p day k
    rw [ih]
theorem tl_0 (y : Int32) : tl 0 y = y := by
  unfold tl
  rw [if_neg (by decide)]
theorem tw_0 : tw 0 = 1 := by
  unfold tw
  rw [if_neg (by decide)]
theorem C_num_x {T : St} {g : Nat → Int32} {H P V B h d w : Nat} (hd : d < 36000) (hh : h < H) (hx : BX T g H P V B h (xE g B h B)) (h4 : ∀ j, j < xE g B h B → inB 36000 (T 4 (P + j))) (h5 : ∀ e, e < B → iE g B h e = true → T 4 (P + xE g B h e) = nI (dt g d e (w / 3 ^ xE g B h e % 3))) : ∃ T' : St, f_X5_numberOf (nI h) (nI d) T = some (told (g 91) (cf (cC g B h d w) (acc g V (nI h) (nI d) (0, 0, 0, 0) P) 4), T') ∧ FrT T T' := by
  have hb := hx.1.1
  obtain ⟨t0, -, -, t7, -, -, -, t1, -⟩ := hx.1.2.1
  have t7' : T 7 0 = nI V := t7
  have t1' : T 1 0 = g 91 := t1
  have xB := xE_b (g := g) (B := B) (h := h) (e := B)
  have hm : ∀ j, j < V → inB P (T 9 j) := by
    intro j hj
    obtain ⟨-, e, -, -, q, -⟩ := hx.1.2.2.2.1 j hj
    have e' : T 9 j = g (40 + 3 * j + 1) := e
    rw [e']
    exact q
  have al : ∀ j b, j < xE g B h B → b < 36000 → T 4 (P + j) = nI b → alc T (P + j) (nI d) = decide (b ≤ d) := by
    intro j b hj hb' e
    unfold alc
    rw [e, (hx.2.2 j hj).2.2, decide_eq_false (show ¬ (36000 : Int32) ≤ nI d from nI_ge (b := 36000) (by omega) (by omega))]
    by_cases z : b ≤ d
    · rw [decide_eq_true z, decide_eq_false (nI_nlt z (by omega))]
      rfl
    · rw [decide_eq_false z, decide_eq_true (nI_lt (by omega) (by omega))]
      rfl
  have ok : okC T (P + xE g B h B) V (nI d) := by
    intro p hp ha
    by_cases z : p < P
    · have q := hx.1.ok hd p z ha
      rw [hmc_2] at q
      exact q
    · obtain ⟨j, rfl⟩ : ∃ j, p = P + j := ⟨p - P, by omega⟩
      obtain ⟨b, hb', e⟩ := h4 j (by omega)
      rw [al j b (by omega) hb' e] at ha
      have hle := of_decide_eq_true ha
      refine ⟨⟨h, by omega, ?_⟩, ?_⟩
      · rw [hmc_no (P := P) (by omega) (by omega) V hm]
        exact (hx.2.2 j (by omega)).2.1
      · unfold yrc
        rw [e, nI_sub hle, i360, nI_div _ _ (by omega) (by omega), nI_toInt (by omega)]
        omega
  have e2 : accC (st 2 (fun _ => nI P) T) V (nI h) (nI d) (0, 0, 0, 0) P = accC T V (nI h) (nI d) (0, 0, 0, 0) P := accG_congr P (fun p hp => ⟨rfl, fun _ => ⟨hmc_2 V, rfl, rfl⟩⟩)
  have base : accC T V (nI h) (nI d) (0, 0, 0, 0) P = acc g V (nI h) (nI d) (0, 0, 0, 0) P := e2.symm.trans (hx.1.accAt hd (nI h) (0, 0, 0, 0))
  have ex : ∀ e, e ≤ B → accC T V (nI h) (nI d) (0, 0, 0, 0) (P + xE g B h e) = cf (cC g B h d w) (acc g V (nI h) (nI d) (0, 0, 0, 0) P) e := by
    intro e
    induction e with
    | zero => intro _; exact base
    | succ e ih =>
      intro he
      have ih' := ih (by omega)
      have cs : cf (cC g B h d w) (acc g V (nI h) (nI d) (0, 0, 0, 0) P) (e + 1) = (cC g B h d w e).elim (cf (cC g B h d w) (acc g V (nI h) (nI d) (0, 0, 0, 0) P) e) (fun y => stp (nI y) 1 (cf (cC g B h d w) (acc g V (nI h) (nI d) (0, 0, 0, 0) P) e)) := rfl
      rw [xE_s, cs]
      by_cases ci : iE g B h e = true
      · have xl := xE_B (show e < B by omega) ci
        obtain ⟨-, -, -, e4, e5⟩ := hx.e_of (show e < B by omega)
        have db : dt g d e (w / 3 ^ xE g B h e % 3) < 36000 := dt_b hd e4 e5
        have tv := h5 e (by omega) ci
        have av := al _ _ xl db tv
        rw [if_pos ci]
        have st1 : accC T V (nI h) (nI d) (0, 0, 0, 0) (P + (xE g B h e + 1)) = if alc T (P + xE g B h e) (nI d) = true ∧ hmc T (P + xE g B h e) (nI d) V = nI h ∧ ¬ T 3 (P + xE g B h e) = 4 then stp (tl (T 3 (P + xE g B h e)) (yrc T (P + xE g B h e) (nI d))) (tw (T 3 (P + xE g B h e))) (accC T V (nI h) (nI d) (0, 0, 0, 0) (P + xE g B h e)) else accC T V (nI h) (nI d) (0, 0, 0, 0) (P + xE g B h e) := rfl
        obtain ⟨x3, x5, -⟩ := hx.2.2 _ xl
        rw [st1, ih', av, x3, hmc_no (P := P) (by omega) (by omega) V hm, x5, tl_0, tw_0]
        unfold cC yrc
        rw [tv]
        by_cases z : dt g d e (w / 3 ^ xE g B h e % 3) ≤ d
        · rw [if_pos ⟨decide_eq_true z, rfl, by decide⟩, if_pos ⟨ci, z⟩, nI_sub z, i360, nI_div _ _ (by omega) (by omega)]
          rfl
        · rw [if_neg (fun q => z (of_decide_eq_true q.1)), if_neg (fun q => z q.2)]
          rfl
      · rw [if_neg ci, ih']
        unfold cC
        rw [if_neg (fun q => ci q.1)]
        rfl
  obtain ⟨T', h1, h2, h3⟩ := C_tallyOn T (P + xE g B h B) V (nI d) hx.2.1 (by omega) t7' (by omega) ok
  refine ⟨T', ?_, h2⟩
  have e1 : T' 1 0 = g 91 := by
    rw [h2 1 (by omega)]
    exact t1'
  have e4 : cf (cC g B h d w) (acc g V (nI h) (nI d) (0, 0, 0, 0) P) 4 = cf (cC g B h d w) (acc g V (nI h) (nI d) (0, 0, 0, 0) P) B := by
    have k := cf_more (c := cC g B h d w) (q := acc g V (nI h) (nI d) (0, 0, 0, 0) P) (n := B) (4 - B) (fun e he => by
      unfold cC
      rw [if_neg]
      rintro ⟨q, -⟩
      have := (of_decide_eq_true q).1
      omega)
    rw [show B + (4 - B) = 4 by omega] at k
    exact k
  unfold f_X5_numberOf
  rw [h1, bd_s, e1, C_value _ h (by omega), bd_s, eqv_told (h3 h (by omega)), ex B (Nat.le_refl _), e4]
