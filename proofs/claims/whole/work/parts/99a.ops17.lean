-- can: least and greatest over all ways
/-- two counts with the same heads, the one of no greater years -/
def le4 (q q2 : Q4) (k : Nat) : Prop := ∃ c s s2, c ≤ 2 * k ∧ s ≤ s2 ∧ s2 ≤ 200 * k ∧ q.1 = nI c ∧ q2.1 = nI c ∧ q.2.1 = nI s ∧ q2.2.1 = nI s2 ∧ (c = 0 ∨ ∃ a a2 b b2, a ≤ a2 ∧ a2 < 101 ∧ b ≤ b2 ∧ b2 < 101 ∧ q.2.2.1 = nI a ∧ q2.2.2.1 = nI a2 ∧ q.2.2.2 = nI b ∧ q2.2.2.2 = nI b2)
theorem le4_rf {q : Q4} {k : Nat} (h : ok4 q k) : le4 q q k := by
  obtain ⟨c, s, h1, h2, h3, h4, h5⟩ := h
  refine ⟨c, s, s, h1, Nat.le_refl _, h2, h3, h3, h4, h4, ?_⟩
  rcases h5 with h5 | ⟨⟨a, ha, ea⟩, ⟨b, hb, eb⟩⟩
  · exact Or.inl h5
  · exact Or.inr ⟨a, a, b, b, Nat.le_refl _, ha, Nat.le_refl _, hb, ea, ea, eb, eb⟩
theorem le4_stp {q q2 : Q4} {k y y2 : Nat} (h : le4 q q2 k) (hk : k < 1000) (hy : y ≤ y2) (hy2 : y2 < 101) : le4 (stp (nI y) 1 q) (stp (nI y2) 1 q2) (k + 1) := by
  obtain ⟨c, s, s2, h1, h2, h3, e1, e2, e3, e4, h5⟩ := h
  have o1 : (1 : Int32) * nI y = nI y := Int32.one_mul _
  have o2 : (1 : Int32) * nI y2 = nI y2 := Int32.one_mul _
  refine ⟨c + 1, s + y, s2 + y2, by omega, by omega, by omega, by show q.1 + 1 = _; rw [e1, p1], by show q2.1 + 1 = _; rw [e2, p1], by show q.2.1 + 1 * nI y = _; rw [o1, e3, nI_add], by show q2.2.1 + 1 * nI y2 = _; rw [o2, e4, nI_add], Or.inr ?_⟩
  unfold stp
  by_cases z : c = 0
  · subst z
    have e1' : q.1 = 0 := e1
    have e2' : q2.1 = 0 := e2
    simp only [if_pos e1', if_pos e2']
    exact ⟨y, y2, y, y2, hy, hy2, hy, hy2, rfl, rfl, rfl, rfl⟩
  · have z1 : ¬ q.1 = 0 := by rw [e1]; exact nI_ne0 (by omega) (by omega)
    have z2 : ¬ q2.1 = 0 := by rw [e2]; exact nI_ne0 (by omega) (by omega)
    rcases h5 with h5 | ⟨a, a2, b, b2, k1, k2, k3, k4, k5, k6, k7, k8⟩
    · exact absurd h5 z
    · simp only [if_neg z1, if_neg z2, k5, k6, k7, k8]
      refine ⟨if y ≤ a then a else y, if y2 ≤ a2 then a2 else y2, if b ≤ y then b else y, if b2 ≤ y2 then b2 else y2, ?_, ?_, ?_, ?_, ?_, ?_, ?_, ?_⟩
      · split <;> split <;> omega
      · split <;> omega
      · split <;> split <;> omega
      · split <;> omega
      · by_cases q : y ≤ a
        · rw [if_pos (nI_le q (by omega)), if_pos q]
        · rw [if_neg (nI_ge (by omega) (by omega)), if_neg q]
      · by_cases q : y2 ≤ a2
        · rw [if_pos (nI_le q (by omega)), if_pos q]
        · rw [if_neg (nI_ge (by omega) (by omega)), if_neg q]
      · by_cases q : b ≤ y
        · rw [if_pos (nI_le q (by omega)), if_pos q]
        · rw [if_neg (nI_ge (by omega) (by omega)), if_neg q]
      · by_cases q : b2 ≤ y2
        · rw [if_pos (nI_le q (by omega)), if_pos q]
        · rw [if_neg (nI_ge (by omega) (by omega)), if_neg q]
def cle (c c2 : Nat → Option Nat) (n : Nat) : Prop := ∀ e, e < n → (c e = none ∧ c2 e = none) ∨ ∃ y y2, c e = some y ∧ c2 e = some y2 ∧ y ≤ y2 ∧ y2 < 101
theorem le4_cf {c c2 : Nat → Option Nat} {q : Q4} {k : Nat} (h : ok4 q k) : ∀ n, k + n < 1000 → cle c c2 n → le4 (cf c q n) (cf c2 q n) (k + n)
  | 0, _, _ => le4_rf h
  | n + 1, hn, hc => by
    have ih := le4_cf (c := c) (c2 := c2) h n (by omega) (fun e he => hc e (by omega))
    show le4 ((c n).elim (cf c q n) (fun y => stp (nI y) 1 (cf c q n))) ((c2 n).elim (cf c2 q n) (fun y => stp (nI y) 1 (cf c2 q n))) (k + n + 1)
    rcases hc n (by omega) with ⟨e1, e2⟩ | ⟨y, y2, e1, e2, h1, h2⟩
    · rw [e1, e2]
      obtain ⟨c, s, s2, h1, h2, h3, h4⟩ := ih
      exact ⟨c, s, s2, by omega, h2, by omega, h4⟩
    · rw [e1, e2]
      exact le4_stp ih (by omega) h1 h2
theorem told_le {q q2 : Q4} {k : Nat} (h : le4 q q2 k) (hk : k < 1000) (law : Int32) : (told law q = -4 ∧ told law q2 = -4) ∨ (¬ told law q = -4 ∧ ¬ told law q2 = -4 ∧ told law q ≤ told law q2) := by
  obtain ⟨c, s, s2, h1, h2, h3, e1, e2, e3, e4, h5⟩ := h
  unfold told
  by_cases z : c = 0
  · subst z
    have e1' : q.1 = 0 := e1
    have e2' : q2.1 = 0 := e2
    rw [if_pos e1', if_pos e2']
    exact Or.inl ⟨rfl, rfl⟩
  · have z1 : ¬ q.1 = 0 := by rw [e1]; exact nI_ne0 (by omega) (by omega)
    have z2 : ¬ q2.1 = 0 := by rw [e2]; exact nI_ne0 (by omega) (by omega)
    rw [if_neg z1, if_neg z2]
    have go : ∀ a b : Nat, a ≤ b → b < 2 ^ 31 → (¬ nI a = -4 ∧ ¬ nI b = -4 ∧ nI a ≤ nI b) := fun a b hab hb => ⟨i4ne rfl (by omega), i4ne rfl hb, nI_le hab hb⟩
    refine Or.inr ?_
    rcases h5 with h5 | ⟨a, a2, b, b2, k1, k2, k3, k4, k5, k6, k7, k8⟩
    · exact absurd h5 z
    · by_cases l0 : law = 0
      · rw [if_pos l0, if_pos l0, k5, k6]
        exact go _ _ k1 (by omega)
      rw [if_neg l0, if_neg l0]
      by_cases l1 : law = 1
      · rw [if_pos l1, if_pos l1, k7, k8]
        exact go _ _ k3 (by omega)
      rw [if_neg l1, if_neg l1]
      by_cases l2 : law = 2
      · rw [if_pos l2, if_pos l2, e3, e4]
        exact go _ _ h2 (by omega)
      rw [if_neg l2, if_neg l2, e1, e2, e3, e4, nI_div _ _ (by omega) (by omega), nI_div _ _ (by omega) (by omega)]
      have d1 : s2 / c ≤ s2 := Nat.div_le_self _ _
      exact go _ _ (Nat.div_le_div_right h2) (by omega)
/-- the least, the greatest of some numbers; whether there can be none -/
def Lst (S : Int32 → Prop) (l : Int32) : Prop := (l = -4 ∧ ∀ n, S n → n = -4) ∨ (S l ∧ ¬ l = -4 ∧ ∀ n, S n → n = -4 ∨ l ≤ n)
def Mst (S : Int32 → Prop) (l : Int32) : Prop := (l = -4 ∧ ∀ n, S n → n = -4) ∨ (S l ∧ ¬ l = -4 ∧ ∀ n, S n → n = -4 ∨ n ≤ l)
def Wst (S : Int32 → Prop) (w : Int32) : Prop := (w = 1 ∧ S (-4)) ∨ (w = 0 ∧ ¬ S (-4))
theorem le_an {x y : Int32} (h1 : x ≤ y) (h2 : y ≤ x) : x = y := by
  rw [Int32.le_iff_toInt_le] at h1 h2
  exact Int32.toInt_inj.mp (by omega)
theorem le_tr {x y z : Int32} (h1 : x ≤ y) (h2 : y ≤ z) : x ≤ z := by
  rw [Int32.le_iff_toInt_le] at h1 h2 ⊢
  omega
theorem Lst_eq {A B : Int32 → Prop} (F1 : ∀ x, B x → A x) (F2 : ∀ x, A x → ∃ y, B y ∧ ((x = -4 ∧ y = -4) ∨ (¬ x = -4 ∧ ¬ y = -4 ∧ y ≤ x))) {l l2 : Int32} (hA : Lst A l) (hB : Lst B l2) : l = l2 := by
  rcases hA with ⟨a1, a2⟩ | ⟨a1, a2, a3⟩
  · rcases hB with ⟨b1, b2⟩ | ⟨b1, b2, b3⟩
    · rw [a1, b1]
    · exact absurd (a2 l2 (F1 l2 b1)) b2
  · obtain ⟨y, y1, y2⟩ := F2 l a1
    rcases y2 with ⟨y2, -⟩ | ⟨-, y2, y3⟩
    · exact absurd y2 a2
    · rcases hB with ⟨b1, b2⟩ | ⟨b1, b2, b3⟩
      · exact absurd (b2 y y1) y2
      · rcases b3 y y1 with z | z
        · exact absurd z y2
        · rcases a3 l2 (F1 l2 b1) with w | w
          · exact absurd w b2
          · exact le_an w (le_tr z y3)
theorem Mst_eq {A B : Int32 → Prop} (F1 : ∀ x, B x → A x) (F2 : ∀ x, A x → ∃ y, B y ∧ ((x = -4 ∧ y = -4) ∨ (¬ x = -4 ∧ ¬ y = -4 ∧ x ≤ y))) {l l2 : Int32} (hA : Mst A l) (hB : Mst B l2) : l = l2 := by
  rcases hA with ⟨a1, a2⟩ | ⟨a1, a2, a3⟩
  · rcases hB with ⟨b1, b2⟩ | ⟨b1, b2, b3⟩
    · rw [a1, b1]
    · exact absurd (a2 l2 (F1 l2 b1)) b2
  · obtain ⟨y, y1, y2⟩ := F2 l a1
    rcases y2 with ⟨y2, -⟩ | ⟨-, y2, y3⟩
    · exact absurd y2 a2
    · rcases hB with ⟨b1, b2⟩ | ⟨b1, b2, b3⟩
      · exact absurd (b2 y y1) y2
      · rcases b3 y y1 with z | z
        · exact absurd z y2
        · rcases a3 l2 (F1 l2 b1) with w | w
          · exact absurd w b2
          · exact le_an (le_tr y3 z) w
theorem Wst_eq {A B : Int32 → Prop} (h : A (-4) ↔ B (-4)) {l l2 : Int32} (hA : Wst A l) (hB : Wst B l2) : l = l2 := by
  rcases hA with ⟨a1, a2⟩ | ⟨a1, a2⟩ <;> rcases hB with ⟨b1, b2⟩ | ⟨b1, b2⟩
  · rw [a1, b1]
  · exact absurd (h.mp a2) b2
  · exact absurd (h.mpr b2) a2
  · rw [a1, b1]
theorem Lst_add {S S2 : Int32 → Prop} {v l : Int32} (hS : ∀ x, S2 x ↔ (S x ∨ x = v)) (h : Lst S l) : Lst S2 (if v = -4 then l else if l = -4 then v else if l ≤ v then l else v) := by
  by_cases c : v = -4
  · rw [if_pos c]
    rcases h with ⟨a1, a2⟩ | ⟨a1, a2, a3⟩
    · refine Or.inl ⟨a1, fun n hn => ?_⟩
      rcases (hS n).mp hn with q | q
      · exact a2 n q
      · rw [q, c]
    · refine Or.inr ⟨(hS l).mpr (Or.inl a1), a2, fun n hn => ?_⟩
      rcases (hS n).mp hn with q | q
      · exact a3 n q
      · exact Or.inl (by rw [q, c])
  · rw [if_neg c]
    rcases h with ⟨a1, a2⟩ | ⟨a1, a2, a3⟩
    · rw [if_pos a1]
      refine Or.inr ⟨(hS v).mpr (Or.inr rfl), c, fun n hn => ?_⟩
      rcases (hS n).mp hn with q | q
      · exact Or.inl (a2 n q)
      · rw [q]
        exact Or.inr (Int32.le_refl v)
    · rw [if_neg a2]
      by_cases k : l ≤ v
      · rw [if_pos k]
        refine Or.inr ⟨(hS l).mpr (Or.inl a1), a2, fun n hn => ?_⟩
        rcases (hS n).mp hn with q | q
        · exact a3 n q
        · rw [q]
          exact Or.inr k
      · rw [if_neg k]
        have k2 : v ≤ l := Int32.le_of_lt (not_le_lt k)
        refine Or.inr ⟨(hS v).mpr (Or.inr rfl), c, fun n hn => ?_⟩
        rcases (hS n).mp hn with q | q
        · rcases a3 n q with z | z
          · exact Or.inl z
          · exact Or.inr (le_tr k2 z)
        · rw [q]
          exact Or.inr (Int32.le_refl v)
/-- a number: none, or none below 0 -/
def nr (v : Int32) : Prop := v = -4 ∨ inB 200001 v
theorem nr_ge {v : Int32} (h : nr v) : (-4 : Int32) ≤ v := by
  rcases h with h | ⟨j, hj, h⟩
  · rw [h]
    exact Int32.le_refl _
  · rw [h, Int32.le_iff_toInt_le, nI_toInt (by omega)]
    have : (-4 : Int32).toInt = -4 := by decide
    omega
theorem nr_no {v : Int32} (h : nr v) (h2 : v ≤ -4) : v = -4 := le_an h2 (nr_ge h)
theorem Mst_add {S S2 : Int32 → Prop} {v l : Int32} (hS : ∀ x, S2 x ↔ (S x ∨ x = v)) (hv : nr v) (hl : nr l) (h : Mst S l) : Mst S2 (if v ≤ l then l else v) := by
  rcases h with ⟨a1, a2⟩ | ⟨a1, a2, a3⟩
  · subst a1
    by_cases c : v ≤ -4
    · rw [if_pos c]
      refine Or.inl ⟨rfl, fun n hn => ?_⟩
      rcases (hS n).mp hn with q | q
      · exact a2 n q
      · rw [q]
        exact nr_no hv c
    · rw [if_neg c]
      refine Or.inr ⟨(hS v).mpr (Or.inr rfl), fun q => c (by rw [q]; exact Int32.le_refl _), fun n hn => ?_⟩
      rcases (hS n).mp hn with q | q
      · exact Or.inl (a2 n q)
      · rw [q]
        exact Or.inr (Int32.le_refl v)
  · by_cases c : v ≤ l
    · rw [if_pos c]
      refine Or.inr ⟨(hS l).mpr (Or.inl a1), a2, fun n hn => ?_⟩
      rcases (hS n).mp hn with q | q
      · exact a3 n q
      · rw [q]
        exact Or.inr c
    · rw [if_neg c]
      have k2 : l ≤ v := Int32.le_of_lt (not_le_lt c)
      refine Or.inr ⟨(hS v).mpr (Or.inr rfl), fun q => ?_, fun n hn => ?_⟩
      · rw [q] at c
        exact c (nr_ge hl)
      · rcases (hS n).mp hn with q | q
        · rcases a3 n q with z | z
          · exact Or.inl z
          · exact Or.inr (le_tr z k2)
        · rw [q]
          exact Or.inr (Int32.le_refl v)
theorem Wst_add {S S2 : Int32 → Prop} {v w : Int32} (hS : ∀ x, S2 x ↔ (S x ∨ x = v)) (h : Wst S w) : Wst S2 (if v = -4 then 1 else w) := by
  by_cases c : v = -4
  · rw [if_pos c]
    exact Or.inl ⟨rfl, (hS _).mpr (Or.inr c.symm)⟩
  · rw [if_neg c]
    rcases h with ⟨a1, a2⟩ | ⟨a1, a2⟩
    · exact Or.inl ⟨a1, (hS _).mpr (Or.inl a2)⟩
    · refine Or.inr ⟨a1, fun q => ?_⟩
      rcases (hS _).mp q with z | z
      · exact a2 z
      · exact c z.symm
/-- the first k of a row of numbers -/
def fk (N : Nat → Int32) (ok : Nat → Prop) (k : Nat) (x : Int32) : Prop := ∃ w, w < k ∧ ok w ∧ N w = x
theorem fk_s {N : Nat → Int32} {ok : Nat → Prop} {k : Nat} (h : ok k) (x : Int32) : fk N ok (k + 1) x ↔ (fk N ok k x ∨ x = N k) := by
  constructor
  · rintro ⟨w, h1, h2, h3⟩
    by_cases c : w = k
    · subst c
      exact Or.inr h3.symm
    · exact Or.inl ⟨w, by omega, h2, h3⟩
  · rintro (⟨w, h1, h2⟩ | h1)
    · exact ⟨w, by omega, h2⟩
    · exact ⟨k, by omega, h, h1.symm⟩
theorem fk_n {N : Nat → Int32} {ok : Nat → Prop} {k : Nat} (h : ¬ ok k) : fk N ok (k + 1) = fk N ok k := by
  funext x
  refine propext ⟨?_, ?_⟩
  · rintro ⟨w, h1, h2, h3⟩
    by_cases c : w = k
    · subst c
      exact absurd h2 h
    · exact ⟨w, by omega, h2, h3⟩
  · rintro ⟨w, h1, h2⟩
    exact ⟨w, by omega, h2⟩
theorem L0 {N : Nat → Int32} {ok : Nat → Prop} : Lst (fk N ok 0) (-4) := Or.inl ⟨rfl, fun n hn => by obtain ⟨w, h, -⟩ := hn; omega⟩
theorem M0s {N : Nat → Int32} {ok : Nat → Prop} : Mst (fk N ok 0) (-4) := Or.inl ⟨rfl, fun n hn => by obtain ⟨w, h, -⟩ := hn; omega⟩
theorem W0 {N : Nat → Int32} {ok : Nat → Prop} : Wst (fk N ok 0) 0 := Or.inr ⟨rfl, fun hn => by obtain ⟨w, h, -⟩ := hn; omega⟩
/-- who of the expected ones is there, by bits: can it be so -/
def vE (g : Nat → Int32) (B h d s e : Nat) : Bool := if bt (nI s) e = true then iE g B h e && decide (aE g e ≤ d) else !iE g B h e || decide (d < bE g e)
def vA (g : Nat → Int32) (B h d s : Nat) : Nat → Bool
  | 0 => true
  | e + 1 => vA g B h d s e && vE g B h d s e
def cL (g : Nat → Int32) (d s e : Nat) : Option Nat := if bt (nI s) e = true then some ((d - (if bE g e ≤ d then bE g e else d)) / 360) else none
def cH (g : Nat → Int32) (d s e : Nat) : Option Nat := if bt (nI s) e = true then some ((d - aE g e) / 360) else none
theorem vA_i {g : Nat → Int32} {B h d s : Nat} : ∀ n, vA g B h d s n = true ↔ ∀ e, e < n → vE g B h d s e = true
  | 0 => ⟨fun _ e he => by omega, fun _ => rfl⟩
  | n + 1 => by
    have ih := vA_i (g := g) (B := B) (h := h) (d := d) (s := s) n
    show (vA g B h d s n && vE g B h d s n) = true ↔ _
    rw [Bool.and_eq_true, ih]
    constructor
    · rintro ⟨h1, h2⟩ e he
      by_cases c : e = n
      · rw [c]
        exact h2
      · exact h1 e (by omega)
    · intro h1
      exact ⟨fun e he => h1 e (by omega), h1 n (by omega)⟩
theorem bits4 : ∀ b0 b1 b2 b3 : Bool, ∃ s, s < 16 ∧ bt (nI s) 0 = b0 ∧ bt (nI s) 1 = b1 ∧ bt (nI s) 2 = b2 ∧ bt (nI s) 3 = b3 := by
  have k : ∀ b0 b1 b2 b3 : Bool, bt (nI (b0.toNat + 2 * b1.toNat + 4 * b2.toNat + 8 * b3.toNat)) 0 = b0 ∧ bt (nI (b0.toNat + 2 * b1.toNat + 4 * b2.toNat + 8 * b3.toNat)) 1 = b1 ∧ bt (nI (b0.toNat + 2 * b1.toNat + 4 * b2.toNat + 8 * b3.toNat)) 2 = b2 ∧ bt (nI (b0.toNat + 2 * b1.toNat + 4 * b2.toNat + 8 * b3.toNat)) 3 = b3 ∧ b0.toNat + 2 * b1.toNat + 4 * b2.toNat + 8 * b3.toNat < 16 := by decide +kernel
  intro b0 b1 b2 b3
  obtain ⟨h0, h1, h2, h3, h4⟩ := k b0 b1 b2 b3
  exact ⟨_, h4, h0, h1, h2, h3⟩
theorem bits_of (b : Nat → Bool) : ∃ s, s < 16 ∧ ∀ e, e < 4 → bt (nI s) e = b e := by
  obtain ⟨s, h4, h0, h1, h2, h3⟩ := bits4 (b 0) (b 1) (b 2) (b 3)
  refine ⟨s, h4, fun e he => ?_⟩
  rcases (show e = 0 ∨ e = 1 ∨ e = 2 ∨ e = 3 by omega) with rfl | rfl | rfl | rfl
  · exact h0
  · exact h1
  · exact h2
  · exact h3
theorem way_of {g : Nat → Int32} {B h : Nat} (t : Nat → Nat) (ht : ∀ e, t e < 3) : ∀ n, ∃ w, w < 3 ^ xE g B h n ∧ ∀ e, e < n → iE g B h e = true → w / 3 ^ xE g B h e % 3 = t e
  | 0 => ⟨0, by show 0 < 3 ^ 0; decide, fun e he => by omega⟩
  | n + 1 => by
    obtain ⟨w, h1, h2⟩ := way_of (g := g) (B := B) (h := h) t ht n
    by_cases c : iE g B h n = true
    · refine ⟨w + 3 ^ xE g B h n * t n, ?_, fun e he ci => ?_⟩
      · rw [xE_s, if_pos c, Nat.pow_succ]
        have a := ht n
        have b : 3 ^ xE g B h n * t n ≤ 3 ^ xE g B h n * 2 := Nat.mul_le_mul_left _ (by omega)
        omega
      · by_cases z : e = n
        · rw [z, Nat.add_mul_div_left _ _ (Nat.pow_pos (by decide)), Nat.div_eq_of_lt h1, Nat.zero_add]
          exact Nat.mod_eq_of_lt (ht n)
        · have a := xE_m (g := g) (B := B) (h := h) (e := e + 1) (n - (e + 1))
          rw [show e + 1 + (n - (e + 1)) = n by omega, xE_s, if_pos ci] at a
          obtain ⟨m, hm⟩ : ∃ m, xE g B h n = xE g B h e + 1 + m := ⟨xE g B h n - (xE g B h e + 1), by omega⟩
          have k : 3 ^ xE g B h n * t n = 3 ^ xE g B h e * (3 * (3 ^ m * t n)) := by
            rw [hm, Nat.pow_add, Nat.pow_add, Nat.pow_one, Nat.mul_assoc, Nat.mul_assoc]
          rw [k, Nat.add_mul_div_left _ _ (Nat.pow_pos (by decide)), Nat.add_mul_mod_self_left]
          exact h2 e (by omega) ci
    · refine ⟨w, by rw [xE_s, if_neg c]; exact h1, fun e he ci => ?_⟩
      by_cases z : e = n
      · rw [z] at ci
        exact absurd ci c
      · exact h2 e (by omega) ci
