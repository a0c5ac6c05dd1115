-- the number of a house, by the reference's own way of counting: what is told, who lives there
def tl (kind years : Int32) : Int32 := if kind = 2 then (if years ≤ 3 then 0 else years - 3) else years
def tw (kind : Int32) : Int32 := if kind = 3 then 2 else 1
abbrev Q4 : Type := Int32 × Int32 × Int32 × Int32
/-- one more who tells v, w times: how many, the sum, the most, the least -/
def stp (v w : Int32) (q : Q4) : Q4 := (q.1 + w, q.2.1 + w * v, (if q.1 = 0 then v else if v ≤ q.2.2.1 then q.2.2.1 else v), (if q.1 = 0 then v else if q.2.2.2 ≤ v then q.2.2.2 else v))
def told (law : Int32) (q : Q4) : Int32 := if q.1 = 0 then -4 else if law = 0 then q.2.2.1 else if law = 1 then q.2.2.2 else if law = 2 then q.2.1 else q.2.1 / q.1
/-- who lives on a day, out of a page of the reference -/
def alv (g : Nat → Int32) (p : Nat) (day : Int32) : Bool := !decide (day < g (4 * p + 1)) && (decide (g (4 * p + 3) = -4) || !decide (g (4 * p + 3) ≤ day))
/-- where he lives: behind the first v moves -/
def hmv (g : Nat → Int32) (p : Nat) (day : Int32) : Nat → Int32
  | 0 => g (4 * p + 2)
  | k + 1 => if g (40 + 3 * k + 1) = nI p ∧ ¬ day < g (40 + 3 * k) then g (40 + 3 * k + 2) else hmv g p day k
def yrs (g : Nat → Int32) (p : Nat) (day : Int32) : Int32 := (day - g (4 * p + 1)) / 360
/-- the count of a house behind the first p people: who lives, where, of what kind, with which years -/
def accG (al : Nat → Bool) (hm kd yr : Nat → Int32) (house : Int32) (q0 : Q4) : Nat → Q4
  | 0 => q0
  | p + 1 => if al p = true ∧ hm p = house ∧ ¬ kd p = 4 then stp (tl (kd p) (yr p)) (tw (kd p)) (accG al hm kd yr house q0 p) else accG al hm kd yr house q0 p
def acc (g : Nat → Int32) (V : Nat) (house day : Int32) (q0 : Q4) : Nat → Q4 := accG (fun p => alv g p day) (fun p => hmv g p day V) (fun p => g (4 * p)) (fun p => yrs g p day) house q0
/-- a page of the reference at place o -/
def pg (M : St) (o : Nat) : Nat → Int32 := fun k => M 0 (o + k)
def q4 (M : St) : Q4 := (M 19 0, M 20 0, M 21 0, M 22 0)
/-- the reference's state but for what it counts with -/
def Fr (M M' : St) : Prop := ∀ k, (k < 19 ∨ 22 < k) → M' k = M k
theorem Fr.rf {M : St} : Fr M M := fun _ _ => rfl
theorem Fr.tr {A B C : St} (h : Fr A B) (h2 : Fr B C) : Fr A C := fun k hk => (h2 k hk).trans (h k hk)
theorem Fr.pg {M M' : St} (h : Fr M M') (o : Nat) : pg M' o = pg M o := by
  funext k
  show M' 0 (o + k) = M 0 (o + k)
  rw [h 0 (Or.inl (by omega))]
theorem M_alive (M : St) (o p : Nat) (day : Int32) (h : o + (4 * p + 3) < 368) : f_X7_isAlive (nI o) (nI p) day M = some (if alv (pg M o) p day = true then 1 else 0) := by
  unfold f_X7_isAlive f_X7_isAlive_43 alv pg
  rw [ad4, p3, p1]
  rw [show o + 4 * p + 3 = o + (4 * p + 3) by omega, show o + 4 * p + 1 = o + (4 * p + 1) by omega]
  rw [ix_in h (by omega), ix_in (by omega) (by omega), tN_nI (by omega), tN_nI (by omega)]
  by_cases a1 : day < M 0 (o + (4 * p + 1)) <;> by_cases a2 : M 0 (o + (4 * p + 3)) = -4 <;> by_cases a3 : M 0 (o + (4 * p + 3)) ≤ day <;> simp [a1, a2, a3]
theorem M_home_l (M : St) (o p V : Nat) (day : Int32) (hV : M 0 (o + 89) = nI V) (hV2 : V ≤ 12) (ho : o ≤ 276) : ∀ (k n : Nat) (y : Int32), k + n > V → k ≤ V → y = hmv (pg M o) p day k → f_X7_homeOf_17 n (nI o) (nI p) day y (nI k) M = some (hmv (pg M o) p day V) := by
  intro k n
  induction n generalizing k with
  | zero => intro y h1 h2; omega
  | succ n ih =>
    intro y h1 h2 hy
    rw [f_X7_homeOf_17_s]
    rw [i89, nI_add, ix_in (by omega) (by omega), tN_nI (by omega), hV]
    by_cases hk : k = V
    · subst hk
      rw [if_pos (nI_le (Nat.le_refl k) (by omega)), hy]
    · rw [if_neg (nI_ge (by omega) (by omega))]
      rw [i40, i3, i1, i2, nI_mul, nI_add, nI_add, nI_add, nI_add]
      rw [show o + 40 + 3 * k + 1 = o + (40 + 3 * k + 1) by omega, show o + 40 + 3 * k + 2 = o + (40 + 3 * k + 2) by omega, show o + 40 + 3 * k = o + (40 + 3 * k) by omega]
      rw [ix_in (by omega) (by omega), ix_in (by omega) (by omega), ix_in (by omega) (by omega), tN_nI (by omega), tN_nI (by omega), tN_nI (by omega)]
      have step : ∀ z : Int32, z = hmv (pg M o) p day (k + 1) → f_X7_homeOf_80 (f_X7_homeOf_17 n) (nI o) (nI p) day (nI k) z M = some (hmv (pg M o) p day V) := by
        intro z hz
        unfold f_X7_homeOf_80
        rw [i1, nI_add]
        exact ih (k + 1) z (by omega) (by omega) hz
      unfold f_X7_homeOf_78
      have e : hmv (pg M o) p day (k + 1) = if M 0 (o + (40 + 3 * k + 1)) = nI p ∧ ¬ day < M 0 (o + (40 + 3 * k)) then M 0 (o + (40 + 3 * k + 2)) else hmv (pg M o) p day k := rfl
      by_cases a1 : M 0 (o + (40 + 3 * k + 1)) = nI p
      · rw [if_pos a1]
        by_cases a2 : day < M 0 (o + (40 + 3 * k))
        · rw [if_pos a2]
          exact step _ (by rw [e, if_neg (fun h => h.2 a2), hy])
        · rw [if_neg a2]
          exact step _ (by rw [e, if_pos ⟨a1, a2⟩])
      · rw [if_neg a1]
        exact step _ (by rw [e, if_neg (fun h => a1 h.1), hy])
theorem M_home (M : St) (o p V : Nat) (day : Int32) (hV : M 0 (o + 89) = nI V) (hV2 : V ≤ 12) (ho : o ≤ 276) (hp : p < 10) : f_X7_homeOf (nI o) (nI p) day M = some (hmv (pg M o) p day V) := by
  unfold f_X7_homeOf
  rw [i4, i2, nI_mul, nI_add, nI_add, show o + 4 * p + 2 = o + (4 * p + 2) by omega, ix_in (by omega) (by omega), tN_nI (by omega)]
  exact M_home_l M o p V day hV hV2 ho 0 1000 _ (by omega) (by omega) rfl

theorem M_empties (M : St) : f_X7_empties M = some (st 20 (fun _ => 0) (st 19 (fun _ => 0) M)) := rfl
theorem M_tells (M : St) (v w : Int32) : ∃ M' : St, f_X7_tells v w M = some M' ∧ Fr M M' ∧ q4 M' = stp v w (q4 M) := by
  unfold f_X7_tells f_X7_tells_16 f_X7_tells_24 f_X7_tells_43 f_X7_tells_51
  have hF : ∀ (y x : Int32), Fr M (st 20 (fun _ => M 20 0 + w * v) (st 19 (fun _ => M 19 0 + w) (st 22 (fun _ => y) (st 21 (fun _ => x) M)))) := by
    intro y x k hk
    rw [st_ne (by omega), st_ne (by omega), st_ne (by omega), st_ne (by omega)]
  by_cases a1 : M 19 0 = 0
  · refine ⟨_, by simp [a1, st_if]; rfl, ?_, ?_⟩
    · intro k hk
      simp [st_if, show k ≠ 20 by omega, show k ≠ 19 by omega, show k ≠ 22 by omega, show k ≠ 21 by omega]
    · simp [q4, stp, st_if, a1]
  · by_cases a2 : v ≤ M 21 0
    · by_cases a3 : M 22 0 ≤ v
      · refine ⟨_, by simp [a1, a2, a3, st_if]; rfl, ?_, ?_⟩
        · intro k hk
          simp [st_if, show k ≠ 20 by omega, show k ≠ 19 by omega, show k ≠ 22 by omega, show k ≠ 21 by omega]
        · simp [q4, stp, st_if, a1, a2, a3]
      · refine ⟨_, by simp [a1, a2, a3, st_if]; rfl, ?_, ?_⟩
        · intro k hk
          simp [st_if, show k ≠ 20 by omega, show k ≠ 19 by omega, show k ≠ 22 by omega, show k ≠ 21 by omega]
        · simp [q4, stp, st_if, a1, a2, a3]
    · by_cases a3 : M 22 0 ≤ v
      · refine ⟨_, by simp [a1, a2, a3, st_if]; rfl, ?_, ?_⟩
        · intro k hk
          simp [st_if, show k ≠ 20 by omega, show k ≠ 19 by omega, show k ≠ 22 by omega, show k ≠ 21 by omega]
        · simp [q4, stp, st_if, a1, a2, a3]
      · refine ⟨_, by simp [a1, a2, a3, st_if]; rfl, ?_, ?_⟩
        · intro k hk
          simp [st_if, show k ≠ 20 by omega, show k ≠ 19 by omega, show k ≠ 22 by omega, show k ≠ 21 by omega]
        · simp [q4, stp, st_if, a1, a2, a3]
theorem M_tellsOf (M : St) (o p : Nat) (day : Int32) (h : o + (4 * p + 3) < 368) : ∃ M' : St, f_X7_tellsOf (nI o) (nI p) day M = some M' ∧ Fr M M' ∧ q4 M' = if pg M o (4 * p) = 4 then q4 M else stp (tl (pg M o (4 * p)) (yrs (pg M o) p day)) (tw (pg M o (4 * p))) (q4 M) := by
  have key : ∀ y : Int32, y = tl (pg M o (4 * p)) (yrs (pg M o) p day) → ∃ M' : St, f_X7_tellsOf_57 (M 0 (o + 4 * p)) y M = some M' ∧ Fr M M' ∧ q4 M' = if pg M o (4 * p) = 4 then q4 M else stp (tl (pg M o (4 * p)) (yrs (pg M o) p day)) (tw (pg M o (4 * p))) (q4 M) := by
    intro y hy
    unfold f_X7_tellsOf_57 f_X7_tellsOf_79
    have e : pg M o (4 * p) = M 0 (o + 4 * p) := rfl
    rw [e]
    rw [e] at hy
    by_cases a1 : M 0 (o + 4 * p) = 4
    · exact ⟨M, by rw [if_pos a1], Fr.rf, by rw [if_pos a1]⟩
    · rw [if_neg a1, if_neg a1]
      by_cases a2 : M 0 (o + 4 * p) = 3
      · rw [if_pos a2]
        obtain ⟨M', h1, h2, h3⟩ := M_tells M y 2
        refine ⟨M', by rw [h1]; rfl, h2, ?_⟩
        rw [h3, ← hy, tw, if_pos a2]
      · rw [if_neg a2]
        obtain ⟨M', h1, h2, h3⟩ := M_tells M y 1
        refine ⟨M', by rw [h1]; rfl, h2, ?_⟩
        rw [h3, ← hy, tw, if_neg a2]
  unfold f_X7_tellsOf
  rw [ad4, p1, ix_in (by omega) (by omega), ix_in (by omega) (by omega), tN_nI (by omega), tN_nI (by omega)]
  have ey : yrs (pg M o) p day = (day - M 0 (o + 4 * p + 1)) / 360 := rfl
  have ek : pg M o (4 * p) = M 0 (o + 4 * p) := rfl
  by_cases a1 : M 0 (o + 4 * p) = 2
  · rw [if_pos a1]
    by_cases a2 : (day - M 0 (o + 4 * p + 1)) / 360 ≤ 3
    · rw [if_pos a2]
      exact key _ (by rw [tl, ek, if_pos a1, ey, if_pos a2])
    · rw [if_neg a2]
      exact key _ (by rw [tl, ek, if_pos a1, ey, if_neg a2])
  · rw [if_neg a1]
    exact key _ (by rw [tl, ek, if_neg a1, ey])
theorem M_lay_l (M0 : St) (o V P : Nat) (house day : Int32) (hV : M0 0 (o + 89) = nI V) (hV2 : V ≤ 12) (hP : M0 0 (o + 88) = nI P) (hP2 : P ≤ 10) (ho : o ≤ 276) (Q : Q4) : ∀ (n k : Nat) (M : St), Fr M0 M → k + n > P → k ≤ P → q4 M = acc (pg M0 o) V house day Q k → ∃ M' : St, f_X7_layHouse_7 n (nI o) house day (nI k) M = some M' ∧ Fr M0 M' ∧ q4 M' = acc (pg M0 o) V house day Q P := by
  intro n
  induction n with
  | zero => intro k M hF h1 h2; omega
  | succ n ih =>
    intro k M hF h1 h2 hq
    have hg := hF.pg o
    have hV' : M 0 (o + 89) = nI V := by rw [hF 0 (Or.inl (by omega))]; exact hV
    have hP' : M 0 (o + 88) = nI P := by rw [hF 0 (Or.inl (by omega))]; exact hP
    rw [f_X7_layHouse_7_s]
    rw [p88, ix_in (by omega) (by omega), tN_nI (by omega), hP']
    by_cases hk : k = P
    · subst hk
      rw [if_pos (nI_le (Nat.le_refl k) (by omega))]
      exact ⟨M, rfl, hF, hq⟩
    · rw [if_neg (nI_ge (by omega) (by omega)), M_alive M o k day (by omega), bd_s, hg]
      have nx : ∀ M2 : St, Fr M0 M2 → q4 M2 = acc (pg M0 o) V house day Q (k + 1) → ∃ M' : St, f_X7_layHouse_52 (f_X7_layHouse_7 n) (nI o) house day (nI k) M2 = some M' ∧ Fr M0 M' ∧ q4 M' = acc (pg M0 o) V house day Q P := by
        intro M2 hF2 hq2
        unfold f_X7_layHouse_52
        rw [p1]
        exact ih (k + 1) M2 hF2 (by omega) (by omega) hq2
      have e : acc (pg M0 o) V house day Q (k + 1) = if alv (pg M0 o) k day = true ∧ hmv (pg M0 o) k day V = house ∧ ¬ pg M0 o (4 * k) = 4 then stp (tl (pg M0 o (4 * k)) (yrs (pg M0 o) k day)) (tw (pg M0 o (4 * k))) (acc (pg M0 o) V house day Q k) else acc (pg M0 o) V house day Q k := rfl
      by_cases a1 : alv (pg M0 o) k day = true
      · rw [if_pos a1, if_neg (by decide), M_home M o k V day hV' hV2 ho (by omega), bd_s, hg]
        by_cases a2 : hmv (pg M0 o) k day V = house
        · rw [if_pos a2]
          obtain ⟨M', h1, h2, h3⟩ := M_tellsOf M o k day (by omega)
          rw [h1, bd_s]
          refine nx M' (hF.tr h2) ?_
          rw [h3, e, hg, hq]
          by_cases a3 : pg M0 o (4 * k) = 4
          · rw [if_pos a3, if_neg (fun h => h.2.2 a3)]
          · rw [if_neg a3, if_pos ⟨a1, a2, a3⟩]
        · rw [if_neg a2]
          exact nx M hF (by rw [e, if_neg (fun h => a2 h.2.1), hq])
      · rw [if_neg a1, if_pos rfl]
        exact nx M hF (by rw [e, if_neg (fun h => a1 h.1), hq])

def eqv (q q2 : Q4) : Prop := q.1 = q2.1 ∧ q.2.1 = q2.2.1 ∧ (q.1 = 0 ∨ (q.2.2.1 = q2.2.2.1 ∧ q.2.2.2 = q2.2.2.2))
theorem eqv_stp {v w : Int32} {q q2 : Q4} (h : eqv q q2) : eqv (stp v w q) (stp v w q2) := by
  obtain ⟨h1, h2, h3⟩ := h
  refine ⟨by simp [stp, h1], by simp [stp, h2], Or.inr ?_⟩
  rcases h3 with h3 | ⟨h3, h4⟩
  · have h5 : q2.1 = 0 := by rw [← h1]; exact h3
    simp [stp, h3, h5]
  · simp [stp, h1, h3, h4]
theorem eqv_acc {al : Nat → Bool} {hm kd yr : Nat → Int32} {house : Int32} {q q2 : Q4} (h : eqv q q2) : ∀ n, eqv (accG al hm kd yr house q n) (accG al hm kd yr house q2 n)
  | 0 => h
  | n + 1 => by
    have ih := eqv_acc (al := al) (hm := hm) (kd := kd) (yr := yr) (house := house) h n
    unfold accG
    by_cases c : al n = true ∧ hm n = house ∧ ¬ kd n = 4
    · rw [if_pos c, if_pos c]
      exact eqv_stp ih
    · rw [if_neg c, if_neg c]
      exact ih
theorem eqv_told {law : Int32} {q q2 : Q4} (h : eqv q q2) : told law q = told law q2 := by
  obtain ⟨h1, h2, h3⟩ := h
  unfold told
  by_cases c : q.1 = 0
  · rw [if_pos c, if_pos (by rw [← h1]; exact c)]
  · rcases h3 with h3 | ⟨h3, h4⟩
    · exact absurd h3 c
    · have c2 : ¬ q2.1 = 0 := by rw [← h1]; exact c
      rw [if_neg c, if_neg c2, h1, h2, h3, h4]
theorem accG_congr {al al2 : Nat → Bool} {hm hm2 kd kd2 yr yr2 : Nat → Int32} {house : Int32} {q : Q4} : ∀ n, (∀ p, p < n → al p = al2 p ∧ (al p = true → hm p = hm2 p ∧ kd p = kd2 p ∧ yr p = yr2 p)) → accG al hm kd yr house q n = accG al2 hm2 kd2 yr2 house q n
  | 0, _ => rfl
  | n + 1, h => by
    have ih := accG_congr (house := house) (q := q) n (fun p hp => h p (by omega))
    obtain ⟨h1, h2⟩ := h n (by omega)
    unfold accG
    rw [ih, ← h1]
    by_cases c : al n = true
    · obtain ⟨a, b, d⟩ := h2 c
      rw [← a, ← b, ← d]
    · rw [if_neg (fun h => c h.1), if_neg (fun h => c h.1)]
/-- the number of a house: none (-4), where nobody counts -/
def num (g : Nat → Int32) (P V : Nat) (house day law : Int32) : Int32 := told law (acc g V house day (0, 0, 0, 0) P)
theorem M_toldBy (law : Int32) (M : St) : f_X7_toldBy law M = some (told law (q4 M)) := by
  unfold f_X7_toldBy told q4 nz
  by_cases a1 : M 19 0 = 0
  · rw [if_pos a1, if_pos a1]
  · rw [if_neg a1, if_neg a1, if_neg a1]
    by_cases a2 : law = 0
    · rw [if_pos a2, if_pos a2]
    · rw [if_neg a2, if_neg a2]
      by_cases a3 : law = 1
      · rw [if_pos a3, if_pos a3]
      · rw [if_neg a3, if_neg a3]
        by_cases a4 : law = 2
        · rw [if_pos a4, if_pos a4]
        · rw [if_neg a4, if_neg a4]
theorem M_number (M : St) (o V P : Nat) (house day law : Int32) (hV : M 0 (o + 89) = nI V) (hV2 : V ≤ 12) (hP : M 0 (o + 88) = nI P) (hP2 : P ≤ 10) (ho : o ≤ 276) : ∃ M' : St, f_X7_numberOf (nI o) house day law M = some (num (pg M o) P V house day law, M') ∧ Fr M M' ∧ eqv (q4 M') (acc (pg M o) V house day (0, 0, 0, 0) P) := by
  unfold f_X7_numberOf f_X7_layHouse
  rw [M_empties, bd_s]
  have hF : Fr M (st 20 (fun _ => 0) (st 19 (fun _ => 0) M)) := by
    intro k hk
    rw [st_ne (by omega), st_ne (by omega)]
  have hq : q4 (st 20 (fun _ => 0) (st 19 (fun _ => 0) M)) = (0, 0, M 21 0, M 22 0) := rfl
  obtain ⟨M', h1, h2, h3⟩ := M_lay_l M o V P house day hV hV2 hP hP2 ho (0, 0, M 21 0, M 22 0) 1000 0 _ hF (by omega) (by omega) hq
  have h1' : f_X7_layHouse_7 1000 (nI o) house day 0 (st 20 (fun _ => 0) (st 19 (fun _ => 0) M)) = some M' := h1
  have he : eqv (q4 M') (acc (pg M o) V house day (0, 0, 0, 0) P) := by
    rw [h3]
    have e0 : eqv ((0, 0, M 21 0, M 22 0) : Q4) (0, 0, 0, 0) := ⟨rfl, rfl, Or.inl rfl⟩
    exact eqv_acc e0 P
  refine ⟨M', ?_, h2, he⟩
  rw [h1', bd_s, M_toldBy, bd_s, eqv_told he]
  rfl
theorem M_now (M : St) (V P : Nat) (house day : Int32) (hV : M 0 89 = nI V) (hV2 : V ≤ 12) (hP : M 0 88 = nI P) (hP2 : P ≤ 10) : ∃ M' : St, f_X7_numberNow house day M = some (num (M 0) P V house day (M 0 91), M') ∧ Fr M M' := by
  unfold f_X7_numberNow
  have e0 : pg M 0 = M 0 := by
    funext k
    show M 0 (0 + k) = M 0 k
    rw [Nat.zero_add]
  obtain ⟨M', h1, h2, -⟩ := M_number M 0 V P house day (M 0 91) (by simpa using hV) hV2 (by simpa using hP) hP2 (by omega)
  rw [e0] at h1
  refine ⟨M', ?_, h2⟩
  rw [i91, ix_in (by omega) (by omega), tN_nI (by omega)]
  have h1' : f_X7_numberOf 0 house day (M 0 91) M = some (num (M 0) P V house day (M 0 91), M') := h1
  rw [h1', bd_s]
