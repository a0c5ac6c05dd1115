-- changes: from event to event
def bB (g : Nat → Int32) (p : Nat) : Nat := (g (4 * p + 1)).toNatClampNeg
def dD (g : Nat → Int32) (p : Nat) : Nat := if g (4 * p + 3) = -4 then 36000 else (g (4 * p + 3)).toNatClampNeg
def xX (g : Nat → Int32) (k : Nat) : Nat := (g (40 + 3 * k)).toNatClampNeg
theorem RT.b_of {T : St} {g : Nat → Int32} {H P V B p : Nat} (h : RT T g H P V B) (hp : p < P) : g (4 * p + 1) = nI (bB g p) ∧ bB g p < 36000 ∧ T 4 p = nI (bB g p) := by
  obtain ⟨-, e, -, -, -, ⟨b, hb, eb⟩, -⟩ := h.2.2.1 p hp
  have k : bB g p = b := by
    unfold bB
    rw [eb, tN_nI (by omega)]
  rw [k, e]
  exact ⟨eb, hb, eb⟩
theorem RT.d_of {T : St} {g : Nat → Int32} {H P V B p : Nat} (h : RT T g H P V B) (hp : p < P) : T 6 p = nI (dD g p) ∧ dD g p ≤ 36000 ∧ ((g (4 * p + 3) = -4 ∧ dD g p = 36000) ∨ g (4 * p + 3) = nI (dD g p)) := by
  obtain ⟨-, -, -, q, -⟩ := h.2.2.1 p hp
  rcases q with ⟨e1, e2⟩ | ⟨e1, n, hn, e2⟩
  · have k : dD g p = 36000 := by
      unfold dD
      rw [if_pos e2]
    rw [k]
    exact ⟨e1, Nat.le_refl _, Or.inl ⟨e2, rfl⟩⟩
  · have k : dD g p = n := by
      unfold dD
      rw [if_neg (i4ne e2 (by omega)), e2, tN_nI (by omega)]
    rw [k, e1]
    exact ⟨e2, by omega, Or.inr e2⟩
theorem RT.x_of {T : St} {g : Nat → Int32} {H P V B k : Nat} (h : RT T g H P V B) (hk : k < V) : g (40 + 3 * k) = nI (xX g k) ∧ xX g k < 36000 ∧ T 8 k = nI (xX g k) := by
  obtain ⟨e, -, -, ⟨b, hb, eb⟩, -⟩ := h.2.2.2.1 k hk
  have q : xX g k = b := by
    unfold xX
    rw [eb, tN_nI (by omega)]
  rw [q, e]
  exact ⟨eb, hb, eb⟩
theorem RT.alv_d {T : St} {g : Nat → Int32} {H P V B p d : Nat} (h : RT T g H P V B) (hp : p < P) (hd : d < 36000) : alv g p (nI d) = decide (bB g p ≤ d ∧ d < dD g p) := by
  obtain ⟨-, hb, e4⟩ := h.b_of hp
  obtain ⟨e6, hm, -⟩ := h.d_of hp
  rw [← h.alive hp hd]
  unfold alc
  rw [e4, e6]
  by_cases a1 : d < bB g p
  · rw [decide_eq_true (nI_lt a1 (by omega)), decide_eq_false (show ¬ (bB g p ≤ d ∧ d < dD g p) by omega)]
    rfl
  · rw [decide_eq_false (nI_nlt (show bB g p ≤ d by omega) (by omega))]
    by_cases a2 : dD g p ≤ d
    · rw [decide_eq_true (nI_le a2 (by omega)), decide_eq_false (show ¬ (bB g p ≤ d ∧ d < dD g p) by omega)]
      rfl
    · rw [decide_eq_false (nI_ge (show d < dD g p by omega) (by omega)), decide_eq_true (show (bB g p ≤ d ∧ d < dD g p) by omega)]
      rfl
theorem yrs_e {g : Nat → Int32} {p b d : Nat} (hb : g (4 * p + 1) = nI b) (h : b ≤ d) (hd : d < 2 ^ 31) : yrs g p (nI d) = nI ((d - b) / 360) := by
  unfold yrs
  rw [hb, nI_sub h, i360, nI_div _ _ (by omega) (by omega)]
/-- from d on, ahead of e: nobody is born, has a birthday, dies; nobody moves -/
def Qp (b m d e : Nat) : Prop := (d < b → b < m → e ≤ b) ∧ (d < m → e ≤ m) ∧ (b ≤ d → b + 360 * ((d - b) / 360 + 1) < m → e ≤ b + 360 * ((d - b) / 360 + 1))
def Qm (x d e : Nat) : Prop := d < x → e ≤ x
def Qd (g : Nat → Int32) (P V d e : Nat) : Prop := d < e ∧ e ≤ 36000 ∧ (∀ p, p < P → Qp (bB g p) (dD g p) d e) ∧ ∀ k, k < V → Qm (xX g k) d e
theorem hmv_q {T : St} {g : Nat → Int32} {H P V B p d e c : Nat} (h : RT T g H P V B) (hq : Qd g P V d e) (h1 : d ≤ c) (h2 : c < e) : ∀ k, k ≤ V → hmv g p (nI c) k = hmv g p (nI d) k
  | 0, _ => rfl
  | k + 1, hk => by
    have ih := hmv_q h hq (p := p) h1 h2 k (by omega)
    obtain ⟨e1, e2, -⟩ := h.x_of (show k < V by omega)
    have q := hq.2.2.2 k (by omega)
    have hb := hq.2.1
    have hi : (nI c < g (40 + 3 * k)) ↔ (nI d < g (40 + 3 * k)) := by
      unfold Qm at q
      rw [e1, nI_ltI (by omega) (by omega), nI_ltI (by omega) (by omega)]
      omega
    show (if g (40 + 3 * k + 1) = nI p ∧ ¬ nI c < g (40 + 3 * k) then g (40 + 3 * k + 2) else hmv g p (nI c) k) = if g (40 + 3 * k + 1) = nI p ∧ ¬ nI d < g (40 + 3 * k) then g (40 + 3 * k + 2) else hmv g p (nI d) k
    rw [ih]
    by_cases a : g (40 + 3 * k + 1) = nI p ∧ ¬ nI c < g (40 + 3 * k)
    · rw [if_pos a, if_pos ⟨a.1, fun q => a.2 (hi.mpr q)⟩]
    · rw [if_neg a, if_neg (fun z => a ⟨z.1, fun q => z.2 (hi.mp q)⟩)]
theorem Qd.num {T : St} {g : Nat → Int32} {H P V B d e c : Nat} (h : RT T g H P V B) (hq : Qd g P V d e) (h1 : d ≤ c) (h2 : c < e) (house law : Int32) : num g P V house (nI c) law = num g P V house (nI d) law := by
  have hb := hq.2.1
  refine congrArg (told law) (accG_congr P (fun p hp => ?_))
  obtain ⟨b1, b2, -⟩ := h.b_of hp
  obtain ⟨-, d2, -⟩ := h.d_of hp
  have q := hq.2.2.1 p hp
  have k : alv g p (nI c) = alv g p (nI d) := by
    rw [h.alv_d hp (by omega), h.alv_d hp (by omega)]
    refine decide_eq_decide.mpr ?_
    unfold Qp at q
    omega
  refine ⟨k, fun ha => ⟨hmv_q h hq h1 h2 V (Nat.le_refl V), rfl, ?_⟩⟩
  have ha' : alv g p (nI c) = true := ha
  have hc := ha'
  rw [k, h.alv_d hp (by omega)] at ha'
  have hd' := of_decide_eq_true ha'
  rw [h.alv_d hp (by omega)] at hc
  have hc' := of_decide_eq_true hc
  show yrs g p (nI c) = yrs g p (nI d)
  rw [yrs_e b1 hc'.1 (by omega), yrs_e b1 hd'.1 (by omega)]
  refine congrArg nI ?_
  unfold Qp at q
  omega
theorem zmin_n {a b : Nat} (ha : a < 2 ^ 31) (hb : b < 2 ^ 31) : zmin (nI a) (nI b) = nI (if a ≤ b then a else b) := by
  rw [zmin_e]
  by_cases c : a ≤ b
  · rw [if_pos (nI_le c hb), if_pos c]
  · rw [if_neg (nI_ge (by omega) ha), if_neg c]
theorem C_ev_m {T : St} {g : Nat → Int32} {H P V B d : Nat} (h : RT T g H P V B) (hd : d < 36000) : ∀ (r k n e : Nat), k + r = V → r < n → d < e → e ≤ 36000 → ∃ e' : Nat, f_X5_nextEvent_100 n (nI d) (nI e) (nI k) T = some (nI e') ∧ d < e' ∧ e' ≤ e ∧ ∀ j, k ≤ j → j < V → Qm (xX g j) d e' := by
  have hb := h.1
  obtain ⟨t0, t2, g88, t7, g89, -⟩ := id h.2.1
  intro r
  induction r with
  | zero =>
    intro k n e h1 h2 h3 h4
    obtain ⟨n, rfl⟩ : ∃ z, n = z + 1 := ⟨n - 1, by omega⟩
    exact ⟨e, by rw [f_X5_nextEvent_100_s, t7, if_pos (nI_le (by omega) (by omega))], h3, Nat.le_refl _, fun j q1 q2 => by omega⟩
  | succ r ih =>
    intro k n e h1 h2 h3 h4
    obtain ⟨n, rfl⟩ : ∃ z, n = z + 1 := ⟨n - 1, by omega⟩
    obtain ⟨-, x2, x3⟩ := h.x_of (show k < V by omega)
    rw [f_X5_nextEvent_100_s, t7, if_neg (nI_ge (by omega) (by omega)), ix_in (by omega) (by omega), ix_in (by omega) (by omega), tN_nI (by omega), x3]
    unfold f_X5_nextEvent_129
    rw [p1]
    by_cases c : xX g k ≤ d
    · rw [if_pos (nI_le c (by omega))]
      obtain ⟨e', q1, q2, q3, q4⟩ := ih (k + 1) n e (by omega) (by omega) h3 h4
      refine ⟨e', q1, q2, q3, fun j z1 z2 => ?_⟩
      by_cases w : j = k
      · subst w
        intro z
        omega
      · exact q4 j (by omega) z2
    · rw [if_neg (nI_ge (by omega) (by omega)), zmin_n (by omega) (by omega)]
      obtain ⟨e', q1, q2, q3, q4⟩ := ih (k + 1) n (if e ≤ xX g k then e else xX g k) (by omega) (by omega) (by split <;> omega) (by split <;> omega)
      refine ⟨e', q1, q2, by split at q3 <;> omega, fun j z1 z2 => ?_⟩
      by_cases w : j = k
      · subst w
        intro z
        split at q3 <;> omega
      · exact q4 j (by omega) z2
set_option maxRecDepth 20000 in
theorem C_ev_p {T : St} {g : Nat → Int32} {H P V B d : Nat} (h : RT T g H P V B) (hd : d < 36000) : ∀ (r k n e : Nat), k + r = P → r < n → d < e → e ≤ 36000 → ∃ e' : Nat, f_X5_nextEvent_5 n (nI d) (nI e) (nI k) T = some (nI e') ∧ d < e' ∧ e' ≤ e ∧ (∀ p, k ≤ p → p < P → Qp (bB g p) (dD g p) d e') ∧ ∀ j, j < V → Qm (xX g j) d e' := by
  have hb := h.1
  obtain ⟨t0, t2, g88, t7, g89, -⟩ := id h.2.1
  intro r
  induction r with
  | zero =>
    intro k n e h1 h2 h3 h4
    obtain ⟨n, rfl⟩ : ∃ z, n = z + 1 := ⟨n - 1, by omega⟩
    obtain ⟨e', q1, q2, q3, q4⟩ := C_ev_m h hd V 0 1000 e (by omega) (by omega) h3 h4
    have q1' : f_X5_nextEvent_100 1000 (nI d) (nI e) 0 T = some (nI e') := q1
    refine ⟨e', ?_, q2, q3, fun p z1 z2 => by omega, fun j hj => q4 j (by omega) hj⟩
    rw [f_X5_nextEvent_5_s, t2, if_pos (nI_le (by omega) (by omega))]
    unfold f_X5_nextEvent_98
    exact q1'
  | succ r ih =>
    intro k n e h1 h2 h3 h4
    obtain ⟨n, rfl⟩ : ∃ z, n = z + 1 := ⟨n - 1, by omega⟩
    obtain ⟨-, b2, b3⟩ := h.b_of (show k < P by omega)
    obtain ⟨d1, d2, -⟩ := h.d_of (show k < P by omega)
    have s71 : ∀ e1, d < e1 → e1 ≤ 36000 → (d < bB g k → bB g k < dD g k → e1 ≤ bB g k) → (bB g k ≤ d → bB g k + 360 * ((d - bB g k) / 360 + 1) < dD g k → e1 ≤ bB g k + 360 * ((d - bB g k) / 360 + 1)) → ∃ e' : Nat, f_X5_nextEvent_71 (f_X5_nextEvent_5 n) (nI d) (nI e1) (nI k) T = some (nI e') ∧ d < e' ∧ e' ≤ e1 ∧ (∀ p, k ≤ p → p < P → Qp (bB g p) (dD g p) d e') ∧ ∀ j, j < V → Qm (xX g j) d e' := by
      intro e1 a1 a2 a3 a4
      unfold f_X5_nextEvent_71 f_X5_nextEvent_92
      rw [ix_in (by omega) (by omega), ix_in (by omega) (by omega), tN_nI (by omega), d1, p1]
      by_cases c : dD g k ≤ d
      · rw [if_pos (nI_le c (by omega))]
        obtain ⟨e', q1, q2, q3, q4, q5⟩ := ih (k + 1) n e1 (by omega) (by omega) a1 a2
        refine ⟨e', q1, q2, q3, fun p z1 z2 => ?_, q5⟩
        by_cases w : p = k
        · subst w
          exact ⟨fun z z' => Nat.le_trans q3 (a3 z z'), fun z => by omega, fun z z' => Nat.le_trans q3 (a4 z z')⟩
        · exact q4 p (by omega) z2
      · rw [if_neg (nI_ge (by omega) (by omega)), zmin_n (by omega) (by omega)]
        obtain ⟨e', q1, q2, q3, q4, q5⟩ := ih (k + 1) n (if e1 ≤ dD g k then e1 else dD g k) (by omega) (by omega) (by split <;> omega) (by split <;> omega)
        have q3' : e' ≤ e1 ∧ e' ≤ dD g k := by split at q3 <;> omega
        refine ⟨e', q1, q2, q3'.1, fun p z1 z2 => ?_, q5⟩
        by_cases w : p = k
        · subst w
          exact ⟨fun z z' => Nat.le_trans q3'.1 (a3 z z'), fun z => q3'.2, fun z z' => Nat.le_trans q3'.1 (a4 z z')⟩
        · exact q4 p (by omega) z2
    have s51 : ∀ o, d < o → o < 2 ^ 31 → (d < bB g k → o = bB g k) → (bB g k ≤ d → o = bB g k + 360 * ((d - bB g k) / 360 + 1)) → ∃ e' : Nat, f_X5_nextEvent_51 (f_X5_nextEvent_5 n) (nI d) (nI e) (nI k) (nI o) T = some (nI e') ∧ d < e' ∧ e' ≤ e ∧ (∀ p, k ≤ p → p < P → Qp (bB g p) (dD g p) d e') ∧ ∀ j, j < V → Qm (xX g j) d e' := by
      intro o a1 a2 a3 a4
      unfold f_X5_nextEvent_51
      rw [ix_in (by omega) (by omega), tN_nI (by omega), d1]
      by_cases c : dD g k ≤ o
      · rw [if_pos (nI_le c (by omega))]
        exact s71 e h3 h4 (fun z z' => by have := a3 z; omega) (fun z z' => by have := a4 z; omega)
      · rw [if_neg (nI_ge (by omega) (by omega)), zmin_n (by omega) (by omega)]
        obtain ⟨e', q1, q2, q3, q4⟩ := s71 (if e ≤ o then e else o) (by split <;> omega) (by split <;> omega) (fun z z' => by have := a3 z; split <;> omega) (fun z z' => by have := a4 z; split <;> omega)
        exact ⟨e', q1, q2, by split at q3 <;> omega, q4⟩
    rw [f_X5_nextEvent_5_s, t2, if_neg (nI_ge (by omega) (by omega)), ix_in (by omega) (by omega), ix_in (by omega) (by omega), ix_in (by omega) (by omega), tN_nI (by omega), b3, C_years T k (nI d) (by omega), bd_s]
    unfold yrc
    rw [b3]
    by_cases c : bB g k ≤ d
    · rw [if_pos (nI_le c (by omega)), nI_sub c, i360, nI_div _ _ (by omega) (by omega), p1, nI_mul, nI_add]
      exact s51 _ (by omega) (by omega) (fun z => by omega) (fun z => by omega)
    · rw [if_neg (nI_ge (by omega) (by omega))]
      exact s51 _ (by omega) (by omega) (fun z => rfl) (fun z => by omega)
theorem C_ev {T : St} {g : Nat → Int32} {H P V B d : Nat} (h : RT T g H P V B) (hd : d < 36000) : ∃ e : Nat, f_X5_nextEvent (nI d) T = some (nI e) ∧ Qd g P V d e := by
  have hb := h.1
  obtain ⟨e, q1, q2, q3, q4, q5⟩ := C_ev_p h hd P 0 1000 36000 (by omega) (by omega) hd (Nat.le_refl _)
  exact ⟨e, q1, q2, q3, fun p hp => q4 p (by omega) hp, q5⟩
theorem M_ev_m {T M : St} {H P V B d : Nat} (h : RT T (M 0) H P V B) (hd : d < 36000) : ∀ (r k n e : Nat), k + r = V → r < n → d < e → e ≤ 36000 → ∃ e' : Nat, f_X7_eventAfter_107 n (nI d) (nI e) (nI k) M = some (nI e') ∧ d < e' ∧ e' ≤ e ∧ ∀ j, k ≤ j → j < V → Qm (xX (M 0) j) d e' := by
  have hb := h.1
  obtain ⟨t0, t2, g88, t7, g89, -⟩ := id h.2.1
  intro r
  induction r with
  | zero =>
    intro k n e h1 h2 h3 h4
    obtain ⟨n, rfl⟩ : ∃ z, n = z + 1 := ⟨n - 1, by omega⟩
    exact ⟨e, by rw [f_X7_eventAfter_107_s, i89, ix_in (by omega) (by omega), tN_nI (by omega), g89, if_pos (nI_le (by omega) (by omega))], h3, Nat.le_refl _, fun j q1 q2 => by omega⟩
  | succ r ih =>
    intro k n e h1 h2 h3 h4
    obtain ⟨n, rfl⟩ : ∃ z, n = z + 1 := ⟨n - 1, by omega⟩
    obtain ⟨x1, x2, x3⟩ := h.x_of (show k < V by omega)
    rw [f_X7_eventAfter_107_s, i89, ix_in (by omega) (by omega), tN_nI (by omega), g89, if_neg (nI_ge (by omega) (by omega)), i40, ad3, ix_in (by omega) (by omega), tN_nI (by omega), x1]
    unfold f_X7_eventAfter_148 f_X7_eventAfter_149
    rw [p1]
    have nx : ∀ e1, d < e1 → e1 ≤ e → Qm (xX (M 0) k) d e1 → ∃ e' : Nat, f_X7_eventAfter_107 n (nI d) (nI e1) (nI (k + 1)) M = some (nI e') ∧ d < e' ∧ e' ≤ e ∧ ∀ j, k ≤ j → j < V → Qm (xX (M 0) j) d e' := by
      intro e1 a1 a2 a3
      obtain ⟨e', q1, q2, q3, q4⟩ := ih (k + 1) n e1 (by omega) (by omega) a1 (by omega)
      refine ⟨e', q1, q2, by omega, fun j z1 z2 => ?_⟩
      by_cases w : j = k
      · subst w
        intro z
        have := a3 z
        omega
      · exact q4 j (by omega) z2
    by_cases c : xX (M 0) k ≤ d
    · rw [if_pos (nI_le c (by omega))]
      exact nx e h3 (Nat.le_refl _) (fun z => by omega)
    · rw [if_neg (nI_ge (by omega) (by omega))]
      by_cases c2 : e ≤ xX (M 0) k
      · rw [if_pos (nI_le c2 (by omega))]
        exact nx e h3 (Nat.le_refl _) (fun z => c2)
      · rw [if_neg (nI_ge (by omega) (by omega))]
        exact nx _ (by omega) (by omega) (fun z => Nat.le_refl _)
set_option maxRecDepth 20000 in
theorem M_ev_p {T M : St} {H P V B d : Nat} (h : RT T (M 0) H P V B) (hd : d < 36000) : ∀ (r k n e : Nat), k + r = P → r < n → d < e → e ≤ 36000 → ∃ e' : Nat, f_X7_eventAfter_5 n (nI d) (nI e) (nI k) M = some (nI e') ∧ d < e' ∧ e' ≤ e ∧ (∀ p, k ≤ p → p < P → Qp (bB (M 0) p) (dD (M 0) p) d e') ∧ ∀ j, j < V → Qm (xX (M 0) j) d e' := by
  have hb := h.1
  obtain ⟨t0, t2, g88, t7, g89, -⟩ := id h.2.1
  intro r
  induction r with
  | zero =>
    intro k n e h1 h2 h3 h4
    obtain ⟨n, rfl⟩ : ∃ z, n = z + 1 := ⟨n - 1, by omega⟩
    obtain ⟨e', q1, q2, q3, q4⟩ := M_ev_m h hd V 0 1000 e (by omega) (by omega) h3 h4
    have q1' : f_X7_eventAfter_107 1000 (nI d) (nI e) 0 M = some (nI e') := q1
    refine ⟨e', ?_, q2, q3, fun p z1 z2 => by omega, fun j hj => q4 j (by omega) hj⟩
    rw [f_X7_eventAfter_5_s, M_people g88, bd_s, if_pos (nI_le (by omega) (by omega))]
    unfold f_X7_eventAfter_105
    exact q1'
  | succ r ih =>
    intro k n e h1 h2 h3 h4
    obtain ⟨n, rfl⟩ : ∃ z, n = z + 1 := ⟨n - 1, by omega⟩
    obtain ⟨b1, b2, -⟩ := h.b_of (show k < P by omega)
    obtain ⟨-, d2, d3⟩ := h.d_of (show k < P by omega)
    have nx : ∀ e1, d < e1 → e1 ≤ e → Qp (bB (M 0) k) (dD (M 0) k) d e1 → ∃ e' : Nat, f_X7_eventAfter_98 (f_X7_eventAfter_5 n) (nI d) (nI k) (nI e1) M = some (nI e') ∧ d < e' ∧ e' ≤ e ∧ (∀ p, k ≤ p → p < P → Qp (bB (M 0) p) (dD (M 0) p) d e') ∧ ∀ j, j < V → Qm (xX (M 0) j) d e' := by
      intro e1 a1 a2 a3
      unfold f_X7_eventAfter_98
      rw [p1]
      obtain ⟨e', q1, q2, q3, q4, q5⟩ := ih (k + 1) n e1 (by omega) (by omega) a1 (by omega)
      refine ⟨e', q1, q2, by omega, fun p z1 z2 => ?_, q5⟩
      by_cases w : p = k
      · subst w
        exact ⟨fun z z' => Nat.le_trans q3 (a3.1 z z'), fun z => Nat.le_trans q3 (a3.2.1 z), fun z z' => Nat.le_trans q3 (a3.2.2 z z')⟩
      · exact q4 p (by omega) z2
    have s79 : ∀ e1, d < e1 → e1 ≤ e → (d < bB (M 0) k → e1 ≤ bB (M 0) k) → (bB (M 0) k ≤ d → e1 ≤ bB (M 0) k + 360 * ((d - bB (M 0) k) / 360 + 1)) → ∃ e' : Nat, f_X7_eventAfter_79 (f_X7_eventAfter_5 n) (nI d) (nI k) (M 0 (4 * k + 3)) (nI e1) M = some (nI e') ∧ d < e' ∧ e' ≤ e ∧ (∀ p, k ≤ p → p < P → Qp (bB (M 0) p) (dD (M 0) p) d e') ∧ ∀ j, j < V → Qm (xX (M 0) j) d e' := by
      intro e1 a1 a2 a3 a4
      unfold f_X7_eventAfter_79 f_X7_eventAfter_97
      rcases d3 with ⟨d3, d4⟩ | d3
      · have z : (-4 : Int32) ≤ nI d := by
          rw [Int32.le_iff_toInt_le, nI_toInt (by omega)]
          have : (-4 : Int32).toInt = -4 := by decide
          omega
        rw [d3, if_pos z]
        exact nx e1 a1 a2 ⟨fun z _ => a3 z, fun z => by omega, fun z _ => a4 z⟩
      · rw [d3]
        by_cases c : dD (M 0) k ≤ d
        · rw [if_pos (nI_le c (by omega))]
          exact nx e1 a1 a2 ⟨fun z _ => a3 z, fun z => by omega, fun z _ => a4 z⟩
        · rw [if_neg (nI_ge (by omega) (by omega))]
          by_cases c2 : e1 ≤ dD (M 0) k
          · rw [if_pos (nI_le c2 (by omega))]
            exact nx e1 a1 a2 ⟨fun z _ => a3 z, fun z => c2, fun z _ => a4 z⟩
          · rw [if_neg (nI_ge (by omega) (by omega))]
            exact nx _ (by omega) (by omega) ⟨fun z _ => by have := a3 z; omega, fun z => Nat.le_refl _, fun z _ => by have := a4 z; omega⟩
    have s65 : ∀ o, d < o → o < 2 ^ 31 → (d < bB (M 0) k → o = bB (M 0) k) → (bB (M 0) k ≤ d → o = bB (M 0) k + 360 * ((d - bB (M 0) k) / 360 + 1)) → ∃ e' : Nat, f_X7_eventAfter_65 (f_X7_eventAfter_5 n) (nI d) (nI e) (nI k) (M 0 (4 * k + 3)) (nI o) M = some (nI e') ∧ d < e' ∧ e' ≤ e ∧ (∀ p, k ≤ p → p < P → Qp (bB (M 0) p) (dD (M 0) p) d e') ∧ ∀ j, j < V → Qm (xX (M 0) j) d e' := by
      intro o a1 a2 a3 a4
      unfold f_X7_eventAfter_65
      by_cases c : e ≤ o
      · rw [if_pos (nI_le c (by omega))]
        exact s79 e h3 (Nat.le_refl _) (fun z => by have := a3 z; omega) (fun z => by have := a4 z; omega)
      · rw [if_neg (nI_ge (by omega) (by omega))]
        exact s79 o a1 (by omega) (fun z => by have := a3 z; omega) (fun z => by have := a4 z; omega)
    rw [f_X7_eventAfter_5_s, M_people g88, bd_s, if_neg (nI_ge (by omega) (by omega)), m4, p1, p3, ix_in (by omega) (by omega), ix_in (by omega) (by omega), tN_nI (by omega), tN_nI (by omega), b1]
    by_cases c : bB (M 0) k ≤ d
    · rw [if_pos (nI_le c (by omega)), nI_sub c, i360, nI_div _ _ (by omega) (by omega), p1, nI_mul, nI_add]
      exact s65 _ (by omega) (by omega) (fun z => by omega) (fun z => rfl)
    · rw [if_neg (nI_ge (by omega) (by omega))]
      exact s65 _ (by omega) (by omega) (fun z => rfl) (fun z => by omega)
theorem M_ev {T M : St} {H P V B d : Nat} (h : RT T (M 0) H P V B) (hd : d < 36000) : ∃ e : Nat, f_X7_eventAfter (nI d) M = some (nI e) ∧ Qd (M 0) P V d e := by
  have hb := h.1
  obtain ⟨e, q1, q2, q3, q4, q5⟩ := M_ev_p h hd P 0 1000 36000 (by omega) (by omega) hd (Nat.le_refl _)
  exact ⟨e, q1, q2, q3, fun p hp => q4 p (by omega) hp, q5⟩
/-- the first of r days from d on with another number -/
def fcf (v : Nat → Int32) (now : Int32) : Nat → Nat → Int32
  | 0, _ => -4
  | r + 1, d => if v d = now then fcf v now r (d + 1) else nI d
theorem fcf_skip {v : Nat → Int32} {now : Int32} : ∀ (j d r : Nat), (∀ c, d ≤ c → c < d + j → v c = now) → fcf v now (j + r) d = fcf v now r (d + j)
  | 0, d, r, _ => by rw [Nat.zero_add, Nat.add_zero]
  | j + 1, d, r, h => by
    have ih := fcf_skip (v := v) (now := now) j (d + 1) r (fun c h1 h2 => h c (by omega) (by omega))
    rw [show j + 1 + r = (j + r) + 1 by omega, show d + (j + 1) = d + 1 + j by omega, ← ih]
    show (if v d = now then fcf v now (j + r) (d + 1) else nI d) = _
    rw [if_pos (h d (Nat.le_refl _) (by omega))]
theorem fcf_ev {T : St} {g : Nat → Int32} {H P V B d e : Nat} (h : RT T g H P V B) (hq : Qd g P V d e) (house law now : Int32) (hn : num g P V house (nI d) law = now) : fcf (fun c => num g P V house (nI c) law) now (36000 - d) d = fcf (fun c => num g P V house (nI c) law) now (36000 - e) e := by
  have a := hq.1
  have b := hq.2.1
  have k := fcf_skip (v := fun c => num g P V house (nI c) law) (now := now) (e - d) d (36000 - e) (fun c h1 h2 => (Qd.num h hq h1 (by omega) house law).trans hn)
  rw [show e - d + (36000 - e) = 36000 - d by omega, show d + (e - d) = e by omega] at k
  exact k
theorem C_ch {G0 : St} {g : Nat → Int32} {H P V B h : Nat} (hT : RT G0 g H P V B) (hh : h < 8) (now : Int32) : ∀ (n d s : Nat) (G : St), d ≤ 36000 → s ≤ d → 36000 < d + n → FrT G0 G → FG G0 G → ∃ G' : St, f_X6_changes_43 n (nI h) now (nI d) (nI s) G = some (fcf (fun c => num g P V (nI h) (nI c) (g 91)) now (36000 - d) d, G') ∧ FG G0 G' := by
  intro n
  induction n with
  | zero => intro d s G h1 h2 h3; omega
  | succ n ih =>
    intro d s G h1 h2 h3 hF hG
    rw [f_X6_changes_43_s]
    by_cases c : d = 36000
    · subst c
      have e : (36000 : Int32) ≤ nI 36000 := nI_le (a := 36000) (Nat.le_refl _) (by omega)
      rw [if_pos e]
      refine ⟨G, ?_, hG⟩
      by_cases z : (36000 : Int32) ≤ nI s
      · rw [if_pos z]
        rfl
      · rw [if_neg z]
        rfl
    · have e1 : ¬ (36000 : Int32) ≤ nI s := nI_ge (b := 36000) (by omega) (by omega)
      have e2 : ¬ (36000 : Int32) ≤ nI d := nI_ge (b := 36000) (by omega) (by omega)
      obtain ⟨U, u1, u2⟩ := C_numberOf (hT.fr hF) (show d < 36000 by omega) hh
      rw [if_neg e1, if_neg e2, sb0, u1, bd_s]
      have hF2 : FrT G0 (pt 0 32 U G) := hF.tr (fun j hj => by rw [pt_in (by omega) (by omega)]; exact u2 j hj)
      have hG2 : FG G0 (pt 0 32 U G) := hG.tr u2.fg
      by_cases q : num g P V (nI h) (nI d) (g 91) = now
      · rw [if_pos q, sb0]
        obtain ⟨e, k1, k2⟩ := C_ev (hT.fr hF2) (show d < 36000 by omega)
        rw [k1, bd_s, p1, fcf_ev hT k2 _ _ now q]
        have a := k2.1
        exact ih e (s + 1) _ k2.2.1 (by omega) (by omega) hF2 hG2
      · rw [if_neg q]
        refine ⟨_, ?_, hG2⟩
        rw [show 36000 - d = (36000 - d - 1) + 1 by omega]
        show _ = some ((if num g P V (nI h) (nI d) (g 91) = now then _ else nI d), _)
        rw [if_neg q]
theorem M_ch {T M0 : St} {H P V B h : Nat} (hT : RT T (M0 0) H P V B) (now : Int32) : ∀ (n d : Nat) (M : St), d ≤ 36000 → 36000 < d + n → Fr M0 M → ∃ M' : St, f_X7_changes_31 n (nI h) now (nI d) M = some (fcf (fun c => num (M0 0) P V (nI h) (nI c) (M0 0 91)) now (36000 - d) d, M') ∧ Fr M0 M' := by
  have hb := hT.1
  obtain ⟨t0, t2, g88, t7, g89, -⟩ := id hT.2.1
  intro n
  induction n with
  | zero => intro d G h1 h2; omega
  | succ n ih =>
    intro d M h1 h3 hF
    rw [f_X7_changes_31_s]
    unfold f_X7_changes_60
    by_cases c : d = 36000
    · subst c
      have e : (36000 : Int32) ≤ nI 36000 := nI_le (a := 36000) (Nat.le_refl _) (by omega)
      rw [if_pos e, if_pos e]
      exact ⟨M, rfl, hF⟩
    · have e2 : ¬ (36000 : Int32) ≤ nI d := nI_ge (b := 36000) (by omega) (by omega)
      have e0 : M 0 = M0 0 := hF 0 (by omega)
      obtain ⟨M1, m1, m2⟩ := M_now M V P (nI h) (nI d) (by rw [e0]; exact g89) (by omega) (by rw [e0]; exact g88) (by omega)
      have hF1 := hF.tr m2
      have e3 : M1 0 = M0 0 := hF1 0 (by omega)
      rw [if_neg e2, m1, bd_s, e0]
      by_cases q : num (M0 0) P V (nI h) (nI d) (M0 0 91) = now
      · rw [if_pos q]
        obtain ⟨e, k1, k2⟩ := M_ev (T := T) (M := M1) (by rw [e3]; exact hT) (show d < 36000 by omega)
        rw [e3] at k2
        rw [k1, bd_s, fcf_ev hT k2 _ _ now q]
        have a := k2.1
        exact ih e _ k2.2.1 (by omega) hF1
      · rw [if_neg q, if_neg e2]
        refine ⟨_, ?_, hF1⟩
        rw [show 36000 - d = (36000 - d - 1) + 1 by omega]
        show _ = some ((if num (M0 0) P V (nI h) (nI d) (M0 0 91) = now then _ else nI d), _)
        rw [if_neg q]
theorem op_changes : Op_changes Rel := by
  intro x1 x2 G M hR
  obtain ⟨H, hH, ⟨P, V, B, hT⟩, -⟩ := id hR
  have hb := hT.1
  have t0 := hT.2.1.1
  unfold f_X6_changes f_X7_changes
  rw [sb0, C_isHouse t0 (by omega), M_isHouse hH (by omega), C_isDay, M_isDay]
  rcases tf (vd H x1) with v1 | v1
  · rw [vb_t v1, vb_t v1]
    rcases tf (vd 36000 x2) with v2 | v2
    · rw [vb_t v2, vb_t v2]
      obtain ⟨h, hh, rfl⟩ := vd_t v1
      obtain ⟨d, hd, rfl⟩ := vd_t v2
      obtain ⟨U, u1, u2⟩ := C_numberOf hT hd (show h < 8 by omega)
      have hF2 : FrT G (pt 0 32 U G) := fun j hj => by rw [pt_in (by omega) (by omega)]; exact u2 j hj
      obtain ⟨e, k1, k2⟩ := C_ev (hT.fr hF2) hd
      obtain ⟨M1, m1, m2⟩ := Rel.now hT (nI h) (nI d)
      have e3 : M1 0 = M 0 := m2 0 (by omega)
      obtain ⟨e', k3, k4⟩ := M_ev (T := G) (M := M1) (by rw [e3]; exact hT) hd
      rw [e3] at k4
      have a := k2.1
      have a' := k4.1
      obtain ⟨G', c1, c2⟩ := C_ch hT (show h < 8 by omega) (num (M 0) P V (nI h) (nI d) (M 0 91)) 40000 e 0 _ k2.2.1 (by omega) (by omega) hF2 u2.fg
      obtain ⟨M', c3, c4⟩ := M_ch (h := h) hT (num (M 0) P V (nI h) (nI d) (M 0 91)) 40000 e' M1 k4.2.1 (by omega) m2
      have c1' : f_X6_changes_43 40000 (nI h) (num (M 0) P V (nI h) (nI d) (M 0 91)) (nI e) 0 (pt 0 32 U G) = _ := c1
      rw [u1, bd_s, sb0, k1, bd_s, c1', m1, bd_s, k3, bd_s, c3, ← fcf_ev hT k2 _ _ _ rfl, ← fcf_ev hT k4 _ _ _ rfl]
      exact ⟨_, _, _, rfl, rfl, hR.cg c2 c4.fm⟩
    · rw [vb_f v2, vb_f v2]
      exact ⟨_, _, _, rfl, rfl, hR⟩
  · rw [vb_f v1, vb_f v1]
    exact ⟨_, _, _, rfl, rfl, hR⟩
