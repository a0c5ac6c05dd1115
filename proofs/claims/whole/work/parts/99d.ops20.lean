-- fetch: is it so
theorem t8c : Int32.toNatClampNeg 8 = 8 := rfl
theorem C_cpT (S : St) : ∃ q : St, f_X2_copyOf (jn 4 (sb 12 S) (sb 8 S)) = some q ∧ (∀ h, h < 8 → t4 (sb 12 (pt 8 4 (sb 4 q) (pt 12 4 q S))) h = t4 (sb 8 S) h) ∧ ∀ k, (k < 12 ∨ 16 ≤ k) → (pt 8 4 (sb 4 q) (pt 12 4 q S)) k = S k := by
  unfold f_X2_copyOf
  generalize hJ : jn 4 (sb 12 S) (sb 8 S) = J
  have j4 : ∀ k, 4 ≤ k → J k = S (8 + (k - 4)) := by
    intro k hk
    rw [← hJ, jn_hi hk]
    rfl
  refine ⟨_, rfl, fun h hh => ?_, fun k hk => ?_⟩
  · have e : ∀ f g : Nat → Int32, va_cpy f g (Int32.toNatClampNeg 0) (Int32.toNatClampNeg 0) (Int32.toNatClampNeg 8) h = f h := fun f g => cpy_in hh
    refine Prod.ext ?_ (Prod.ext ?_ (Prod.ext ?_ ?_))
    · refine (e (J 4) (J 0)).trans ?_
      rw [j4 4 (by omega)]
      rfl
    · refine (e (J 5) (J 1)).trans ?_
      rw [j4 5 (by omega)]
      rfl
    · refine (e (J 6) (J 2)).trans ?_
      rw [j4 6 (by omega)]
      rfl
    · refine (e (J 7) (J 3)).trans ?_
      rw [j4 7 (by omega)]
      rfl
  · by_cases c : 8 ≤ k ∧ k < 12
    · rw [pt_in (by omega) (by omega)]
      show st 3 _ (st 2 _ (st 1 _ (st 0 _ J))) (4 + (k - 8)) = S k
      rw [st_ne (by omega), st_ne (by omega), st_ne (by omega), st_ne (by omega), j4 _ (by omega)]
      exact congrArg S (by omega)
    · rw [pt_out (by omega), pt_out (by omega)]
def accJ (go : Nat → Nat) (ag : Nat → Int32) (h : Nat) (q : Q4) : Nat → Q4
  | 0 => q
  | a + 1 => if go a = h then stp (ag a) 1 (accJ go ag h q a) else accJ go ag h q a
theorem tl_1 (y : Int32) : tl 1 y = y := by
  unfold tl
  rw [if_neg (by decide)]
theorem tw_1 : tw 1 = 1 := by
  unfold tw
  rw [if_neg (by decide)]
theorem C_so_add {go : Nat → Nat} {ag : Nat → Int32} {A : Nat} (hA : A ≤ 4) (hgo : ∀ a, a < A → go a < 8) (hag : ∀ a, a < A → inB 101 (ag a)) (x3 : Int32) (Q : Nat → Q4) : ∀ (r a n : Nat) (S : St), a + r = A → r < n → S 0 0 = nI A → (∀ a, a < A → S 4 a = nI (go a) ∧ S 3 a = ag a) → (∀ h, h < 8 → t4 (sb 12 S) h = accJ go ag h (Q h) a) → ∃ S' : St, f_X0_isSo_14 4 n x3 (nI a) S = f_X0_isSo_51 4 x3 S' ∧ (∀ k, (k < 12 ∨ 16 ≤ k) → S' k = S k) ∧ ∀ h, h < 8 → t4 (sb 12 S') h = accJ go ag h (Q h) A := by
  intro r
  induction r with
  | zero =>
    intro a n S h1 h2 s0 s1 s2
    obtain ⟨n, rfl⟩ : ∃ z, n = z + 1 := ⟨n - 1, by omega⟩
    obtain rfl : a = A := by omega
    exact ⟨S, by rw [f_X0_isSo_14_s, s0, if_pos (nI_le (Nat.le_refl _) (by omega))], fun _ _ => rfl, s2⟩
  | succ r ih =>
    intro a n S h1 h2 s0 s1 s2
    obtain ⟨n, rfl⟩ : ∃ z, n = z + 1 := ⟨n - 1, by omega⟩
    obtain ⟨e4, e3⟩ := s1 a (by omega)
    obtain ⟨y, hy, ey⟩ := hag a (by omega)
    rw [f_X0_isSo_14_s, s0, if_neg (nI_ge (by omega) (by omega)), ix_in (by omega) (by omega), ix_in (by omega) (by omega), tN_nI (by omega), e4, e3, ey]
    obtain ⟨U, u1, u2, u3⟩ := C_add (sb 12 S) (go a) (hgo a (by omega)) 1 (nI y) (by rw [nI_toInt (by omega)]; omega)
    rw [u1, bd_s, p1]
    obtain ⟨S', k1, k2, k3⟩ := ih (a + 1) n (pt 12 4 U S) (by omega) (by omega) (by rw [pt_out (by omega)]; exact s0) (fun b hb => by rw [pt_out (by omega), pt_out (by omega)]; exact s1 b hb) (fun h hh => by
      have e2 : t4 (sb 12 (pt 12 4 U S)) h = t4 U h := rfl
      have es : accJ go ag h (Q h) (a + 1) = if go a = h then stp (ag a) 1 (accJ go ag h (Q h) a) else accJ go ag h (Q h) a := rfl
      rw [e2, es]
      by_cases c : h = go a
      · subst c
        rw [u3, if_neg (by decide), if_pos rfl, tl_1, tw_1, s2 _ hh, ey]
      · rw [if_neg (fun q => c q.symm), ← s2 h hh]
        unfold t4
        rw [u2 0 h (Or.inl c), u2 1 h (Or.inl c), u2 2 h (Or.inl c), u2 3 h (Or.inl c)])
    exact ⟨S', k1, fun k hk => by rw [k2 k hk, pt_out (by omega)], k3⟩
/-- wants and twins, as they should be -/
def Wd (v : Nat → Int32) (H w : Nat) (wh : Nat → Nat) (wn : Nat → Int32) (x3 : Int32) : Prop := (∀ j, j < w → v (wh j) = wn j) ∧ (x3 = 0 ∨ ∀ i, ¬ TW v H i)
theorem C_so_l {S : St} {v : Nat → Int32} {H w : Nat} {wh : Nat → Nat} {wn : Nat → Int32} {law x3 : Int32} (hH : H ≤ 8) (hv : ∀ k, k < 8 → f_X2_valueOf (nI k) law (sb 12 S) = some (v k)) (s16 : S 16 0 = nI H) (s17 : S 17 0 = law) (s52 : S 52 0 = nI w) (hw : w ≤ 4) (hs : ∀ j, j < w → S 49 j = nI (wh j) ∧ wh j < 8 ∧ S 51 j = wn j) : ∀ (r i n : Nat), i + r = w → r < n → (∀ j, j < i → v (wh j) = wn j) → ∃ x : Int32, f_X0_isSo_54 4 n x3 (nI i) S = some (x, S) ∧ (x = 0 ∨ x = 1) ∧ (x = 1 ↔ Wd v H w wh wn x3) := by
  intro r
  induction r with
  | zero =>
    intro i n h1 h2 h3
    obtain ⟨n, rfl⟩ : ∃ z, n = z + 1 := ⟨n - 1, by omega⟩
    obtain rfl : i = w := by omega
    rw [f_X0_isSo_54_s, s52, if_pos (nI_le (Nat.le_refl _) (by omega))]
    unfold f_X0_isSo_99 f_X0_isSo_121
    by_cases c : x3 = 0
    · rw [if_pos c]
      exact ⟨1, rfl, Or.inr rfl, fun _ => ⟨h3, Or.inl c⟩, fun _ => rfl⟩
    · obtain ⟨x, k1, k2⟩ := C_twins hH hv
      rw [if_neg c, s16, s17, k1, bd_s]
      by_cases z : x = 0
      · rw [if_pos z]
        refine ⟨1, rfl, Or.inr rfl, fun _ => ⟨h3, Or.inr fun i q => ?_⟩, fun _ => rfl⟩
        have := (k2 i (by have := q.1; omega)).mpr q
        rw [z, b_0] at this
        exact Bool.noConfusion this
      · rw [if_neg z]
        refine ⟨0, rfl, Or.inl rfl, fun q => absurd q (by decide), fun q => ?_⟩
        rcases q.2 with q | q
        · exact absurd q c
        · refine absurd (b_ext fun i hi => ?_) z
          rw [b_0]
          refine Bool.eq_false_iff.mpr (fun y => q i ((k2 i hi).mp y))
  | succ r ih =>
    intro i n h1 h2 h3
    obtain ⟨n, rfl⟩ : ∃ z, n = z + 1 := ⟨n - 1, by omega⟩
    obtain ⟨e1, e2, e3⟩ := hs i (by omega)
    rw [f_X0_isSo_54_s, s52, if_neg (nI_ge (by omega) (by omega)), ix_in (by omega) (by omega), tN_nI (by omega), e1, s17, hv _ e2, bd_s, ix_in (by omega) (by omega), e3, p1]
    by_cases c : v (wh i) = wn i
    · rw [if_pos c]
      refine ih (i + 1) n (by omega) (by omega) (fun j hj => ?_)
      by_cases z : j = i
      · rw [z]
        exact c
      · exact h3 j (by omega)
    · rw [if_neg c]
      exact ⟨0, rfl, Or.inl rfl, fun q => absurd q (by decide), fun q => absurd (q.1 i (by omega)) c⟩
/-- where one lives by a way: an aunt where she goes, the others at home -/
def hx (g : Nat → Int32) (V H A d v p : Nat) : Int32 := if au g d p = true then nI (gz H A v (ca (au g d) p)) else hmv g p (nI d) V
def nf (g : Nat → Int32) (P V H A d v h : Nat) : Int32 := told (g 91) (accG (fun p => alv g p (nI d)) (hx g V H A d v) (fun p => g (4 * p)) (fun p => yrs g p (nI d)) (nI h) (0, 0, 0, 0) P)
theorem acc_J {g : Nat → Int32} {V H A d v h : Nat} {ag : Nat → Int32} {q : Q4} (hH : 1 ≤ H) (hH8 : H ≤ 8) (hh : h < 8) : ∀ n, (∀ p, p < n → au g d p = true → ag (ca (au g d) p) = yrs g p (nI d)) → accG (au g d) (hx g V H A d v) (fun p => g (4 * p)) (fun p => yrs g p (nI d)) (nI h) q n = accJ (gz H A v) ag h q (ca (au g d) n)
  | 0, _ => rfl
  | n + 1, hy => by
    have ih := acc_J (V := V) (A := A) (v := v) (q := q) hH hH8 hh n (fun p hp => hy p (by omega))
    rw [ca_s]
    unfold accG
    rw [ih]
    rcases tf (au g d n) with a | a
    · have k := (au_i.mp a).2
      have gl := gz_lt (A := A) (v := v) (k := ca (au g d) n) (show 0 < H by omega)
      have es : accJ (gz H A v) ag h q (ca (au g d) n + 1) = if gz H A v (ca (au g d) n) = h then stp (ag (ca (au g d) n)) 1 (accJ (gz H A v) ag h q (ca (au g d) n)) else accJ (gz H A v) ag h q (ca (au g d) n) := rfl
      have hn : hx g V H A d v n = nI (gz H A v (ca (au g d) n)) := by
        unfold hx
        rw [if_pos a]
      rw [if_pos a, es, hn, k, tl_1, tw_1, hy n (by omega) a]
      by_cases c : gz H A v (ca (au g d) n) = h
      · rw [if_pos c, if_pos ⟨a, by rw [c], by decide⟩]
      · rw [if_neg c, if_neg (fun z => c ((nI_eq (by omega) (by omega)).mp z.2.1))]
    · rw [if_neg (fun z => by rw [a] at z; exact Bool.noConfusion z.1), if_neg (by rw [a]; decide)]
theorem nf_eqv {T : St} {g : Nat → Int32} {H P V B d A v h : Nat} (hT : RT T g H P V B) (hd : d < 36000) (hh : h < 8) {ag : Nat → Int32} (hy : ∀ p, p < P → au g d p = true → ag (ca (au g d) p) = yrs g p (nI d)) {Q : Q4} (hQ : eqv Q (0, 0, 0, 0)) : told (g 91) (accJ (gz H A v) ag h (accG (fun p => alv g p (nI d) && !au g d p) (fun p => hmv g p (nI d) V) (fun p => g (4 * p)) (fun p => yrs g p (nI d)) (nI h) Q P) (ca (au g d) P)) = nf g P V H A d v h := by
  have hb := hT.1
  unfold nf
  rw [← acc_J (V := V) hb.1 hb.2.1 hh P hy]
  have e1 : accG (fun p => alv g p (nI d) && !au g d p) (fun p => hmv g p (nI d) V) (fun p => g (4 * p)) (fun p => yrs g p (nI d)) (nI h) Q P = accG (fun p => alv g p (nI d) && !au g d p) (hx g V H A d v) (fun p => g (4 * p)) (fun p => yrs g p (nI d)) (nI h) Q P := by
    refine accG_congr P (fun p hp => ⟨rfl, fun ha => ⟨?_, rfl, rfl⟩⟩)
    have ha' : (alv g p (nI d) && !au g d p) = true := ha
    rcases tf (au g d p) with a | a
    · rw [a, Bool.not_true, Bool.and_false] at ha'
      exact Bool.noConfusion ha'
    · unfold hx
      rw [if_neg (by rw [a]; decide)]
  have e2 : ∀ q, accG (fun p => alv g p (nI d) && au g d p) (hx g V H A d v) (fun p => g (4 * p)) (fun p => yrs g p (nI d)) (nI h) q P = accG (au g d) (hx g V H A d v) (fun p => g (4 * p)) (fun p => yrs g p (nI d)) (nI h) q P := by
    intro q
    refine accG_congr P (fun p hp => ⟨?_, fun _ => ⟨rfl, rfl, rfl⟩⟩)
    show (alv g p (nI d) && au g d p) = au g d p
    rcases tf (au g d p) with a | a
    · rw [a, (au_i.mp a).1]
      rfl
    · rw [a, Bool.and_false]
  have sp := acc_split (al := fun p => alv g p (nI d)) (b := au g d) (hm := hx g V H A d v) (kd := fun p => g (4 * p)) (yr := fun p => yrs g p (nI d)) (house := nI h) (ok4_0 0 0) P (by omega) (fun p hp ha => hT.yr_in hd hp ha)
  rw [e1, ← e2]
  refine (eqv_told (eqv_tr sp ?_)).symm
  have sy : eqv (0, 0, 0, 0) Q := ⟨hQ.1.symm, hQ.2.1.symm, Or.inl rfl⟩
  exact eqv_acc (eqv_acc sy P) P
theorem C_isSo {S S0 : St} {g : Nat → Int32} {H P V B d v w : Nat} {wh : Nat → Nat} {wn : Nat → Int32} {Q : Nat → Q4} {x3 : Int32} (hT : RT (sb 16 S0) g H P V B) (hd : d < 36000) (hA : ca (au g d) P ≤ 4) (hS : GA S S0 g V d P Q) (hQ : ∀ h, eqv (Q h) (0, 0, 0, 0)) (s52 : S0 52 0 = nI w) (hw : w ≤ 4) (hs : ∀ j, j < w → S0 49 j = nI (wh j) ∧ wh j < 8 ∧ S0 51 j = wn j) (h4 : ∀ a, a < ca (au g d) P → S 4 a = nI (gz H (ca (au g d) P) v a)) : ∃ (x : Int32) (S' : St), f_X0_isSo 4 x3 S = some (x, S') ∧ (x = 0 ∨ x = 1) ∧ (x = 1 ↔ Wd (nf g P V H (ca (au g d) P) d v) H w wh wn x3) ∧ ∀ k, (k < 12 ∨ 16 ≤ k) → S' k = S k := by
  have hb := hT.1
  obtain ⟨g0, g1, g2, g3⟩ := hS
  unfold f_X0_isSo
  obtain ⟨q, q1, q2, q3⟩ := C_cpT S
  rw [q1, bd_s]
  have hag : ∀ a, a < ca (au g d) P → inB 101 (S 3 a) := by
    intro a ha
    obtain ⟨p, p1', p2', p3'⟩ := ca_surj P a ha
    obtain ⟨-, -, e⟩ := g1 p p1' p2'
    rw [p3'] at e
    rw [e]
    exact hT.yr_in hd p1' (au_i.mp p2').1
  obtain ⟨S2, k1, k2, k3⟩ := C_so_add (go := gz H (ca (au g d) P) v) (ag := S 3) (A := ca (au g d) P) hA (fun a _ => Nat.lt_of_lt_of_le (gz_lt (by omega)) hb.2.1) hag x3 (fun h => t4 (sb 8 S) h) (ca (au g d) P) 0 1000 (pt 8 4 (sb 4 q) (pt 12 4 q S)) (by omega) (by omega) (by rw [q3 0 (by omega)]; exact g0) (fun a ha => by rw [q3 4 (by omega), q3 3 (by omega)]; exact ⟨h4 a ha, rfl⟩) (fun h hh => q2 h hh)
  have k1' : f_X0_isSo_14 4 1000 x3 0 (pt 8 4 (sb 4 q) (pt 12 4 q S)) = f_X0_isSo_51 4 x3 S2 := k1
  rw [k1']
  unfold f_X0_isSo_51
  have e2 : ∀ k, (k < 12 ∨ 16 ≤ k) → S2 k = S k := fun k hk => by rw [k2 k hk, q3 k hk]
  have e16 : ∀ k, 16 ≤ k → S2 k = S0 k := fun k hk => by rw [e2 k (by omega), g3 k hk]
  have t0 : S0 16 0 = nI H := hT.2.1.1
  have t1 : S0 17 0 = g 91 := hT.2.1.2.2.2.2.2.2.2.1
  obtain ⟨x, x1, x2, x4⟩ := C_so_l (S := S2) (v := nf g P V H (ca (au g d) P) d v) (H := H) (w := w) (wh := wh) (wn := wn) (law := g 91) (x3 := x3) hb.2.1 (fun h hh => by
    rw [C_value _ h hh, k3 h hh, g2 h hh]
    exact congrArg some (nf_eqv hT hd hh (fun p hp ha => (g1 p hp ha).2.2) (hQ h))) (by rw [e16 16 (by omega)]; exact t0) (by rw [e16 17 (by omega)]; exact t1) (by rw [e16 52 (by omega)]; exact s52) hw (fun j hj => by rw [e16 49 (by omega), e16 51 (by omega)]; exact hs j hj) w 0 1000 (by omega) (by omega) (fun j hj => by omega)
  exact ⟨x, S2, x1, x2, x4, e2⟩
