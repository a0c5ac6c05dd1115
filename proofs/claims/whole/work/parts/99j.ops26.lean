-- the text: what is told so far
theorem pt_id {S S' : St} (h : ∀ k, 16 ≤ k → S' k = S k) : pt 0 16 S' S = S' := by
  funext k
  by_cases c : k < 16
  · rw [pt_in (by omega) (by omega)]
    rfl
  · rw [pt_out (by omega)]
    exact (h k (by omega)).symm
theorem pt_C {S S' : St} (h : kpC S S') : pt 0 16 S' S = S' := pt_id (fun k hk => h k (by omega))
theorem pt_D {S S' : St} (h : kpD S S') : pt 0 16 S' S = S' := pt_id (fun k hk => h k (by omega))
/-- the greatest of those that are used; -1, where there is none -/
def mxU (U : Int32 → Prop) (m : Int32) : Prop := (∀ x, U x → x ≤ m) ∧ (m = -1 ∨ U m)
theorem mxU_add {U U2 : Int32 → Prop} {v m : Int32} (hU : ∀ x, U2 x ↔ (U x ∨ x = v)) (h : mxU U m) : mxU U2 (if v ≤ m then m else v) := by
  obtain ⟨h1, h2⟩ := h
  by_cases c : v ≤ m
  · rw [if_pos c]
    refine ⟨fun x hx => ?_, ?_⟩
    · rcases (hU x).mp hx with q | q
      · exact h1 x q
      · rw [q]
        exact c
    · rcases h2 with q | q
      · exact Or.inl q
      · exact Or.inr ((hU m).mpr (Or.inl q))
  · rw [if_neg c]
    refine ⟨fun x hx => ?_, Or.inr ((hU v).mpr (Or.inr rfl))⟩
    rcases (hU x).mp hx with q | q
    · exact le_tr (h1 x q) (Int32.le_of_lt (not_le_lt c))
    · rw [q]
      exact Int32.le_refl v
theorem mxU_cg {U U2 : Int32 → Prop} {m : Int32} (hU : ∀ x, U2 x ↔ U x) (h : mxU U m) : mxU U2 m := ⟨fun x hx => h.1 x ((hU x).mp hx), h.2.imp id (fun q => (hU m).mpr q)⟩
def Us (T : St) (P V B : Nat) (x : Int32) : Prop := (∃ p, p < P ∧ T 5 p = x) ∨ (∃ k, k < V ∧ T 10 k = x) ∨ (∃ e, e < B ∧ T 12 e = x)
def Uo (T : St) (V : Nat) (x : Int32) : Prop := ∃ k, k < V ∧ T 9 k = x
theorem ex_add {f g : Nat → Int32} {n : Nat} {v x : Int32} (h : ∀ p, p < n → g p = f p) (hn : g n = v) : (∃ p, p < n + 1 ∧ g p = x) ↔ ((∃ p, p < n ∧ f p = x) ∨ x = v) := by
  constructor
  · rintro ⟨p, h1, h2⟩
    by_cases c : p = n
    · subst c
      exact Or.inr (h2.symm.trans hn)
    · exact Or.inl ⟨p, by omega, by rw [← h p (by omega)]; exact h2⟩
  · rintro (⟨p, h1, h2⟩ | h1)
    · exact ⟨p, by omega, by rw [h p h1]; exact h2⟩
    · exact ⟨n, by omega, by rw [hn, h1]⟩
theorem ex_cg {f g : Nat → Int32} {n : Nat} {x : Int32} (h : ∀ p, p < n → g p = f p) : (∃ p, p < n ∧ g p = x) ↔ (∃ p, p < n ∧ f p = x) := by
  constructor
  · rintro ⟨p, h1, h2⟩
    exact ⟨p, h1, by rw [← h p h1]; exact h2⟩
  · rintro ⟨p, h1, h2⟩
    exact ⟨p, h1, by rw [h p h1]; exact h2⟩
/-- the class's draft and the reference's page; houses and people are not looked through yet -/
def Tg (T : St) (g : Nat → Int32) (H P V B : Nat) (m o : Int32) : Prop := (1 ≤ H ∧ H ≤ 8 ∧ P ≤ 10 ∧ V ≤ 12 ∧ B ≤ 4) ∧ RTs T g H P V B ∧ RTp T g 8 P ∧ RTm T g 8 10 V ∧ RTb T g 8 B ∧ mxU (Us T P V B) m ∧ mxU (Uo T V) o
def Tw (S M : St) (H P V B : Nat) : Prop := Tg (sb 16 S) (M 2) H P V B (M 6 0) (M 7 0) ∧ M 3 0 = nI H ∧ S 10 0 = M 4 0 ∧ S 11 0 = M 5 0
theorem Tw.cg {S S2 M M2 : St} {H P V B : Nat} (h : Tw S M H P V B) (hS : ∀ k, 10 ≤ k → S2 k = S k) (hM : ∀ k, 2 ≤ k → k < 8 → M2 k = M k) : Tw S2 M2 H P V B := by
  obtain ⟨a, b, c, d⟩ := h
  have e : sb 16 S2 = sb 16 S := funext fun k => hS (16 + k) (by omega)
  unfold Tw
  rw [e, hM 2 (by omega) (by omega), hM 6 (by omega) (by omega), hM 7 (by omega) (by omega), hM 3 (by omega) (by omega), hM 4 (by omega) (by omega), hM 5 (by omega) (by omega), hS 10 (by omega), hS 11 (by omega)]
  exact ⟨a, b, c, d⟩
theorem Tg.birth {T U : St} {g g2 : Nat → Int32} {H P V B h a c : Nat} {m o : Int32} (hT : Tg T g H P V B m o) (hB : B < 4) (hU : ∀ k, k ≠ 11 → k ≠ 12 → k ≠ 13 → k ≠ 14 → U k = T k) (h2 : U 11 0 = nI (B + 1)) (h3 : U 12 = upd (T 12) B (nI h)) (h4 : U 13 = upd (T 13) B (nI a)) (h5 : U 14 = upd (T 14) B (nI c)) (hg : ∀ j, j < 76 + 3 * B ∨ (88 ≤ j ∧ j < 92 ∧ j ≠ 90) → g2 j = g j) (e : g2 (76 + 3 * B) = nI h ∧ g2 (76 + 3 * B + 1) = nI a ∧ g2 (76 + 3 * B + 2) = nI c ∧ g2 90 = nI (B + 1)) (hh : h < 8) (hac : a ≤ c) (hc : c < 36000) : Tg U g2 H P V (B + 1) (if nI h ≤ m then m else nI h) o := by
  obtain ⟨b1, ⟨s1, s2, s3, s4, s5, s6, s7, s8, s9⟩, b3, b4, b5, b6, b7⟩ := hT
  refine ⟨by omega, ⟨by rw [hU 0 (by omega) (by omega) (by omega) (by omega)]; exact s1, by rw [hU 2 (by omega) (by omega) (by omega) (by omega)]; exact s2, by rw [hg 88 (by omega)]; exact s3, by rw [hU 7 (by omega) (by omega) (by omega) (by omega)]; exact s4, by rw [hg 89 (by omega)]; exact s5, h2, e.2.2.2, by rw [hU 1 (by omega) (by omega) (by omega) (by omega), hg 91 (by omega)]; exact s8, by rw [hg 91 (by omega)]; exact s9⟩, b3.cg (fun p hp => by rw [hU 3 (by omega) (by omega) (by omega) (by omega), hU 4 (by omega) (by omega) (by omega) (by omega), hU 5 (by omega) (by omega) (by omega) (by omega), hU 6 (by omega) (by omega) (by omega) (by omega)]; exact ⟨rfl, rfl, rfl, rfl⟩) (fun j hj => hg j (by omega)), b4.cg (Nat.le_refl _) (fun p hp => by rw [hU 8 (by omega) (by omega) (by omega) (by omega), hU 9 (by omega) (by omega) (by omega) (by omega), hU 10 (by omega) (by omega) (by omega) (by omega)]; exact ⟨rfl, rfl, rfl⟩) (fun j q1 q2 => hg j (by omega)), b5.add (fun p hp => by rw [h3, h4, h5, upd_ne (by omega), upd_ne (by omega), upd_ne (by omega)]; exact ⟨rfl, rfl, rfl⟩) (fun j q1 q2 => hg j (by omega)) (by rw [h3, h4, h5, upd_eq, upd_eq, upd_eq]; exact ⟨rfl, rfl, rfl⟩) ⟨e.1, e.2.1, e.2.2.1⟩ ⟨h, hh, rfl⟩ hac hc, mxU_add (fun x => ?_) b6, mxU_cg (fun x => ?_) b7⟩
  · unfold Us
    rw [hU 5 (by omega) (by omega) (by omega) (by omega), hU 10 (by omega) (by omega) (by omega) (by omega), ex_add (f := T 12) (v := nI h) (fun p hp => by rw [h3, upd_ne (by omega)]) (by rw [h3, upd_eq])]
    constructor
    · rintro (q | q | q | q)
      · exact Or.inl (Or.inl q)
      · exact Or.inl (Or.inr (Or.inl q))
      · exact Or.inl (Or.inr (Or.inr q))
      · exact Or.inr q
    · rintro ((q | q | q) | q)
      · exact Or.inl q
      · exact Or.inr (Or.inl q)
      · exact Or.inr (Or.inr (Or.inl q))
      · exact Or.inr (Or.inr (Or.inr q))
  · unfold Uo
    rw [hU 9 (by omega) (by omega) (by omega) (by omega)]
theorem Tg.putM {T U : St} {g g2 : Nat → Int32} {H P V B h a c : Nat} {m o : Int32} (hT : Tg T g H P V B m o) (hV : V < 12) (hU : ∀ k, k ≠ 7 → k ≠ 8 → k ≠ 9 → k ≠ 10 → U k = T k) (h2 : U 7 0 = nI (V + 1)) (h3 : U 8 = upd (T 8) V (nI a)) (h4 : U 9 = upd (T 9) V (nI c)) (h5 : U 10 = upd (T 10) V (nI h)) (hg : ∀ j, j < 40 + 3 * V ∨ (76 ≤ j ∧ j < 92 ∧ j ≠ 89) → g2 j = g j) (e : g2 (40 + 3 * V) = nI a ∧ g2 (40 + 3 * V + 1) = nI c ∧ g2 (40 + 3 * V + 2) = nI h ∧ g2 89 = nI (V + 1)) (hh : h < 8) (hc : c < 10) (ha : a < 36000) : Tg U g2 H P (V + 1) B (if nI h ≤ m then m else nI h) (if nI c ≤ o then o else nI c) := by
  obtain ⟨b1, ⟨s1, s2, s3, s4, s5, s6, s7, s8, s9⟩, b3, b4, b5, b6, b7⟩ := hT
  refine ⟨by omega, ⟨by rw [hU 0 (by omega) (by omega) (by omega) (by omega)]; exact s1, by rw [hU 2 (by omega) (by omega) (by omega) (by omega)]; exact s2, by rw [hg 88 (by omega)]; exact s3, h2, e.2.2.2, by rw [hU 11 (by omega) (by omega) (by omega) (by omega)]; exact s6, by rw [hg 90 (by omega)]; exact s7, by rw [hU 1 (by omega) (by omega) (by omega) (by omega), hg 91 (by omega)]; exact s8, by rw [hg 91 (by omega)]; exact s9⟩, b3.cg (fun p hp => by rw [hU 3 (by omega) (by omega) (by omega) (by omega), hU 4 (by omega) (by omega) (by omega) (by omega), hU 5 (by omega) (by omega) (by omega) (by omega), hU 6 (by omega) (by omega) (by omega) (by omega)]; exact ⟨rfl, rfl, rfl, rfl⟩) (fun j hj => hg j (by omega)), b4.add (fun p hp => by rw [h3, h4, h5, upd_ne (by omega), upd_ne (by omega), upd_ne (by omega)]; exact ⟨rfl, rfl, rfl⟩) (fun j q1 q2 => hg j (by omega)) (by rw [h3, h4, h5, upd_eq, upd_eq, upd_eq]; exact ⟨rfl, rfl, rfl⟩) ⟨e.1, e.2.1, e.2.2.1⟩ ⟨a, ha, rfl⟩ ⟨c, hc, rfl⟩ ⟨h, hh, rfl⟩, b5.cg (fun p hp => by rw [hU 12 (by omega) (by omega) (by omega) (by omega), hU 13 (by omega) (by omega) (by omega) (by omega), hU 14 (by omega) (by omega) (by omega) (by omega)]; exact ⟨rfl, rfl, rfl⟩) (fun j q1 q2 => hg j (by omega)), mxU_add (fun x => ?_) b6, mxU_add (fun x => ?_) b7⟩
  · unfold Us
    rw [hU 5 (by omega) (by omega) (by omega) (by omega), hU 12 (by omega) (by omega) (by omega) (by omega), ex_add (f := T 10) (v := nI h) (fun p hp => by rw [h5, upd_ne (by omega)]) (by rw [h5, upd_eq])]
    constructor
    · rintro (q | (q | q) | q)
      · exact Or.inl (Or.inl q)
      · exact Or.inl (Or.inr (Or.inl q))
      · exact Or.inr q
      · exact Or.inl (Or.inr (Or.inr q))
    · rintro ((q | q | q) | q)
      · exact Or.inl q
      · exact Or.inr (Or.inl (Or.inl q))
      · exact Or.inr (Or.inr q)
      · exact Or.inr (Or.inl (Or.inr q))
  · unfold Uo
    exact ex_add (f := T 9) (v := nI c) (fun p hp => by rw [h4, upd_ne (by omega)]) (by rw [h4, upd_eq])
theorem Tg.person {T U : St} {g g2 : Nat → Int32} {H P V B k a h : Nat} {m o x y : Int32} (hT : Tg T g H P V B m o) (hP : P < 10) (hU : ∀ k, k ≠ 2 → k ≠ 3 → k ≠ 4 → k ≠ 5 → k ≠ 6 → U k = T k) (h2 : U 2 0 = nI (P + 1)) (h3 : U 3 = upd (T 3) P (nI k)) (h4 : U 4 = upd (T 4) P (nI a)) (h5 : U 5 = upd (T 5) P (nI h)) (h6 : U 6 = upd (T 6) P x) (hg : ∀ j, j < 4 * P ∨ (40 ≤ j ∧ j < 92 ∧ j ≠ 88) → g2 j = g j) (e : g2 (4 * P) = nI k ∧ g2 (4 * P + 1) = nI a ∧ g2 (4 * P + 2) = nI h ∧ g2 (4 * P + 3) = y ∧ g2 88 = nI (P + 1)) (hk : k < 5) (ha : a < 36000) (hh : h < 8) (hd : dieR x y) : Tg U g2 H (P + 1) V B (if nI h ≤ m then m else nI h) o := by
  obtain ⟨b1, ⟨s1, s2, s3, s4, s5, s6, s7, s8, s9⟩, b3, b4, b5, b6, b7⟩ := hT
  refine ⟨by omega, ⟨by rw [hU 0 (by omega) (by omega) (by omega) (by omega) (by omega)]; exact s1, h2, e.2.2.2.2, by rw [hU 7 (by omega) (by omega) (by omega) (by omega) (by omega)]; exact s4, by rw [hg 89 (by omega)]; exact s5, by rw [hU 11 (by omega) (by omega) (by omega) (by omega) (by omega)]; exact s6, by rw [hg 90 (by omega)]; exact s7, by rw [hU 1 (by omega) (by omega) (by omega) (by omega) (by omega), hg 91 (by omega)]; exact s8, by rw [hg 91 (by omega)]; exact s9⟩, b3.add (fun p hp => by rw [h3, h4, h5, h6, upd_ne (by omega), upd_ne (by omega), upd_ne (by omega), upd_ne (by omega)]; exact ⟨rfl, rfl, rfl, rfl⟩) (fun j q1 => hg j (by omega)) (by rw [h3, h4, h5, h6, upd_eq, upd_eq, upd_eq, upd_eq]; exact ⟨rfl, rfl, rfl, rfl⟩) ⟨e.1, e.2.1, e.2.2.1, e.2.2.2.1⟩ ⟨k, hk, rfl⟩ ⟨a, ha, rfl⟩ ⟨h, hh, rfl⟩ hd, b4.cg (Nat.le_refl _) (fun p hp => by rw [hU 8 (by omega) (by omega) (by omega) (by omega) (by omega), hU 9 (by omega) (by omega) (by omega) (by omega) (by omega), hU 10 (by omega) (by omega) (by omega) (by omega) (by omega)]; exact ⟨rfl, rfl, rfl⟩) (fun j q1 q2 => hg j (by omega)), b5.cg (fun p hp => by rw [hU 12 (by omega) (by omega) (by omega) (by omega) (by omega), hU 13 (by omega) (by omega) (by omega) (by omega) (by omega), hU 14 (by omega) (by omega) (by omega) (by omega) (by omega)]; exact ⟨rfl, rfl, rfl⟩) (fun j q1 q2 => hg j (by omega)), mxU_add (fun x => ?_) b6, mxU_cg (fun x => ?_) b7⟩
  · unfold Us
    rw [hU 10 (by omega) (by omega) (by omega) (by omega) (by omega), hU 12 (by omega) (by omega) (by omega) (by omega) (by omega), ex_add (f := T 5) (v := nI h) (fun p hp => by rw [h5, upd_ne (by omega)]) (by rw [h5, upd_eq])]
    constructor
    · rintro ((q | q) | q | q)
      · exact Or.inl (Or.inl q)
      · exact Or.inr q
      · exact Or.inl (Or.inr (Or.inl q))
      · exact Or.inl (Or.inr (Or.inr q))
    · rintro ((q | q | q) | q)
      · exact Or.inl (Or.inl q)
      · exact Or.inr (Or.inl q)
      · exact Or.inr (Or.inr q)
      · exact Or.inl (Or.inr q)
  · unfold Uo
    rw [hU 9 (by omega) (by omega) (by omega) (by omega) (by omega)]
-- what a line leaves
def kM (M M' : St) : Prop := ∀ k, (k < 2 ∨ (7 < k ∧ k < 11) ∨ 16 < k) → M' k = M k
theorem kM.rf {M : St} : kM M M := fun _ _ => rfl
theorem kM.tr {A B C : St} (h : kM A B) (h2 : kM B C) : kM A C := fun k hk => (h2 k hk).trans (h k hk)
theorem kpM.m {M M' : St} (h : kpM M M') : kM M M' := fun k hk => h k (by omega)
theorem kM_st {M : St} {k : Nat} {f : Nat → Int32} (hk : (2 ≤ k ∧ k ≤ 7) ∨ (11 ≤ k ∧ k ≤ 16)) : kM M (st k f M) := fun j hj => st_ne (by omega)
theorem mTp.km {M M2 : St} {b : Nat → Int32} {L : Nat} (h : mTp M b L) (hk : kM M M2) : mTp M2 b L := h.cg (hk 8 (by omega)) (hk 9 (by omega))
def Bk (M : St) : Prop := ¬ M 11 0 ≤ 0 ∧ ¬ M 11 0 = 0
theorem Bk.st {M : St} {k : Nat} {f : Nat → Int32} (h : Bk M) (hk : 11 ≠ k) : Bk (st k f M) := by
  unfold Bk
  rw [st_ne hk]
  exact h
theorem Fl.cg {S S2 M M2 : St} (h : Fl S M) (h3 : S2 3 = S 3) (h4 : S2 4 = S 4) (m1 : M2 11 = M 11) (m2 : M2 12 = M 12) : Fl S2 M2 := by
  unfold Fl
  rw [h3, h4, m1, m2]
  exact h
theorem bk_64 {M : St} (h : Bk M) : f_X7_readLine_64 M = some M := by
  unfold f_X7_readLine_64 f_X7_readLine_84
  rw [if_neg h.2, bk_step h.1]
  rfl
theorem bk_day {M : St} (h : Bk M) (x : Int32) : f_X7_day x M = some ((360 : Int32) * 0 + 0, M) := by
  unfold f_X7_day f_X7_day_57
  rw [bk_num h.1 h.2, bd_s]
  dsimp only
  rw [if_neg h.2, bk_num h.1 h.2, bd_s]
theorem bk_house {M : St} (h : Bk M) : ∃ f : Nat → Int32, f_X7_house M = some (0, st 6 f M) := by
  unfold f_X7_house f_X7_house_25
  rw [bk_num h.1 h.2, bd_s]
  dsimp only
  by_cases c : 0 ≤ M 6 0
  · rw [if_pos c]
    exact ⟨_, rfl⟩
  · rw [if_neg c]
    exact ⟨_, rfl⟩
def Lo (F : Option (Int32 × St)) (R : Option St) (S M : St) (b : Nat → Int32) (L h : Nat) : Prop := ∃ (r : Int32) (S' M' : St), F = some (r, S') ∧ R = some M' ∧ kM M M' ∧ ((r = 0 ∧ Fl S' M') ∨ (r = 1 ∧ (∀ k, k < 3 → S' k = S k) ∧ S' 3 = S 3 ∧ S' 4 = S 4 ∧ ∃ t H P V B, h < t ∧ Sy S' M' b L t ∧ Tw S' M' H P V B))
/-- a line that fails at once -/
theorem f_at {S M : St} {b : Nat → Int32} {L h c : Nat} (h1 : 1 ≤ c) (h2 : c ≤ 6) (hl : Ld S M b L h) : (f_X3_fail (nI c) (S 7 0) (sb 0 S)).bind (fun q => zb q.1 (some (q.1, pt 0 16 q.2 S))) = some (0, st 4 (fun _ => nI h) (st 3 (fun _ => nI c) S)) ∧ f_X7_fails (nI c) M = some (st 12 (fun _ => M 14 0) (st 11 (fun _ => nI c) M)) ∧ Fl (st 4 (fun _ => nI h) (st 3 (fun _ => nI c) S)) (st 12 (fun _ => M 14 0) (st 11 (fun _ => nI c) M)) ∧ kM M (st 12 (fun _ => M 14 0) (st 11 (fun _ => nI c) M)) := by
  obtain ⟨-, -, ⟨-, -, t7, -⟩, ⟨-, -, m14, -⟩, c5⟩ := hl
  refine ⟨?_, ok_fails c5 _, Fl_mk h1 h2 m14, (kM_st (by omega)).tr (kM_st (by omega))⟩
  have e : pt 0 16 (st 4 (fun _ => nI h) (st 3 (fun _ => nI c) S)) S = st 4 (fun _ => nI h) (st 3 (fun _ => nI c) S) := pt_id (fun k hk => by rw [st_ne (by omega), st_ne (by omega)])
  unfold f_X3_fail
  rw [bd_s, sb0, t7]
  show zb (0 : Int32) (some ((0 : Int32), pt 0 16 (st 4 (fun _ => nI h) (st 3 (fun _ => nI c) S)) S)) = _
  rw [e]
  unfold zb
  rw [if_pos (Or.inl rfl)]
