-- can: the two sides
theorem vE_1 {g : Nat → Int32} {B h d s e : Nat} (hb : bt (nI s) e = true) : vE g B h d s e = true ↔ (iE g B h e = true ∧ aE g e ≤ d) := by
  unfold vE
  rw [if_pos hb, Bool.and_eq_true, decide_eq_true_iff]
theorem vE_0 {g : Nat → Int32} {B h d s e : Nat} (hb : bt (nI s) e = false) : vE g B h d s e = true ↔ (iE g B h e = true → d < bE g e) := by
  unfold vE
  rw [if_neg (by rw [hb]; decide), Bool.or_eq_true, decide_eq_true_iff]
  rcases tf (iE g B h e) with c | c
  · rw [c]
    constructor
    · rintro (q | q)
      · exact Bool.noConfusion q
      · exact fun _ => q
    · exact fun q => Or.inr (q rfl)
  · rw [c]
    constructor
    · exact fun _ q => Bool.noConfusion q
    · exact fun _ => Or.inl rfl
theorem dt_f {g : Nat → Int32} {d e c : Nat} (h1 : aE g e ≤ bE g e) : aE g e ≤ dt g d e c ∧ dt g d e c ≤ bE g e := by
  unfold dt
  repeat' split
  all_goals omega
theorem way_set {T : St} {g : Nat → Int32} {H P V B d : Nat} (hT : RT T g H P V B) (hd : d < 36000) (h w : Nat) : ∃ s, s < 16 ∧ vA g B h d s 4 = true ∧ cle (cL g d s) (cC g B h d w) 4 ∧ cle (cC g B h d w) (cH g d s) 4 := by
  obtain ⟨s, hs, hb⟩ := bits_of (fun e => iE g B h e && decide (dt g d e (w / 3 ^ xE g B h e % 3) ≤ d))
  have key : ∀ e, e < 4 → vE g B h d s e = true ∧ ((cL g d s e = none ∧ cC g B h d w e = none ∧ cH g d s e = none) ∨ ∃ x y z, cL g d s e = some x ∧ cC g B h d w e = some y ∧ cH g d s e = some z ∧ x ≤ y ∧ y ≤ z ∧ z < 101) := by
    intro e he
    have k : bt (nI s) e = (iE g B h e && decide (dt g d e (w / 3 ^ xE g B h e % 3) ≤ d)) := hb e he
    by_cases ci : iE g B h e = true
    · obtain ⟨-, -, -, -, -, e4, e5⟩ := hT.e_of (of_decide_eq_true ci).1
      have f := dt_f (d := d) (c := w / 3 ^ xE g B h e % 3) e4
      by_cases c : dt g d e (w / 3 ^ xE g B h e % 3) ≤ d
      · have k1 : bt (nI s) e = true := by
          rw [k, Bool.and_eq_true]
          exact ⟨ci, decide_eq_true c⟩
        have hL : cL g d s e = some ((d - (if bE g e ≤ d then bE g e else d)) / 360) := by
          unfold cL
          exact if_pos k1
        have hC : cC g B h d w e = some ((d - dt g d e (w / 3 ^ xE g B h e % 3)) / 360) := by
          unfold cC
          exact if_pos ⟨ci, c⟩
        have hH : cH g d s e = some ((d - aE g e) / 360) := by
          unfold cH
          exact if_pos k1
        refine ⟨(vE_1 k1).mpr ⟨ci, by omega⟩, Or.inr ⟨_, _, _, hL, hC, hH, ?_, ?_, ?_⟩⟩
        · generalize dt g d e (w / 3 ^ xE g B h e % 3) = D at *
          split <;> omega
        · generalize dt g d e (w / 3 ^ xE g B h e % 3) = D at *
          omega
        · omega
      · have k1 : bt (nI s) e = false := by
          rw [k, decide_eq_false c, Bool.and_false]
        have hL : cL g d s e = none := by
          unfold cL
          exact if_neg (by rw [k1]; decide)
        have hC : cC g B h d w e = none := by
          unfold cC
          exact if_neg (fun q => c q.2)
        have hH : cH g d s e = none := by
          unfold cH
          exact if_neg (by rw [k1]; decide)
        exact ⟨(vE_0 k1).mpr (fun _ => by omega), Or.inl ⟨hL, hC, hH⟩⟩
    · have k1 : bt (nI s) e = false := by
        rw [k, Bool.eq_false_iff.mpr ci, Bool.false_and]
      have hL : cL g d s e = none := by
        unfold cL
        exact if_neg (by rw [k1]; decide)
      have hC : cC g B h d w e = none := by
        unfold cC
        exact if_neg (fun q => ci q.1)
      have hH : cH g d s e = none := by
        unfold cH
        exact if_neg (by rw [k1]; decide)
      exact ⟨(vE_0 k1).mpr (fun q => absurd q ci), Or.inl ⟨hL, hC, hH⟩⟩
  refine ⟨s, hs, (vA_i 4).mpr (fun e he => (key e he).1), fun e he => ?_, fun e he => ?_⟩
  · rcases (key e he).2 with ⟨a, b, c⟩ | ⟨x, y, z, a, b, c, h1, h2, h3⟩
    · exact Or.inl ⟨a, b⟩
    · exact Or.inr ⟨x, y, a, b, h1, by omega⟩
  · rcases (key e he).2 with ⟨a, b, c⟩ | ⟨x, y, z, a, b, c, h1, h2, h3⟩
    · exact Or.inl ⟨b, c⟩
    · exact Or.inr ⟨y, z, b, c, h2, h3⟩
theorem set_way {T : St} {g : Nat → Int32} {H P V B d s : Nat} (hT : RT T g H P V B) (h : Nat) (hv : vA g B h d s 4 = true) : (∃ w, w < 3 ^ xE g B h B ∧ ∀ e, e < 4 → cC g B h d w e = cL g d s e) ∧ ∃ w, w < 3 ^ xE g B h B ∧ ∀ e, e < 4 → cC g B h d w e = cH g d s e := by
  have hv' := (vA_i 4).mp hv
  constructor
  · obtain ⟨w, h1, h2⟩ := way_of (g := g) (B := B) (h := h) (fun e => if bt (nI s) e = true then 1 else 2) (fun e => by split <;> omega) B
    refine ⟨w, h1, fun e he => ?_⟩
    have v := hv' e he
    rcases tf (bt (nI s) e) with c | c
    · obtain ⟨ci, ca'⟩ := (vE_1 c).mp v
      have hB := (of_decide_eq_true ci).1
      obtain ⟨-, -, -, -, -, e4, e5⟩ := hT.e_of hB
      have k := h2 e hB ci
      rw [if_pos c] at k
      unfold cC cL dt
      rw [k, if_pos c, if_neg (show ¬ 1 = 0 by omega), if_pos rfl, if_pos ⟨ci, by repeat' split
                                                                                  all_goals omega⟩]
      refine congrArg some ?_
      repeat' split
      all_goals omega
    · unfold cC cL
      rw [if_neg (show ¬ bt (nI s) e = true by rw [c]; decide), if_neg]
      rintro ⟨ci, hle⟩
      have hB := (of_decide_eq_true ci).1
      have q := (vE_0 c).mp v ci
      have k := h2 e hB ci
      rw [if_neg (by rw [c]; decide)] at k
      rw [k] at hle
      unfold dt at hle
      rw [if_neg (by omega), if_neg (by omega)] at hle
      omega
  · obtain ⟨w, h1, h2⟩ := way_of (g := g) (B := B) (h := h) (fun e => if bt (nI s) e = true then 0 else 2) (fun e => by split <;> omega) B
    refine ⟨w, h1, fun e he => ?_⟩
    have v := hv' e he
    rcases tf (bt (nI s) e) with c | c
    · obtain ⟨ci, ca'⟩ := (vE_1 c).mp v
      have hB := (of_decide_eq_true ci).1
      have k := h2 e hB ci
      rw [if_pos c] at k
      unfold cC cH dt
      rw [k, if_pos c, if_pos rfl, if_pos ⟨ci, ca'⟩]
    · unfold cC cH
      rw [if_neg (show ¬ bt (nI s) e = true by rw [c]; decide), if_neg]
      rintro ⟨ci, hle⟩
      have hB := (of_decide_eq_true ci).1
      have q := (vE_0 c).mp v ci
      have k := h2 e hB ci
      rw [if_neg (by rw [c]; decide)] at k
      rw [k] at hle
      unfold dt at hle
      rw [if_neg (by omega), if_neg (by omega)] at hle
      omega
theorem ok4_cf {c : Nat → Option Nat} {q : Q4} {k : Nat} (h : ok4 q k) : ∀ n, k + n < 1000 → (∀ e y, e < n → c e = some y → y < 101) → ok4 (cf c q n) (k + n)
  | 0, _, _ => h
  | n + 1, hn, hc => by
    have ih := ok4_cf (c := c) h n (by omega) (fun e y he q => hc e y (by omega) q)
    show ok4 ((c n).elim (cf c q n) (fun y => stp (nI y) 1 (cf c q n))) (k + n + 1)
    cases z : c n with
    | none => exact ok4_up ih (by omega)
    | some y => exact ok4_stp ih (by omega) ⟨y, hc n y (by omega) z, rfl⟩ (Or.inl rfl)
/-- the number of a house with those of the expected who are there -/
def nC (g : Nat → Int32) (P V : Nat) (h d : Nat) (c : Nat → Option Nat) : Int32 := told (g 91) (cf c (acc g V (nI h) (nI d) (0, 0, 0, 0) P) 4)
theorem RT.nC_nr {T : St} {g : Nat → Int32} {H P V B d : Nat} (hT : RT T g H P V B) (hd : d < 36000) (h : Nat) (c : Nat → Option Nat) (hc : ∀ e y, e < 4 → c e = some y → y < 101) : nr (nC g P V h d c) := by
  have hb := hT.1
  have k := ok4_cf (base_ok hT hd (nI h)) 4 (by omega) hc
  rcases told_rg (k := 0 + P + 4) (by omega) k (g 91) with ⟨-, e⟩ | ⟨-, e⟩
  · exact Or.inl e
  · exact Or.inr e
theorem cC_y {g : Nat → Int32} {B h d w e y : Nat} (hd : d < 36000) (q : cC g B h d w e = some y) : y < 101 := by
  unfold cC at q
  by_cases c : iE g B h e = true ∧ dt g d e (w / 3 ^ xE g B h e % 3) ≤ d
  · rw [if_pos c] at q
    have := Option.some.inj q
    omega
  · rw [if_neg c] at q
    cases q
theorem cL_y {g : Nat → Int32} {d s e y : Nat} (hd : d < 36000) (q : cL g d s e = some y) : y < 101 := by
  unfold cL at q
  by_cases c : bt (nI s) e = true
  · rw [if_pos c] at q
    have := Option.some.inj q
    split at this <;> omega
  · rw [if_neg c] at q
    cases q
theorem cH_y {g : Nat → Int32} {d s e y : Nat} (hd : d < 36000) (q : cH g d s e = some y) : y < 101 := by
  unfold cH at q
  by_cases c : bt (nI s) e = true
  · rw [if_pos c] at q
    have := Option.some.inj q
    omega
  · rw [if_neg c] at q
    cases q
theorem RT.fr2 {G0 G : St} {g : Nat → Int32} {H P V B : Nat} (h : RT G0 g H P V B) (hG : FG G0 G) : RT G g H P V B := h.cg (fun k hk => hG k (Or.inl hk)) (fun _ _ => rfl)
theorem C_can_l {G0 : St} {g : Nat → Int32} {H P V B h d : Nat} (hT : RT G0 g H P V B) (hd : d < 36000) (hh : h < H) (x3 : Int32) : ∀ (r w n : Nat) (x5 x6 x7 : Int32) (G : St), w + r = 3 ^ xE g B h B → r < n → FG G0 G → BX (sb 32 G) g H P V B h (xE g B h B) → Lst (fk (fun w => nC g P V h d (cC g B h d w)) (fun _ => True) w) x5 → Mst (fk (fun w => nC g P V h d (cC g B h d w)) (fun _ => True) w) x6 → nr x6 → Wst (fk (fun w => nC g P V h d (cC g B h d w)) (fun _ => True) w) x7 → ∃ (l m u : Int32) (G' : St), f_X6_can_64 n (nI h) (nI d) x3 (nI (3 ^ xE g B h B)) x5 x6 x7 (nI w) G = f_X6_can_146 x3 l m u G' ∧ FG G0 G' ∧ Lst (fk (fun w => nC g P V h d (cC g B h d w)) (fun _ => True) (3 ^ xE g B h B)) l ∧ Mst (fk (fun w => nC g P V h d (cC g B h d w)) (fun _ => True) (3 ^ xE g B h B)) m ∧ Wst (fk (fun w => nC g P V h d (cC g B h d w)) (fun _ => True) (3 ^ xE g B h B)) u := by
  have hb := hT.1
  have xB := xE_b (g := g) (B := B) (h := h) (e := B)
  have kb : 3 ^ xE g B h B ≤ 3 ^ 4 := Nat.pow_le_pow_right (by decide) (by omega)
  have k81 : 3 ^ 4 = 81 := rfl
  intro r
  induction r with
  | zero =>
    intro w n x5 x6 x7 G h1 h2 hG hx l m nm u
    obtain ⟨n, rfl⟩ : ∃ z, n = z + 1 := ⟨n - 1, by omega⟩
    obtain rfl : w = 3 ^ xE g B h B := by omega
    exact ⟨x5, x6, x7, G, by rw [f_X6_can_64_s, if_pos (nI_le (Nat.le_refl _) (by omega))], hG, l, m, u⟩
  | succ r ih =>
    intro w n x5 x6 x7 G h1 h2 hG hx l m nm u
    obtain ⟨n, rfl⟩ : ∃ z, n = z + 1 := ⟨n - 1, by omega⟩
    have t2 : G 2 0 = nI P := by
      rw [hG 2 (by omega)]
      exact hT.2.1.2.1
    rw [f_X6_can_64_s, if_neg (nI_ge (by omega) (by omega))]
    have hJ : BX (jn 32 (sb 32 G) (sb 0 G)) g H P V B h (xE g B h B) := hx.ext (fun k hk _ => jn_lo (by omega)) (fun p hp => by rw [jn_lo (by omega)])
    have e0 : xE g B h 0 = 0 := rfl
    obtain ⟨q, c1, c2, c3, c4, c5⟩ := C_choose_l (w := w) hd (by omega) B 0 1000 _ (by omega) (by omega) hJ
    rw [e0, Nat.pow_zero, Nat.div_one, Nat.add_zero] at c1
    have j34 : (jn 32 (sb 32 G) (sb 0 G)) 34 0 = nI P := t2
    have c1' : f_X5_chooseBirths (nI h) (nI d) (nI w) (jn 32 (sb 32 G) (sb 0 G)) = some q := by
      unfold f_X5_chooseBirths
      rw [j34]
      exact c1
    rw [c1', bd_s]
    have s1 : ∀ k, k < 32 → sb 32 (pt 0 32 (sb 32 q) (pt 32 32 q G)) k = q k := by
      intro k hk
      show pt 0 32 (sb 32 q) (pt 32 32 q G) (32 + k) = q k
      rw [pt_out (by omega), pt_in (by omega) (by omega)]
      exact congrArg q (by omega)
    have hx1 : BX (sb 32 (pt 0 32 (sb 32 q) (pt 32 32 q G))) g H P V B h (xE g B h B) := hJ.ext (fun k hk k4 => by rw [s1 k (by omega), c2 k k4]) (fun p hp => by rw [s1 4 (by omega), c3 p (by omega)])
    obtain ⟨T1, n1, n2⟩ := C_num_x (w := w) hd hh hx1 (fun j hj => by rw [s1 4 (by omega)]; exact c4 j (by omega) hj) (fun e he ci => by rw [s1 4 (by omega)]; exact c5 e (by omega) he ci)
    rw [n1, bd_s]
    have hx2 : BX (sb 32 (pt 32 32 T1 (pt 0 32 (sb 32 q) (pt 32 32 q G)))) g H P V B h (xE g B h B) := hx1.ext (fun k hk k4 => by rw [sbpt (by omega)]; exact n2 k (by omega)) (fun p hp => by rw [sbpt (by omega), n2 4 (by omega)])
    have hG2 : FG G0 (pt 32 32 T1 (pt 0 32 (sb 32 q) (pt 32 32 q G))) := by
      intro k hk
      rw [pt_out (by omega)]
      by_cases z : k < 32
      · rw [pt_in (by omega) (by omega)]
        show q (32 + (k - 0)) = G0 k
        rw [c2 _ (by omega), jn_hi (by omega)]
        show G (0 + (32 + (k - 0) - 32)) = G0 k
        rw [show 0 + (32 + (k - 0) - 32) = k by omega]
        exact hG k hk
      · rw [pt_out (by omega), pt_out (by omega)]
        exact hG k hk
    have nv : nr (nC g P V h d (cC g B h d w)) := hT.nC_nr hd h _ (fun e y he z => cC_y hd z)
    have fS := fk_s (N := fun w => nC g P V h d (cC g B h d w)) (ok := fun _ => True) (k := w) trivial
    have lS := Lst_add fS l
    have mS := Mst_add fS nv nm m
    have uS := Wst_add fS u
    have ne : told (g 91) (cf (cC g B h d w) (acc g V (nI h) (nI d) (0, 0, 0, 0) P) 4) = nC g P V h d (cC g B h d w) := rfl
    dsimp only
    rw [ne]
    generalize hv : nC g P V h d (cC g B h d w) = v at *
    generalize pt 32 32 T1 (pt 0 32 (sb 32 q) (pt 32 32 q G)) = G2 at *
    unfold f_X6_can_129 f_X6_can_140
    rw [p1]
    by_cases z : v = -4
    · rw [if_pos z] at lS uS
      rw [if_pos z]
      rw [z, if_pos (nr_ge nm)] at mS
      exact ih (w + 1) n x5 x6 1 G2 (by omega) (by omega) hG2 hx2 lS mS nm uS
    · rw [if_neg z] at lS uS
      have mr : nr (if v ≤ x6 then x6 else v) := by
        split
        · exact nm
        · exact nv
      rw [if_neg z, zmax_e]
      by_cases z2 : x5 = -4
      · rw [if_pos z2] at lS
        rw [if_pos z2]
        exact ih (w + 1) n v _ x7 G2 (by omega) (by omega) hG2 hx2 lS mS mr uS
      · rw [if_neg z2] at lS
        rw [if_neg z2, zmin_e]
        exact ih (w + 1) n _ _ x7 G2 (by omega) (by omega) hG2 hx2 lS mS mr uS
theorem M_canBe_l {T M : St} {H P V B h d s : Nat} (hT : RT T (M 0) H P V B) (hd : d < 36000) : ∀ (r e n : Nat), e + r = 4 → r < n → f_X7_canBe_6 n (nI h) (nI d) (nI s) (if vA (M 0) B h d s e = true then 1 else 0) (nI e) M = some (if vA (M 0) B h d s 4 = true then 1 else 0) := by
  have hb := hT.1
  obtain ⟨t0, t2, g88, t7, g89, t11, g90, -⟩ := id hT.2.1
  intro r
  induction r with
  | zero =>
    intro e n h1 h2
    obtain ⟨n, rfl⟩ : ∃ z, n = z + 1 := ⟨n - 1, by omega⟩
    obtain rfl : e = 4 := by omega
    have q : (4 : Int32) ≤ nI 4 := nI_le (a := 4) (Nat.le_refl _) (by omega)
    rw [f_X7_canBe_6_s, if_pos q]
    rcases tf (vA (M 0) B h d s 4) with c | c
    · rw [c]
      rfl
    · rw [c]
      rfl
  | succ r ih =>
    intro e n h1 h2
    obtain ⟨n, rfl⟩ : ∃ z, n = z + 1 := ⟨n - 1, by omega⟩
    have q : ¬ (4 : Int32) ≤ nI e := nI_ge (b := 4) (by omega) (by omega)
    have k := ih (e + 1) n (by omega) (by omega)
    have es : vA (M 0) B h d s (e + 1) = (vA (M 0) B h d s e && vE (M 0) B h d s e) := rfl
    rw [es] at k
    rw [f_X7_canBe_6_s, if_neg q, i90, ix_in (by omega) (by omega), tN_nI (by omega), g90, i76, ad3, ix_in (by omega) (by omega), tN_nI (by omega)]
    have s49 : f_X7_canBe_49 (f_X7_canBe_6 n) (nI h) (nI d) (nI s) (if vA (M 0) B h d s e = true then 1 else 0) (nI e) (nI (76 + 3 * e)) (if iE (M 0) B h e = true then 1 else 0) M = some (if vA (M 0) B h d s 4 = true then 1 else 0) := by
      unfold f_X7_canBe_49 f_X7_canBe_66 f_X7_canBe_121 f_X7_canBe_117 f_X7_canBe_122
      rw [b_tst1 (nI s) (show e < 32 by omega), p1, p1, p2]
      rcases tf (vA (M 0) B h d s e) with c | c
      · rw [c, Bool.true_and] at k
        rw [if_pos c, if_neg (show ¬ (1 : Int32) = 0 by decide), if_neg (show ¬ (1 : Int32) = 0 by decide), if_neg (show ¬ (1 : Int32) = 0 by decide), if_pos (show (0 : Int32) = 0 from rfl)]
        rcases tf (bt (nI s) e) with b | b
        · rw [if_pos b, if_pos rfl]
          have v := vE_1 (g := M 0) (B := B) (h := h) (d := d) b
          by_cases ci : iE (M 0) B h e = true
          · obtain ⟨-, -, -, f1, f2, f3, f4⟩ := hT.e_of (of_decide_eq_true ci).1
            rw [if_pos ci, if_neg (by decide), ix_in (by omega) (by omega), tN_nI (by omega), f1]
            by_cases a : aE (M 0) e ≤ d
            · rw [v.mpr ⟨ci, a⟩] at k
              rw [if_neg (nI_nlt a (by omega))]
              exact k
            · rw [Bool.eq_false_iff.mpr (fun z => a (v.mp z).2)] at k
              rw [if_pos (nI_lt (by omega) (by omega))]
              exact k
          · rw [Bool.eq_false_iff.mpr (fun z => ci (v.mp z).1)] at k
            rw [if_neg ci, if_pos rfl]
            exact k
        · rw [b, if_neg (show ¬ false = true by decide), if_neg (show ¬ (0 : Int32) = 1 by decide)]
          have v := vE_0 (g := M 0) (B := B) (h := h) (d := d) b
          by_cases ci : iE (M 0) B h e = true
          · obtain ⟨-, -, -, f1, f2, f3, f4⟩ := hT.e_of (of_decide_eq_true ci).1
            rw [if_pos ci, if_neg (by decide), ix_in (by omega) (by omega), tN_nI (by omega), f2]
            by_cases a : bE (M 0) e ≤ d
            · rw [show vE (M 0) B h d s e = false from Bool.eq_false_iff.mpr (fun z => by have := v.mp z ci; omega)] at k
              rw [if_pos (nI_le a (by omega))]
              exact k
            · rw [v.mpr (fun _ => by omega)] at k
              rw [if_neg (nI_ge (by omega) (by omega))]
              exact k
          · rw [v.mpr (fun z => absurd z ci)] at k
            rw [if_neg ci, if_pos rfl]
            exact k
      · rw [c, Bool.false_and] at k
        rw [c, if_neg (show ¬ false = true by decide), if_pos (show (0 : Int32) = 0 from rfl), if_pos (show (0 : Int32) = 0 from rfl)]
        have k' : f_X7_canBe_6 n (nI h) (nI d) (nI s) 0 (nI (e + 1)) M = some (if vA (M 0) B h d s 4 = true then 1 else 0) := k
        rw [k']
        split <;> rfl
    unfold f_X7_canBe_48
    by_cases a : B ≤ e
    · have ci : ¬ iE (M 0) B h e = true := fun z => by have := (of_decide_eq_true z).1; omega
      rw [if_neg ci] at s49
      rw [if_pos (nI_le a (by omega))]
      exact s49
    · rw [if_neg (nI_ge (by omega) (by omega))]
      by_cases c : M 0 (76 + 3 * e) = nI h
      · have ci : iE (M 0) B h e = true := decide_eq_true ⟨by omega, c⟩
        rw [if_pos ci] at s49
        rw [if_pos c]
        exact s49
      · have ci : ¬ iE (M 0) B h e = true := fun z => c (of_decide_eq_true z).2
        rw [if_neg ci] at s49
        rw [if_neg c]
        exact s49
theorem M_canBe {T M : St} {H P V B h d s : Nat} (hT : RT T (M 0) H P V B) (hd : d < 36000) : f_X7_canBe (nI h) (nI d) (nI s) M = some (if vA (M 0) B h d s 4 = true then 1 else 0) := by
  unfold f_X7_canBe
  exact M_canBe_l hT hd 4 0 1000 (by omega) (by omega)
theorem M_layH {T M : St} {H P V B : Nat} (hT : RT T (M 0) H P V B) (house day : Int32) : ∃ M' : St, f_X7_layHouse 0 house day M = some M' ∧ Fr M M' ∧ eqv (q4 M') (acc (M 0) V house day (0, 0, 0, 0) P) := by
  have hb := hT.1
  obtain ⟨t0, t2, g88, t7, g89, t11, g90, -⟩ := id hT.2.1
  unfold f_X7_layHouse
  rw [M_empties, bd_s]
  have hF : Fr M (st 20 (fun _ => 0) (st 19 (fun _ => 0) M)) := by
    intro k hk
    rw [st_ne (by omega), st_ne (by omega)]
  have hq : q4 (st 20 (fun _ => 0) (st 19 (fun _ => 0) M)) = (0, 0, M 21 0, M 22 0) := rfl
  obtain ⟨M', h1, h2, h3⟩ := M_lay_l M 0 V P house day (by simpa using g89) (by omega) (by simpa using g88) (by omega) (by omega) (0, 0, M 21 0, M 22 0) 1000 0 _ hF (by omega) (by omega) hq
  have h1' : f_X7_layHouse_7 1000 0 house day 0 (st 20 (fun _ => 0) (st 19 (fun _ => 0) M)) = some M' := h1
  rw [pg0] at h3
  refine ⟨M', h1', h2, ?_⟩
  rw [h3]
  have e0 : eqv ((0, 0, M 21 0, M 22 0) : Q4) (0, 0, 0, 0) := ⟨rfl, rfl, Or.inl rfl⟩
  exact eqv_acc e0 P
theorem M_nw_l {T M0 : St} {H P V B h d s : Nat} (hT : RT T (M0 0) H P V B) (hd : d < 36000) (hv : vA (M0 0) B h d s 4 = true) (x4 : Int32) (c : Nat → Option Nat) (hc : (x4 = 0 ∧ c = cL (M0 0) d s) ∨ (x4 = 1 ∧ c = cH (M0 0) d s)) (q : Q4) : ∀ (r e n : Nat) (M : St), e + r = 4 → r < n → Fr M0 M → q4 M = cf c q e → ∃ M' : St, f_X7_numberWith_10 n (nI d) (nI s) x4 (nI e) M = f_X7_numberWith_97 M' ∧ Fr M0 M' ∧ q4 M' = cf c q 4 := by
  have hv' := (vA_i 4).mp hv
  intro r
  induction r with
  | zero =>
    intro e n M h1 h2 hF hq
    obtain ⟨n, rfl⟩ : ∃ z, n = z + 1 := ⟨n - 1, by omega⟩
    obtain rfl : e = 4 := by omega
    have q : (4 : Int32) ≤ nI 4 := nI_le (a := 4) (Nat.le_refl _) (by omega)
    exact ⟨M, by rw [f_X7_numberWith_10_s, if_pos q], hF, hq⟩
  | succ r ih =>
    intro e n M h1 h2 hF hq
    obtain ⟨n, rfl⟩ : ∃ z, n = z + 1 := ⟨n - 1, by omega⟩
    have z4 : ¬ (4 : Int32) ≤ nI e := nI_ge (b := 4) (by omega) (by omega)
    have es : cf c q (e + 1) = (c e).elim (cf c q e) (fun y => stp (nI y) 1 (cf c q e)) := rfl
    have e0 : M 0 = M0 0 := hF 0 (by omega)
    rw [f_X7_numberWith_10_s, if_neg z4, b_tst1 (nI s) (show e < 32 by omega)]
    rcases tf (bt (nI s) e) with b | b
    · obtain ⟨ci, ca'⟩ := (vE_1 b).mp (hv' e (by omega))
      obtain ⟨-, -, -, f1, f2, f3, f4⟩ := hT.e_of (of_decide_eq_true ci).1
      have go : ∀ y : Nat, c e = some y → ∀ z : Int32, z / 360 = nI y → ∀ y1 y2 : Int32, y1 - y2 = z → ∃ M' : St, f_X7_numberWith_82 (f_X7_numberWith_10 n) (nI d) (nI s) x4 (nI e) y1 y2 M = f_X7_numberWith_97 M' ∧ Fr M0 M' ∧ q4 M' = cf c q 4 := by
        intro y hy z hz y1 y2 hz2
        unfold f_X7_numberWith_82 f_X7_numberWith_91
        obtain ⟨M2, k1, k2, k3⟩ := M_tells M (nI y) 1
        rw [hz2, hz, k1, bd_s, p1]
        refine ih (e + 1) n M2 (by omega) (by omega) (hF.tr k2) ?_
        rw [k3, hq, es, hy]
        rfl
      rw [if_pos b, if_pos rfl, i76, ad3, p1, p2, ix_in (by omega) (by omega), ix_in (by omega) (by omega), tN_nI (by omega), tN_nI (by omega), e0, f1, f2]
      rcases hc with ⟨hx, hc⟩ | ⟨hx, hc⟩
      · rw [if_pos hx]
        by_cases a : d ≤ bE (M0 0) e
        · rw [if_pos (nI_le a (by omega))]
          refine go ((d - d) / 360) ?_ (nI (d - d)) (by rw [i360, nI_div _ _ (by omega) (by omega)]) _ _ (nI_sub (Nat.le_refl d))
          rw [hc]
          unfold cL
          rw [if_pos b]
          refine congrArg some ?_
          split <;> omega
        · rw [if_neg (nI_ge (by omega) (by omega))]
          refine go ((d - bE (M0 0) e) / 360) ?_ (nI (d - bE (M0 0) e)) (by rw [i360, nI_div _ _ (by omega) (by omega)]) _ _ (nI_sub (by omega))
          rw [hc]
          unfold cL
          rw [if_pos b, if_pos (by omega)]
      · rw [if_neg (by rw [hx]; decide)]
        refine go ((d - aE (M0 0) e) / 360) ?_ (nI (d - aE (M0 0) e)) (by rw [i360, nI_div _ _ (by omega) (by omega)]) _ _ (nI_sub ca')
        rw [hc]
        unfold cH
        rw [if_pos b]
    · rw [b, if_neg (show ¬ false = true by decide), if_neg (show ¬ (0 : Int32) = 1 by decide)]
      unfold f_X7_numberWith_91
      rw [p1]
      refine ih (e + 1) n M (by omega) (by omega) hF ?_
      have cn : c e = none := by
        rcases hc with ⟨hx, hc⟩ | ⟨hx, hc⟩
        · rw [hc]
          unfold cL
          rw [if_neg (by rw [b]; decide)]
        · rw [hc]
          unfold cH
          rw [if_neg (by rw [b]; decide)]
      rw [es, cn, hq]
      rfl
theorem M_nw {T M : St} {H P V B h d s : Nat} (hT : RT T (M 0) H P V B) (hd : d < 36000) (hv : vA (M 0) B h d s 4 = true) (x4 : Int32) (c : Nat → Option Nat) (hc : (x4 = 0 ∧ c = cL (M 0) d s) ∨ (x4 = 1 ∧ c = cH (M 0) d s)) : ∃ M' : St, f_X7_numberWith (nI h) (nI d) (nI s) x4 M = some (nC (M 0) P V h d c, M') ∧ Fr M M' := by
  unfold f_X7_numberWith
  obtain ⟨M1, k1, k2, k3⟩ := M_layH hT (nI h) (nI d)
  have e0 : M1 0 = M 0 := k2 0 (by omega)
  obtain ⟨M2, n1, n2, n3⟩ := M_nw_l (T := T) (M0 := M1) (H := H) (P := P) (V := V) (B := B) (h := h) (s := s) (by rw [e0]; exact hT) hd (by rw [e0]; exact hv) x4 c (by rw [e0]; exact hc) (q4 M1) 4 0 1000 M1 (by omega) (by omega) Fr.rf rfl
  have n1' : f_X7_numberWith_10 1000 (nI d) (nI s) x4 0 M1 = f_X7_numberWith_97 M2 := n1
  have e1 : M2 0 = M 0 := (n2 0 (by omega)).trans e0
  rw [k1, bd_s, n1']
  unfold f_X7_numberWith_97
  rw [i91, ix_in (by omega) (by omega), tN_nI (by omega), M_toldBy, bd_s, n3, e1, eqv_told (eqv_cf k3 4)]
  exact ⟨M2, rfl, k2.tr n2⟩
theorem M_can_l {T M0 : St} {H P V B h d : Nat} (hT : RT T (M0 0) H P V B) (hd : d < 36000) (x3 : Int32) : ∀ (r s n : Nat) (x4 x5 x6 : Int32) (M : St), s + r = 16 → r < n → Fr M0 M → Lst (fk (fun s => nC (M0 0) P V h d (cL (M0 0) d s)) (fun s => vA (M0 0) B h d s 4 = true) s) x4 → Mst (fk (fun s => nC (M0 0) P V h d (cH (M0 0) d s)) (fun s => vA (M0 0) B h d s 4 = true) s) x5 → nr x5 → Wst (fk (fun s => nC (M0 0) P V h d (cL (M0 0) d s)) (fun s => vA (M0 0) B h d s 4 = true) s) x6 → ∃ (l m u : Int32) (M' : St), f_X7_can_43 n (nI h) (nI d) x3 x4 x5 x6 (nI s) M = f_X7_can_150 x3 l m u M' ∧ Fr M0 M' ∧ Lst (fk (fun s => nC (M0 0) P V h d (cL (M0 0) d s)) (fun s => vA (M0 0) B h d s 4 = true) 16) l ∧ Mst (fk (fun s => nC (M0 0) P V h d (cH (M0 0) d s)) (fun s => vA (M0 0) B h d s 4 = true) 16) m ∧ Wst (fk (fun s => nC (M0 0) P V h d (cL (M0 0) d s)) (fun s => vA (M0 0) B h d s 4 = true) 16) u := by
  intro r
  induction r with
  | zero =>
    intro s n x4 x5 x6 M h1 h2 hF l m nm u
    obtain ⟨n, rfl⟩ : ∃ z, n = z + 1 := ⟨n - 1, by omega⟩
    obtain rfl : s = 16 := by omega
    have q : (16 : Int32) ≤ nI 16 := nI_le (a := 16) (Nat.le_refl _) (by omega)
    exact ⟨x4, x5, x6, M, by rw [f_X7_can_43_s, if_pos q], hF, l, m, u⟩
  | succ r ih =>
    intro s n x4 x5 x6 M h1 h2 hF l m nm u
    obtain ⟨n, rfl⟩ : ∃ z, n = z + 1 := ⟨n - 1, by omega⟩
    have z4 : ¬ (16 : Int32) ≤ nI s := nI_ge (b := 16) (by omega) (by omega)
    have e0 : M 0 = M0 0 := hF 0 (by omega)
    rw [f_X7_can_43_s, if_neg z4, M_canBe (T := T) (H := H) (P := P) (V := V) (B := B) (by rw [e0]; exact hT) hd, e0]
    rcases tf (vA (M0 0) B h d s 4) with c | c
    · rw [vb_t c]
      obtain ⟨M1, k1, k2⟩ := M_nw (T := T) (M := M) (H := H) (P := P) (V := V) (B := B) (h := h) (s := s) (by rw [e0]; exact hT) hd (by rw [e0]; exact c) 0 _ (Or.inl ⟨rfl, rfl⟩)
      have e1 : M1 0 = M0 0 := (k2 0 (by omega)).trans e0
      obtain ⟨M2, k3, k4⟩ := M_nw (T := T) (M := M1) (H := H) (P := P) (V := V) (B := B) (h := h) (s := s) (by rw [e1]; exact hT) hd (by rw [e1]; exact c) 1 _ (Or.inr ⟨rfl, rfl⟩)
      rw [e0] at k1
      rw [e1] at k3
      rw [k1, bd_s, k3, bd_s]
      have hF2 := (hF.tr k2).tr k4
      have nl : nr (nC (M0 0) P V h d (cL (M0 0) d s)) := hT.nC_nr hd h _ (fun e y he z => cL_y hd z)
      have nh : nr (nC (M0 0) P V h d (cH (M0 0) d s)) := hT.nC_nr hd h _ (fun e y he z => cH_y hd z)
      have lS := Lst_add (fk_s (N := fun s => nC (M0 0) P V h d (cL (M0 0) d s)) (ok := fun s => vA (M0 0) B h d s 4 = true) (k := s) c) l
      have mS := Mst_add (fk_s (N := fun s => nC (M0 0) P V h d (cH (M0 0) d s)) (ok := fun s => vA (M0 0) B h d s 4 = true) (k := s) c) nh nm m
      have uS := Wst_add (fk_s (N := fun s => nC (M0 0) P V h d (cL (M0 0) d s)) (ok := fun s => vA (M0 0) B h d s 4 = true) (k := s) c) u
      dsimp only
      generalize nC (M0 0) P V h d (cL (M0 0) d s) = v at *
      generalize nC (M0 0) P V h d (cH (M0 0) d s) = v2 at *
      have mr : nr (if v2 ≤ x5 then x5 else v2) := by
        split
        · exact nm
        · exact nh
      have fin : ∀ lo un : Int32, Lst (fk (fun s => nC (M0 0) P V h d (cL (M0 0) d s)) (fun s => vA (M0 0) B h d s 4 = true) (s + 1)) lo → Wst (fk (fun s => nC (M0 0) P V h d (cL (M0 0) d s)) (fun s => vA (M0 0) B h d s 4 = true) (s + 1)) un → ∃ (l m u : Int32) (M' : St), f_X7_can_126 (f_X7_can_43 n) (nI h) (nI d) x3 x5 un (nI s) v2 lo M2 = f_X7_can_150 x3 l m u M' ∧ Fr M0 M' ∧ Lst (fk (fun s => nC (M0 0) P V h d (cL (M0 0) d s)) (fun s => vA (M0 0) B h d s 4 = true) 16) l ∧ Mst (fk (fun s => nC (M0 0) P V h d (cH (M0 0) d s)) (fun s => vA (M0 0) B h d s 4 = true) 16) m ∧ Wst (fk (fun s => nC (M0 0) P V h d (cL (M0 0) d s)) (fun s => vA (M0 0) B h d s 4 = true) 16) u := by
        intro lo un q1 q2
        unfold f_X7_can_126 f_X7_can_142 f_X7_can_144
        rw [p1]
        by_cases w : v2 ≤ x5
        · rw [if_pos w] at mS mr
          rw [if_pos w]
          exact ih (s + 1) n lo x5 un M2 (by omega) (by omega) hF2 q1 mS mr q2
        · rw [if_neg w] at mS mr
          rw [if_neg w]
          exact ih (s + 1) n lo v2 un M2 (by omega) (by omega) hF2 q1 mS mr q2
      unfold f_X7_can_96 f_X7_can_119 f_X7_can_124
      by_cases z : v = -4
      · rw [if_pos z] at lS uS
        rw [if_pos z, if_pos z]
        exact fin x4 1 lS uS
      · rw [if_neg z] at lS uS
        rw [if_neg z, if_neg z]
        by_cases z2 : x4 = -4
        · rw [if_pos z2] at lS
          rw [if_pos z2]
          exact fin v x6 lS uS
        · rw [if_neg z2] at lS
          rw [if_neg z2]
          by_cases z3 : x4 ≤ v
          · rw [if_pos z3] at lS
            rw [if_pos z3]
            exact fin x4 x6 lS uS
          · rw [if_neg z3] at lS
            rw [if_neg z3]
            exact fin v x6 lS uS
    · rw [vb_f c]
      unfold f_X7_can_144
      rw [p1]
      have nc : ¬ vA (M0 0) B h d s 4 = true := by rw [c]; decide
      exact ih (s + 1) n x4 x5 x6 M (by omega) (by omega) hF (by rw [fk_n (ok := fun s => vA (M0 0) B h d s 4 = true) nc]; exact l) (by rw [fk_n (ok := fun s => vA (M0 0) B h d s 4 = true) nc]; exact m) nm (by rw [fk_n (ok := fun s => vA (M0 0) B h d s 4 = true) nc]; exact u)
theorem op_can : Op_can Rel := by
  intro x1 x2 x3 G M hR
  obtain ⟨H, hH, ⟨P, V, B, hT⟩, -⟩ := id hR
  have hb := hT.1
  have t0 := hT.2.1.1
  unfold f_X6_can f_X7_can
  rw [sb0, C_isHouse t0 (by omega), M_isHouse hH (by omega), C_isDay, M_isDay, M_in x3 (n := 3) (by decide) (by decide), show (if x3 ≤ (2 : Int32) then _ else _) = (if x3 ≤ nI 2 then _ else _) from rfl, vd_le (by omega)]
  rcases tf (vd H x1) with v1 | v1
  · rw [vb_t v1, vb_t v1]
    rcases tf (vd 36000 x2) with v2 | v2
    · rw [vb_t v2, vb_t v2]
      rcases tf (vd 3 x3) with v3 | v3
      · rw [if_pos v3, vb_t v3]
        obtain ⟨h, hh, rfl⟩ := vd_t v1
        obtain ⟨d, hd, rfl⟩ := vd_t v2
        obtain ⟨U, u1, u2, u3, u4, u5, u6, u7⟩ := C_copyOf (sb 32 G) G
        have hsb : sb 32 U = G := funext fun j => u2 j
        rw [u1, bd_s, hsb]
        have s1 : ∀ k, k < 32 → sb 32 (pt 0 32 G (pt 32 32 U G)) k = U k := by
          intro k hk
          show pt 0 32 G (pt 32 32 U G) (32 + k) = U k
          rw [pt_out (by omega), pt_in (by omega) (by omega)]
          exact congrArg U (by omega)
        have hU : RT U (M 0) H P V B := hT.copy u4 u5 u6 u7 (g2 := M 0) (fun _ _ => rfl)
        have hx0 : BX (sb 32 (pt 0 32 G (pt 32 32 U G))) (M 0) H P V B h (xE (M 0) B h 0) := by
          refine ⟨hU.ext (fun k hk => ?_) (fun k p k1 k2 _ => by rw [st_ne (by omega), s1 k (by omega)]) (fun k p k1 k2 _ => by rw [st_ne (by omega), s1 k (by omega)]) (fun k p k1 k2 _ => by rw [st_ne (by omega), s1 k (by omega)]), ?_, fun j hj => by have e0 : xE (M 0) B h 0 = 0 := rfl; omega⟩
          · by_cases z : k = 2
            · subst z
              rw [st_eq]
              exact hU.2.1.2.1.symm
            · rw [st_ne z, s1 k (by omega)]
          · rw [s1 2 (by omega)]
            exact hU.2.1.2.1
        obtain ⟨T1, b1, b2⟩ := C_bear_l B 0 1000 _ (by omega) (by omega) hx0
        have e0 : xE (M 0) B h 0 = 0 := rfl
        rw [e0, Nat.pow_zero] at b1
        have b1' : f_X5_bearExpected (nI h) (sb 32 (pt 0 32 G (pt 32 32 U G))) = some (nI (3 ^ xE (M 0) B h B), T1) := b1
        rw [b1', bd_s]
        have hG1 : FG G (pt 32 32 T1 (pt 0 32 G (pt 32 32 U G))) := by
          intro k hk
          rw [pt_out (by omega)]
          by_cases z : k < 32
          · rw [pt_in (by omega) (by omega)]
            rfl
          · rw [pt_out (by omega), pt_out (by omega)]
        have hx1 : BX (sb 32 (pt 32 32 T1 (pt 0 32 G (pt 32 32 U G)))) (M 0) H P V B h (xE (M 0) B h B) := b2.ext (fun k hk _ => by rw [sbpt (by omega)]) (fun p hp => by rw [sbpt (by omega)])
        have xB := xE_b (g := M 0) (B := B) (h := h) (e := B)
        have kb : 3 ^ xE (M 0) B h B ≤ 3 ^ 4 := Nat.pow_le_pow_right (by decide) (by omega)
        have k81 : 3 ^ 4 = 81 := rfl
        obtain ⟨l, m, u, G', c1, c2, c3, c4, c5⟩ := C_can_l hT hd hh x3 (3 ^ xE (M 0) B h B) 0 1000 (-4) (-4) 0 _ (by omega) (by omega) hG1 hx1 L0 M0s (Or.inl rfl) W0
        obtain ⟨l2, m2, w2, M', d1, d2, d3, d4, d5⟩ := M_can_l (h := h) hT hd x3 16 0 1000 (-4) (-4) 0 M (by omega) (by omega) Fr.rf L0 M0s (Or.inl rfl) W0
        have c1' : f_X6_can_64 1000 (nI h) (nI d) x3 (nI (3 ^ xE (M 0) B h B)) (-4) (-4) 0 0 (pt 32 32 T1 (pt 0 32 G (pt 32 32 U G))) = f_X6_can_146 x3 l m u G' := c1
        have d1' : f_X7_can_43 1000 (nI h) (nI d) x3 (-4) (-4) 0 0 M = f_X7_can_150 x3 l2 m2 w2 M' := d1
        have hbase := base_ok hT hd (nI h)
        have F1L : ∀ x, fk (fun s => nC (M 0) P V h d (cL (M 0) d s)) (fun s => vA (M 0) B h d s 4 = true) 16 x → fk (fun w => nC (M 0) P V h d (cC (M 0) B h d w)) (fun _ => True) (3 ^ xE (M 0) B h B) x := by
          rintro x ⟨s, h1, h2, h3⟩
          obtain ⟨⟨w, w1, w2⟩, -⟩ := set_way hT h h2
          refine ⟨w, w1, trivial, ?_⟩
          rw [← h3]
          exact congrArg (told (M 0 91)) (cf_congr 4 w2)
        have F1H : ∀ x, fk (fun s => nC (M 0) P V h d (cH (M 0) d s)) (fun s => vA (M 0) B h d s 4 = true) 16 x → fk (fun w => nC (M 0) P V h d (cC (M 0) B h d w)) (fun _ => True) (3 ^ xE (M 0) B h B) x := by
          rintro x ⟨s, h1, h2, h3⟩
          obtain ⟨-, ⟨w, w1, w2⟩⟩ := set_way hT h h2
          refine ⟨w, w1, trivial, ?_⟩
          rw [← h3]
          exact congrArg (told (M 0 91)) (cf_congr 4 w2)
        have F2L : ∀ x, fk (fun w => nC (M 0) P V h d (cC (M 0) B h d w)) (fun _ => True) (3 ^ xE (M 0) B h B) x → ∃ y, fk (fun s => nC (M 0) P V h d (cL (M 0) d s)) (fun s => vA (M 0) B h d s 4 = true) 16 y ∧ ((x = -4 ∧ y = -4) ∨ (¬ x = -4 ∧ ¬ y = -4 ∧ y ≤ x)) := by
          rintro x ⟨w, h1, h2, h3⟩
          obtain ⟨s, s1, s2, s3, s4⟩ := way_set hT hd h w
          refine ⟨_, ⟨s, s1, s2, rfl⟩, ?_⟩
          rw [← h3]
          rcases told_le (le4_cf hbase 4 (by omega) s3) (by omega) (M 0 91) with ⟨q1, q2⟩ | ⟨q1, q2, q3⟩
          · exact Or.inl ⟨q2, q1⟩
          · exact Or.inr ⟨q2, q1, q3⟩
        have F2H : ∀ x, fk (fun w => nC (M 0) P V h d (cC (M 0) B h d w)) (fun _ => True) (3 ^ xE (M 0) B h B) x → ∃ y, fk (fun s => nC (M 0) P V h d (cH (M 0) d s)) (fun s => vA (M 0) B h d s 4 = true) 16 y ∧ ((x = -4 ∧ y = -4) ∨ (¬ x = -4 ∧ ¬ y = -4 ∧ x ≤ y)) := by
          rintro x ⟨w, h1, h2, h3⟩
          obtain ⟨s, s1, s2, s3, s4⟩ := way_set hT hd h w
          refine ⟨_, ⟨s, s1, s2, rfl⟩, ?_⟩
          rw [← h3]
          rcases told_le (le4_cf hbase 4 (by omega) s4) (by omega) (M 0 91) with ⟨q1, q2⟩ | ⟨q1, q2, q3⟩
          · exact Or.inl ⟨q1, q2⟩
          · exact Or.inr ⟨q1, q2, q3⟩
        have el : l = l2 := Lst_eq F1L F2L c3 d3
        have em : m = m2 := Mst_eq F1H F2H c4 d4
        have eu : u = w2 := Wst_eq ⟨fun q => by
          obtain ⟨y, y1, y2⟩ := F2L _ q
          rcases y2 with ⟨-, y2⟩ | ⟨y2, -⟩
          · rw [y2] at y1
            exact y1
          · exact absurd rfl y2, F1L _⟩ c5 d5
        dsimp only
        rw [c1', d1', el, em, eu]
        unfold f_X6_can_146 f_X7_can_150
        obtain ⟨j, hj, rfl⟩ := vd_t v3
        rcases (show j = 0 ∨ j = 1 ∨ j = 2 by omega) with rfl | rfl | rfl
        · exact ⟨_, _, _, rfl, rfl, hR.cg c2 d2.fm⟩
        · exact ⟨_, _, _, rfl, rfl, hR.cg c2 d2.fm⟩
        · exact ⟨_, _, _, rfl, rfl, hR.cg c2 d2.fm⟩
      · rw [if_neg (by rw [v3]; decide), vb_f v3]
        exact ⟨_, _, _, rfl, rfl, hR⟩
    · rw [vb_f v2, vb_f v2]
      exact ⟨_, _, _, rfl, rfl, hR⟩
  · rw [vb_f v1, vb_f v1]
    exact ⟨_, _, _, rfl, rfl, hR⟩
