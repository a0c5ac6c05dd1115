-- the relation of the class's state and the reference's
def dieR (x y : Int32) : Prop := (x = 36000 ∧ y = -4) ∨ (x = y ∧ ∃ n, n < 36000 ∧ y = nI n)
def inB (n : Nat) (x : Int32) : Prop := ∃ j, j < n ∧ x = nI j
/-- a town of the class and a page of the reference: H houses, P people, V moves, B births -/
def RT (T : St) (g : Nat → Int32) (H P V B : Nat) : Prop :=
  (1 ≤ H ∧ H ≤ 8 ∧ P ≤ 10 ∧ V ≤ 12 ∧ B ≤ 4) ∧ (T 0 0 = nI H ∧ T 2 0 = nI P ∧ g 88 = nI P ∧ T 7 0 = nI V ∧ g 89 = nI V ∧ T 11 0 = nI B ∧ g 90 = nI B ∧ T 1 0 = g 91 ∧ inB 4 (g 91)) ∧
  (∀ p, p < P → T 3 p = g (4 * p) ∧ T 4 p = g (4 * p + 1) ∧ T 5 p = g (4 * p + 2) ∧ dieR (T 6 p) (g (4 * p + 3)) ∧ inB 5 (g (4 * p)) ∧ inB 36000 (g (4 * p + 1)) ∧ inB H (g (4 * p + 2))) ∧
  (∀ k, k < V → T 8 k = g (40 + 3 * k) ∧ T 9 k = g (40 + 3 * k + 1) ∧ T 10 k = g (40 + 3 * k + 2) ∧ inB 36000 (g (40 + 3 * k)) ∧ inB P (g (40 + 3 * k + 1)) ∧ inB H (g (40 + 3 * k + 2))) ∧
  (∀ e, e < B → T 12 e = g (76 + 3 * e) ∧ T 13 e = g (76 + 3 * e + 1) ∧ T 14 e = g (76 + 3 * e + 2) ∧ inB H (g (76 + 3 * e)) ∧ ∃ a b, a ≤ b ∧ b < 36000 ∧ g (76 + 3 * e + 1) = nI a ∧ g (76 + 3 * e + 2) = nI b)
def RImg (G M : St) (H k : Nat) : Prop := G 186 k = M 33 k ∧ (M 33 k = 0 ∨ (M 33 k = 1 ∧ ∃ P V B, RT (sb (64 + 32 * k) G) (pg M (92 * (k + 1))) H P V B))
def RTape (G M : St) : Prop := ∃ n, n ≤ 400 ∧ G 129 0 = nI n ∧ M 9 0 = nI n ∧ ∀ j, j < n → G 128 j = M 8 j ∧ inB 256 (M 8 j)
def RWant (G M : St) (H : Nat) : Prop := G 144 0 = 4 ∧ ∃ n, n ≤ 4 ∧ G 148 0 = nI n ∧ M 24 0 = nI n ∧ ∀ i, i < n → G 145 i = M 23 (2 * i) ∧ G 147 i = M 23 (2 * i + 1) ∧ inB H (M 23 (2 * i)) ∧ inB 1000 (M 23 (2 * i + 1))
def RSeen (G M : St) (H : Nat) : Prop := G 152 0 = 8 ∧ ∃ n, n ≤ 8 ∧ G 156 0 = nI n ∧ M 32 0 = nI n ∧ ∀ i, i < n → G 153 i = M 31 (3 * i) ∧ G 154 i = M 31 (3 * i + 1) ∧ G 155 i = M 31 (3 * i + 2) ∧ inB H (M 31 (3 * i)) ∧ inB 36000 (M 31 (3 * i + 1)) ∧ inB 1000 (M 31 (3 * i + 2))
def RSheet (G M : St) (k : Nat) : Prop := (G 181 k = -1 ∧ M 34 k = -4) ∨ ∃ n l, n ≤ 40 ∧ l < 3 ∧ G 181 k = nI n ∧ M 35 k = nI n ∧ G 180 k = nI l ∧ M 34 k = nI l ∧ ∀ i, i < n → G (176 + k) i = M 36 (40 * k + i)
def RNum (G M : St) : Prop := G 184 0 = M 10 0 ∧ G 185 0 = M 37 0 ∧ M 17 = zM0 17 ∧ M 18 = zM0 18
def Rel (G M : St) : Prop := ∃ H, M 1 0 = nI H ∧ (∃ P V B, RT G (M 0) H P V B) ∧ (∀ k, k < 2 → RImg G M H k) ∧ RTape G M ∧ RWant G M H ∧ RSeen G M H ∧ (∀ k, k < 4 → RSheet G M k) ∧ RNum G M
/-- only what is reckoned with has changed -/
def FG (G G' : St) : Prop := ∀ k, (k < 16 ∨ (64 ≤ k ∧ k < 160) ∨ 176 ≤ k) → G' k = G k
def FM (M M' : St) : Prop := (∀ k, (0 < k ∧ k < 19) ∨ (22 < k ∧ k < 25) ∨ 30 < k → M' k = M k) ∧ ∀ j, j < 276 → M' 0 j = M 0 j
theorem FG.rf {G : St} : FG G G := fun _ _ => rfl
theorem FG.tr {A B C : St} (h : FG A B) (h2 : FG B C) : FG A C := fun k hk => (h2 k hk).trans (h k hk)
theorem FM.rf {M : St} : FM M M := ⟨fun _ _ => rfl, fun _ _ => rfl⟩
theorem FM.tr {A B C : St} (h : FM A B) (h2 : FM B C) : FM A C := ⟨fun k hk => (h2.1 k hk).trans (h.1 k hk), fun j hj => (h2.2 j hj).trans (h.2 j hj)⟩
theorem Fr.fm {M M' : St} (h : Fr M M') : FM M M' := ⟨fun k hk => h k (by omega), fun j _ => by rw [h 0 (by omega)]⟩
theorem RT.cg {T T2 : St} {g g2 : Nat → Int32} {H P V B : Nat} (h : RT T g H P V B) (hT : ∀ k, k < 16 → T2 k = T k) (hg : ∀ k, k < 92 → g2 k = g k) : RT T2 g2 H P V B := by
  obtain ⟨h1, h2, h3, h4, h5⟩ := h
  refine ⟨h1, ?_, ?_, ?_, ?_⟩
  · rw [hT 0 (by omega), hT 2 (by omega), hT 7 (by omega), hT 11 (by omega), hT 1 (by omega), hg 88 (by omega), hg 89 (by omega), hg 90 (by omega), hg 91 (by omega)]
    exact h2
  · intro p hp
    rw [hT 3 (by omega), hT 4 (by omega), hT 5 (by omega), hT 6 (by omega), hg (4 * p) (by omega), hg (4 * p + 1) (by omega), hg (4 * p + 2) (by omega), hg (4 * p + 3) (by omega)]
    exact h3 p hp
  · intro k hk
    rw [hT 8 (by omega), hT 9 (by omega), hT 10 (by omega), hg (40 + 3 * k) (by omega), hg (40 + 3 * k + 1) (by omega), hg (40 + 3 * k + 2) (by omega)]
    exact h4 k hk
  · intro e he
    rw [hT 12 (by omega), hT 13 (by omega), hT 14 (by omega), hg (76 + 3 * e) (by omega), hg (76 + 3 * e + 1) (by omega), hg (76 + 3 * e + 2) (by omega)]
    exact h5 e he
theorem RImg.cg {G G2 M M2 : St} {H k : Nat} (hk : k < 2) (h : RImg G M H k) (hG : ∀ j, 64 ≤ j → j < 128 → G2 j = G j) (hG2 : G2 186 k = G 186 k) (hM : M2 33 k = M 33 k) (hM0 : ∀ j, 92 ≤ j → j < 276 → M2 0 j = M 0 j) : RImg G2 M2 H k := by
  obtain ⟨h1, h2⟩ := h
  refine ⟨by rw [hG2, hM]; exact h1, ?_⟩
  rcases h2 with h2 | ⟨h2, P, V, B, h3⟩
  · exact Or.inl (by rw [hM]; exact h2)
  · exact Or.inr ⟨by rw [hM]; exact h2, P, V, B, h3.cg (fun j hj => hG (64 + 32 * k + j) (by omega) (by omega)) (fun j hj => hM0 (92 * (k + 1) + j) (by omega) (by omega))⟩
theorem RTape.cg {G G2 M M2 : St} (h : RTape G M) (h1 : G2 128 = G 128) (h2 : G2 129 = G 129) (h3 : M2 9 = M 9) (h4 : M2 8 = M 8) : RTape G2 M2 := by
  unfold RTape
  rw [h1, h2, h3, h4]
  exact h
theorem RWant.cg {G G2 M M2 : St} {H : Nat} (h : RWant G M H) (h1 : ∀ j, 144 ≤ j → j < 149 → G2 j = G j) (h3 : M2 23 = M 23) (h4 : M2 24 = M 24) : RWant G2 M2 H := by
  unfold RWant
  rw [h1 144 (by omega) (by omega), h1 145 (by omega) (by omega), h1 147 (by omega) (by omega), h1 148 (by omega) (by omega), h3, h4]
  exact h
theorem RSeen.cg {G G2 M M2 : St} {H : Nat} (h : RSeen G M H) (h1 : ∀ j, 152 ≤ j → j < 157 → G2 j = G j) (h3 : M2 31 = M 31) (h4 : M2 32 = M 32) : RSeen G2 M2 H := by
  unfold RSeen
  rw [h1 152 (by omega) (by omega), h1 153 (by omega) (by omega), h1 154 (by omega) (by omega), h1 155 (by omega) (by omega), h1 156 (by omega) (by omega), h3, h4]
  exact h
theorem RSheet.cg {G G2 M M2 : St} {k : Nat} (hk : k < 4) (h : RSheet G M k) (h1 : ∀ j, 176 ≤ j → j < 182 → G2 j = G j) (h3 : M2 34 = M 34) (h4 : M2 35 = M 35) (h5 : M2 36 = M 36) : RSheet G2 M2 k := by
  unfold RSheet
  rw [h1 180 (by omega) (by omega), h1 181 (by omega) (by omega), h1 (176 + k) (by omega) (by omega), h3, h4, h5]
  exact h
theorem RNum.cg {G G2 M M2 : St} (h : RNum G M) (h1 : G2 184 = G 184) (h2 : G2 185 = G 185) (h3 : M2 10 = M 10) (h4 : M2 37 = M 37) (h5 : M2 17 = M 17) (h6 : M2 18 = M 18) : RNum G2 M2 := by
  unfold RNum
  rw [h1, h2, h3, h4, h5, h6]
  exact h
theorem Rel.cg {G G2 M M2 : St} (h : Rel G M) (hG : FG G G2) (hM : FM M M2) : Rel G2 M2 := by
  obtain ⟨H, h1, ⟨P, V, B, h2⟩, h3, h4, h5, h6, h7, h8⟩ := h
  refine ⟨H, by rw [hM.1 1 (by omega)]; exact h1, ⟨P, V, B, h2.cg (fun k hk => hG k (Or.inl hk)) (fun k hk => hM.2 k (by omega))⟩, fun k hk => (h3 k hk).cg hk (fun j a b => hG j (by omega)) (by rw [hG 186 (by omega)]) (by rw [hM.1 33 (by omega)]) (fun j a b => hM.2 j b), h4.cg (hG 128 (by omega)) (hG 129 (by omega)) (hM.1 9 (by omega)) (hM.1 8 (by omega)), h5.cg (fun j a b => hG j (by omega)) (hM.1 23 (by omega)) (hM.1 24 (by omega)), h6.cg (fun j a b => hG j (by omega)) (hM.1 31 (by omega)) (hM.1 32 (by omega)), fun k hk => (h7 k hk).cg hk (fun j a b => hG j (by omega)) (hM.1 34 (by omega)) (hM.1 35 (by omega)) (hM.1 36 (by omega)), h8.cg (hG 184 (by omega)) (hG 185 (by omega)) (hM.1 10 (by omega)) (hM.1 37 (by omega)) (hM.1 17 (by omega)) (hM.1 18 (by omega))⟩
theorem zM0_at {k : Nat} (h1 : k ≠ 1) (h2 : k ≠ 17) (h3 : k ≠ 18) (h4 : k ≠ 34) : zM0 k = fun _ => 0 := by
  unfold zM0
  rw [st_ne h1, st_ne h2, st_ne h3, st_ne h4]
  rfl
theorem Rel0 : Rel zEA0 zM0 := by
  refine ⟨4, rfl, ⟨0, 0, 0, ⟨by omega, by omega, by omega, by omega, by omega⟩, ⟨rfl, rfl, rfl, rfl, rfl, rfl, rfl, rfl, 0, by omega, rfl⟩, fun p hp => by omega, fun p hp => by omega, fun p hp => by omega⟩, ?_, ⟨0, by omega, rfl, rfl, fun j hj => by omega⟩, ⟨rfl, 0, by omega, rfl, rfl, fun i hi => by omega⟩, ⟨rfl, 0, by omega, rfl, rfl, fun i hi => by omega⟩, ?_, rfl, rfl, rfl, rfl⟩
  · intro k hk
    exact ⟨rfl, Or.inl rfl⟩
  · intro k hk
    refine Or.inl ?_
    have h9 : ∀ k, k < 4 → zEA0 181 k = -1 ∧ zM0 34 k = -4 := by decide +kernel
    exact h9 k hk
