set_option maxHeartbeats 4000000 in
set_option maxRecDepth 100000 in
theorem law_feed {E : zEnv} {Γ : zG} {a mb : Nat → Nat} {b L i : Nat} {xs : Nat → Int32} {Rel : St → St → Prop} (hop : Op_feed Rel) (C : zC E Γ code RL 4 room_1 lw_tbl) (hZ : zS Γ b L xs) (hcl : Jvm.Cond.constantLong RL 13 4294967295 ∈ lw_tbl) (hL : L ≤ 2560) (hi : i + 5 ≤ L) {G M : St} (hRel : Rel G M) (hk : ∀ G2 M2 : St, Rel G2 M2 → Zt E Γ 4 600000 7302250 (wEA E a G2 ++ wModel E mb M2) [(0, .ref b), (1, .ref (a 0)), (2, .ref (mb 0)), (3, .int (nI i))] 1514 []) : Zt E Γ 4 600000 7302250 (wEA E a G ++ wModel E mb M) [(0, .ref b), (1, .ref (a 0)), (2, .ref (mb 0)), (3, .int (nI i))] 208 [] := by
  refine z_aload_n C 1 rfl rfl dL_law_208 ?_
  refine z_aload_n C 0 rfl rfl dL_law_209 ?_
  refine z_iload_n C 3 rfl rfl dL_law_210 ?_
  refine z_iconst C (v := (1 : Int32)) (by decide) dL_law_211 ?_
  refine z_iadd C dL_law_212 ?_
  refine z_sld C hZ (zin_i (j := 1) (by omega) hL) dL_law_213 ?_
  refine z_i2l C dL_law_214 ?_
  refine z_bipush C (v := (32 : Int32)) (by decide) dL_law_215 ?_
  refine z_lshl C dL_law_217 ?_
  refine z_aload_n C 0 rfl rfl dL_law_218 ?_
  refine z_iload_n C 3 rfl rfl dL_law_219 ?_
  refine z_iconst C (v := (2 : Int32)) (by decide) dL_law_220 ?_
  refine z_iadd C dL_law_221 ?_
  refine z_sld C hZ (zin_i (j := 2) (by omega) hL) dL_law_222 ?_
  refine z_i2l C dL_law_223 ?_
  refine z_ldc2 C (v := (4294967295 : Int64)) hcl dL_law_224 ?_
  refine z_land C dL_law_227 ?_
  refine z_lor C dL_law_228 ?_
  obtain ⟨r, G', M', e1, e2, hR2⟩ := hop (((Int32.toInt64 (xs (Int32.toNatClampNeg ((nI i) + (1 : Int32))))) <<< (Int32.toInt64 (32 : Int32) &&& 63)) ||| ((Int32.toInt64 (xs (Int32.toNatClampNeg ((nI i) + (2 : Int32))))) &&& (4294967295 : Int64))) G M hRel
  refine z_callVi C (b := a 0) (As := [.long (((Int32.toInt64 (xs (Int32.toNatClampNeg ((nI i) + (1 : Int32))))) <<< (Int32.toInt64 (32 : Int32) &&& 63)) ||| ((Int32.toInt64 (xs (Int32.toNatClampNeg ((nI i) + (2 : Int32))))) &&& (4294967295 : Int64)))]) (rest := []) (c_X6_feed E a (((Int32.toInt64 (xs (Int32.toNatClampNeg ((nI i) + (1 : Int32))))) <<< (Int32.toInt64 (32 : Int32) &&& 63)) ||| ((Int32.toInt64 (xs (Int32.toNatClampNeg ((nI i) + (2 : Int32))))) &&& (4294967295 : Int64))) G e1) rfl gT_X6_feed rfl rfl rfl 1 rfl (by decide +kernel) ⟨Nat.le_of_ble_eq_true rfl, Nat.le_of_ble_eq_true rfl⟩ (List.range 101) (zcatL (wEA_len E a G)) (znd _ List.nodup_range) (wEA_m E a _ _) (wEA E a G' ++ wModel E mb M) (zrepL (wEA_len E a G) (wEA_len E a G')) 0 6 rfl rfl rfl (Nat.le_of_ble_eq_true rfl) dL_law_229 ⟨Nat.le_of_ble_eq_true rfl, Nat.le_of_ble_eq_true rfl⟩ _ rfl ?_
  refine z_aload_n C 2 rfl rfl dL_law_232 ?_
  refine z_aload_n C 0 rfl rfl dL_law_233 ?_
  refine z_iload_n C 3 rfl rfl dL_law_234 ?_
  refine z_iconst C (v := (1 : Int32)) (by decide) dL_law_235 ?_
  refine z_iadd C dL_law_236 ?_
  refine z_sld C hZ (zin_i (j := 1) (by omega) hL) dL_law_237 ?_
  refine z_i2l C dL_law_238 ?_
  refine z_bipush C (v := (32 : Int32)) (by decide) dL_law_239 ?_
  refine z_lshl C dL_law_241 ?_
  refine z_aload_n C 0 rfl rfl dL_law_242 ?_
  refine z_iload_n C 3 rfl rfl dL_law_243 ?_
  refine z_iconst C (v := (2 : Int32)) (by decide) dL_law_244 ?_
  refine z_iadd C dL_law_245 ?_
  refine z_sld C hZ (zin_i (j := 2) (by omega) hL) dL_law_246 ?_
  refine z_i2l C dL_law_247 ?_
  refine z_ldc2 C (v := (4294967295 : Int64)) hcl dL_law_248 ?_
  refine z_land C dL_law_251 ?_
  refine z_lor C dL_law_252 ?_
  refine z_callVi C (b := mb 0) (As := [.long (((Int32.toInt64 (xs (Int32.toNatClampNeg ((nI i) + (1 : Int32))))) <<< (Int32.toInt64 (32 : Int32) &&& 63)) ||| ((Int32.toInt64 (xs (Int32.toNatClampNeg ((nI i) + (2 : Int32))))) &&& (4294967295 : Int64)))]) (rest := [.int r]) (c_X7_feed E mb (((Int32.toInt64 (xs (Int32.toNatClampNeg ((nI i) + (1 : Int32))))) <<< (Int32.toInt64 (32 : Int32) &&& 63)) ||| ((Int32.toInt64 (xs (Int32.toNatClampNeg ((nI i) + (2 : Int32))))) &&& (4294967295 : Int64))) M e2) rfl gT_X7_feed rfl rfl rfl 1 rfl (by decide +kernel) ⟨Nat.le_of_ble_eq_true rfl, Nat.le_of_ble_eq_true rfl⟩ (List.range' 101 17) (zcatR (wEA_len E a _) (wModel_len E mb M)) (znd _ List.nodup_range') (wModel_m E mb _ _) (wEA E a G' ++ wModel E mb M') (zrepR (wEA_len E a _) (wModel_len E mb M) (wModel_len E mb M')) 0 7 rfl rfl rfl (Nat.le_of_ble_eq_true rfl) dL_law_253 ⟨Nat.le_of_ble_eq_true rfl, Nat.le_of_ble_eq_true rfl⟩ _ rfl ?_
  refine z_icmp_eq C 1514 (by decide) (F1 := some ()) (F2 := none) (r := ()) (if_pos rfl) dL_law_256 (fun _ _ => ?_) (fun _ h => by cases h)
  exact hk G' M' hR2

set_option maxHeartbeats 4000000 in
set_option maxRecDepth 100000 in
theorem law_end {E : zEnv} {Γ : zG} {a mb : Nat → Nat} {b L i : Nat} {xs : Nat → Int32} {Rel : St → St → Prop} (hop : Op_end Rel) (C : zC E Γ code RL 4 room_1 lw_tbl) (hZ : zS Γ b L xs) (hcl : Jvm.Cond.constantLong RL 13 4294967295 ∈ lw_tbl) (hL : L ≤ 2560) (hi : i + 5 ≤ L) {G M : St} (hRel : Rel G M) (hk : ∀ G2 M2 : St, Rel G2 M2 → Zt E Γ 4 600000 7302250 (wEA E a G2 ++ wModel E mb M2) [(0, .ref b), (1, .ref (a 0)), (2, .ref (mb 0)), (3, .int (nI i))] 1514 []) : Zt E Γ 4 600000 7302250 (wEA E a G ++ wModel E mb M) [(0, .ref b), (1, .ref (a 0)), (2, .ref (mb 0)), (3, .int (nI i))] 261 [] := by
  refine z_aload_n C 1 rfl rfl dL_law_261 ?_
  refine z_aload_n C 0 rfl rfl dL_law_262 ?_
  refine z_iload_n C 3 rfl rfl dL_law_263 ?_
  refine z_iconst C (v := (1 : Int32)) (by decide) dL_law_264 ?_
  refine z_iadd C dL_law_265 ?_
  refine z_sld C hZ (zin_i (j := 1) (by omega) hL) dL_law_266 ?_
  obtain ⟨r, G', M', e1, e2, hR2⟩ := hop (xs (Int32.toNatClampNeg ((nI i) + (1 : Int32)))) G M hRel
  refine z_callVi C (b := a 0) (As := [.int (xs (Int32.toNatClampNeg ((nI i) + (1 : Int32))))]) (rest := []) (c_X6_end E a (xs (Int32.toNatClampNeg ((nI i) + (1 : Int32)))) G e1) rfl gT_X6_end rfl rfl rfl 1 rfl (by decide +kernel) ⟨Nat.le_of_ble_eq_true rfl, Nat.le_of_ble_eq_true rfl⟩ (List.range 101) (zcatL (wEA_len E a G)) (znd _ List.nodup_range) (wEA_m E a _ _) (wEA E a G' ++ wModel E mb M) (zrepL (wEA_len E a G) (wEA_len E a G')) 0 6 rfl rfl rfl (Nat.le_of_ble_eq_true rfl) dL_law_267 ⟨Nat.le_of_ble_eq_true rfl, Nat.le_of_ble_eq_true rfl⟩ _ rfl ?_
  refine z_aload_n C 2 rfl rfl dL_law_270 ?_
  refine z_aload_n C 0 rfl rfl dL_law_271 ?_
  refine z_iload_n C 3 rfl rfl dL_law_272 ?_
  refine z_iconst C (v := (1 : Int32)) (by decide) dL_law_273 ?_
  refine z_iadd C dL_law_274 ?_
  refine z_sld C hZ (zin_i (j := 1) (by omega) hL) dL_law_275 ?_
  refine z_callVi C (b := mb 0) (As := [.int (xs (Int32.toNatClampNeg ((nI i) + (1 : Int32))))]) (rest := [.int r]) (c_X7_end E mb (xs (Int32.toNatClampNeg ((nI i) + (1 : Int32)))) M e2) rfl gT_X7_end rfl rfl rfl 1 rfl (by decide +kernel) ⟨Nat.le_of_ble_eq_true rfl, Nat.le_of_ble_eq_true rfl⟩ (List.range' 101 17) (zcatR (wEA_len E a _) (wModel_len E mb M)) (znd _ List.nodup_range') (wModel_m E mb _ _) (wEA E a G' ++ wModel E mb M') (zrepR (wEA_len E a _) (wModel_len E mb M) (wModel_len E mb M')) 0 7 rfl rfl rfl (Nat.le_of_ble_eq_true rfl) dL_law_276 ⟨Nat.le_of_ble_eq_true rfl, Nat.le_of_ble_eq_true rfl⟩ _ rfl ?_
  refine z_icmp_eq C 1514 (by decide) (F1 := some ()) (F2 := none) (r := ()) (if_pos rfl) dL_law_279 (fun _ _ => ?_) (fun _ h => by cases h)
  exact hk G' M' hR2

set_option maxHeartbeats 4000000 in
set_option maxRecDepth 100000 in
theorem law_street {E : zEnv} {Γ : zG} {a mb : Nat → Nat} {b L i : Nat} {xs : Nat → Int32} {Rel : St → St → Prop} (hop : Op_street Rel) (C : zC E Γ code RL 4 room_1 lw_tbl) (hZ : zS Γ b L xs) (hcl : Jvm.Cond.constantLong RL 13 4294967295 ∈ lw_tbl) (hL : L ≤ 2560) (hi : i + 5 ≤ L) {G M : St} (hRel : Rel G M) (hk : ∀ G2 M2 : St, Rel G2 M2 → Zt E Γ 4 600000 7302250 (wEA E a G2 ++ wModel E mb M2) [(0, .ref b), (1, .ref (a 0)), (2, .ref (mb 0)), (3, .int (nI i))] 1514 []) : Zt E Γ 4 600000 7302250 (wEA E a G ++ wModel E mb M) [(0, .ref b), (1, .ref (a 0)), (2, .ref (mb 0)), (3, .int (nI i))] 284 [] := by
  refine z_aload_n C 1 rfl rfl dL_law_284 ?_
  obtain ⟨r, G', M', e1, e2, hR2⟩ := hop G M hRel
  refine z_callVi C (b := a 0) (As := []) (rest := []) (c_X6_street E a G e1) rfl gT_X6_street rfl rfl rfl 0 rfl (by decide +kernel) ⟨Nat.le_of_ble_eq_true rfl, Nat.le_of_ble_eq_true rfl⟩ (List.range 101) (zcatL (wEA_len E a G)) (znd _ List.nodup_range) (wEA_m E a _ _) (wEA E a G' ++ wModel E mb M) (zrepL (wEA_len E a G) (wEA_len E a G')) 0 6 rfl rfl rfl (Nat.le_of_ble_eq_true rfl) dL_law_285 ⟨Nat.le_of_ble_eq_true rfl, Nat.le_of_ble_eq_true rfl⟩ _ rfl ?_
  refine z_aload_n C 2 rfl rfl dL_law_288 ?_
  refine z_callVi C (b := mb 0) (As := []) (rest := [.int r]) (c_X7_street E mb M e2) rfl gT_X7_street rfl rfl rfl 0 rfl (by decide +kernel) ⟨Nat.le_of_ble_eq_true rfl, Nat.le_of_ble_eq_true rfl⟩ (List.range' 101 17) (zcatR (wEA_len E a _) (wModel_len E mb M)) (znd _ List.nodup_range') (wModel_m E mb _ _) (wEA E a G' ++ wModel E mb M') (zrepR (wEA_len E a _) (wModel_len E mb M) (wModel_len E mb M')) 0 7 rfl rfl rfl (Nat.le_of_ble_eq_true rfl) dL_law_289 ⟨Nat.le_of_ble_eq_true rfl, Nat.le_of_ble_eq_true rfl⟩ _ rfl ?_
  refine z_icmp_eq C 1514 (by decide) (F1 := some ()) (F2 := none) (r := ()) (if_pos rfl) dL_law_292 (fun _ _ => ?_) (fun _ h => by cases h)
  exact hk G' M' hR2

set_option maxHeartbeats 4000000 in
set_option maxRecDepth 100000 in
theorem law_fault {E : zEnv} {Γ : zG} {a mb : Nat → Nat} {b L i : Nat} {xs : Nat → Int32} {Rel : St → St → Prop} (hop : Op_fault Rel) (C : zC E Γ code RL 4 room_1 lw_tbl) (hZ : zS Γ b L xs) (hcl : Jvm.Cond.constantLong RL 13 4294967295 ∈ lw_tbl) (hL : L ≤ 2560) (hi : i + 5 ≤ L) {G M : St} (hRel : Rel G M) (hk : ∀ G2 M2 : St, Rel G2 M2 → Zt E Γ 4 600000 7302250 (wEA E a G2 ++ wModel E mb M2) [(0, .ref b), (1, .ref (a 0)), (2, .ref (mb 0)), (3, .int (nI i))] 1514 []) : Zt E Γ 4 600000 7302250 (wEA E a G ++ wModel E mb M) [(0, .ref b), (1, .ref (a 0)), (2, .ref (mb 0)), (3, .int (nI i))] 297 [] := by
  refine z_aload_n C 1 rfl rfl dL_law_297 ?_
  obtain ⟨r, e1, e2, hR2⟩ := hop G M hRel
  refine z_callVi C (b := a 0) (As := []) (rest := []) (c_X6_fault E a G e1) rfl gT_X6_fault rfl rfl rfl 0 rfl (by decide +kernel) ⟨Nat.le_of_ble_eq_true rfl, Nat.le_of_ble_eq_true rfl⟩ (List.range 101) (zcatL (wEA_len E a G)) (znd _ List.nodup_range) (wEA_m E a _ _) (wEA E a G ++ wModel E mb M) (zrep_self (zcatL (wEA_len E a G))) 0 6 rfl rfl rfl (Nat.le_of_ble_eq_true rfl) dL_law_298 ⟨Nat.le_of_ble_eq_true rfl, Nat.le_of_ble_eq_true rfl⟩ _ rfl ?_
  refine z_aload_n C 2 rfl rfl dL_law_301 ?_
  refine z_callVi C (b := mb 0) (As := []) (rest := [.int r]) (c_X7_fault E mb M e2) rfl gT_X7_fault rfl rfl rfl 0 rfl (by decide +kernel) ⟨Nat.le_of_ble_eq_true rfl, Nat.le_of_ble_eq_true rfl⟩ (List.range' 101 17) (zcatR (wEA_len E a _) (wModel_len E mb M)) (znd _ List.nodup_range') (wModel_m E mb _ _) (wEA E a G ++ wModel E mb M) (zrep_self (zcatR (wEA_len E a _) (wModel_len E mb M))) 0 7 rfl rfl rfl (Nat.le_of_ble_eq_true rfl) dL_law_302 ⟨Nat.le_of_ble_eq_true rfl, Nat.le_of_ble_eq_true rfl⟩ _ rfl ?_
  refine z_icmp_eq C 1514 (by decide) (F1 := some ()) (F2 := none) (r := ()) (if_pos rfl) dL_law_305 (fun _ _ => ?_) (fun _ h => by cases h)
  exact hk G M hR2

set_option maxHeartbeats 4000000 in
set_option maxRecDepth 100000 in
theorem law_rule {E : zEnv} {Γ : zG} {a mb : Nat → Nat} {b L i : Nat} {xs : Nat → Int32} {Rel : St → St → Prop} (hop : Op_rule Rel) (C : zC E Γ code RL 4 room_1 lw_tbl) (hZ : zS Γ b L xs) (hcl : Jvm.Cond.constantLong RL 13 4294967295 ∈ lw_tbl) (hL : L ≤ 2560) (hi : i + 5 ≤ L) {G M : St} (hRel : Rel G M) (hk : ∀ G2 M2 : St, Rel G2 M2 → Zt E Γ 4 600000 7302250 (wEA E a G2 ++ wModel E mb M2) [(0, .ref b), (1, .ref (a 0)), (2, .ref (mb 0)), (3, .int (nI i))] 1514 []) : Zt E Γ 4 600000 7302250 (wEA E a G ++ wModel E mb M) [(0, .ref b), (1, .ref (a 0)), (2, .ref (mb 0)), (3, .int (nI i))] 310 [] := by
  refine z_aload_n C 1 rfl rfl dL_law_310 ?_
  refine z_aload_n C 0 rfl rfl dL_law_311 ?_
  refine z_iload_n C 3 rfl rfl dL_law_312 ?_
  refine z_iconst C (v := (1 : Int32)) (by decide) dL_law_313 ?_
  refine z_iadd C dL_law_314 ?_
  refine z_sld C hZ (zin_i (j := 1) (by omega) hL) dL_law_315 ?_
  obtain ⟨r, e1, e2, hR2⟩ := hop (xs (Int32.toNatClampNeg ((nI i) + (1 : Int32)))) G M hRel
  refine z_callVi C (b := a 0) (As := [.int (xs (Int32.toNatClampNeg ((nI i) + (1 : Int32))))]) (rest := []) (c_X6_rule E a (xs (Int32.toNatClampNeg ((nI i) + (1 : Int32)))) G e1) rfl gT_X6_rule rfl rfl rfl 1 rfl (by decide +kernel) ⟨Nat.le_of_ble_eq_true rfl, Nat.le_of_ble_eq_true rfl⟩ (List.range 101) (zcatL (wEA_len E a G)) (znd _ List.nodup_range) (wEA_m E a _ _) (wEA E a G ++ wModel E mb M) (zrep_self (zcatL (wEA_len E a G))) 0 6 rfl rfl rfl (Nat.le_of_ble_eq_true rfl) dL_law_316 ⟨Nat.le_of_ble_eq_true rfl, Nat.le_of_ble_eq_true rfl⟩ _ rfl ?_
  refine z_aload_n C 2 rfl rfl dL_law_319 ?_
  refine z_aload_n C 0 rfl rfl dL_law_320 ?_
  refine z_iload_n C 3 rfl rfl dL_law_321 ?_
  refine z_iconst C (v := (1 : Int32)) (by decide) dL_law_322 ?_
  refine z_iadd C dL_law_323 ?_
  refine z_sld C hZ (zin_i (j := 1) (by omega) hL) dL_law_324 ?_
  refine z_callVi C (b := mb 0) (As := [.int (xs (Int32.toNatClampNeg ((nI i) + (1 : Int32))))]) (rest := [.int r]) (c_X7_rule E mb (xs (Int32.toNatClampNeg ((nI i) + (1 : Int32)))) M e2) rfl gT_X7_rule rfl rfl rfl 1 rfl (by decide +kernel) ⟨Nat.le_of_ble_eq_true rfl, Nat.le_of_ble_eq_true rfl⟩ (List.range' 101 17) (zcatR (wEA_len E a _) (wModel_len E mb M)) (znd _ List.nodup_range') (wModel_m E mb _ _) (wEA E a G ++ wModel E mb M) (zrep_self (zcatR (wEA_len E a _) (wModel_len E mb M))) 0 7 rfl rfl rfl (Nat.le_of_ble_eq_true rfl) dL_law_325 ⟨Nat.le_of_ble_eq_true rfl, Nat.le_of_ble_eq_true rfl⟩ _ rfl ?_
  refine z_icmp_eq C 1514 (by decide) (F1 := some ()) (F2 := none) (r := ()) (if_pos rfl) dL_law_328 (fun _ _ => ?_) (fun _ h => by cases h)
  exact hk G M hR2

set_option maxHeartbeats 4000000 in
set_option maxRecDepth 100000 in
theorem law_one {E : zEnv} {Γ : zG} {a mb : Nat → Nat} {b L i : Nat} {xs : Nat → Int32} {Rel : St → St → Prop} (hop : Op_one Rel) (C : zC E Γ code RL 4 room_1 lw_tbl) (hZ : zS Γ b L xs) (hcl : Jvm.Cond.constantLong RL 13 4294967295 ∈ lw_tbl) (hL : L ≤ 2560) (hi : i + 5 ≤ L) {G M : St} (hRel : Rel G M) (hk : ∀ G2 M2 : St, Rel G2 M2 → Zt E Γ 4 600000 7302250 (wEA E a G2 ++ wModel E mb M2) [(0, .ref b), (1, .ref (a 0)), (2, .ref (mb 0)), (3, .int (nI i))] 1514 []) : Zt E Γ 4 600000 7302250 (wEA E a G ++ wModel E mb M) [(0, .ref b), (1, .ref (a 0)), (2, .ref (mb 0)), (3, .int (nI i))] 333 [] := by
  refine z_aload_n C 1 rfl rfl dL_law_333 ?_
  refine z_aload_n C 0 rfl rfl dL_law_334 ?_
  refine z_iload_n C 3 rfl rfl dL_law_335 ?_
  refine z_iconst C (v := (1 : Int32)) (by decide) dL_law_336 ?_
  refine z_iadd C dL_law_337 ?_
  refine z_sld C hZ (zin_i (j := 1) (by omega) hL) dL_law_338 ?_
  refine z_aload_n C 0 rfl rfl dL_law_339 ?_
  refine z_iload_n C 3 rfl rfl dL_law_340 ?_
  refine z_iconst C (v := (2 : Int32)) (by decide) dL_law_341 ?_
  refine z_iadd C dL_law_342 ?_
  refine z_sld C hZ (zin_i (j := 2) (by omega) hL) dL_law_343 ?_
  obtain ⟨r, e1, e2, hR2⟩ := hop (xs (Int32.toNatClampNeg ((nI i) + (1 : Int32)))) (xs (Int32.toNatClampNeg ((nI i) + (2 : Int32)))) G M hRel
  refine z_callVi C (b := a 0) (As := [.int (xs (Int32.toNatClampNeg ((nI i) + (1 : Int32)))), .int (xs (Int32.toNatClampNeg ((nI i) + (2 : Int32))))]) (rest := []) (c_X6_one E a (xs (Int32.toNatClampNeg ((nI i) + (1 : Int32)))) (xs (Int32.toNatClampNeg ((nI i) + (2 : Int32)))) G e1) rfl gT_X6_one rfl rfl rfl 2 rfl (by decide +kernel) ⟨Nat.le_of_ble_eq_true rfl, Nat.le_of_ble_eq_true rfl⟩ (List.range 101) (zcatL (wEA_len E a G)) (znd _ List.nodup_range) (wEA_m E a _ _) (wEA E a G ++ wModel E mb M) (zrep_self (zcatL (wEA_len E a G))) 0 6 rfl rfl rfl (Nat.le_of_ble_eq_true rfl) dL_law_344 ⟨Nat.le_of_ble_eq_true rfl, Nat.le_of_ble_eq_true rfl⟩ _ rfl ?_
  refine z_aload_n C 2 rfl rfl dL_law_347 ?_
  refine z_aload_n C 0 rfl rfl dL_law_348 ?_
  refine z_iload_n C 3 rfl rfl dL_law_349 ?_
  refine z_iconst C (v := (1 : Int32)) (by decide) dL_law_350 ?_
  refine z_iadd C dL_law_351 ?_
  refine z_sld C hZ (zin_i (j := 1) (by omega) hL) dL_law_352 ?_
  refine z_aload_n C 0 rfl rfl dL_law_353 ?_
  refine z_iload_n C 3 rfl rfl dL_law_354 ?_
  refine z_iconst C (v := (2 : Int32)) (by decide) dL_law_355 ?_
  refine z_iadd C dL_law_356 ?_
  refine z_sld C hZ (zin_i (j := 2) (by omega) hL) dL_law_357 ?_
  refine z_callVi C (b := mb 0) (As := [.int (xs (Int32.toNatClampNeg ((nI i) + (1 : Int32)))), .int (xs (Int32.toNatClampNeg ((nI i) + (2 : Int32))))]) (rest := [.int r]) (c_X7_one E mb (xs (Int32.toNatClampNeg ((nI i) + (1 : Int32)))) (xs (Int32.toNatClampNeg ((nI i) + (2 : Int32)))) M e2) rfl gT_X7_one rfl rfl rfl 2 rfl (by decide +kernel) ⟨Nat.le_of_ble_eq_true rfl, Nat.le_of_ble_eq_true rfl⟩ (List.range' 101 17) (zcatR (wEA_len E a _) (wModel_len E mb M)) (znd _ List.nodup_range') (wModel_m E mb _ _) (wEA E a G ++ wModel E mb M) (zrep_self (zcatR (wEA_len E a _) (wModel_len E mb M))) 0 7 rfl rfl rfl (Nat.le_of_ble_eq_true rfl) dL_law_358 ⟨Nat.le_of_ble_eq_true rfl, Nat.le_of_ble_eq_true rfl⟩ _ rfl ?_
  refine z_icmp_eq C 1514 (by decide) (F1 := some ()) (F2 := none) (r := ()) (if_pos rfl) dL_law_361 (fun _ _ => ?_) (fun _ h => by cases h)
  exact hk G M hR2

set_option maxHeartbeats 4000000 in
set_option maxRecDepth 100000 in
theorem law_moved {E : zEnv} {Γ : zG} {a mb : Nat → Nat} {b L i : Nat} {xs : Nat → Int32} {Rel : St → St → Prop} (hop : Op_moved Rel) (C : zC E Γ code RL 4 room_1 lw_tbl) (hZ : zS Γ b L xs) (hcl : Jvm.Cond.constantLong RL 13 4294967295 ∈ lw_tbl) (hL : L ≤ 2560) (hi : i + 5 ≤ L) {G M : St} (hRel : Rel G M) (hk : ∀ G2 M2 : St, Rel G2 M2 → Zt E Γ 4 600000 7302250 (wEA E a G2 ++ wModel E mb M2) [(0, .ref b), (1, .ref (a 0)), (2, .ref (mb 0)), (3, .int (nI i))] 1514 []) : Zt E Γ 4 600000 7302250 (wEA E a G ++ wModel E mb M) [(0, .ref b), (1, .ref (a 0)), (2, .ref (mb 0)), (3, .int (nI i))] 366 [] := by
  refine z_aload_n C 1 rfl rfl dL_law_366 ?_
  refine z_aload_n C 0 rfl rfl dL_law_367 ?_
  refine z_iload_n C 3 rfl rfl dL_law_368 ?_
  refine z_iconst C (v := (1 : Int32)) (by decide) dL_law_369 ?_
  refine z_iadd C dL_law_370 ?_
  refine z_sld C hZ (zin_i (j := 1) (by omega) hL) dL_law_371 ?_
  refine z_aload_n C 0 rfl rfl dL_law_372 ?_
  refine z_iload_n C 3 rfl rfl dL_law_373 ?_
  refine z_iconst C (v := (2 : Int32)) (by decide) dL_law_374 ?_
  refine z_iadd C dL_law_375 ?_
  refine z_sld C hZ (zin_i (j := 2) (by omega) hL) dL_law_376 ?_
  obtain ⟨r, e1, e2, hR2⟩ := hop (xs (Int32.toNatClampNeg ((nI i) + (1 : Int32)))) (xs (Int32.toNatClampNeg ((nI i) + (2 : Int32)))) G M hRel
  refine z_callVi C (b := a 0) (As := [.int (xs (Int32.toNatClampNeg ((nI i) + (1 : Int32)))), .int (xs (Int32.toNatClampNeg ((nI i) + (2 : Int32))))]) (rest := []) (c_X6_moved E a (xs (Int32.toNatClampNeg ((nI i) + (1 : Int32)))) (xs (Int32.toNatClampNeg ((nI i) + (2 : Int32)))) G e1) rfl gT_X6_moved rfl rfl rfl 2 rfl (by decide +kernel) ⟨Nat.le_of_ble_eq_true rfl, Nat.le_of_ble_eq_true rfl⟩ (List.range 101) (zcatL (wEA_len E a G)) (znd _ List.nodup_range) (wEA_m E a _ _) (wEA E a G ++ wModel E mb M) (zrep_self (zcatL (wEA_len E a G))) 0 6 rfl rfl rfl (Nat.le_of_ble_eq_true rfl) dL_law_377 ⟨Nat.le_of_ble_eq_true rfl, Nat.le_of_ble_eq_true rfl⟩ _ rfl ?_
  refine z_aload_n C 2 rfl rfl dL_law_380 ?_
  refine z_aload_n C 0 rfl rfl dL_law_381 ?_
  refine z_iload_n C 3 rfl rfl dL_law_382 ?_
  refine z_iconst C (v := (1 : Int32)) (by decide) dL_law_383 ?_
  refine z_iadd C dL_law_384 ?_
  refine z_sld C hZ (zin_i (j := 1) (by omega) hL) dL_law_385 ?_
  refine z_aload_n C 0 rfl rfl dL_law_386 ?_
  refine z_iload_n C 3 rfl rfl dL_law_387 ?_
  refine z_iconst C (v := (2 : Int32)) (by decide) dL_law_388 ?_
  refine z_iadd C dL_law_389 ?_
  refine z_sld C hZ (zin_i (j := 2) (by omega) hL) dL_law_390 ?_
  refine z_callVi C (b := mb 0) (As := [.int (xs (Int32.toNatClampNeg ((nI i) + (1 : Int32)))), .int (xs (Int32.toNatClampNeg ((nI i) + (2 : Int32))))]) (rest := [.int r]) (c_X7_moved E mb (xs (Int32.toNatClampNeg ((nI i) + (1 : Int32)))) (xs (Int32.toNatClampNeg ((nI i) + (2 : Int32)))) M e2) rfl gT_X7_moved rfl rfl rfl 2 rfl (by decide +kernel) ⟨Nat.le_of_ble_eq_true rfl, Nat.le_of_ble_eq_true rfl⟩ (List.range' 101 17) (zcatR (wEA_len E a _) (wModel_len E mb M)) (znd _ List.nodup_range') (wModel_m E mb _ _) (wEA E a G ++ wModel E mb M) (zrep_self (zcatR (wEA_len E a _) (wModel_len E mb M))) 0 7 rfl rfl rfl (Nat.le_of_ble_eq_true rfl) dL_law_391 ⟨Nat.le_of_ble_eq_true rfl, Nat.le_of_ble_eq_true rfl⟩ _ rfl ?_
  refine z_icmp_eq C 1514 (by decide) (F1 := some ()) (F2 := none) (r := ()) (if_pos rfl) dL_law_394 (fun _ _ => ?_) (fun _ h => by cases h)
  exact hk G M hR2

set_option maxHeartbeats 4000000 in
set_option maxRecDepth 100000 in
theorem law_expected {E : zEnv} {Γ : zG} {a mb : Nat → Nat} {b L i : Nat} {xs : Nat → Int32} {Rel : St → St → Prop} (hop : Op_expected Rel) (C : zC E Γ code RL 4 room_1 lw_tbl) (hZ : zS Γ b L xs) (hcl : Jvm.Cond.constantLong RL 13 4294967295 ∈ lw_tbl) (hL : L ≤ 2560) (hi : i + 5 ≤ L) {G M : St} (hRel : Rel G M) (hk : ∀ G2 M2 : St, Rel G2 M2 → Zt E Γ 4 600000 7302250 (wEA E a G2 ++ wModel E mb M2) [(0, .ref b), (1, .ref (a 0)), (2, .ref (mb 0)), (3, .int (nI i))] 1514 []) : Zt E Γ 4 600000 7302250 (wEA E a G ++ wModel E mb M) [(0, .ref b), (1, .ref (a 0)), (2, .ref (mb 0)), (3, .int (nI i))] 399 [] := by
  refine z_aload_n C 1 rfl rfl dL_law_399 ?_
  refine z_aload_n C 0 rfl rfl dL_law_400 ?_
  refine z_iload_n C 3 rfl rfl dL_law_401 ?_
  refine z_iconst C (v := (1 : Int32)) (by decide) dL_law_402 ?_
  refine z_iadd C dL_law_403 ?_
  refine z_sld C hZ (zin_i (j := 1) (by omega) hL) dL_law_404 ?_
  refine z_aload_n C 0 rfl rfl dL_law_405 ?_
  refine z_iload_n C 3 rfl rfl dL_law_406 ?_
  refine z_iconst C (v := (2 : Int32)) (by decide) dL_law_407 ?_
  refine z_iadd C dL_law_408 ?_
  refine z_sld C hZ (zin_i (j := 2) (by omega) hL) dL_law_409 ?_
  obtain ⟨r, e1, e2, hR2⟩ := hop (xs (Int32.toNatClampNeg ((nI i) + (1 : Int32)))) (xs (Int32.toNatClampNeg ((nI i) + (2 : Int32)))) G M hRel
  refine z_callVi C (b := a 0) (As := [.int (xs (Int32.toNatClampNeg ((nI i) + (1 : Int32)))), .int (xs (Int32.toNatClampNeg ((nI i) + (2 : Int32))))]) (rest := []) (c_X6_expected E a (xs (Int32.toNatClampNeg ((nI i) + (1 : Int32)))) (xs (Int32.toNatClampNeg ((nI i) + (2 : Int32)))) G e1) rfl gT_X6_expected rfl rfl rfl 2 rfl (by decide +kernel) ⟨Nat.le_of_ble_eq_true rfl, Nat.le_of_ble_eq_true rfl⟩ (List.range 101) (zcatL (wEA_len E a G)) (znd _ List.nodup_range) (wEA_m E a _ _) (wEA E a G ++ wModel E mb M) (zrep_self (zcatL (wEA_len E a G))) 0 6 rfl rfl rfl (Nat.le_of_ble_eq_true rfl) dL_law_410 ⟨Nat.le_of_ble_eq_true rfl, Nat.le_of_ble_eq_true rfl⟩ _ rfl ?_
  refine z_aload_n C 2 rfl rfl dL_law_413 ?_
  refine z_aload_n C 0 rfl rfl dL_law_414 ?_
  refine z_iload_n C 3 rfl rfl dL_law_415 ?_
  refine z_iconst C (v := (1 : Int32)) (by decide) dL_law_416 ?_
  refine z_iadd C dL_law_417 ?_
  refine z_sld C hZ (zin_i (j := 1) (by omega) hL) dL_law_418 ?_
  refine z_aload_n C 0 rfl rfl dL_law_419 ?_
  refine z_iload_n C 3 rfl rfl dL_law_420 ?_
  refine z_iconst C (v := (2 : Int32)) (by decide) dL_law_421 ?_
  refine z_iadd C dL_law_422 ?_
  refine z_sld C hZ (zin_i (j := 2) (by omega) hL) dL_law_423 ?_
  refine z_callVi C (b := mb 0) (As := [.int (xs (Int32.toNatClampNeg ((nI i) + (1 : Int32)))), .int (xs (Int32.toNatClampNeg ((nI i) + (2 : Int32))))]) (rest := [.int r]) (c_X7_expected E mb (xs (Int32.toNatClampNeg ((nI i) + (1 : Int32)))) (xs (Int32.toNatClampNeg ((nI i) + (2 : Int32)))) M e2) rfl gT_X7_expected rfl rfl rfl 2 rfl (by decide +kernel) ⟨Nat.le_of_ble_eq_true rfl, Nat.le_of_ble_eq_true rfl⟩ (List.range' 101 17) (zcatR (wEA_len E a _) (wModel_len E mb M)) (znd _ List.nodup_range') (wModel_m E mb _ _) (wEA E a G ++ wModel E mb M) (zrep_self (zcatR (wEA_len E a _) (wModel_len E mb M))) 0 7 rfl rfl rfl (Nat.le_of_ble_eq_true rfl) dL_law_424 ⟨Nat.le_of_ble_eq_true rfl, Nat.le_of_ble_eq_true rfl⟩ _ rfl ?_
  refine z_icmp_eq C 1514 (by decide) (F1 := some ()) (F2 := none) (r := ()) (if_pos rfl) dL_law_427 (fun _ _ => ?_) (fun _ h => by cases h)
  exact hk G M hR2

set_option maxHeartbeats 4000000 in
set_option maxRecDepth 100000 in
theorem law_law {E : zEnv} {Γ : zG} {a mb : Nat → Nat} {b L i : Nat} {xs : Nat → Int32} {Rel : St → St → Prop} (hop : Op_law Rel) (C : zC E Γ code RL 4 room_1 lw_tbl) (hZ : zS Γ b L xs) (hcl : Jvm.Cond.constantLong RL 13 4294967295 ∈ lw_tbl) (hL : L ≤ 2560) (hi : i + 5 ≤ L) {G M : St} (hRel : Rel G M) (hk : ∀ G2 M2 : St, Rel G2 M2 → Zt E Γ 4 600000 7302250 (wEA E a G2 ++ wModel E mb M2) [(0, .ref b), (1, .ref (a 0)), (2, .ref (mb 0)), (3, .int (nI i))] 1514 []) : Zt E Γ 4 600000 7302250 (wEA E a G ++ wModel E mb M) [(0, .ref b), (1, .ref (a 0)), (2, .ref (mb 0)), (3, .int (nI i))] 432 [] := by
  refine z_aload_n C 1 rfl rfl dL_law_432 ?_
  refine z_aload_n C 0 rfl rfl dL_law_433 ?_
  refine z_iload_n C 3 rfl rfl dL_law_434 ?_
  refine z_iconst C (v := (1 : Int32)) (by decide) dL_law_435 ?_
  refine z_iadd C dL_law_436 ?_
  refine z_sld C hZ (zin_i (j := 1) (by omega) hL) dL_law_437 ?_
  obtain ⟨r, G', M', e1, e2, hR2⟩ := hop (xs (Int32.toNatClampNeg ((nI i) + (1 : Int32)))) G M hRel
  refine z_callVi C (b := a 0) (As := [.int (xs (Int32.toNatClampNeg ((nI i) + (1 : Int32))))]) (rest := []) (c_X6_law E a (xs (Int32.toNatClampNeg ((nI i) + (1 : Int32)))) G e1) rfl gT_X6_law rfl rfl rfl 1 rfl (by decide +kernel) ⟨Nat.le_of_ble_eq_true rfl, Nat.le_of_ble_eq_true rfl⟩ (List.range 101) (zcatL (wEA_len E a G)) (znd _ List.nodup_range) (wEA_m E a _ _) (wEA E a G' ++ wModel E mb M) (zrepL (wEA_len E a G) (wEA_len E a G')) 0 6 rfl rfl rfl (Nat.le_of_ble_eq_true rfl) dL_law_438 ⟨Nat.le_of_ble_eq_true rfl, Nat.le_of_ble_eq_true rfl⟩ _ rfl ?_
  refine z_aload_n C 2 rfl rfl dL_law_441 ?_
  refine z_aload_n C 0 rfl rfl dL_law_442 ?_
  refine z_iload_n C 3 rfl rfl dL_law_443 ?_
  refine z_iconst C (v := (1 : Int32)) (by decide) dL_law_444 ?_
  refine z_iadd C dL_law_445 ?_
  refine z_sld C hZ (zin_i (j := 1) (by omega) hL) dL_law_446 ?_
  refine z_callVi C (b := mb 0) (As := [.int (xs (Int32.toNatClampNeg ((nI i) + (1 : Int32))))]) (rest := [.int r]) (c_X7_law E mb (xs (Int32.toNatClampNeg ((nI i) + (1 : Int32)))) M e2) rfl gT_X7_law rfl rfl rfl 1 rfl (by decide +kernel) ⟨Nat.le_of_ble_eq_true rfl, Nat.le_of_ble_eq_true rfl⟩ (List.range' 101 17) (zcatR (wEA_len E a _) (wModel_len E mb M)) (znd _ List.nodup_range') (wModel_m E mb _ _) (wEA E a G' ++ wModel E mb M') (zrepR (wEA_len E a _) (wModel_len E mb M) (wModel_len E mb M')) 0 7 rfl rfl rfl (Nat.le_of_ble_eq_true rfl) dL_law_447 ⟨Nat.le_of_ble_eq_true rfl, Nat.le_of_ble_eq_true rfl⟩ _ rfl ?_
  refine z_icmp_eq C 1514 (by decide) (F1 := some ()) (F2 := none) (r := ()) (if_pos rfl) dL_law_450 (fun _ _ => ?_) (fun _ h => by cases h)
  exact hk G' M' hR2

set_option maxHeartbeats 4000000 in
set_option maxRecDepth 100000 in
theorem law_bear {E : zEnv} {Γ : zG} {a mb : Nat → Nat} {b L i : Nat} {xs : Nat → Int32} {Rel : St → St → Prop} (hop : Op_bear Rel) (C : zC E Γ code RL 4 room_1 lw_tbl) (hZ : zS Γ b L xs) (hcl : Jvm.Cond.constantLong RL 13 4294967295 ∈ lw_tbl) (hL : L ≤ 2560) (hi : i + 5 ≤ L) {G M : St} (hRel : Rel G M) (hk : ∀ G2 M2 : St, Rel G2 M2 → Zt E Γ 4 600000 7302250 (wEA E a G2 ++ wModel E mb M2) [(0, .ref b), (1, .ref (a 0)), (2, .ref (mb 0)), (3, .int (nI i))] 1514 []) : Zt E Γ 4 600000 7302250 (wEA E a G ++ wModel E mb M) [(0, .ref b), (1, .ref (a 0)), (2, .ref (mb 0)), (3, .int (nI i))] 455 [] := by
  refine z_aload_n C 1 rfl rfl dL_law_455 ?_
  refine z_aload_n C 0 rfl rfl dL_law_456 ?_
  refine z_iload_n C 3 rfl rfl dL_law_457 ?_
  refine z_iconst C (v := (1 : Int32)) (by decide) dL_law_458 ?_
  refine z_iadd C dL_law_459 ?_
  refine z_sld C hZ (zin_i (j := 1) (by omega) hL) dL_law_460 ?_
  refine z_aload_n C 0 rfl rfl dL_law_461 ?_
  refine z_iload_n C 3 rfl rfl dL_law_462 ?_
  refine z_iconst C (v := (2 : Int32)) (by decide) dL_law_463 ?_
  refine z_iadd C dL_law_464 ?_
  refine z_sld C hZ (zin_i (j := 2) (by omega) hL) dL_law_465 ?_
  refine z_aload_n C 0 rfl rfl dL_law_466 ?_
  refine z_iload_n C 3 rfl rfl dL_law_467 ?_
  refine z_iconst C (v := (3 : Int32)) (by decide) dL_law_468 ?_
  refine z_iadd C dL_law_469 ?_
  refine z_sld C hZ (zin_i (j := 3) (by omega) hL) dL_law_470 ?_
  obtain ⟨r, G', M', e1, e2, hR2⟩ := hop (xs (Int32.toNatClampNeg ((nI i) + (1 : Int32)))) (xs (Int32.toNatClampNeg ((nI i) + (2 : Int32)))) (xs (Int32.toNatClampNeg ((nI i) + (3 : Int32)))) G M hRel
  refine z_callVi C (b := a 0) (As := [.int (xs (Int32.toNatClampNeg ((nI i) + (1 : Int32)))), .int (xs (Int32.toNatClampNeg ((nI i) + (2 : Int32)))), .int (xs (Int32.toNatClampNeg ((nI i) + (3 : Int32))))]) (rest := []) (c_X6_bear E a (xs (Int32.toNatClampNeg ((nI i) + (1 : Int32)))) (xs (Int32.toNatClampNeg ((nI i) + (2 : Int32)))) (xs (Int32.toNatClampNeg ((nI i) + (3 : Int32)))) G e1) rfl gT_X6_bear rfl rfl rfl 3 rfl (by decide +kernel) ⟨Nat.le_of_ble_eq_true rfl, Nat.le_of_ble_eq_true rfl⟩ (List.range 101) (zcatL (wEA_len E a G)) (znd _ List.nodup_range) (wEA_m E a _ _) (wEA E a G' ++ wModel E mb M) (zrepL (wEA_len E a G) (wEA_len E a G')) 0 6 rfl rfl rfl (Nat.le_of_ble_eq_true rfl) dL_law_471 ⟨Nat.le_of_ble_eq_true rfl, Nat.le_of_ble_eq_true rfl⟩ _ rfl ?_
  refine z_aload_n C 2 rfl rfl dL_law_474 ?_
  refine z_aload_n C 0 rfl rfl dL_law_475 ?_
  refine z_iload_n C 3 rfl rfl dL_law_476 ?_
  refine z_iconst C (v := (1 : Int32)) (by decide) dL_law_477 ?_
  refine z_iadd C dL_law_478 ?_
  refine z_sld C hZ (zin_i (j := 1) (by omega) hL) dL_law_479 ?_
  refine z_aload_n C 0 rfl rfl dL_law_480 ?_
  refine z_iload_n C 3 rfl rfl dL_law_481 ?_
  refine z_iconst C (v := (2 : Int32)) (by decide) dL_law_482 ?_
  refine z_iadd C dL_law_483 ?_
  refine z_sld C hZ (zin_i (j := 2) (by omega) hL) dL_law_484 ?_
  refine z_aload_n C 0 rfl rfl dL_law_485 ?_
  refine z_iload_n C 3 rfl rfl dL_law_486 ?_
  refine z_iconst C (v := (3 : Int32)) (by decide) dL_law_487 ?_
  refine z_iadd C dL_law_488 ?_
  refine z_sld C hZ (zin_i (j := 3) (by omega) hL) dL_law_489 ?_
  refine z_callVi C (b := mb 0) (As := [.int (xs (Int32.toNatClampNeg ((nI i) + (1 : Int32)))), .int (xs (Int32.toNatClampNeg ((nI i) + (2 : Int32)))), .int (xs (Int32.toNatClampNeg ((nI i) + (3 : Int32))))]) (rest := [.int r]) (c_X7_bear E mb (xs (Int32.toNatClampNeg ((nI i) + (1 : Int32)))) (xs (Int32.toNatClampNeg ((nI i) + (2 : Int32)))) (xs (Int32.toNatClampNeg ((nI i) + (3 : Int32)))) M e2) rfl gT_X7_bear rfl rfl rfl 3 rfl (by decide +kernel) ⟨Nat.le_of_ble_eq_true rfl, Nat.le_of_ble_eq_true rfl⟩ (List.range' 101 17) (zcatR (wEA_len E a _) (wModel_len E mb M)) (znd _ List.nodup_range') (wModel_m E mb _ _) (wEA E a G' ++ wModel E mb M') (zrepR (wEA_len E a _) (wModel_len E mb M) (wModel_len E mb M')) 0 7 rfl rfl rfl (Nat.le_of_ble_eq_true rfl) dL_law_490 ⟨Nat.le_of_ble_eq_true rfl, Nat.le_of_ble_eq_true rfl⟩ _ rfl ?_
  refine z_icmp_eq C 1514 (by decide) (F1 := some ()) (F2 := none) (r := ()) (if_pos rfl) dL_law_493 (fun _ _ => ?_) (fun _ h => by cases h)
  exact hk G' M' hR2

set_option maxHeartbeats 4000000 in
set_option maxRecDepth 100000 in
theorem law_die {E : zEnv} {Γ : zG} {a mb : Nat → Nat} {b L i : Nat} {xs : Nat → Int32} {Rel : St → St → Prop} (hop : Op_die Rel) (C : zC E Γ code RL 4 room_1 lw_tbl) (hZ : zS Γ b L xs) (hcl : Jvm.Cond.constantLong RL 13 4294967295 ∈ lw_tbl) (hL : L ≤ 2560) (hi : i + 5 ≤ L) {G M : St} (hRel : Rel G M) (hk : ∀ G2 M2 : St, Rel G2 M2 → Zt E Γ 4 600000 7302250 (wEA E a G2 ++ wModel E mb M2) [(0, .ref b), (1, .ref (a 0)), (2, .ref (mb 0)), (3, .int (nI i))] 1514 []) : Zt E Γ 4 600000 7302250 (wEA E a G ++ wModel E mb M) [(0, .ref b), (1, .ref (a 0)), (2, .ref (mb 0)), (3, .int (nI i))] 498 [] := by
  refine z_aload_n C 1 rfl rfl dL_law_498 ?_
  refine z_aload_n C 0 rfl rfl dL_law_499 ?_
  refine z_iload_n C 3 rfl rfl dL_law_500 ?_
  refine z_iconst C (v := (1 : Int32)) (by decide) dL_law_501 ?_
  refine z_iadd C dL_law_502 ?_
  refine z_sld C hZ (zin_i (j := 1) (by omega) hL) dL_law_503 ?_
  refine z_aload_n C 0 rfl rfl dL_law_504 ?_
  refine z_iload_n C 3 rfl rfl dL_law_505 ?_
  refine z_iconst C (v := (2 : Int32)) (by decide) dL_law_506 ?_
  refine z_iadd C dL_law_507 ?_
  refine z_sld C hZ (zin_i (j := 2) (by omega) hL) dL_law_508 ?_
  obtain ⟨r, G', M', e1, e2, hR2⟩ := hop (xs (Int32.toNatClampNeg ((nI i) + (1 : Int32)))) (xs (Int32.toNatClampNeg ((nI i) + (2 : Int32)))) G M hRel
  refine z_callVi C (b := a 0) (As := [.int (xs (Int32.toNatClampNeg ((nI i) + (1 : Int32)))), .int (xs (Int32.toNatClampNeg ((nI i) + (2 : Int32))))]) (rest := []) (c_X6_die E a (xs (Int32.toNatClampNeg ((nI i) + (1 : Int32)))) (xs (Int32.toNatClampNeg ((nI i) + (2 : Int32)))) G e1) rfl gT_X6_die rfl rfl rfl 2 rfl (by decide +kernel) ⟨Nat.le_of_ble_eq_true rfl, Nat.le_of_ble_eq_true rfl⟩ (List.range 101) (zcatL (wEA_len E a G)) (znd _ List.nodup_range) (wEA_m E a _ _) (wEA E a G' ++ wModel E mb M) (zrepL (wEA_len E a G) (wEA_len E a G')) 0 6 rfl rfl rfl (Nat.le_of_ble_eq_true rfl) dL_law_509 ⟨Nat.le_of_ble_eq_true rfl, Nat.le_of_ble_eq_true rfl⟩ _ rfl ?_
  refine z_aload_n C 2 rfl rfl dL_law_512 ?_
  refine z_aload_n C 0 rfl rfl dL_law_513 ?_
  refine z_iload_n C 3 rfl rfl dL_law_514 ?_
  refine z_iconst C (v := (1 : Int32)) (by decide) dL_law_515 ?_
  refine z_iadd C dL_law_516 ?_
  refine z_sld C hZ (zin_i (j := 1) (by omega) hL) dL_law_517 ?_
  refine z_aload_n C 0 rfl rfl dL_law_518 ?_
  refine z_iload_n C 3 rfl rfl dL_law_519 ?_
  refine z_iconst C (v := (2 : Int32)) (by decide) dL_law_520 ?_
  refine z_iadd C dL_law_521 ?_
  refine z_sld C hZ (zin_i (j := 2) (by omega) hL) dL_law_522 ?_
  refine z_callVi C (b := mb 0) (As := [.int (xs (Int32.toNatClampNeg ((nI i) + (1 : Int32)))), .int (xs (Int32.toNatClampNeg ((nI i) + (2 : Int32))))]) (rest := [.int r]) (c_X7_die E mb (xs (Int32.toNatClampNeg ((nI i) + (1 : Int32)))) (xs (Int32.toNatClampNeg ((nI i) + (2 : Int32)))) M e2) rfl gT_X7_die rfl rfl rfl 2 rfl (by decide +kernel) ⟨Nat.le_of_ble_eq_true rfl, Nat.le_of_ble_eq_true rfl⟩ (List.range' 101 17) (zcatR (wEA_len E a _) (wModel_len E mb M)) (znd _ List.nodup_range') (wModel_m E mb _ _) (wEA E a G' ++ wModel E mb M') (zrepR (wEA_len E a _) (wModel_len E mb M) (wModel_len E mb M')) 0 7 rfl rfl rfl (Nat.le_of_ble_eq_true rfl) dL_law_523 ⟨Nat.le_of_ble_eq_true rfl, Nat.le_of_ble_eq_true rfl⟩ _ rfl ?_
  refine z_icmp_eq C 1514 (by decide) (F1 := some ()) (F2 := none) (r := ()) (if_pos rfl) dL_law_526 (fun _ _ => ?_) (fun _ h => by cases h)
  exact hk G' M' hR2

set_option maxHeartbeats 4000000 in
set_option maxRecDepth 100000 in
theorem law_move {E : zEnv} {Γ : zG} {a mb : Nat → Nat} {b L i : Nat} {xs : Nat → Int32} {Rel : St → St → Prop} (hop : Op_move Rel) (C : zC E Γ code RL 4 room_1 lw_tbl) (hZ : zS Γ b L xs) (hcl : Jvm.Cond.constantLong RL 13 4294967295 ∈ lw_tbl) (hL : L ≤ 2560) (hi : i + 5 ≤ L) {G M : St} (hRel : Rel G M) (hk : ∀ G2 M2 : St, Rel G2 M2 → Zt E Γ 4 600000 7302250 (wEA E a G2 ++ wModel E mb M2) [(0, .ref b), (1, .ref (a 0)), (2, .ref (mb 0)), (3, .int (nI i))] 1514 []) : Zt E Γ 4 600000 7302250 (wEA E a G ++ wModel E mb M) [(0, .ref b), (1, .ref (a 0)), (2, .ref (mb 0)), (3, .int (nI i))] 531 [] := by
  refine z_aload_n C 1 rfl rfl dL_law_531 ?_
  refine z_aload_n C 0 rfl rfl dL_law_532 ?_
  refine z_iload_n C 3 rfl rfl dL_law_533 ?_
  refine z_iconst C (v := (1 : Int32)) (by decide) dL_law_534 ?_
  refine z_iadd C dL_law_535 ?_
  refine z_sld C hZ (zin_i (j := 1) (by omega) hL) dL_law_536 ?_
  refine z_aload_n C 0 rfl rfl dL_law_537 ?_
  refine z_iload_n C 3 rfl rfl dL_law_538 ?_
  refine z_iconst C (v := (2 : Int32)) (by decide) dL_law_539 ?_
  refine z_iadd C dL_law_540 ?_
  refine z_sld C hZ (zin_i (j := 2) (by omega) hL) dL_law_541 ?_
  refine z_aload_n C 0 rfl rfl dL_law_542 ?_
  refine z_iload_n C 3 rfl rfl dL_law_543 ?_
  refine z_iconst C (v := (3 : Int32)) (by decide) dL_law_544 ?_
  refine z_iadd C dL_law_545 ?_
  refine z_sld C hZ (zin_i (j := 3) (by omega) hL) dL_law_546 ?_
  obtain ⟨r, G', M', e1, e2, hR2⟩ := hop (xs (Int32.toNatClampNeg ((nI i) + (1 : Int32)))) (xs (Int32.toNatClampNeg ((nI i) + (2 : Int32)))) (xs (Int32.toNatClampNeg ((nI i) + (3 : Int32)))) G M hRel
  refine z_callVi C (b := a 0) (As := [.int (xs (Int32.toNatClampNeg ((nI i) + (1 : Int32)))), .int (xs (Int32.toNatClampNeg ((nI i) + (2 : Int32)))), .int (xs (Int32.toNatClampNeg ((nI i) + (3 : Int32))))]) (rest := []) (c_X6_move E a (xs (Int32.toNatClampNeg ((nI i) + (1 : Int32)))) (xs (Int32.toNatClampNeg ((nI i) + (2 : Int32)))) (xs (Int32.toNatClampNeg ((nI i) + (3 : Int32)))) G e1) rfl gT_X6_move rfl rfl rfl 3 rfl (by decide +kernel) ⟨Nat.le_of_ble_eq_true rfl, Nat.le_of_ble_eq_true rfl⟩ (List.range 101) (zcatL (wEA_len E a G)) (znd _ List.nodup_range) (wEA_m E a _ _) (wEA E a G' ++ wModel E mb M) (zrepL (wEA_len E a G) (wEA_len E a G')) 0 6 rfl rfl rfl (Nat.le_of_ble_eq_true rfl) dL_law_547 ⟨Nat.le_of_ble_eq_true rfl, Nat.le_of_ble_eq_true rfl⟩ _ rfl ?_
  refine z_aload_n C 2 rfl rfl dL_law_550 ?_
  refine z_aload_n C 0 rfl rfl dL_law_551 ?_
  refine z_iload_n C 3 rfl rfl dL_law_552 ?_
  refine z_iconst C (v := (1 : Int32)) (by decide) dL_law_553 ?_
  refine z_iadd C dL_law_554 ?_
  refine z_sld C hZ (zin_i (j := 1) (by omega) hL) dL_law_555 ?_
  refine z_aload_n C 0 rfl rfl dL_law_556 ?_
  refine z_iload_n C 3 rfl rfl dL_law_557 ?_
  refine z_iconst C (v := (2 : Int32)) (by decide) dL_law_558 ?_
  refine z_iadd C dL_law_559 ?_
  refine z_sld C hZ (zin_i (j := 2) (by omega) hL) dL_law_560 ?_
  refine z_aload_n C 0 rfl rfl dL_law_561 ?_
  refine z_iload_n C 3 rfl rfl dL_law_562 ?_
  refine z_iconst C (v := (3 : Int32)) (by decide) dL_law_563 ?_
  refine z_iadd C dL_law_564 ?_
  refine z_sld C hZ (zin_i (j := 3) (by omega) hL) dL_law_565 ?_
  refine z_callVi C (b := mb 0) (As := [.int (xs (Int32.toNatClampNeg ((nI i) + (1 : Int32)))), .int (xs (Int32.toNatClampNeg ((nI i) + (2 : Int32)))), .int (xs (Int32.toNatClampNeg ((nI i) + (3 : Int32))))]) (rest := [.int r]) (c_X7_move E mb (xs (Int32.toNatClampNeg ((nI i) + (1 : Int32)))) (xs (Int32.toNatClampNeg ((nI i) + (2 : Int32)))) (xs (Int32.toNatClampNeg ((nI i) + (3 : Int32)))) M e2) rfl gT_X7_move rfl rfl rfl 3 rfl (by decide +kernel) ⟨Nat.le_of_ble_eq_true rfl, Nat.le_of_ble_eq_true rfl⟩ (List.range' 101 17) (zcatR (wEA_len E a _) (wModel_len E mb M)) (znd _ List.nodup_range') (wModel_m E mb _ _) (wEA E a G' ++ wModel E mb M') (zrepR (wEA_len E a _) (wModel_len E mb M) (wModel_len E mb M')) 0 7 rfl rfl rfl (Nat.le_of_ble_eq_true rfl) dL_law_566 ⟨Nat.le_of_ble_eq_true rfl, Nat.le_of_ble_eq_true rfl⟩ _ rfl ?_
  refine z_icmp_eq C 1514 (by decide) (F1 := some ()) (F2 := none) (r := ()) (if_pos rfl) dL_law_569 (fun _ _ => ?_) (fun _ h => by cases h)
  exact hk G' M' hR2

set_option maxHeartbeats 4000000 in
set_option maxRecDepth 100000 in
theorem law_undo {E : zEnv} {Γ : zG} {a mb : Nat → Nat} {b L i : Nat} {xs : Nat → Int32} {Rel : St → St → Prop} (hop : Op_undo Rel) (C : zC E Γ code RL 4 room_1 lw_tbl) (hZ : zS Γ b L xs) (hcl : Jvm.Cond.constantLong RL 13 4294967295 ∈ lw_tbl) (hL : L ≤ 2560) (hi : i + 5 ≤ L) {G M : St} (hRel : Rel G M) (hk : ∀ G2 M2 : St, Rel G2 M2 → Zt E Γ 4 600000 7302250 (wEA E a G2 ++ wModel E mb M2) [(0, .ref b), (1, .ref (a 0)), (2, .ref (mb 0)), (3, .int (nI i))] 1514 []) : Zt E Γ 4 600000 7302250 (wEA E a G ++ wModel E mb M) [(0, .ref b), (1, .ref (a 0)), (2, .ref (mb 0)), (3, .int (nI i))] 574 [] := by
  refine z_aload_n C 1 rfl rfl dL_law_574 ?_
  refine z_aload_n C 0 rfl rfl dL_law_575 ?_
  refine z_iload_n C 3 rfl rfl dL_law_576 ?_
  refine z_iconst C (v := (1 : Int32)) (by decide) dL_law_577 ?_
  refine z_iadd C dL_law_578 ?_
  refine z_sld C hZ (zin_i (j := 1) (by omega) hL) dL_law_579 ?_
  obtain ⟨r, G', M', e1, e2, hR2⟩ := hop (xs (Int32.toNatClampNeg ((nI i) + (1 : Int32)))) G M hRel
  refine z_callVi C (b := a 0) (As := [.int (xs (Int32.toNatClampNeg ((nI i) + (1 : Int32))))]) (rest := []) (c_X6_undo E a (xs (Int32.toNatClampNeg ((nI i) + (1 : Int32)))) G e1) rfl gT_X6_undo rfl rfl rfl 1 rfl (by decide +kernel) ⟨Nat.le_of_ble_eq_true rfl, Nat.le_of_ble_eq_true rfl⟩ (List.range 101) (zcatL (wEA_len E a G)) (znd _ List.nodup_range) (wEA_m E a _ _) (wEA E a G' ++ wModel E mb M) (zrepL (wEA_len E a G) (wEA_len E a G')) 0 6 rfl rfl rfl (Nat.le_of_ble_eq_true rfl) dL_law_580 ⟨Nat.le_of_ble_eq_true rfl, Nat.le_of_ble_eq_true rfl⟩ _ rfl ?_
  refine z_aload_n C 2 rfl rfl dL_law_583 ?_
  refine z_aload_n C 0 rfl rfl dL_law_584 ?_
  refine z_iload_n C 3 rfl rfl dL_law_585 ?_
  refine z_iconst C (v := (1 : Int32)) (by decide) dL_law_586 ?_
  refine z_iadd C dL_law_587 ?_
  refine z_sld C hZ (zin_i (j := 1) (by omega) hL) dL_law_588 ?_
  refine z_callVi C (b := mb 0) (As := [.int (xs (Int32.toNatClampNeg ((nI i) + (1 : Int32))))]) (rest := [.int r]) (c_X7_undo E mb (xs (Int32.toNatClampNeg ((nI i) + (1 : Int32)))) M e2) rfl gT_X7_undo rfl rfl rfl 1 rfl (by decide +kernel) ⟨Nat.le_of_ble_eq_true rfl, Nat.le_of_ble_eq_true rfl⟩ (List.range' 101 17) (zcatR (wEA_len E a _) (wModel_len E mb M)) (znd _ List.nodup_range') (wModel_m E mb _ _) (wEA E a G' ++ wModel E mb M') (zrepR (wEA_len E a _) (wModel_len E mb M) (wModel_len E mb M')) 0 7 rfl rfl rfl (Nat.le_of_ble_eq_true rfl) dL_law_589 ⟨Nat.le_of_ble_eq_true rfl, Nat.le_of_ble_eq_true rfl⟩ _ rfl ?_
  refine z_icmp_eq C 1514 (by decide) (F1 := some ()) (F2 := none) (r := ()) (if_pos rfl) dL_law_592 (fun _ _ => ?_) (fun _ h => by cases h)
  exact hk G' M' hR2

set_option maxHeartbeats 4000000 in
set_option maxRecDepth 100000 in
theorem law_years {E : zEnv} {Γ : zG} {a mb : Nat → Nat} {b L i : Nat} {xs : Nat → Int32} {Rel : St → St → Prop} (hop : Op_years Rel) (C : zC E Γ code RL 4 room_1 lw_tbl) (hZ : zS Γ b L xs) (hcl : Jvm.Cond.constantLong RL 13 4294967295 ∈ lw_tbl) (hL : L ≤ 2560) (hi : i + 5 ≤ L) {G M : St} (hRel : Rel G M) (hk : ∀ G2 M2 : St, Rel G2 M2 → Zt E Γ 4 600000 7302250 (wEA E a G2 ++ wModel E mb M2) [(0, .ref b), (1, .ref (a 0)), (2, .ref (mb 0)), (3, .int (nI i))] 1514 []) : Zt E Γ 4 600000 7302250 (wEA E a G ++ wModel E mb M) [(0, .ref b), (1, .ref (a 0)), (2, .ref (mb 0)), (3, .int (nI i))] 597 [] := by
  refine z_aload_n C 1 rfl rfl dL_law_597 ?_
  refine z_aload_n C 0 rfl rfl dL_law_598 ?_
  refine z_iload_n C 3 rfl rfl dL_law_599 ?_
  refine z_iconst C (v := (1 : Int32)) (by decide) dL_law_600 ?_
  refine z_iadd C dL_law_601 ?_
  refine z_sld C hZ (zin_i (j := 1) (by omega) hL) dL_law_602 ?_
  refine z_aload_n C 0 rfl rfl dL_law_603 ?_
  refine z_iload_n C 3 rfl rfl dL_law_604 ?_
  refine z_iconst C (v := (2 : Int32)) (by decide) dL_law_605 ?_
  refine z_iadd C dL_law_606 ?_
  refine z_sld C hZ (zin_i (j := 2) (by omega) hL) dL_law_607 ?_
  obtain ⟨r, e1, e2, hR2⟩ := hop (xs (Int32.toNatClampNeg ((nI i) + (1 : Int32)))) (xs (Int32.toNatClampNeg ((nI i) + (2 : Int32)))) G M hRel
  refine z_callVi C (b := a 0) (As := [.int (xs (Int32.toNatClampNeg ((nI i) + (1 : Int32)))), .int (xs (Int32.toNatClampNeg ((nI i) + (2 : Int32))))]) (rest := []) (c_X6_years E a (xs (Int32.toNatClampNeg ((nI i) + (1 : Int32)))) (xs (Int32.toNatClampNeg ((nI i) + (2 : Int32)))) G e1) rfl gT_X6_years rfl rfl rfl 2 rfl (by decide +kernel) ⟨Nat.le_of_ble_eq_true rfl, Nat.le_of_ble_eq_true rfl⟩ (List.range 101) (zcatL (wEA_len E a G)) (znd _ List.nodup_range) (wEA_m E a _ _) (wEA E a G ++ wModel E mb M) (zrep_self (zcatL (wEA_len E a G))) 0 6 rfl rfl rfl (Nat.le_of_ble_eq_true rfl) dL_law_608 ⟨Nat.le_of_ble_eq_true rfl, Nat.le_of_ble_eq_true rfl⟩ _ rfl ?_
  refine z_aload_n C 2 rfl rfl dL_law_611 ?_
  refine z_aload_n C 0 rfl rfl dL_law_612 ?_
  refine z_iload_n C 3 rfl rfl dL_law_613 ?_
  refine z_iconst C (v := (1 : Int32)) (by decide) dL_law_614 ?_
  refine z_iadd C dL_law_615 ?_
  refine z_sld C hZ (zin_i (j := 1) (by omega) hL) dL_law_616 ?_
  refine z_aload_n C 0 rfl rfl dL_law_617 ?_
  refine z_iload_n C 3 rfl rfl dL_law_618 ?_
  refine z_iconst C (v := (2 : Int32)) (by decide) dL_law_619 ?_
  refine z_iadd C dL_law_620 ?_
  refine z_sld C hZ (zin_i (j := 2) (by omega) hL) dL_law_621 ?_
  refine z_callVi C (b := mb 0) (As := [.int (xs (Int32.toNatClampNeg ((nI i) + (1 : Int32)))), .int (xs (Int32.toNatClampNeg ((nI i) + (2 : Int32))))]) (rest := [.int r]) (c_X7_years E mb (xs (Int32.toNatClampNeg ((nI i) + (1 : Int32)))) (xs (Int32.toNatClampNeg ((nI i) + (2 : Int32)))) M e2) rfl gT_X7_years rfl rfl rfl 2 rfl (by decide +kernel) ⟨Nat.le_of_ble_eq_true rfl, Nat.le_of_ble_eq_true rfl⟩ (List.range' 101 17) (zcatR (wEA_len E a _) (wModel_len E mb M)) (znd _ List.nodup_range') (wModel_m E mb _ _) (wEA E a G ++ wModel E mb M) (zrep_self (zcatR (wEA_len E a _) (wModel_len E mb M))) 0 7 rfl rfl rfl (Nat.le_of_ble_eq_true rfl) dL_law_622 ⟨Nat.le_of_ble_eq_true rfl, Nat.le_of_ble_eq_true rfl⟩ _ rfl ?_
  refine z_icmp_eq C 1514 (by decide) (F1 := some ()) (F2 := none) (r := ()) (if_pos rfl) dL_law_625 (fun _ _ => ?_) (fun _ h => by cases h)
  exact hk G M hR2

set_option maxHeartbeats 4000000 in
set_option maxRecDepth 100000 in
theorem law_lives {E : zEnv} {Γ : zG} {a mb : Nat → Nat} {b L i : Nat} {xs : Nat → Int32} {Rel : St → St → Prop} (hop : Op_lives Rel) (C : zC E Γ code RL 4 room_1 lw_tbl) (hZ : zS Γ b L xs) (hcl : Jvm.Cond.constantLong RL 13 4294967295 ∈ lw_tbl) (hL : L ≤ 2560) (hi : i + 5 ≤ L) {G M : St} (hRel : Rel G M) (hk : ∀ G2 M2 : St, Rel G2 M2 → Zt E Γ 4 600000 7302250 (wEA E a G2 ++ wModel E mb M2) [(0, .ref b), (1, .ref (a 0)), (2, .ref (mb 0)), (3, .int (nI i))] 1514 []) : Zt E Γ 4 600000 7302250 (wEA E a G ++ wModel E mb M) [(0, .ref b), (1, .ref (a 0)), (2, .ref (mb 0)), (3, .int (nI i))] 630 [] := by
  refine z_aload_n C 1 rfl rfl dL_law_630 ?_
  refine z_aload_n C 0 rfl rfl dL_law_631 ?_
  refine z_iload_n C 3 rfl rfl dL_law_632 ?_
  refine z_iconst C (v := (1 : Int32)) (by decide) dL_law_633 ?_
  refine z_iadd C dL_law_634 ?_
  refine z_sld C hZ (zin_i (j := 1) (by omega) hL) dL_law_635 ?_
  refine z_aload_n C 0 rfl rfl dL_law_636 ?_
  refine z_iload_n C 3 rfl rfl dL_law_637 ?_
  refine z_iconst C (v := (2 : Int32)) (by decide) dL_law_638 ?_
  refine z_iadd C dL_law_639 ?_
  refine z_sld C hZ (zin_i (j := 2) (by omega) hL) dL_law_640 ?_
  obtain ⟨r, e1, e2, hR2⟩ := hop (xs (Int32.toNatClampNeg ((nI i) + (1 : Int32)))) (xs (Int32.toNatClampNeg ((nI i) + (2 : Int32)))) G M hRel
  refine z_callVi C (b := a 0) (As := [.int (xs (Int32.toNatClampNeg ((nI i) + (1 : Int32)))), .int (xs (Int32.toNatClampNeg ((nI i) + (2 : Int32))))]) (rest := []) (c_X6_lives E a (xs (Int32.toNatClampNeg ((nI i) + (1 : Int32)))) (xs (Int32.toNatClampNeg ((nI i) + (2 : Int32)))) G e1) rfl gT_X6_lives rfl rfl rfl 2 rfl (by decide +kernel) ⟨Nat.le_of_ble_eq_true rfl, Nat.le_of_ble_eq_true rfl⟩ (List.range 101) (zcatL (wEA_len E a G)) (znd _ List.nodup_range) (wEA_m E a _ _) (wEA E a G ++ wModel E mb M) (zrep_self (zcatL (wEA_len E a G))) 0 6 rfl rfl rfl (Nat.le_of_ble_eq_true rfl) dL_law_641 ⟨Nat.le_of_ble_eq_true rfl, Nat.le_of_ble_eq_true rfl⟩ _ rfl ?_
  refine z_aload_n C 2 rfl rfl dL_law_644 ?_
  refine z_aload_n C 0 rfl rfl dL_law_645 ?_
  refine z_iload_n C 3 rfl rfl dL_law_646 ?_
  refine z_iconst C (v := (1 : Int32)) (by decide) dL_law_647 ?_
  refine z_iadd C dL_law_648 ?_
  refine z_sld C hZ (zin_i (j := 1) (by omega) hL) dL_law_649 ?_
  refine z_aload_n C 0 rfl rfl dL_law_650 ?_
  refine z_iload_n C 3 rfl rfl dL_law_651 ?_
  refine z_iconst C (v := (2 : Int32)) (by decide) dL_law_652 ?_
  refine z_iadd C dL_law_653 ?_
  refine z_sld C hZ (zin_i (j := 2) (by omega) hL) dL_law_654 ?_
  refine z_callVi C (b := mb 0) (As := [.int (xs (Int32.toNatClampNeg ((nI i) + (1 : Int32)))), .int (xs (Int32.toNatClampNeg ((nI i) + (2 : Int32))))]) (rest := [.int r]) (c_X7_lives E mb (xs (Int32.toNatClampNeg ((nI i) + (1 : Int32)))) (xs (Int32.toNatClampNeg ((nI i) + (2 : Int32)))) M e2) rfl gT_X7_lives rfl rfl rfl 2 rfl (by decide +kernel) ⟨Nat.le_of_ble_eq_true rfl, Nat.le_of_ble_eq_true rfl⟩ (List.range' 101 17) (zcatR (wEA_len E a _) (wModel_len E mb M)) (znd _ List.nodup_range') (wModel_m E mb _ _) (wEA E a G ++ wModel E mb M) (zrep_self (zcatR (wEA_len E a _) (wModel_len E mb M))) 0 7 rfl rfl rfl (Nat.le_of_ble_eq_true rfl) dL_law_655 ⟨Nat.le_of_ble_eq_true rfl, Nat.le_of_ble_eq_true rfl⟩ _ rfl ?_
  refine z_icmp_eq C 1514 (by decide) (F1 := some ()) (F2 := none) (r := ()) (if_pos rfl) dL_law_658 (fun _ _ => ?_) (fun _ h => by cases h)
  exact hk G M hR2

set_option maxHeartbeats 4000000 in
set_option maxRecDepth 100000 in
theorem law_number {E : zEnv} {Γ : zG} {a mb : Nat → Nat} {b L i : Nat} {xs : Nat → Int32} {Rel : St → St → Prop} (hop : Op_number Rel) (C : zC E Γ code RL 4 room_1 lw_tbl) (hZ : zS Γ b L xs) (hcl : Jvm.Cond.constantLong RL 13 4294967295 ∈ lw_tbl) (hL : L ≤ 2560) (hi : i + 5 ≤ L) {G M : St} (hRel : Rel G M) (hk : ∀ G2 M2 : St, Rel G2 M2 → Zt E Γ 4 600000 7302250 (wEA E a G2 ++ wModel E mb M2) [(0, .ref b), (1, .ref (a 0)), (2, .ref (mb 0)), (3, .int (nI i))] 1514 []) : Zt E Γ 4 600000 7302250 (wEA E a G ++ wModel E mb M) [(0, .ref b), (1, .ref (a 0)), (2, .ref (mb 0)), (3, .int (nI i))] 663 [] := by
  refine z_aload_n C 1 rfl rfl dL_law_663 ?_
  refine z_aload_n C 0 rfl rfl dL_law_664 ?_
  refine z_iload_n C 3 rfl rfl dL_law_665 ?_
  refine z_iconst C (v := (1 : Int32)) (by decide) dL_law_666 ?_
  refine z_iadd C dL_law_667 ?_
  refine z_sld C hZ (zin_i (j := 1) (by omega) hL) dL_law_668 ?_
  refine z_aload_n C 0 rfl rfl dL_law_669 ?_
  refine z_iload_n C 3 rfl rfl dL_law_670 ?_
  refine z_iconst C (v := (2 : Int32)) (by decide) dL_law_671 ?_
  refine z_iadd C dL_law_672 ?_
  refine z_sld C hZ (zin_i (j := 2) (by omega) hL) dL_law_673 ?_
  obtain ⟨r, G', M', e1, e2, hR2⟩ := hop (xs (Int32.toNatClampNeg ((nI i) + (1 : Int32)))) (xs (Int32.toNatClampNeg ((nI i) + (2 : Int32)))) G M hRel
  refine z_callVi C (b := a 0) (As := [.int (xs (Int32.toNatClampNeg ((nI i) + (1 : Int32)))), .int (xs (Int32.toNatClampNeg ((nI i) + (2 : Int32))))]) (rest := []) (c_X6_number E a (xs (Int32.toNatClampNeg ((nI i) + (1 : Int32)))) (xs (Int32.toNatClampNeg ((nI i) + (2 : Int32)))) G e1) rfl gT_X6_number rfl rfl rfl 2 rfl (by decide +kernel) ⟨Nat.le_of_ble_eq_true rfl, Nat.le_of_ble_eq_true rfl⟩ (List.range 101) (zcatL (wEA_len E a G)) (znd _ List.nodup_range) (wEA_m E a _ _) (wEA E a G' ++ wModel E mb M) (zrepL (wEA_len E a G) (wEA_len E a G')) 0 6 rfl rfl rfl (Nat.le_of_ble_eq_true rfl) dL_law_674 ⟨Nat.le_of_ble_eq_true rfl, Nat.le_of_ble_eq_true rfl⟩ _ rfl ?_
  refine z_aload_n C 2 rfl rfl dL_law_677 ?_
  refine z_aload_n C 0 rfl rfl dL_law_678 ?_
  refine z_iload_n C 3 rfl rfl dL_law_679 ?_
  refine z_iconst C (v := (1 : Int32)) (by decide) dL_law_680 ?_
  refine z_iadd C dL_law_681 ?_
  refine z_sld C hZ (zin_i (j := 1) (by omega) hL) dL_law_682 ?_
  refine z_aload_n C 0 rfl rfl dL_law_683 ?_
  refine z_iload_n C 3 rfl rfl dL_law_684 ?_
  refine z_iconst C (v := (2 : Int32)) (by decide) dL_law_685 ?_
  refine z_iadd C dL_law_686 ?_
  refine z_sld C hZ (zin_i (j := 2) (by omega) hL) dL_law_687 ?_
  refine z_callVi C (b := mb 0) (As := [.int (xs (Int32.toNatClampNeg ((nI i) + (1 : Int32)))), .int (xs (Int32.toNatClampNeg ((nI i) + (2 : Int32))))]) (rest := [.int r]) (c_X7_number E mb (xs (Int32.toNatClampNeg ((nI i) + (1 : Int32)))) (xs (Int32.toNatClampNeg ((nI i) + (2 : Int32)))) M e2) rfl gT_X7_number rfl rfl rfl 2 rfl (by decide +kernel) ⟨Nat.le_of_ble_eq_true rfl, Nat.le_of_ble_eq_true rfl⟩ (List.range' 101 17) (zcatR (wEA_len E a _) (wModel_len E mb M)) (znd _ List.nodup_range') (wModel_m E mb _ _) (wEA E a G' ++ wModel E mb M') (zrepR (wEA_len E a _) (wModel_len E mb M) (wModel_len E mb M')) 0 7 rfl rfl rfl (Nat.le_of_ble_eq_true rfl) dL_law_688 ⟨Nat.le_of_ble_eq_true rfl, Nat.le_of_ble_eq_true rfl⟩ _ rfl ?_
  refine z_icmp_eq C 1514 (by decide) (F1 := some ()) (F2 := none) (r := ()) (if_pos rfl) dL_law_691 (fun _ _ => ?_) (fun _ h => by cases h)
  exact hk G' M' hR2

set_option maxHeartbeats 4000000 in
set_option maxRecDepth 100000 in
theorem law_at {E : zEnv} {Γ : zG} {a mb : Nat → Nat} {b L i : Nat} {xs : Nat → Int32} {Rel : St → St → Prop} (hop : Op_at Rel) (C : zC E Γ code RL 4 room_1 lw_tbl) (hZ : zS Γ b L xs) (hcl : Jvm.Cond.constantLong RL 13 4294967295 ∈ lw_tbl) (hL : L ≤ 2560) (hi : i + 5 ≤ L) {G M : St} (hRel : Rel G M) (hk : ∀ G2 M2 : St, Rel G2 M2 → Zt E Γ 4 600000 7302250 (wEA E a G2 ++ wModel E mb M2) [(0, .ref b), (1, .ref (a 0)), (2, .ref (mb 0)), (3, .int (nI i))] 1514 []) : Zt E Γ 4 600000 7302250 (wEA E a G ++ wModel E mb M) [(0, .ref b), (1, .ref (a 0)), (2, .ref (mb 0)), (3, .int (nI i))] 696 [] := by
  refine z_aload_n C 1 rfl rfl dL_law_696 ?_
  refine z_aload_n C 0 rfl rfl dL_law_697 ?_
  refine z_iload_n C 3 rfl rfl dL_law_698 ?_
  refine z_iconst C (v := (1 : Int32)) (by decide) dL_law_699 ?_
  refine z_iadd C dL_law_700 ?_
  refine z_sld C hZ (zin_i (j := 1) (by omega) hL) dL_law_701 ?_
  refine z_aload_n C 0 rfl rfl dL_law_702 ?_
  refine z_iload_n C 3 rfl rfl dL_law_703 ?_
  refine z_iconst C (v := (2 : Int32)) (by decide) dL_law_704 ?_
  refine z_iadd C dL_law_705 ?_
  refine z_sld C hZ (zin_i (j := 2) (by omega) hL) dL_law_706 ?_
  obtain ⟨r, G', M', e1, e2, hR2⟩ := hop (xs (Int32.toNatClampNeg ((nI i) + (1 : Int32)))) (xs (Int32.toNatClampNeg ((nI i) + (2 : Int32)))) G M hRel
  refine z_callVi C (b := a 0) (As := [.int (xs (Int32.toNatClampNeg ((nI i) + (1 : Int32)))), .int (xs (Int32.toNatClampNeg ((nI i) + (2 : Int32))))]) (rest := []) (c_X6_at E a (xs (Int32.toNatClampNeg ((nI i) + (1 : Int32)))) (xs (Int32.toNatClampNeg ((nI i) + (2 : Int32)))) G e1) rfl gT_X6_at rfl rfl rfl 2 rfl (by decide +kernel) ⟨Nat.le_of_ble_eq_true rfl, Nat.le_of_ble_eq_true rfl⟩ (List.range 101) (zcatL (wEA_len E a G)) (znd _ List.nodup_range) (wEA_m E a _ _) (wEA E a G' ++ wModel E mb M) (zrepL (wEA_len E a G) (wEA_len E a G')) 0 6 rfl rfl rfl (Nat.le_of_ble_eq_true rfl) dL_law_707 ⟨Nat.le_of_ble_eq_true rfl, Nat.le_of_ble_eq_true rfl⟩ _ rfl ?_
  refine z_aload_n C 2 rfl rfl dL_law_710 ?_
  refine z_aload_n C 0 rfl rfl dL_law_711 ?_
  refine z_iload_n C 3 rfl rfl dL_law_712 ?_
  refine z_iconst C (v := (1 : Int32)) (by decide) dL_law_713 ?_
  refine z_iadd C dL_law_714 ?_
  refine z_sld C hZ (zin_i (j := 1) (by omega) hL) dL_law_715 ?_
  refine z_aload_n C 0 rfl rfl dL_law_716 ?_
  refine z_iload_n C 3 rfl rfl dL_law_717 ?_
  refine z_iconst C (v := (2 : Int32)) (by decide) dL_law_718 ?_
  refine z_iadd C dL_law_719 ?_
  refine z_sld C hZ (zin_i (j := 2) (by omega) hL) dL_law_720 ?_
  refine z_callVi C (b := mb 0) (As := [.int (xs (Int32.toNatClampNeg ((nI i) + (1 : Int32)))), .int (xs (Int32.toNatClampNeg ((nI i) + (2 : Int32))))]) (rest := [.int r]) (c_X7_at E mb (xs (Int32.toNatClampNeg ((nI i) + (1 : Int32)))) (xs (Int32.toNatClampNeg ((nI i) + (2 : Int32)))) M e2) rfl gT_X7_at rfl rfl rfl 2 rfl (by decide +kernel) ⟨Nat.le_of_ble_eq_true rfl, Nat.le_of_ble_eq_true rfl⟩ (List.range' 101 17) (zcatR (wEA_len E a _) (wModel_len E mb M)) (znd _ List.nodup_range') (wModel_m E mb _ _) (wEA E a G' ++ wModel E mb M') (zrepR (wEA_len E a _) (wModel_len E mb M) (wModel_len E mb M')) 0 7 rfl rfl rfl (Nat.le_of_ble_eq_true rfl) dL_law_721 ⟨Nat.le_of_ble_eq_true rfl, Nat.le_of_ble_eq_true rfl⟩ _ rfl ?_
  refine z_icmp_eq C 1514 (by decide) (F1 := some ()) (F2 := none) (r := ()) (if_pos rfl) dL_law_724 (fun _ _ => ?_) (fun _ h => by cases h)
  exact hk G' M' hR2

set_option maxHeartbeats 4000000 in
set_option maxRecDepth 100000 in
theorem law_twins {E : zEnv} {Γ : zG} {a mb : Nat → Nat} {b L i : Nat} {xs : Nat → Int32} {Rel : St → St → Prop} (hop : Op_twins Rel) (C : zC E Γ code RL 4 room_1 lw_tbl) (hZ : zS Γ b L xs) (hcl : Jvm.Cond.constantLong RL 13 4294967295 ∈ lw_tbl) (hL : L ≤ 2560) (hi : i + 5 ≤ L) {G M : St} (hRel : Rel G M) (hk : ∀ G2 M2 : St, Rel G2 M2 → Zt E Γ 4 600000 7302250 (wEA E a G2 ++ wModel E mb M2) [(0, .ref b), (1, .ref (a 0)), (2, .ref (mb 0)), (3, .int (nI i))] 1514 []) : Zt E Γ 4 600000 7302250 (wEA E a G ++ wModel E mb M) [(0, .ref b), (1, .ref (a 0)), (2, .ref (mb 0)), (3, .int (nI i))] 729 [] := by
  refine z_aload_n C 1 rfl rfl dL_law_729 ?_
  refine z_aload_n C 0 rfl rfl dL_law_730 ?_
  refine z_iload_n C 3 rfl rfl dL_law_731 ?_
  refine z_iconst C (v := (1 : Int32)) (by decide) dL_law_732 ?_
  refine z_iadd C dL_law_733 ?_
  refine z_sld C hZ (zin_i (j := 1) (by omega) hL) dL_law_734 ?_
  obtain ⟨r, G', M', e1, e2, hR2⟩ := hop (xs (Int32.toNatClampNeg ((nI i) + (1 : Int32)))) G M hRel
  refine z_callVi C (b := a 0) (As := [.int (xs (Int32.toNatClampNeg ((nI i) + (1 : Int32))))]) (rest := []) (c_X6_twins E a (xs (Int32.toNatClampNeg ((nI i) + (1 : Int32)))) G e1) rfl gT_X6_twins rfl rfl rfl 1 rfl (by decide +kernel) ⟨Nat.le_of_ble_eq_true rfl, Nat.le_of_ble_eq_true rfl⟩ (List.range 101) (zcatL (wEA_len E a G)) (znd _ List.nodup_range) (wEA_m E a _ _) (wEA E a G' ++ wModel E mb M) (zrepL (wEA_len E a G) (wEA_len E a G')) 0 6 rfl rfl rfl (Nat.le_of_ble_eq_true rfl) dL_law_735 ⟨Nat.le_of_ble_eq_true rfl, Nat.le_of_ble_eq_true rfl⟩ _ rfl ?_
  refine z_aload_n C 2 rfl rfl dL_law_738 ?_
  refine z_aload_n C 0 rfl rfl dL_law_739 ?_
  refine z_iload_n C 3 rfl rfl dL_law_740 ?_
  refine z_iconst C (v := (1 : Int32)) (by decide) dL_law_741 ?_
  refine z_iadd C dL_law_742 ?_
  refine z_sld C hZ (zin_i (j := 1) (by omega) hL) dL_law_743 ?_
  refine z_callVi C (b := mb 0) (As := [.int (xs (Int32.toNatClampNeg ((nI i) + (1 : Int32))))]) (rest := [.int r]) (c_X7_twins E mb (xs (Int32.toNatClampNeg ((nI i) + (1 : Int32)))) M e2) rfl gT_X7_twins rfl rfl rfl 1 rfl (by decide +kernel) ⟨Nat.le_of_ble_eq_true rfl, Nat.le_of_ble_eq_true rfl⟩ (List.range' 101 17) (zcatR (wEA_len E a _) (wModel_len E mb M)) (znd _ List.nodup_range') (wModel_m E mb _ _) (wEA E a G' ++ wModel E mb M') (zrepR (wEA_len E a _) (wModel_len E mb M) (wModel_len E mb M')) 0 7 rfl rfl rfl (Nat.le_of_ble_eq_true rfl) dL_law_744 ⟨Nat.le_of_ble_eq_true rfl, Nat.le_of_ble_eq_true rfl⟩ _ rfl ?_
  refine z_icmp_eq C 1514 (by decide) (F1 := some ()) (F2 := none) (r := ()) (if_pos rfl) dL_law_747 (fun _ _ => ?_) (fun _ h => by cases h)
  exact hk G' M' hR2

set_option maxHeartbeats 4000000 in
set_option maxRecDepth 100000 in
theorem law_changes {E : zEnv} {Γ : zG} {a mb : Nat → Nat} {b L i : Nat} {xs : Nat → Int32} {Rel : St → St → Prop} (hop : Op_changes Rel) (C : zC E Γ code RL 4 room_1 lw_tbl) (hZ : zS Γ b L xs) (hcl : Jvm.Cond.constantLong RL 13 4294967295 ∈ lw_tbl) (hL : L ≤ 2560) (hi : i + 5 ≤ L) {G M : St} (hRel : Rel G M) (hk : ∀ G2 M2 : St, Rel G2 M2 → Zt E Γ 4 600000 7302250 (wEA E a G2 ++ wModel E mb M2) [(0, .ref b), (1, .ref (a 0)), (2, .ref (mb 0)), (3, .int (nI i))] 1514 []) : Zt E Γ 4 600000 7302250 (wEA E a G ++ wModel E mb M) [(0, .ref b), (1, .ref (a 0)), (2, .ref (mb 0)), (3, .int (nI i))] 752 [] := by
  refine z_aload_n C 1 rfl rfl dL_law_752 ?_
  refine z_aload_n C 0 rfl rfl dL_law_753 ?_
  refine z_iload_n C 3 rfl rfl dL_law_754 ?_
  refine z_iconst C (v := (1 : Int32)) (by decide) dL_law_755 ?_
  refine z_iadd C dL_law_756 ?_
  refine z_sld C hZ (zin_i (j := 1) (by omega) hL) dL_law_757 ?_
  refine z_aload_n C 0 rfl rfl dL_law_758 ?_
  refine z_iload_n C 3 rfl rfl dL_law_759 ?_
  refine z_iconst C (v := (2 : Int32)) (by decide) dL_law_760 ?_
  refine z_iadd C dL_law_761 ?_
  refine z_sld C hZ (zin_i (j := 2) (by omega) hL) dL_law_762 ?_
  obtain ⟨r, G', M', e1, e2, hR2⟩ := hop (xs (Int32.toNatClampNeg ((nI i) + (1 : Int32)))) (xs (Int32.toNatClampNeg ((nI i) + (2 : Int32)))) G M hRel
  refine z_callVi C (b := a 0) (As := [.int (xs (Int32.toNatClampNeg ((nI i) + (1 : Int32)))), .int (xs (Int32.toNatClampNeg ((nI i) + (2 : Int32))))]) (rest := []) (c_X6_changes E a (xs (Int32.toNatClampNeg ((nI i) + (1 : Int32)))) (xs (Int32.toNatClampNeg ((nI i) + (2 : Int32)))) G e1) rfl gT_X6_changes rfl rfl rfl 2 rfl (by decide +kernel) ⟨Nat.le_of_ble_eq_true rfl, Nat.le_of_ble_eq_true rfl⟩ (List.range 101) (zcatL (wEA_len E a G)) (znd _ List.nodup_range) (wEA_m E a _ _) (wEA E a G' ++ wModel E mb M) (zrepL (wEA_len E a G) (wEA_len E a G')) 0 6 rfl rfl rfl (Nat.le_of_ble_eq_true rfl) dL_law_763 ⟨Nat.le_of_ble_eq_true rfl, Nat.le_of_ble_eq_true rfl⟩ _ rfl ?_
  refine z_aload_n C 2 rfl rfl dL_law_766 ?_
  refine z_aload_n C 0 rfl rfl dL_law_767 ?_
  refine z_iload_n C 3 rfl rfl dL_law_768 ?_
  refine z_iconst C (v := (1 : Int32)) (by decide) dL_law_769 ?_
  refine z_iadd C dL_law_770 ?_
  refine z_sld C hZ (zin_i (j := 1) (by omega) hL) dL_law_771 ?_
  refine z_aload_n C 0 rfl rfl dL_law_772 ?_
  refine z_iload_n C 3 rfl rfl dL_law_773 ?_
  refine z_iconst C (v := (2 : Int32)) (by decide) dL_law_774 ?_
  refine z_iadd C dL_law_775 ?_
  refine z_sld C hZ (zin_i (j := 2) (by omega) hL) dL_law_776 ?_
  refine z_callVi C (b := mb 0) (As := [.int (xs (Int32.toNatClampNeg ((nI i) + (1 : Int32)))), .int (xs (Int32.toNatClampNeg ((nI i) + (2 : Int32))))]) (rest := [.int r]) (c_X7_changes E mb (xs (Int32.toNatClampNeg ((nI i) + (1 : Int32)))) (xs (Int32.toNatClampNeg ((nI i) + (2 : Int32)))) M e2) rfl gT_X7_changes rfl rfl rfl 2 rfl (by decide +kernel) ⟨Nat.le_of_ble_eq_true rfl, Nat.le_of_ble_eq_true rfl⟩ (List.range' 101 17) (zcatR (wEA_len E a _) (wModel_len E mb M)) (znd _ List.nodup_range') (wModel_m E mb _ _) (wEA E a G' ++ wModel E mb M') (zrepR (wEA_len E a _) (wModel_len E mb M) (wModel_len E mb M')) 0 7 rfl rfl rfl (Nat.le_of_ble_eq_true rfl) dL_law_777 ⟨Nat.le_of_ble_eq_true rfl, Nat.le_of_ble_eq_true rfl⟩ _ rfl ?_
  refine z_icmp_eq C 1514 (by decide) (F1 := some ()) (F2 := none) (r := ()) (if_pos rfl) dL_law_780 (fun _ _ => ?_) (fun _ h => by cases h)
  exact hk G' M' hR2

set_option maxHeartbeats 4000000 in
set_option maxRecDepth 100000 in
theorem law_descending {E : zEnv} {Γ : zG} {a mb : Nat → Nat} {b L i : Nat} {xs : Nat → Int32} {Rel : St → St → Prop} (hop : Op_descending Rel) (C : zC E Γ code RL 4 room_1 lw_tbl) (hZ : zS Γ b L xs) (hcl : Jvm.Cond.constantLong RL 13 4294967295 ∈ lw_tbl) (hL : L ≤ 2560) (hi : i + 5 ≤ L) {G M : St} (hRel : Rel G M) (hk : ∀ G2 M2 : St, Rel G2 M2 → Zt E Γ 4 600000 7302250 (wEA E a G2 ++ wModel E mb M2) [(0, .ref b), (1, .ref (a 0)), (2, .ref (mb 0)), (3, .int (nI i))] 1514 []) : Zt E Γ 4 600000 7302250 (wEA E a G ++ wModel E mb M) [(0, .ref b), (1, .ref (a 0)), (2, .ref (mb 0)), (3, .int (nI i))] 785 [] := by
  refine z_aload_n C 1 rfl rfl dL_law_785 ?_
  refine z_aload_n C 0 rfl rfl dL_law_786 ?_
  refine z_iload_n C 3 rfl rfl dL_law_787 ?_
  refine z_iconst C (v := (1 : Int32)) (by decide) dL_law_788 ?_
  refine z_iadd C dL_law_789 ?_
  refine z_sld C hZ (zin_i (j := 1) (by omega) hL) dL_law_790 ?_
  refine z_aload_n C 0 rfl rfl dL_law_791 ?_
  refine z_iload_n C 3 rfl rfl dL_law_792 ?_
  refine z_iconst C (v := (2 : Int32)) (by decide) dL_law_793 ?_
  refine z_iadd C dL_law_794 ?_
  refine z_sld C hZ (zin_i (j := 2) (by omega) hL) dL_law_795 ?_
  obtain ⟨r, G', M', e1, e2, hR2⟩ := hop (xs (Int32.toNatClampNeg ((nI i) + (1 : Int32)))) (xs (Int32.toNatClampNeg ((nI i) + (2 : Int32)))) G M hRel
  refine z_callVi C (b := a 0) (As := [.int (xs (Int32.toNatClampNeg ((nI i) + (1 : Int32)))), .int (xs (Int32.toNatClampNeg ((nI i) + (2 : Int32))))]) (rest := []) (c_X6_descending E a (xs (Int32.toNatClampNeg ((nI i) + (1 : Int32)))) (xs (Int32.toNatClampNeg ((nI i) + (2 : Int32)))) G e1) rfl gT_X6_descending rfl rfl rfl 2 rfl (by decide +kernel) ⟨Nat.le_of_ble_eq_true rfl, Nat.le_of_ble_eq_true rfl⟩ (List.range 101) (zcatL (wEA_len E a G)) (znd _ List.nodup_range) (wEA_m E a _ _) (wEA E a G' ++ wModel E mb M) (zrepL (wEA_len E a G) (wEA_len E a G')) 0 6 rfl rfl rfl (Nat.le_of_ble_eq_true rfl) dL_law_796 ⟨Nat.le_of_ble_eq_true rfl, Nat.le_of_ble_eq_true rfl⟩ _ rfl ?_
  refine z_aload_n C 2 rfl rfl dL_law_799 ?_
  refine z_aload_n C 0 rfl rfl dL_law_800 ?_
  refine z_iload_n C 3 rfl rfl dL_law_801 ?_
  refine z_iconst C (v := (1 : Int32)) (by decide) dL_law_802 ?_
  refine z_iadd C dL_law_803 ?_
  refine z_sld C hZ (zin_i (j := 1) (by omega) hL) dL_law_804 ?_
  refine z_aload_n C 0 rfl rfl dL_law_805 ?_
  refine z_iload_n C 3 rfl rfl dL_law_806 ?_
  refine z_iconst C (v := (2 : Int32)) (by decide) dL_law_807 ?_
  refine z_iadd C dL_law_808 ?_
  refine z_sld C hZ (zin_i (j := 2) (by omega) hL) dL_law_809 ?_
  refine z_callVi C (b := mb 0) (As := [.int (xs (Int32.toNatClampNeg ((nI i) + (1 : Int32)))), .int (xs (Int32.toNatClampNeg ((nI i) + (2 : Int32))))]) (rest := [.int r]) (c_X7_descending E mb (xs (Int32.toNatClampNeg ((nI i) + (1 : Int32)))) (xs (Int32.toNatClampNeg ((nI i) + (2 : Int32)))) M e2) rfl gT_X7_descending rfl rfl rfl 2 rfl (by decide +kernel) ⟨Nat.le_of_ble_eq_true rfl, Nat.le_of_ble_eq_true rfl⟩ (List.range' 101 17) (zcatR (wEA_len E a _) (wModel_len E mb M)) (znd _ List.nodup_range') (wModel_m E mb _ _) (wEA E a G' ++ wModel E mb M') (zrepR (wEA_len E a _) (wModel_len E mb M) (wModel_len E mb M')) 0 7 rfl rfl rfl (Nat.le_of_ble_eq_true rfl) dL_law_810 ⟨Nat.le_of_ble_eq_true rfl, Nat.le_of_ble_eq_true rfl⟩ _ rfl ?_
  refine z_icmp_eq C 1514 (by decide) (F1 := some ()) (F2 := none) (r := ()) (if_pos rfl) dL_law_813 (fun _ _ => ?_) (fun _ h => by cases h)
  exact hk G' M' hR2

set_option maxHeartbeats 4000000 in
set_option maxRecDepth 100000 in
theorem law_all {E : zEnv} {Γ : zG} {a mb : Nat → Nat} {b L i : Nat} {xs : Nat → Int32} {Rel : St → St → Prop} (hop : Op_all Rel) (C : zC E Γ code RL 4 room_1 lw_tbl) (hZ : zS Γ b L xs) (hcl : Jvm.Cond.constantLong RL 13 4294967295 ∈ lw_tbl) (hL : L ≤ 2560) (hi : i + 5 ≤ L) {G M : St} (hRel : Rel G M) (hk : ∀ G2 M2 : St, Rel G2 M2 → Zt E Γ 4 600000 7302250 (wEA E a G2 ++ wModel E mb M2) [(0, .ref b), (1, .ref (a 0)), (2, .ref (mb 0)), (3, .int (nI i))] 1514 []) : Zt E Γ 4 600000 7302250 (wEA E a G ++ wModel E mb M) [(0, .ref b), (1, .ref (a 0)), (2, .ref (mb 0)), (3, .int (nI i))] 818 [] := by
  refine z_aload_n C 1 rfl rfl dL_law_818 ?_
  refine z_aload_n C 0 rfl rfl dL_law_819 ?_
  refine z_iload_n C 3 rfl rfl dL_law_820 ?_
  refine z_iconst C (v := (1 : Int32)) (by decide) dL_law_821 ?_
  refine z_iadd C dL_law_822 ?_
  refine z_sld C hZ (zin_i (j := 1) (by omega) hL) dL_law_823 ?_
  refine z_aload_n C 0 rfl rfl dL_law_824 ?_
  refine z_iload_n C 3 rfl rfl dL_law_825 ?_
  refine z_iconst C (v := (2 : Int32)) (by decide) dL_law_826 ?_
  refine z_iadd C dL_law_827 ?_
  refine z_sld C hZ (zin_i (j := 2) (by omega) hL) dL_law_828 ?_
  obtain ⟨r, G', M', e1, e2, hR2⟩ := hop (xs (Int32.toNatClampNeg ((nI i) + (1 : Int32)))) (xs (Int32.toNatClampNeg ((nI i) + (2 : Int32)))) G M hRel
  refine z_callVi C (b := a 0) (As := [.int (xs (Int32.toNatClampNeg ((nI i) + (1 : Int32)))), .int (xs (Int32.toNatClampNeg ((nI i) + (2 : Int32))))]) (rest := []) (c_X6_all E a (xs (Int32.toNatClampNeg ((nI i) + (1 : Int32)))) (xs (Int32.toNatClampNeg ((nI i) + (2 : Int32)))) G e1) rfl gT_X6_all rfl rfl rfl 2 rfl (by decide +kernel) ⟨Nat.le_of_ble_eq_true rfl, Nat.le_of_ble_eq_true rfl⟩ (List.range 101) (zcatL (wEA_len E a G)) (znd _ List.nodup_range) (wEA_m E a _ _) (wEA E a G' ++ wModel E mb M) (zrepL (wEA_len E a G) (wEA_len E a G')) 0 6 rfl rfl rfl (Nat.le_of_ble_eq_true rfl) dL_law_829 ⟨Nat.le_of_ble_eq_true rfl, Nat.le_of_ble_eq_true rfl⟩ _ rfl ?_
  refine z_aload_n C 2 rfl rfl dL_law_832 ?_
  refine z_aload_n C 0 rfl rfl dL_law_833 ?_
  refine z_iload_n C 3 rfl rfl dL_law_834 ?_
  refine z_iconst C (v := (1 : Int32)) (by decide) dL_law_835 ?_
  refine z_iadd C dL_law_836 ?_
  refine z_sld C hZ (zin_i (j := 1) (by omega) hL) dL_law_837 ?_
  refine z_aload_n C 0 rfl rfl dL_law_838 ?_
  refine z_iload_n C 3 rfl rfl dL_law_839 ?_
  refine z_iconst C (v := (2 : Int32)) (by decide) dL_law_840 ?_
  refine z_iadd C dL_law_841 ?_
  refine z_sld C hZ (zin_i (j := 2) (by omega) hL) dL_law_842 ?_
  refine z_callVi C (b := mb 0) (As := [.int (xs (Int32.toNatClampNeg ((nI i) + (1 : Int32)))), .int (xs (Int32.toNatClampNeg ((nI i) + (2 : Int32))))]) (rest := [.int r]) (c_X7_all E mb (xs (Int32.toNatClampNeg ((nI i) + (1 : Int32)))) (xs (Int32.toNatClampNeg ((nI i) + (2 : Int32)))) M e2) rfl gT_X7_all rfl rfl rfl 2 rfl (by decide +kernel) ⟨Nat.le_of_ble_eq_true rfl, Nat.le_of_ble_eq_true rfl⟩ (List.range' 101 17) (zcatR (wEA_len E a _) (wModel_len E mb M)) (znd _ List.nodup_range') (wModel_m E mb _ _) (wEA E a G' ++ wModel E mb M') (zrepR (wEA_len E a _) (wModel_len E mb M) (wModel_len E mb M')) 0 7 rfl rfl rfl (Nat.le_of_ble_eq_true rfl) dL_law_843 ⟨Nat.le_of_ble_eq_true rfl, Nat.le_of_ble_eq_true rfl⟩ _ rfl ?_
  refine z_icmp_eq C 1514 (by decide) (F1 := some ()) (F2 := none) (r := ()) (if_pos rfl) dL_law_846 (fun _ _ => ?_) (fun _ h => by cases h)
  exact hk G' M' hR2

set_option maxHeartbeats 4000000 in
set_option maxRecDepth 100000 in
theorem law_letter {E : zEnv} {Γ : zG} {a mb : Nat → Nat} {b L i : Nat} {xs : Nat → Int32} {Rel : St → St → Prop} (hop : Op_letter Rel) (C : zC E Γ code RL 4 room_1 lw_tbl) (hZ : zS Γ b L xs) (hcl : Jvm.Cond.constantLong RL 13 4294967295 ∈ lw_tbl) (hL : L ≤ 2560) (hi : i + 5 ≤ L) {G M : St} (hRel : Rel G M) (hk : ∀ G2 M2 : St, Rel G2 M2 → Zt E Γ 4 600000 7302250 (wEA E a G2 ++ wModel E mb M2) [(0, .ref b), (1, .ref (a 0)), (2, .ref (mb 0)), (3, .int (nI i))] 1514 []) : Zt E Γ 4 600000 7302250 (wEA E a G ++ wModel E mb M) [(0, .ref b), (1, .ref (a 0)), (2, .ref (mb 0)), (3, .int (nI i))] 851 [] := by
  refine z_aload_n C 1 rfl rfl dL_law_851 ?_
  refine z_aload_n C 0 rfl rfl dL_law_852 ?_
  refine z_iload_n C 3 rfl rfl dL_law_853 ?_
  refine z_iconst C (v := (1 : Int32)) (by decide) dL_law_854 ?_
  refine z_iadd C dL_law_855 ?_
  refine z_sld C hZ (zin_i (j := 1) (by omega) hL) dL_law_856 ?_
  refine z_aload_n C 0 rfl rfl dL_law_857 ?_
  refine z_iload_n C 3 rfl rfl dL_law_858 ?_
  refine z_iconst C (v := (2 : Int32)) (by decide) dL_law_859 ?_
  refine z_iadd C dL_law_860 ?_
  refine z_sld C hZ (zin_i (j := 2) (by omega) hL) dL_law_861 ?_
  refine z_aload_n C 0 rfl rfl dL_law_862 ?_
  refine z_iload_n C 3 rfl rfl dL_law_863 ?_
  refine z_iconst C (v := (3 : Int32)) (by decide) dL_law_864 ?_
  refine z_iadd C dL_law_865 ?_
  refine z_sld C hZ (zin_i (j := 3) (by omega) hL) dL_law_866 ?_
  refine z_aload_n C 0 rfl rfl dL_law_867 ?_
  refine z_iload_n C 3 rfl rfl dL_law_868 ?_
  refine z_iconst C (v := (4 : Int32)) (by decide) dL_law_869 ?_
  refine z_iadd C dL_law_870 ?_
  refine z_sld C hZ (zin_i (j := 4) (by omega) hL) dL_law_871 ?_
  obtain ⟨r, G', M', e1, e2, hR2⟩ := hop (xs (Int32.toNatClampNeg ((nI i) + (1 : Int32)))) (xs (Int32.toNatClampNeg ((nI i) + (2 : Int32)))) (xs (Int32.toNatClampNeg ((nI i) + (3 : Int32)))) (xs (Int32.toNatClampNeg ((nI i) + (4 : Int32)))) G M hRel
  refine z_callVi C (b := a 0) (As := [.int (xs (Int32.toNatClampNeg ((nI i) + (1 : Int32)))), .int (xs (Int32.toNatClampNeg ((nI i) + (2 : Int32)))), .int (xs (Int32.toNatClampNeg ((nI i) + (3 : Int32)))), .int (xs (Int32.toNatClampNeg ((nI i) + (4 : Int32))))]) (rest := []) (c_X6_letter E a (xs (Int32.toNatClampNeg ((nI i) + (1 : Int32)))) (xs (Int32.toNatClampNeg ((nI i) + (2 : Int32)))) (xs (Int32.toNatClampNeg ((nI i) + (3 : Int32)))) (xs (Int32.toNatClampNeg ((nI i) + (4 : Int32)))) G e1) rfl gT_X6_letter rfl rfl rfl 4 rfl (by decide +kernel) ⟨Nat.le_of_ble_eq_true rfl, Nat.le_of_ble_eq_true rfl⟩ (List.range 101) (zcatL (wEA_len E a G)) (znd _ List.nodup_range) (wEA_m E a _ _) (wEA E a G' ++ wModel E mb M) (zrepL (wEA_len E a G) (wEA_len E a G')) 0 6 rfl rfl rfl (Nat.le_of_ble_eq_true rfl) dL_law_872 ⟨Nat.le_of_ble_eq_true rfl, Nat.le_of_ble_eq_true rfl⟩ _ rfl ?_
  refine z_aload_n C 2 rfl rfl dL_law_875 ?_
  refine z_aload_n C 0 rfl rfl dL_law_876 ?_
  refine z_iload_n C 3 rfl rfl dL_law_877 ?_
  refine z_iconst C (v := (1 : Int32)) (by decide) dL_law_878 ?_
  refine z_iadd C dL_law_879 ?_
  refine z_sld C hZ (zin_i (j := 1) (by omega) hL) dL_law_880 ?_
  refine z_aload_n C 0 rfl rfl dL_law_881 ?_
  refine z_iload_n C 3 rfl rfl dL_law_882 ?_
  refine z_iconst C (v := (2 : Int32)) (by decide) dL_law_883 ?_
  refine z_iadd C dL_law_884 ?_
  refine z_sld C hZ (zin_i (j := 2) (by omega) hL) dL_law_885 ?_
  refine z_aload_n C 0 rfl rfl dL_law_886 ?_
  refine z_iload_n C 3 rfl rfl dL_law_887 ?_
  refine z_iconst C (v := (3 : Int32)) (by decide) dL_law_888 ?_
  refine z_iadd C dL_law_889 ?_
  refine z_sld C hZ (zin_i (j := 3) (by omega) hL) dL_law_890 ?_
  refine z_aload_n C 0 rfl rfl dL_law_891 ?_
  refine z_iload_n C 3 rfl rfl dL_law_892 ?_
  refine z_iconst C (v := (4 : Int32)) (by decide) dL_law_893 ?_
  refine z_iadd C dL_law_894 ?_
  refine z_sld C hZ (zin_i (j := 4) (by omega) hL) dL_law_895 ?_
  refine z_callVi C (b := mb 0) (As := [.int (xs (Int32.toNatClampNeg ((nI i) + (1 : Int32)))), .int (xs (Int32.toNatClampNeg ((nI i) + (2 : Int32)))), .int (xs (Int32.toNatClampNeg ((nI i) + (3 : Int32)))), .int (xs (Int32.toNatClampNeg ((nI i) + (4 : Int32))))]) (rest := [.int r]) (c_X7_letter E mb (xs (Int32.toNatClampNeg ((nI i) + (1 : Int32)))) (xs (Int32.toNatClampNeg ((nI i) + (2 : Int32)))) (xs (Int32.toNatClampNeg ((nI i) + (3 : Int32)))) (xs (Int32.toNatClampNeg ((nI i) + (4 : Int32)))) M e2) rfl gT_X7_letter rfl rfl rfl 4 rfl (by decide +kernel) ⟨Nat.le_of_ble_eq_true rfl, Nat.le_of_ble_eq_true rfl⟩ (List.range' 101 17) (zcatR (wEA_len E a _) (wModel_len E mb M)) (znd _ List.nodup_range') (wModel_m E mb _ _) (wEA E a G' ++ wModel E mb M') (zrepR (wEA_len E a _) (wModel_len E mb M) (wModel_len E mb M')) 0 7 rfl rfl rfl (Nat.le_of_ble_eq_true rfl) dL_law_896 ⟨Nat.le_of_ble_eq_true rfl, Nat.le_of_ble_eq_true rfl⟩ _ rfl ?_
  refine z_icmp_eq C 1514 (by decide) (F1 := some ()) (F2 := none) (r := ()) (if_pos rfl) dL_law_899 (fun _ _ => ?_) (fun _ h => by cases h)
  exact hk G' M' hR2

set_option maxHeartbeats 4000000 in
set_option maxRecDepth 100000 in
theorem law_round {E : zEnv} {Γ : zG} {a mb : Nat → Nat} {b L i : Nat} {xs : Nat → Int32} {Rel : St → St → Prop} (hop : Op_round Rel) (C : zC E Γ code RL 4 room_1 lw_tbl) (hZ : zS Γ b L xs) (hcl : Jvm.Cond.constantLong RL 13 4294967295 ∈ lw_tbl) (hL : L ≤ 2560) (hi : i + 5 ≤ L) {G M : St} (hRel : Rel G M) (hk : ∀ G2 M2 : St, Rel G2 M2 → Zt E Γ 4 600000 7302250 (wEA E a G2 ++ wModel E mb M2) [(0, .ref b), (1, .ref (a 0)), (2, .ref (mb 0)), (3, .int (nI i))] 1514 []) : Zt E Γ 4 600000 7302250 (wEA E a G ++ wModel E mb M) [(0, .ref b), (1, .ref (a 0)), (2, .ref (mb 0)), (3, .int (nI i))] 904 [] := by
  refine z_aload_n C 1 rfl rfl dL_law_904 ?_
  refine z_aload_n C 0 rfl rfl dL_law_905 ?_
  refine z_iload_n C 3 rfl rfl dL_law_906 ?_
  refine z_iconst C (v := (1 : Int32)) (by decide) dL_law_907 ?_
  refine z_iadd C dL_law_908 ?_
  refine z_sld C hZ (zin_i (j := 1) (by omega) hL) dL_law_909 ?_
  refine z_aload_n C 0 rfl rfl dL_law_910 ?_
  refine z_iload_n C 3 rfl rfl dL_law_911 ?_
  refine z_iconst C (v := (2 : Int32)) (by decide) dL_law_912 ?_
  refine z_iadd C dL_law_913 ?_
  refine z_sld C hZ (zin_i (j := 2) (by omega) hL) dL_law_914 ?_
  obtain ⟨r, G', M', e1, e2, hR2⟩ := hop (xs (Int32.toNatClampNeg ((nI i) + (1 : Int32)))) (xs (Int32.toNatClampNeg ((nI i) + (2 : Int32)))) G M hRel
  refine z_callVi C (b := a 0) (As := [.int (xs (Int32.toNatClampNeg ((nI i) + (1 : Int32)))), .int (xs (Int32.toNatClampNeg ((nI i) + (2 : Int32))))]) (rest := []) (c_X6_round E a (xs (Int32.toNatClampNeg ((nI i) + (1 : Int32)))) (xs (Int32.toNatClampNeg ((nI i) + (2 : Int32)))) G e1) rfl gT_X6_round rfl rfl rfl 2 rfl (by decide +kernel) ⟨Nat.le_of_ble_eq_true rfl, Nat.le_of_ble_eq_true rfl⟩ (List.range 101) (zcatL (wEA_len E a G)) (znd _ List.nodup_range) (wEA_m E a _ _) (wEA E a G' ++ wModel E mb M) (zrepL (wEA_len E a G) (wEA_len E a G')) 0 6 rfl rfl rfl (Nat.le_of_ble_eq_true rfl) dL_law_915 ⟨Nat.le_of_ble_eq_true rfl, Nat.le_of_ble_eq_true rfl⟩ _ rfl ?_
  refine z_aload_n C 2 rfl rfl dL_law_918 ?_
  refine z_aload_n C 0 rfl rfl dL_law_919 ?_
  refine z_iload_n C 3 rfl rfl dL_law_920 ?_
  refine z_iconst C (v := (1 : Int32)) (by decide) dL_law_921 ?_
  refine z_iadd C dL_law_922 ?_
  refine z_sld C hZ (zin_i (j := 1) (by omega) hL) dL_law_923 ?_
  refine z_aload_n C 0 rfl rfl dL_law_924 ?_
  refine z_iload_n C 3 rfl rfl dL_law_925 ?_
  refine z_iconst C (v := (2 : Int32)) (by decide) dL_law_926 ?_
  refine z_iadd C dL_law_927 ?_
  refine z_sld C hZ (zin_i (j := 2) (by omega) hL) dL_law_928 ?_
  refine z_callVi C (b := mb 0) (As := [.int (xs (Int32.toNatClampNeg ((nI i) + (1 : Int32)))), .int (xs (Int32.toNatClampNeg ((nI i) + (2 : Int32))))]) (rest := [.int r]) (c_X7_round E mb (xs (Int32.toNatClampNeg ((nI i) + (1 : Int32)))) (xs (Int32.toNatClampNeg ((nI i) + (2 : Int32)))) M e2) rfl gT_X7_round rfl rfl rfl 2 rfl (by decide +kernel) ⟨Nat.le_of_ble_eq_true rfl, Nat.le_of_ble_eq_true rfl⟩ (List.range' 101 17) (zcatR (wEA_len E a _) (wModel_len E mb M)) (znd _ List.nodup_range') (wModel_m E mb _ _) (wEA E a G' ++ wModel E mb M') (zrepR (wEA_len E a _) (wModel_len E mb M) (wModel_len E mb M')) 0 7 rfl rfl rfl (Nat.le_of_ble_eq_true rfl) dL_law_929 ⟨Nat.le_of_ble_eq_true rfl, Nat.le_of_ble_eq_true rfl⟩ _ rfl ?_
  refine z_icmp_eq C 1514 (by decide) (F1 := some ()) (F2 := none) (r := ()) (if_pos rfl) dL_law_932 (fun _ _ => ?_) (fun _ h => by cases h)
  exact hk G' M' hR2

set_option maxHeartbeats 4000000 in
set_option maxRecDepth 100000 in
theorem law_want {E : zEnv} {Γ : zG} {a mb : Nat → Nat} {b L i : Nat} {xs : Nat → Int32} {Rel : St → St → Prop} (hop : Op_want Rel) (C : zC E Γ code RL 4 room_1 lw_tbl) (hZ : zS Γ b L xs) (hcl : Jvm.Cond.constantLong RL 13 4294967295 ∈ lw_tbl) (hL : L ≤ 2560) (hi : i + 5 ≤ L) {G M : St} (hRel : Rel G M) (hk : ∀ G2 M2 : St, Rel G2 M2 → Zt E Γ 4 600000 7302250 (wEA E a G2 ++ wModel E mb M2) [(0, .ref b), (1, .ref (a 0)), (2, .ref (mb 0)), (3, .int (nI i))] 1514 []) : Zt E Γ 4 600000 7302250 (wEA E a G ++ wModel E mb M) [(0, .ref b), (1, .ref (a 0)), (2, .ref (mb 0)), (3, .int (nI i))] 937 [] := by
  refine z_aload_n C 1 rfl rfl dL_law_937 ?_
  refine z_aload_n C 0 rfl rfl dL_law_938 ?_
  refine z_iload_n C 3 rfl rfl dL_law_939 ?_
  refine z_iconst C (v := (1 : Int32)) (by decide) dL_law_940 ?_
  refine z_iadd C dL_law_941 ?_
  refine z_sld C hZ (zin_i (j := 1) (by omega) hL) dL_law_942 ?_
  refine z_aload_n C 0 rfl rfl dL_law_943 ?_
  refine z_iload_n C 3 rfl rfl dL_law_944 ?_
  refine z_iconst C (v := (2 : Int32)) (by decide) dL_law_945 ?_
  refine z_iadd C dL_law_946 ?_
  refine z_sld C hZ (zin_i (j := 2) (by omega) hL) dL_law_947 ?_
  obtain ⟨r, G', M', e1, e2, hR2⟩ := hop (xs (Int32.toNatClampNeg ((nI i) + (1 : Int32)))) (xs (Int32.toNatClampNeg ((nI i) + (2 : Int32)))) G M hRel
  refine z_callVi C (b := a 0) (As := [.int (xs (Int32.toNatClampNeg ((nI i) + (1 : Int32)))), .int (xs (Int32.toNatClampNeg ((nI i) + (2 : Int32))))]) (rest := []) (c_X6_want E a (xs (Int32.toNatClampNeg ((nI i) + (1 : Int32)))) (xs (Int32.toNatClampNeg ((nI i) + (2 : Int32)))) G e1) rfl gT_X6_want rfl rfl rfl 2 rfl (by decide +kernel) ⟨Nat.le_of_ble_eq_true rfl, Nat.le_of_ble_eq_true rfl⟩ (List.range 101) (zcatL (wEA_len E a G)) (znd _ List.nodup_range) (wEA_m E a _ _) (wEA E a G' ++ wModel E mb M) (zrepL (wEA_len E a G) (wEA_len E a G')) 0 6 rfl rfl rfl (Nat.le_of_ble_eq_true rfl) dL_law_948 ⟨Nat.le_of_ble_eq_true rfl, Nat.le_of_ble_eq_true rfl⟩ _ rfl ?_
  refine z_aload_n C 2 rfl rfl dL_law_951 ?_
  refine z_aload_n C 0 rfl rfl dL_law_952 ?_
  refine z_iload_n C 3 rfl rfl dL_law_953 ?_
  refine z_iconst C (v := (1 : Int32)) (by decide) dL_law_954 ?_
  refine z_iadd C dL_law_955 ?_
  refine z_sld C hZ (zin_i (j := 1) (by omega) hL) dL_law_956 ?_
  refine z_aload_n C 0 rfl rfl dL_law_957 ?_
  refine z_iload_n C 3 rfl rfl dL_law_958 ?_
  refine z_iconst C (v := (2 : Int32)) (by decide) dL_law_959 ?_
  refine z_iadd C dL_law_960 ?_
  refine z_sld C hZ (zin_i (j := 2) (by omega) hL) dL_law_961 ?_
  refine z_callVi C (b := mb 0) (As := [.int (xs (Int32.toNatClampNeg ((nI i) + (1 : Int32)))), .int (xs (Int32.toNatClampNeg ((nI i) + (2 : Int32))))]) (rest := [.int r]) (c_X7_want E mb (xs (Int32.toNatClampNeg ((nI i) + (1 : Int32)))) (xs (Int32.toNatClampNeg ((nI i) + (2 : Int32)))) M e2) rfl gT_X7_want rfl rfl rfl 2 rfl (by decide +kernel) ⟨Nat.le_of_ble_eq_true rfl, Nat.le_of_ble_eq_true rfl⟩ (List.range' 101 17) (zcatR (wEA_len E a _) (wModel_len E mb M)) (znd _ List.nodup_range') (wModel_m E mb _ _) (wEA E a G' ++ wModel E mb M') (zrepR (wEA_len E a _) (wModel_len E mb M) (wModel_len E mb M')) 0 7 rfl rfl rfl (Nat.le_of_ble_eq_true rfl) dL_law_962 ⟨Nat.le_of_ble_eq_true rfl, Nat.le_of_ble_eq_true rfl⟩ _ rfl ?_
  refine z_icmp_eq C 1514 (by decide) (F1 := some ()) (F2 := none) (r := ()) (if_pos rfl) dL_law_965 (fun _ _ => ?_) (fun _ h => by cases h)
  exact hk G' M' hR2

set_option maxHeartbeats 4000000 in
set_option maxRecDepth 100000 in
theorem law_content {E : zEnv} {Γ : zG} {a mb : Nat → Nat} {b L i : Nat} {xs : Nat → Int32} {Rel : St → St → Prop} (hop : Op_content Rel) (C : zC E Γ code RL 4 room_1 lw_tbl) (hZ : zS Γ b L xs) (hcl : Jvm.Cond.constantLong RL 13 4294967295 ∈ lw_tbl) (hL : L ≤ 2560) (hi : i + 5 ≤ L) {G M : St} (hRel : Rel G M) (hk : ∀ G2 M2 : St, Rel G2 M2 → Zt E Γ 4 600000 7302250 (wEA E a G2 ++ wModel E mb M2) [(0, .ref b), (1, .ref (a 0)), (2, .ref (mb 0)), (3, .int (nI i))] 1514 []) : Zt E Γ 4 600000 7302250 (wEA E a G ++ wModel E mb M) [(0, .ref b), (1, .ref (a 0)), (2, .ref (mb 0)), (3, .int (nI i))] 970 [] := by
  refine z_aload_n C 1 rfl rfl dL_law_970 ?_
  obtain ⟨r, G', M', e1, e2, hR2⟩ := hop G M hRel
  refine z_callVi C (b := a 0) (As := []) (rest := []) (c_X6_content E a G e1) rfl gT_X6_content rfl rfl rfl 0 rfl (by decide +kernel) ⟨Nat.le_of_ble_eq_true rfl, Nat.le_of_ble_eq_true rfl⟩ (List.range 101) (zcatL (wEA_len E a G)) (znd _ List.nodup_range) (wEA_m E a _ _) (wEA E a G' ++ wModel E mb M) (zrepL (wEA_len E a G) (wEA_len E a G')) 0 6 rfl rfl rfl (Nat.le_of_ble_eq_true rfl) dL_law_971 ⟨Nat.le_of_ble_eq_true rfl, Nat.le_of_ble_eq_true rfl⟩ _ rfl ?_
  refine z_aload_n C 2 rfl rfl dL_law_974 ?_
  refine z_callVi C (b := mb 0) (As := []) (rest := [.int r]) (c_X7_content E mb M e2) rfl gT_X7_content rfl rfl rfl 0 rfl (by decide +kernel) ⟨Nat.le_of_ble_eq_true rfl, Nat.le_of_ble_eq_true rfl⟩ (List.range' 101 17) (zcatR (wEA_len E a _) (wModel_len E mb M)) (znd _ List.nodup_range') (wModel_m E mb _ _) (wEA E a G' ++ wModel E mb M') (zrepR (wEA_len E a _) (wModel_len E mb M) (wModel_len E mb M')) 0 7 rfl rfl rfl (Nat.le_of_ble_eq_true rfl) dL_law_975 ⟨Nat.le_of_ble_eq_true rfl, Nat.le_of_ble_eq_true rfl⟩ _ rfl ?_
  refine z_icmp_eq C 1514 (by decide) (F1 := some ()) (F2 := none) (r := ()) (if_pos rfl) dL_law_978 (fun _ _ => ?_) (fun _ h => by cases h)
  exact hk G' M' hR2

set_option maxHeartbeats 4000000 in
set_option maxRecDepth 100000 in
theorem law_fetch {E : zEnv} {Γ : zG} {a mb : Nat → Nat} {b L i : Nat} {xs : Nat → Int32} {Rel : St → St → Prop} (hop : Op_fetch Rel) (C : zC E Γ code RL 4 room_1 lw_tbl) (hZ : zS Γ b L xs) (hcl : Jvm.Cond.constantLong RL 13 4294967295 ∈ lw_tbl) (hL : L ≤ 2560) (hi : i + 5 ≤ L) {G M : St} (hRel : Rel G M) (hk : ∀ G2 M2 : St, Rel G2 M2 → Zt E Γ 4 600000 7302250 (wEA E a G2 ++ wModel E mb M2) [(0, .ref b), (1, .ref (a 0)), (2, .ref (mb 0)), (3, .int (nI i))] 1514 []) : Zt E Γ 4 600000 7302250 (wEA E a G ++ wModel E mb M) [(0, .ref b), (1, .ref (a 0)), (2, .ref (mb 0)), (3, .int (nI i))] 983 [] := by
  refine z_aload_n C 1 rfl rfl dL_law_983 ?_
  refine z_aload_n C 0 rfl rfl dL_law_984 ?_
  refine z_iload_n C 3 rfl rfl dL_law_985 ?_
  refine z_iconst C (v := (1 : Int32)) (by decide) dL_law_986 ?_
  refine z_iadd C dL_law_987 ?_
  refine z_sld C hZ (zin_i (j := 1) (by omega) hL) dL_law_988 ?_
  refine z_aload_n C 0 rfl rfl dL_law_989 ?_
  refine z_iload_n C 3 rfl rfl dL_law_990 ?_
  refine z_iconst C (v := (2 : Int32)) (by decide) dL_law_991 ?_
  refine z_iadd C dL_law_992 ?_
  refine z_sld C hZ (zin_i (j := 2) (by omega) hL) dL_law_993 ?_
  by_cases hz : (xs (Int32.toNatClampNeg ((nI i) + (2 : Int32)))) = 0
  · refine z_if_eqT C 1001 (by decide) hz dL_law_994 ?_
    refine z_iconst C (v := (0 : Int32)) (by decide) dL_law_1001 ?_
    refine z_aload_n C 0 rfl rfl dL_law_1002 ?_
    refine z_iload_n C 3 rfl rfl dL_law_1003 ?_
    refine z_iconst C (v := (3 : Int32)) (by decide) dL_law_1004 ?_
    refine z_iadd C dL_law_1005 ?_
    refine z_sld C hZ (zin_i (j := 3) (by omega) hL) dL_law_1006 ?_
    obtain ⟨r, G', M', e1, e2, hR2⟩ := hop (xs (Int32.toNatClampNeg ((nI i) + (1 : Int32)))) (0 : Int32) (xs (Int32.toNatClampNeg ((nI i) + (3 : Int32)))) G M (Or.inl rfl) hRel
    refine z_callVi C (b := a 0) (As := [.int (xs (Int32.toNatClampNeg ((nI i) + (1 : Int32)))), .int (0 : Int32), .int (xs (Int32.toNatClampNeg ((nI i) + (3 : Int32))))]) (rest := []) (c_X6_fetch E a (xs (Int32.toNatClampNeg ((nI i) + (1 : Int32)))) (0 : Int32) (xs (Int32.toNatClampNeg ((nI i) + (3 : Int32)))) G e1) rfl gT_X6_fetch rfl rfl rfl 3 rfl (by decide +kernel) ⟨Nat.le_of_ble_eq_true rfl, Nat.le_of_ble_eq_true rfl⟩ (List.range 101) (zcatL (wEA_len E a G)) (znd _ List.nodup_range) (wEA_m E a _ _) (wEA E a G' ++ wModel E mb M) (zrepL (wEA_len E a G) (wEA_len E a G')) 0 6 rfl rfl rfl (Nat.le_of_ble_eq_true rfl) dL_law_1007 ⟨Nat.le_of_ble_eq_true rfl, Nat.le_of_ble_eq_true rfl⟩ _ rfl ?_
    refine z_aload_n C 2 rfl rfl dL_law_1010 ?_
    refine z_aload_n C 0 rfl rfl dL_law_1011 ?_
    refine z_iload_n C 3 rfl rfl dL_law_1012 ?_
    refine z_iconst C (v := (1 : Int32)) (by decide) dL_law_1013 ?_
    refine z_iadd C dL_law_1014 ?_
    refine z_sld C hZ (zin_i (j := 1) (by omega) hL) dL_law_1015 ?_
    refine z_aload_n C 0 rfl rfl dL_law_1016 ?_
    refine z_iload_n C 3 rfl rfl dL_law_1017 ?_
    refine z_iconst C (v := (2 : Int32)) (by decide) dL_law_1018 ?_
    refine z_iadd C dL_law_1019 ?_
    refine z_sld C hZ (zin_i (j := 2) (by omega) hL) dL_law_1020 ?_
    refine z_if_eqT C 1028 (by decide) hz dL_law_1021 ?_
    refine z_iconst C (v := (0 : Int32)) (by decide) dL_law_1028 ?_
    refine z_aload_n C 0 rfl rfl dL_law_1029 ?_
    refine z_iload_n C 3 rfl rfl dL_law_1030 ?_
    refine z_iconst C (v := (3 : Int32)) (by decide) dL_law_1031 ?_
    refine z_iadd C dL_law_1032 ?_
    refine z_sld C hZ (zin_i (j := 3) (by omega) hL) dL_law_1033 ?_
    refine z_callVi C (b := mb 0) (As := [.int (xs (Int32.toNatClampNeg ((nI i) + (1 : Int32)))), .int (0 : Int32), .int (xs (Int32.toNatClampNeg ((nI i) + (3 : Int32))))]) (rest := [.int r]) (c_X7_fetch E mb (xs (Int32.toNatClampNeg ((nI i) + (1 : Int32)))) (0 : Int32) (xs (Int32.toNatClampNeg ((nI i) + (3 : Int32)))) M e2) rfl gT_X7_fetch rfl rfl rfl 3 rfl (by decide +kernel) ⟨Nat.le_of_ble_eq_true rfl, Nat.le_of_ble_eq_true rfl⟩ (List.range' 101 17) (zcatR (wEA_len E a _) (wModel_len E mb M)) (znd _ List.nodup_range') (wModel_m E mb _ _) (wEA E a G' ++ wModel E mb M') (zrepR (wEA_len E a _) (wModel_len E mb M) (wModel_len E mb M')) 0 7 rfl rfl rfl (Nat.le_of_ble_eq_true rfl) dL_law_1034 ⟨Nat.le_of_ble_eq_true rfl, Nat.le_of_ble_eq_true rfl⟩ _ rfl ?_
    refine z_icmp_eq C 1514 (by decide) (F1 := some ()) (F2 := none) (r := ()) (if_pos rfl) dL_law_1037 (fun _ _ => ?_) (fun _ h => by cases h)
    exact hk G' M' hR2
  · refine z_if_eqF C 1001 (by decide) hz dL_law_994 ?_
    refine z_iconst C (v := (1 : Int32)) (by decide) dL_law_997 ?_
    refine z_goto C 1002 (by decide) dL_law_998 ?_
    refine z_aload_n C 0 rfl rfl dL_law_1002 ?_
    refine z_iload_n C 3 rfl rfl dL_law_1003 ?_
    refine z_iconst C (v := (3 : Int32)) (by decide) dL_law_1004 ?_
    refine z_iadd C dL_law_1005 ?_
    refine z_sld C hZ (zin_i (j := 3) (by omega) hL) dL_law_1006 ?_
    obtain ⟨r, G', M', e1, e2, hR2⟩ := hop (xs (Int32.toNatClampNeg ((nI i) + (1 : Int32)))) (1 : Int32) (xs (Int32.toNatClampNeg ((nI i) + (3 : Int32)))) G M (Or.inr rfl) hRel
    refine z_callVi C (b := a 0) (As := [.int (xs (Int32.toNatClampNeg ((nI i) + (1 : Int32)))), .int (1 : Int32), .int (xs (Int32.toNatClampNeg ((nI i) + (3 : Int32))))]) (rest := []) (c_X6_fetch E a (xs (Int32.toNatClampNeg ((nI i) + (1 : Int32)))) (1 : Int32) (xs (Int32.toNatClampNeg ((nI i) + (3 : Int32)))) G e1) rfl gT_X6_fetch rfl rfl rfl 3 rfl (by decide +kernel) ⟨Nat.le_of_ble_eq_true rfl, Nat.le_of_ble_eq_true rfl⟩ (List.range 101) (zcatL (wEA_len E a G)) (znd _ List.nodup_range) (wEA_m E a _ _) (wEA E a G' ++ wModel E mb M) (zrepL (wEA_len E a G) (wEA_len E a G')) 0 6 rfl rfl rfl (Nat.le_of_ble_eq_true rfl) dL_law_1007 ⟨Nat.le_of_ble_eq_true rfl, Nat.le_of_ble_eq_true rfl⟩ _ rfl ?_
    refine z_aload_n C 2 rfl rfl dL_law_1010 ?_
    refine z_aload_n C 0 rfl rfl dL_law_1011 ?_
    refine z_iload_n C 3 rfl rfl dL_law_1012 ?_
    refine z_iconst C (v := (1 : Int32)) (by decide) dL_law_1013 ?_
    refine z_iadd C dL_law_1014 ?_
    refine z_sld C hZ (zin_i (j := 1) (by omega) hL) dL_law_1015 ?_
    refine z_aload_n C 0 rfl rfl dL_law_1016 ?_
    refine z_iload_n C 3 rfl rfl dL_law_1017 ?_
    refine z_iconst C (v := (2 : Int32)) (by decide) dL_law_1018 ?_
    refine z_iadd C dL_law_1019 ?_
    refine z_sld C hZ (zin_i (j := 2) (by omega) hL) dL_law_1020 ?_
    refine z_if_eqF C 1028 (by decide) hz dL_law_1021 ?_
    refine z_iconst C (v := (1 : Int32)) (by decide) dL_law_1024 ?_
    refine z_goto C 1029 (by decide) dL_law_1025 ?_
    refine z_aload_n C 0 rfl rfl dL_law_1029 ?_
    refine z_iload_n C 3 rfl rfl dL_law_1030 ?_
    refine z_iconst C (v := (3 : Int32)) (by decide) dL_law_1031 ?_
    refine z_iadd C dL_law_1032 ?_
    refine z_sld C hZ (zin_i (j := 3) (by omega) hL) dL_law_1033 ?_
    refine z_callVi C (b := mb 0) (As := [.int (xs (Int32.toNatClampNeg ((nI i) + (1 : Int32)))), .int (1 : Int32), .int (xs (Int32.toNatClampNeg ((nI i) + (3 : Int32))))]) (rest := [.int r]) (c_X7_fetch E mb (xs (Int32.toNatClampNeg ((nI i) + (1 : Int32)))) (1 : Int32) (xs (Int32.toNatClampNeg ((nI i) + (3 : Int32)))) M e2) rfl gT_X7_fetch rfl rfl rfl 3 rfl (by decide +kernel) ⟨Nat.le_of_ble_eq_true rfl, Nat.le_of_ble_eq_true rfl⟩ (List.range' 101 17) (zcatR (wEA_len E a _) (wModel_len E mb M)) (znd _ List.nodup_range') (wModel_m E mb _ _) (wEA E a G' ++ wModel E mb M') (zrepR (wEA_len E a _) (wModel_len E mb M) (wModel_len E mb M')) 0 7 rfl rfl rfl (Nat.le_of_ble_eq_true rfl) dL_law_1034 ⟨Nat.le_of_ble_eq_true rfl, Nat.le_of_ble_eq_true rfl⟩ _ rfl ?_
    refine z_icmp_eq C 1514 (by decide) (F1 := some ()) (F2 := none) (r := ()) (if_pos rfl) dL_law_1037 (fun _ _ => ?_) (fun _ h => by cases h)
    exact hk G' M' hR2

set_option maxHeartbeats 4000000 in
set_option maxRecDepth 100000 in
theorem law_expect {E : zEnv} {Γ : zG} {a mb : Nat → Nat} {b L i : Nat} {xs : Nat → Int32} {Rel : St → St → Prop} (hop : Op_expect Rel) (C : zC E Γ code RL 4 room_1 lw_tbl) (hZ : zS Γ b L xs) (hcl : Jvm.Cond.constantLong RL 13 4294967295 ∈ lw_tbl) (hL : L ≤ 2560) (hi : i + 5 ≤ L) {G M : St} (hRel : Rel G M) (hk : ∀ G2 M2 : St, Rel G2 M2 → Zt E Γ 4 600000 7302250 (wEA E a G2 ++ wModel E mb M2) [(0, .ref b), (1, .ref (a 0)), (2, .ref (mb 0)), (3, .int (nI i))] 1514 []) : Zt E Γ 4 600000 7302250 (wEA E a G ++ wModel E mb M) [(0, .ref b), (1, .ref (a 0)), (2, .ref (mb 0)), (3, .int (nI i))] 1042 [] := by
  refine z_aload_n C 1 rfl rfl dL_law_1042 ?_
  refine z_aload_n C 0 rfl rfl dL_law_1043 ?_
  refine z_iload_n C 3 rfl rfl dL_law_1044 ?_
  refine z_iconst C (v := (1 : Int32)) (by decide) dL_law_1045 ?_
  refine z_iadd C dL_law_1046 ?_
  refine z_sld C hZ (zin_i (j := 1) (by omega) hL) dL_law_1047 ?_
  refine z_aload_n C 0 rfl rfl dL_law_1048 ?_
  refine z_iload_n C 3 rfl rfl dL_law_1049 ?_
  refine z_iconst C (v := (2 : Int32)) (by decide) dL_law_1050 ?_
  refine z_iadd C dL_law_1051 ?_
  refine z_sld C hZ (zin_i (j := 2) (by omega) hL) dL_law_1052 ?_
  refine z_aload_n C 0 rfl rfl dL_law_1053 ?_
  refine z_iload_n C 3 rfl rfl dL_law_1054 ?_
  refine z_iconst C (v := (3 : Int32)) (by decide) dL_law_1055 ?_
  refine z_iadd C dL_law_1056 ?_
  refine z_sld C hZ (zin_i (j := 3) (by omega) hL) dL_law_1057 ?_
  obtain ⟨r, G', M', e1, e2, hR2⟩ := hop (xs (Int32.toNatClampNeg ((nI i) + (1 : Int32)))) (xs (Int32.toNatClampNeg ((nI i) + (2 : Int32)))) (xs (Int32.toNatClampNeg ((nI i) + (3 : Int32)))) G M hRel
  refine z_callVi C (b := a 0) (As := [.int (xs (Int32.toNatClampNeg ((nI i) + (1 : Int32)))), .int (xs (Int32.toNatClampNeg ((nI i) + (2 : Int32)))), .int (xs (Int32.toNatClampNeg ((nI i) + (3 : Int32))))]) (rest := []) (c_X6_expect E a (xs (Int32.toNatClampNeg ((nI i) + (1 : Int32)))) (xs (Int32.toNatClampNeg ((nI i) + (2 : Int32)))) (xs (Int32.toNatClampNeg ((nI i) + (3 : Int32)))) G e1) rfl gT_X6_expect rfl rfl rfl 3 rfl (by decide +kernel) ⟨Nat.le_of_ble_eq_true rfl, Nat.le_of_ble_eq_true rfl⟩ (List.range 101) (zcatL (wEA_len E a G)) (znd _ List.nodup_range) (wEA_m E a _ _) (wEA E a G' ++ wModel E mb M) (zrepL (wEA_len E a G) (wEA_len E a G')) 0 6 rfl rfl rfl (Nat.le_of_ble_eq_true rfl) dL_law_1058 ⟨Nat.le_of_ble_eq_true rfl, Nat.le_of_ble_eq_true rfl⟩ _ rfl ?_
  refine z_aload_n C 2 rfl rfl dL_law_1061 ?_
  refine z_aload_n C 0 rfl rfl dL_law_1062 ?_
  refine z_iload_n C 3 rfl rfl dL_law_1063 ?_
  refine z_iconst C (v := (1 : Int32)) (by decide) dL_law_1064 ?_
  refine z_iadd C dL_law_1065 ?_
  refine z_sld C hZ (zin_i (j := 1) (by omega) hL) dL_law_1066 ?_
  refine z_aload_n C 0 rfl rfl dL_law_1067 ?_
  refine z_iload_n C 3 rfl rfl dL_law_1068 ?_
  refine z_iconst C (v := (2 : Int32)) (by decide) dL_law_1069 ?_
  refine z_iadd C dL_law_1070 ?_
  refine z_sld C hZ (zin_i (j := 2) (by omega) hL) dL_law_1071 ?_
  refine z_aload_n C 0 rfl rfl dL_law_1072 ?_
  refine z_iload_n C 3 rfl rfl dL_law_1073 ?_
  refine z_iconst C (v := (3 : Int32)) (by decide) dL_law_1074 ?_
  refine z_iadd C dL_law_1075 ?_
  refine z_sld C hZ (zin_i (j := 3) (by omega) hL) dL_law_1076 ?_
  refine z_callVi C (b := mb 0) (As := [.int (xs (Int32.toNatClampNeg ((nI i) + (1 : Int32)))), .int (xs (Int32.toNatClampNeg ((nI i) + (2 : Int32)))), .int (xs (Int32.toNatClampNeg ((nI i) + (3 : Int32))))]) (rest := [.int r]) (c_X7_expect E mb (xs (Int32.toNatClampNeg ((nI i) + (1 : Int32)))) (xs (Int32.toNatClampNeg ((nI i) + (2 : Int32)))) (xs (Int32.toNatClampNeg ((nI i) + (3 : Int32)))) M e2) rfl gT_X7_expect rfl rfl rfl 3 rfl (by decide +kernel) ⟨Nat.le_of_ble_eq_true rfl, Nat.le_of_ble_eq_true rfl⟩ (List.range' 101 17) (zcatR (wEA_len E a _) (wModel_len E mb M)) (znd _ List.nodup_range') (wModel_m E mb _ _) (wEA E a G' ++ wModel E mb M') (zrepR (wEA_len E a _) (wModel_len E mb M) (wModel_len E mb M')) 0 7 rfl rfl rfl (Nat.le_of_ble_eq_true rfl) dL_law_1077 ⟨Nat.le_of_ble_eq_true rfl, Nat.le_of_ble_eq_true rfl⟩ _ rfl ?_
  refine z_icmp_eq C 1514 (by decide) (F1 := some ()) (F2 := none) (r := ()) (if_pos rfl) dL_law_1080 (fun _ _ => ?_) (fun _ h => by cases h)
  exact hk G' M' hR2

set_option maxHeartbeats 4000000 in
set_option maxRecDepth 100000 in
theorem law_can {E : zEnv} {Γ : zG} {a mb : Nat → Nat} {b L i : Nat} {xs : Nat → Int32} {Rel : St → St → Prop} (hop : Op_can Rel) (C : zC E Γ code RL 4 room_1 lw_tbl) (hZ : zS Γ b L xs) (hcl : Jvm.Cond.constantLong RL 13 4294967295 ∈ lw_tbl) (hL : L ≤ 2560) (hi : i + 5 ≤ L) {G M : St} (hRel : Rel G M) (hk : ∀ G2 M2 : St, Rel G2 M2 → Zt E Γ 4 600000 7302250 (wEA E a G2 ++ wModel E mb M2) [(0, .ref b), (1, .ref (a 0)), (2, .ref (mb 0)), (3, .int (nI i))] 1514 []) : Zt E Γ 4 600000 7302250 (wEA E a G ++ wModel E mb M) [(0, .ref b), (1, .ref (a 0)), (2, .ref (mb 0)), (3, .int (nI i))] 1085 [] := by
  refine z_aload_n C 1 rfl rfl dL_law_1085 ?_
  refine z_aload_n C 0 rfl rfl dL_law_1086 ?_
  refine z_iload_n C 3 rfl rfl dL_law_1087 ?_
  refine z_iconst C (v := (1 : Int32)) (by decide) dL_law_1088 ?_
  refine z_iadd C dL_law_1089 ?_
  refine z_sld C hZ (zin_i (j := 1) (by omega) hL) dL_law_1090 ?_
  refine z_aload_n C 0 rfl rfl dL_law_1091 ?_
  refine z_iload_n C 3 rfl rfl dL_law_1092 ?_
  refine z_iconst C (v := (2 : Int32)) (by decide) dL_law_1093 ?_
  refine z_iadd C dL_law_1094 ?_
  refine z_sld C hZ (zin_i (j := 2) (by omega) hL) dL_law_1095 ?_
  refine z_aload_n C 0 rfl rfl dL_law_1096 ?_
  refine z_iload_n C 3 rfl rfl dL_law_1097 ?_
  refine z_iconst C (v := (3 : Int32)) (by decide) dL_law_1098 ?_
  refine z_iadd C dL_law_1099 ?_
  refine z_sld C hZ (zin_i (j := 3) (by omega) hL) dL_law_1100 ?_
  obtain ⟨r, G', M', e1, e2, hR2⟩ := hop (xs (Int32.toNatClampNeg ((nI i) + (1 : Int32)))) (xs (Int32.toNatClampNeg ((nI i) + (2 : Int32)))) (xs (Int32.toNatClampNeg ((nI i) + (3 : Int32)))) G M hRel
  refine z_callVi C (b := a 0) (As := [.int (xs (Int32.toNatClampNeg ((nI i) + (1 : Int32)))), .int (xs (Int32.toNatClampNeg ((nI i) + (2 : Int32)))), .int (xs (Int32.toNatClampNeg ((nI i) + (3 : Int32))))]) (rest := []) (c_X6_can E a (xs (Int32.toNatClampNeg ((nI i) + (1 : Int32)))) (xs (Int32.toNatClampNeg ((nI i) + (2 : Int32)))) (xs (Int32.toNatClampNeg ((nI i) + (3 : Int32)))) G e1) rfl gT_X6_can rfl rfl rfl 3 rfl (by decide +kernel) ⟨Nat.le_of_ble_eq_true rfl, Nat.le_of_ble_eq_true rfl⟩ (List.range 101) (zcatL (wEA_len E a G)) (znd _ List.nodup_range) (wEA_m E a _ _) (wEA E a G' ++ wModel E mb M) (zrepL (wEA_len E a G) (wEA_len E a G')) 0 6 rfl rfl rfl (Nat.le_of_ble_eq_true rfl) dL_law_1101 ⟨Nat.le_of_ble_eq_true rfl, Nat.le_of_ble_eq_true rfl⟩ _ rfl ?_
  refine z_aload_n C 2 rfl rfl dL_law_1104 ?_
  refine z_aload_n C 0 rfl rfl dL_law_1105 ?_
  refine z_iload_n C 3 rfl rfl dL_law_1106 ?_
  refine z_iconst C (v := (1 : Int32)) (by decide) dL_law_1107 ?_
  refine z_iadd C dL_law_1108 ?_
  refine z_sld C hZ (zin_i (j := 1) (by omega) hL) dL_law_1109 ?_
  refine z_aload_n C 0 rfl rfl dL_law_1110 ?_
  refine z_iload_n C 3 rfl rfl dL_law_1111 ?_
  refine z_iconst C (v := (2 : Int32)) (by decide) dL_law_1112 ?_
  refine z_iadd C dL_law_1113 ?_
  refine z_sld C hZ (zin_i (j := 2) (by omega) hL) dL_law_1114 ?_
  refine z_aload_n C 0 rfl rfl dL_law_1115 ?_
  refine z_iload_n C 3 rfl rfl dL_law_1116 ?_
  refine z_iconst C (v := (3 : Int32)) (by decide) dL_law_1117 ?_
  refine z_iadd C dL_law_1118 ?_
  refine z_sld C hZ (zin_i (j := 3) (by omega) hL) dL_law_1119 ?_
  refine z_callVi C (b := mb 0) (As := [.int (xs (Int32.toNatClampNeg ((nI i) + (1 : Int32)))), .int (xs (Int32.toNatClampNeg ((nI i) + (2 : Int32)))), .int (xs (Int32.toNatClampNeg ((nI i) + (3 : Int32))))]) (rest := [.int r]) (c_X7_can E mb (xs (Int32.toNatClampNeg ((nI i) + (1 : Int32)))) (xs (Int32.toNatClampNeg ((nI i) + (2 : Int32)))) (xs (Int32.toNatClampNeg ((nI i) + (3 : Int32)))) M e2) rfl gT_X7_can rfl rfl rfl 3 rfl (by decide +kernel) ⟨Nat.le_of_ble_eq_true rfl, Nat.le_of_ble_eq_true rfl⟩ (List.range' 101 17) (zcatR (wEA_len E a _) (wModel_len E mb M)) (znd _ List.nodup_range') (wModel_m E mb _ _) (wEA E a G' ++ wModel E mb M') (zrepR (wEA_len E a _) (wModel_len E mb M) (wModel_len E mb M')) 0 7 rfl rfl rfl (Nat.le_of_ble_eq_true rfl) dL_law_1120 ⟨Nat.le_of_ble_eq_true rfl, Nat.le_of_ble_eq_true rfl⟩ _ rfl ?_
  refine z_icmp_eq C 1514 (by decide) (F1 := some ()) (F2 := none) (r := ()) (if_pos rfl) dL_law_1123 (fun _ _ => ?_) (fun _ h => by cases h)
  exact hk G' M' hR2

set_option maxHeartbeats 4000000 in
set_option maxRecDepth 100000 in
theorem law_see {E : zEnv} {Γ : zG} {a mb : Nat → Nat} {b L i : Nat} {xs : Nat → Int32} {Rel : St → St → Prop} (hop : Op_see Rel) (C : zC E Γ code RL 4 room_1 lw_tbl) (hZ : zS Γ b L xs) (hcl : Jvm.Cond.constantLong RL 13 4294967295 ∈ lw_tbl) (hL : L ≤ 2560) (hi : i + 5 ≤ L) {G M : St} (hRel : Rel G M) (hk : ∀ G2 M2 : St, Rel G2 M2 → Zt E Γ 4 600000 7302250 (wEA E a G2 ++ wModel E mb M2) [(0, .ref b), (1, .ref (a 0)), (2, .ref (mb 0)), (3, .int (nI i))] 1514 []) : Zt E Γ 4 600000 7302250 (wEA E a G ++ wModel E mb M) [(0, .ref b), (1, .ref (a 0)), (2, .ref (mb 0)), (3, .int (nI i))] 1128 [] := by
  refine z_aload_n C 1 rfl rfl dL_law_1128 ?_
  refine z_aload_n C 0 rfl rfl dL_law_1129 ?_
  refine z_iload_n C 3 rfl rfl dL_law_1130 ?_
  refine z_iconst C (v := (1 : Int32)) (by decide) dL_law_1131 ?_
  refine z_iadd C dL_law_1132 ?_
  refine z_sld C hZ (zin_i (j := 1) (by omega) hL) dL_law_1133 ?_
  refine z_aload_n C 0 rfl rfl dL_law_1134 ?_
  refine z_iload_n C 3 rfl rfl dL_law_1135 ?_
  refine z_iconst C (v := (2 : Int32)) (by decide) dL_law_1136 ?_
  refine z_iadd C dL_law_1137 ?_
  refine z_sld C hZ (zin_i (j := 2) (by omega) hL) dL_law_1138 ?_
  refine z_aload_n C 0 rfl rfl dL_law_1139 ?_
  refine z_iload_n C 3 rfl rfl dL_law_1140 ?_
  refine z_iconst C (v := (3 : Int32)) (by decide) dL_law_1141 ?_
  refine z_iadd C dL_law_1142 ?_
  refine z_sld C hZ (zin_i (j := 3) (by omega) hL) dL_law_1143 ?_
  obtain ⟨r, G', M', e1, e2, hR2⟩ := hop (xs (Int32.toNatClampNeg ((nI i) + (1 : Int32)))) (xs (Int32.toNatClampNeg ((nI i) + (2 : Int32)))) (xs (Int32.toNatClampNeg ((nI i) + (3 : Int32)))) G M hRel
  refine z_callVi C (b := a 0) (As := [.int (xs (Int32.toNatClampNeg ((nI i) + (1 : Int32)))), .int (xs (Int32.toNatClampNeg ((nI i) + (2 : Int32)))), .int (xs (Int32.toNatClampNeg ((nI i) + (3 : Int32))))]) (rest := []) (c_X6_see E a (xs (Int32.toNatClampNeg ((nI i) + (1 : Int32)))) (xs (Int32.toNatClampNeg ((nI i) + (2 : Int32)))) (xs (Int32.toNatClampNeg ((nI i) + (3 : Int32)))) G e1) rfl gT_X6_see rfl rfl rfl 3 rfl (by decide +kernel) ⟨Nat.le_of_ble_eq_true rfl, Nat.le_of_ble_eq_true rfl⟩ (List.range 101) (zcatL (wEA_len E a G)) (znd _ List.nodup_range) (wEA_m E a _ _) (wEA E a G' ++ wModel E mb M) (zrepL (wEA_len E a G) (wEA_len E a G')) 0 6 rfl rfl rfl (Nat.le_of_ble_eq_true rfl) dL_law_1144 ⟨Nat.le_of_ble_eq_true rfl, Nat.le_of_ble_eq_true rfl⟩ _ rfl ?_
  refine z_aload_n C 2 rfl rfl dL_law_1147 ?_
  refine z_aload_n C 0 rfl rfl dL_law_1148 ?_
  refine z_iload_n C 3 rfl rfl dL_law_1149 ?_
  refine z_iconst C (v := (1 : Int32)) (by decide) dL_law_1150 ?_
  refine z_iadd C dL_law_1151 ?_
  refine z_sld C hZ (zin_i (j := 1) (by omega) hL) dL_law_1152 ?_
  refine z_aload_n C 0 rfl rfl dL_law_1153 ?_
  refine z_iload_n C 3 rfl rfl dL_law_1154 ?_
  refine z_iconst C (v := (2 : Int32)) (by decide) dL_law_1155 ?_
  refine z_iadd C dL_law_1156 ?_
  refine z_sld C hZ (zin_i (j := 2) (by omega) hL) dL_law_1157 ?_
  refine z_aload_n C 0 rfl rfl dL_law_1158 ?_
  refine z_iload_n C 3 rfl rfl dL_law_1159 ?_
  refine z_iconst C (v := (3 : Int32)) (by decide) dL_law_1160 ?_
  refine z_iadd C dL_law_1161 ?_
  refine z_sld C hZ (zin_i (j := 3) (by omega) hL) dL_law_1162 ?_
  refine z_callVi C (b := mb 0) (As := [.int (xs (Int32.toNatClampNeg ((nI i) + (1 : Int32)))), .int (xs (Int32.toNatClampNeg ((nI i) + (2 : Int32)))), .int (xs (Int32.toNatClampNeg ((nI i) + (3 : Int32))))]) (rest := [.int r]) (c_X7_see E mb (xs (Int32.toNatClampNeg ((nI i) + (1 : Int32)))) (xs (Int32.toNatClampNeg ((nI i) + (2 : Int32)))) (xs (Int32.toNatClampNeg ((nI i) + (3 : Int32)))) M e2) rfl gT_X7_see rfl rfl rfl 3 rfl (by decide +kernel) ⟨Nat.le_of_ble_eq_true rfl, Nat.le_of_ble_eq_true rfl⟩ (List.range' 101 17) (zcatR (wEA_len E a _) (wModel_len E mb M)) (znd _ List.nodup_range') (wModel_m E mb _ _) (wEA E a G' ++ wModel E mb M') (zrepR (wEA_len E a _) (wModel_len E mb M) (wModel_len E mb M')) 0 7 rfl rfl rfl (Nat.le_of_ble_eq_true rfl) dL_law_1163 ⟨Nat.le_of_ble_eq_true rfl, Nat.le_of_ble_eq_true rfl⟩ _ rfl ?_
  refine z_icmp_eq C 1514 (by decide) (F1 := some ()) (F2 := none) (r := ()) (if_pos rfl) dL_law_1166 (fun _ _ => ?_) (fun _ h => by cases h)
  exact hk G' M' hR2

set_option maxHeartbeats 4000000 in
set_option maxRecDepth 100000 in
theorem law_forget {E : zEnv} {Γ : zG} {a mb : Nat → Nat} {b L i : Nat} {xs : Nat → Int32} {Rel : St → St → Prop} (hop : Op_forget Rel) (C : zC E Γ code RL 4 room_1 lw_tbl) (hZ : zS Γ b L xs) (hcl : Jvm.Cond.constantLong RL 13 4294967295 ∈ lw_tbl) (hL : L ≤ 2560) (hi : i + 5 ≤ L) {G M : St} (hRel : Rel G M) (hk : ∀ G2 M2 : St, Rel G2 M2 → Zt E Γ 4 600000 7302250 (wEA E a G2 ++ wModel E mb M2) [(0, .ref b), (1, .ref (a 0)), (2, .ref (mb 0)), (3, .int (nI i))] 1514 []) : Zt E Γ 4 600000 7302250 (wEA E a G ++ wModel E mb M) [(0, .ref b), (1, .ref (a 0)), (2, .ref (mb 0)), (3, .int (nI i))] 1171 [] := by
  refine z_aload_n C 1 rfl rfl dL_law_1171 ?_
  refine z_aload_n C 0 rfl rfl dL_law_1172 ?_
  refine z_iload_n C 3 rfl rfl dL_law_1173 ?_
  refine z_iconst C (v := (1 : Int32)) (by decide) dL_law_1174 ?_
  refine z_iadd C dL_law_1175 ?_
  refine z_sld C hZ (zin_i (j := 1) (by omega) hL) dL_law_1176 ?_
  obtain ⟨r, G', M', e1, e2, hR2⟩ := hop (xs (Int32.toNatClampNeg ((nI i) + (1 : Int32)))) G M hRel
  refine z_callVi C (b := a 0) (As := [.int (xs (Int32.toNatClampNeg ((nI i) + (1 : Int32))))]) (rest := []) (c_X6_forget E a (xs (Int32.toNatClampNeg ((nI i) + (1 : Int32)))) G e1) rfl gT_X6_forget rfl rfl rfl 1 rfl (by decide +kernel) ⟨Nat.le_of_ble_eq_true rfl, Nat.le_of_ble_eq_true rfl⟩ (List.range 101) (zcatL (wEA_len E a G)) (znd _ List.nodup_range) (wEA_m E a _ _) (wEA E a G' ++ wModel E mb M) (zrepL (wEA_len E a G) (wEA_len E a G')) 0 6 rfl rfl rfl (Nat.le_of_ble_eq_true rfl) dL_law_1177 ⟨Nat.le_of_ble_eq_true rfl, Nat.le_of_ble_eq_true rfl⟩ _ rfl ?_
  refine z_aload_n C 2 rfl rfl dL_law_1180 ?_
  refine z_aload_n C 0 rfl rfl dL_law_1181 ?_
  refine z_iload_n C 3 rfl rfl dL_law_1182 ?_
  refine z_iconst C (v := (1 : Int32)) (by decide) dL_law_1183 ?_
  refine z_iadd C dL_law_1184 ?_
  refine z_sld C hZ (zin_i (j := 1) (by omega) hL) dL_law_1185 ?_
  refine z_callVi C (b := mb 0) (As := [.int (xs (Int32.toNatClampNeg ((nI i) + (1 : Int32))))]) (rest := [.int r]) (c_X7_forget E mb (xs (Int32.toNatClampNeg ((nI i) + (1 : Int32)))) M e2) rfl gT_X7_forget rfl rfl rfl 1 rfl (by decide +kernel) ⟨Nat.le_of_ble_eq_true rfl, Nat.le_of_ble_eq_true rfl⟩ (List.range' 101 17) (zcatR (wEA_len E a _) (wModel_len E mb M)) (znd _ List.nodup_range') (wModel_m E mb _ _) (wEA E a G' ++ wModel E mb M') (zrepR (wEA_len E a _) (wModel_len E mb M) (wModel_len E mb M')) 0 7 rfl rfl rfl (Nat.le_of_ble_eq_true rfl) dL_law_1186 ⟨Nat.le_of_ble_eq_true rfl, Nat.le_of_ble_eq_true rfl⟩ _ rfl ?_
  refine z_icmp_eq C 1514 (by decide) (F1 := some ()) (F2 := none) (r := ()) (if_pos rfl) dL_law_1189 (fun _ _ => ?_) (fun _ h => by cases h)
  exact hk G' M' hR2

set_option maxHeartbeats 4000000 in
set_option maxRecDepth 100000 in
theorem law_lie {E : zEnv} {Γ : zG} {a mb : Nat → Nat} {b L i : Nat} {xs : Nat → Int32} {Rel : St → St → Prop} (hop : Op_lie Rel) (C : zC E Γ code RL 4 room_1 lw_tbl) (hZ : zS Γ b L xs) (hcl : Jvm.Cond.constantLong RL 13 4294967295 ∈ lw_tbl) (hL : L ≤ 2560) (hi : i + 5 ≤ L) {G M : St} (hRel : Rel G M) (hk : ∀ G2 M2 : St, Rel G2 M2 → Zt E Γ 4 600000 7302250 (wEA E a G2 ++ wModel E mb M2) [(0, .ref b), (1, .ref (a 0)), (2, .ref (mb 0)), (3, .int (nI i))] 1514 []) : Zt E Γ 4 600000 7302250 (wEA E a G ++ wModel E mb M) [(0, .ref b), (1, .ref (a 0)), (2, .ref (mb 0)), (3, .int (nI i))] 1194 [] := by
  refine z_aload_n C 1 rfl rfl dL_law_1194 ?_
  obtain ⟨r, G', M', e1, e2, hR2⟩ := hop G M hRel
  refine z_callVi C (b := a 0) (As := []) (rest := []) (c_X6_lie E a G e1) rfl gT_X6_lie rfl rfl rfl 0 rfl (by decide +kernel) ⟨Nat.le_of_ble_eq_true rfl, Nat.le_of_ble_eq_true rfl⟩ (List.range 101) (zcatL (wEA_len E a G)) (znd _ List.nodup_range) (wEA_m E a _ _) (wEA E a G' ++ wModel E mb M) (zrepL (wEA_len E a G) (wEA_len E a G')) 0 6 rfl rfl rfl (Nat.le_of_ble_eq_true rfl) dL_law_1195 ⟨Nat.le_of_ble_eq_true rfl, Nat.le_of_ble_eq_true rfl⟩ _ rfl ?_
  refine z_aload_n C 2 rfl rfl dL_law_1198 ?_
  refine z_callVi C (b := mb 0) (As := []) (rest := [.int r]) (c_X7_lie E mb M e2) rfl gT_X7_lie rfl rfl rfl 0 rfl (by decide +kernel) ⟨Nat.le_of_ble_eq_true rfl, Nat.le_of_ble_eq_true rfl⟩ (List.range' 101 17) (zcatR (wEA_len E a _) (wModel_len E mb M)) (znd _ List.nodup_range') (wModel_m E mb _ _) (wEA E a G' ++ wModel E mb M') (zrepR (wEA_len E a _) (wModel_len E mb M) (wModel_len E mb M')) 0 7 rfl rfl rfl (Nat.le_of_ble_eq_true rfl) dL_law_1199 ⟨Nat.le_of_ble_eq_true rfl, Nat.le_of_ble_eq_true rfl⟩ _ rfl ?_
  refine z_icmp_eq C 1514 (by decide) (F1 := some ()) (F2 := none) (r := ()) (if_pos rfl) dL_law_1202 (fun _ _ => ?_) (fun _ h => by cases h)
  exact hk G' M' hR2

set_option maxHeartbeats 4000000 in
set_option maxRecDepth 100000 in
theorem law_born {E : zEnv} {Γ : zG} {a mb : Nat → Nat} {b L i : Nat} {xs : Nat → Int32} {Rel : St → St → Prop} (hop : Op_born Rel) (C : zC E Γ code RL 4 room_1 lw_tbl) (hZ : zS Γ b L xs) (hcl : Jvm.Cond.constantLong RL 13 4294967295 ∈ lw_tbl) (hL : L ≤ 2560) (hi : i + 5 ≤ L) {G M : St} (hRel : Rel G M) (hk : ∀ G2 M2 : St, Rel G2 M2 → Zt E Γ 4 600000 7302250 (wEA E a G2 ++ wModel E mb M2) [(0, .ref b), (1, .ref (a 0)), (2, .ref (mb 0)), (3, .int (nI i))] 1514 []) : Zt E Γ 4 600000 7302250 (wEA E a G ++ wModel E mb M) [(0, .ref b), (1, .ref (a 0)), (2, .ref (mb 0)), (3, .int (nI i))] 1207 [] := by
  refine z_aload_n C 1 rfl rfl dL_law_1207 ?_
  refine z_aload_n C 0 rfl rfl dL_law_1208 ?_
  refine z_iload_n C 3 rfl rfl dL_law_1209 ?_
  refine z_iconst C (v := (1 : Int32)) (by decide) dL_law_1210 ?_
  refine z_iadd C dL_law_1211 ?_
  refine z_sld C hZ (zin_i (j := 1) (by omega) hL) dL_law_1212 ?_
  refine z_aload_n C 0 rfl rfl dL_law_1213 ?_
  refine z_iload_n C 3 rfl rfl dL_law_1214 ?_
  refine z_iconst C (v := (2 : Int32)) (by decide) dL_law_1215 ?_
  refine z_iadd C dL_law_1216 ?_
  refine z_sld C hZ (zin_i (j := 2) (by omega) hL) dL_law_1217 ?_
  obtain ⟨r, G', M', e1, e2, hR2⟩ := hop (xs (Int32.toNatClampNeg ((nI i) + (1 : Int32)))) (xs (Int32.toNatClampNeg ((nI i) + (2 : Int32)))) G M hRel
  refine z_callVi C (b := a 0) (As := [.int (xs (Int32.toNatClampNeg ((nI i) + (1 : Int32)))), .int (xs (Int32.toNatClampNeg ((nI i) + (2 : Int32))))]) (rest := []) (c_X6_born E a (xs (Int32.toNatClampNeg ((nI i) + (1 : Int32)))) (xs (Int32.toNatClampNeg ((nI i) + (2 : Int32)))) G e1) rfl gT_X6_born rfl rfl rfl 2 rfl (by decide +kernel) ⟨Nat.le_of_ble_eq_true rfl, Nat.le_of_ble_eq_true rfl⟩ (List.range 101) (zcatL (wEA_len E a G)) (znd _ List.nodup_range) (wEA_m E a _ _) (wEA E a G' ++ wModel E mb M) (zrepL (wEA_len E a G) (wEA_len E a G')) 0 6 rfl rfl rfl (Nat.le_of_ble_eq_true rfl) dL_law_1218 ⟨Nat.le_of_ble_eq_true rfl, Nat.le_of_ble_eq_true rfl⟩ _ rfl ?_
  refine z_aload_n C 2 rfl rfl dL_law_1221 ?_
  refine z_aload_n C 0 rfl rfl dL_law_1222 ?_
  refine z_iload_n C 3 rfl rfl dL_law_1223 ?_
  refine z_iconst C (v := (1 : Int32)) (by decide) dL_law_1224 ?_
  refine z_iadd C dL_law_1225 ?_
  refine z_sld C hZ (zin_i (j := 1) (by omega) hL) dL_law_1226 ?_
  refine z_aload_n C 0 rfl rfl dL_law_1227 ?_
  refine z_iload_n C 3 rfl rfl dL_law_1228 ?_
  refine z_iconst C (v := (2 : Int32)) (by decide) dL_law_1229 ?_
  refine z_iadd C dL_law_1230 ?_
  refine z_sld C hZ (zin_i (j := 2) (by omega) hL) dL_law_1231 ?_
  refine z_callVi C (b := mb 0) (As := [.int (xs (Int32.toNatClampNeg ((nI i) + (1 : Int32)))), .int (xs (Int32.toNatClampNeg ((nI i) + (2 : Int32))))]) (rest := [.int r]) (c_X7_born E mb (xs (Int32.toNatClampNeg ((nI i) + (1 : Int32)))) (xs (Int32.toNatClampNeg ((nI i) + (2 : Int32)))) M e2) rfl gT_X7_born rfl rfl rfl 2 rfl (by decide +kernel) ⟨Nat.le_of_ble_eq_true rfl, Nat.le_of_ble_eq_true rfl⟩ (List.range' 101 17) (zcatR (wEA_len E a _) (wModel_len E mb M)) (znd _ List.nodup_range') (wModel_m E mb _ _) (wEA E a G' ++ wModel E mb M') (zrepR (wEA_len E a _) (wModel_len E mb M) (wModel_len E mb M')) 0 7 rfl rfl rfl (Nat.le_of_ble_eq_true rfl) dL_law_1232 ⟨Nat.le_of_ble_eq_true rfl, Nat.le_of_ble_eq_true rfl⟩ _ rfl ?_
  refine z_icmp_eq C 1514 (by decide) (F1 := some ()) (F2 := none) (r := ()) (if_pos rfl) dL_law_1235 (fun _ _ => ?_) (fun _ h => by cases h)
  exact hk G' M' hR2

set_option maxHeartbeats 4000000 in
set_option maxRecDepth 100000 in
theorem law_later {E : zEnv} {Γ : zG} {a mb : Nat → Nat} {b L i : Nat} {xs : Nat → Int32} {Rel : St → St → Prop} (hop : Op_later Rel) (C : zC E Γ code RL 4 room_1 lw_tbl) (hZ : zS Γ b L xs) (hcl : Jvm.Cond.constantLong RL 13 4294967295 ∈ lw_tbl) (hL : L ≤ 2560) (hi : i + 5 ≤ L) {G M : St} (hRel : Rel G M) (hk : ∀ G2 M2 : St, Rel G2 M2 → Zt E Γ 4 600000 7302250 (wEA E a G2 ++ wModel E mb M2) [(0, .ref b), (1, .ref (a 0)), (2, .ref (mb 0)), (3, .int (nI i))] 1514 []) : Zt E Γ 4 600000 7302250 (wEA E a G ++ wModel E mb M) [(0, .ref b), (1, .ref (a 0)), (2, .ref (mb 0)), (3, .int (nI i))] 1240 [] := by
  refine z_aload_n C 1 rfl rfl dL_law_1240 ?_
  refine z_aload_n C 0 rfl rfl dL_law_1241 ?_
  refine z_iload_n C 3 rfl rfl dL_law_1242 ?_
  refine z_iconst C (v := (1 : Int32)) (by decide) dL_law_1243 ?_
  refine z_iadd C dL_law_1244 ?_
  refine z_sld C hZ (zin_i (j := 1) (by omega) hL) dL_law_1245 ?_
  refine z_aload_n C 0 rfl rfl dL_law_1246 ?_
  refine z_iload_n C 3 rfl rfl dL_law_1247 ?_
  refine z_iconst C (v := (2 : Int32)) (by decide) dL_law_1248 ?_
  refine z_iadd C dL_law_1249 ?_
  refine z_sld C hZ (zin_i (j := 2) (by omega) hL) dL_law_1250 ?_
  refine z_aload_n C 0 rfl rfl dL_law_1251 ?_
  refine z_iload_n C 3 rfl rfl dL_law_1252 ?_
  refine z_iconst C (v := (3 : Int32)) (by decide) dL_law_1253 ?_
  refine z_iadd C dL_law_1254 ?_
  refine z_sld C hZ (zin_i (j := 3) (by omega) hL) dL_law_1255 ?_
  refine z_aload_n C 0 rfl rfl dL_law_1256 ?_
  refine z_iload_n C 3 rfl rfl dL_law_1257 ?_
  refine z_iconst C (v := (4 : Int32)) (by decide) dL_law_1258 ?_
  refine z_iadd C dL_law_1259 ?_
  refine z_sld C hZ (zin_i (j := 4) (by omega) hL) dL_law_1260 ?_
  obtain ⟨r, G', M', e1, e2, hR2⟩ := hop (xs (Int32.toNatClampNeg ((nI i) + (1 : Int32)))) (xs (Int32.toNatClampNeg ((nI i) + (2 : Int32)))) (xs (Int32.toNatClampNeg ((nI i) + (3 : Int32)))) (xs (Int32.toNatClampNeg ((nI i) + (4 : Int32)))) G M hRel
  refine z_callVi C (b := a 0) (As := [.int (xs (Int32.toNatClampNeg ((nI i) + (1 : Int32)))), .int (xs (Int32.toNatClampNeg ((nI i) + (2 : Int32)))), .int (xs (Int32.toNatClampNeg ((nI i) + (3 : Int32)))), .int (xs (Int32.toNatClampNeg ((nI i) + (4 : Int32))))]) (rest := []) (c_X6_later E a (xs (Int32.toNatClampNeg ((nI i) + (1 : Int32)))) (xs (Int32.toNatClampNeg ((nI i) + (2 : Int32)))) (xs (Int32.toNatClampNeg ((nI i) + (3 : Int32)))) (xs (Int32.toNatClampNeg ((nI i) + (4 : Int32)))) G e1) rfl gT_X6_later rfl rfl rfl 4 rfl (by decide +kernel) ⟨Nat.le_of_ble_eq_true rfl, Nat.le_of_ble_eq_true rfl⟩ (List.range 101) (zcatL (wEA_len E a G)) (znd _ List.nodup_range) (wEA_m E a _ _) (wEA E a G' ++ wModel E mb M) (zrepL (wEA_len E a G) (wEA_len E a G')) 0 6 rfl rfl rfl (Nat.le_of_ble_eq_true rfl) dL_law_1261 ⟨Nat.le_of_ble_eq_true rfl, Nat.le_of_ble_eq_true rfl⟩ _ rfl ?_
  refine z_aload_n C 2 rfl rfl dL_law_1264 ?_
  refine z_aload_n C 0 rfl rfl dL_law_1265 ?_
  refine z_iload_n C 3 rfl rfl dL_law_1266 ?_
  refine z_iconst C (v := (1 : Int32)) (by decide) dL_law_1267 ?_
  refine z_iadd C dL_law_1268 ?_
  refine z_sld C hZ (zin_i (j := 1) (by omega) hL) dL_law_1269 ?_
  refine z_aload_n C 0 rfl rfl dL_law_1270 ?_
  refine z_iload_n C 3 rfl rfl dL_law_1271 ?_
  refine z_iconst C (v := (2 : Int32)) (by decide) dL_law_1272 ?_
  refine z_iadd C dL_law_1273 ?_
  refine z_sld C hZ (zin_i (j := 2) (by omega) hL) dL_law_1274 ?_
  refine z_aload_n C 0 rfl rfl dL_law_1275 ?_
  refine z_iload_n C 3 rfl rfl dL_law_1276 ?_
  refine z_iconst C (v := (3 : Int32)) (by decide) dL_law_1277 ?_
  refine z_iadd C dL_law_1278 ?_
  refine z_sld C hZ (zin_i (j := 3) (by omega) hL) dL_law_1279 ?_
  refine z_aload_n C 0 rfl rfl dL_law_1280 ?_
  refine z_iload_n C 3 rfl rfl dL_law_1281 ?_
  refine z_iconst C (v := (4 : Int32)) (by decide) dL_law_1282 ?_
  refine z_iadd C dL_law_1283 ?_
  refine z_sld C hZ (zin_i (j := 4) (by omega) hL) dL_law_1284 ?_
  refine z_callVi C (b := mb 0) (As := [.int (xs (Int32.toNatClampNeg ((nI i) + (1 : Int32)))), .int (xs (Int32.toNatClampNeg ((nI i) + (2 : Int32)))), .int (xs (Int32.toNatClampNeg ((nI i) + (3 : Int32)))), .int (xs (Int32.toNatClampNeg ((nI i) + (4 : Int32))))]) (rest := [.int r]) (c_X7_later E mb (xs (Int32.toNatClampNeg ((nI i) + (1 : Int32)))) (xs (Int32.toNatClampNeg ((nI i) + (2 : Int32)))) (xs (Int32.toNatClampNeg ((nI i) + (3 : Int32)))) (xs (Int32.toNatClampNeg ((nI i) + (4 : Int32)))) M e2) rfl gT_X7_later rfl rfl rfl 4 rfl (by decide +kernel) ⟨Nat.le_of_ble_eq_true rfl, Nat.le_of_ble_eq_true rfl⟩ (List.range' 101 17) (zcatR (wEA_len E a _) (wModel_len E mb M)) (znd _ List.nodup_range') (wModel_m E mb _ _) (wEA E a G' ++ wModel E mb M') (zrepR (wEA_len E a _) (wModel_len E mb M) (wModel_len E mb M')) 0 7 rfl rfl rfl (Nat.le_of_ble_eq_true rfl) dL_law_1285 ⟨Nat.le_of_ble_eq_true rfl, Nat.le_of_ble_eq_true rfl⟩ _ rfl ?_
  refine z_icmp_eq C 1514 (by decide) (F1 := some ()) (F2 := none) (r := ()) (if_pos rfl) dL_law_1288 (fun _ _ => ?_) (fun _ h => by cases h)
  exact hk G' M' hR2

set_option maxHeartbeats 4000000 in
set_option maxRecDepth 100000 in
theorem law_keep {E : zEnv} {Γ : zG} {a mb : Nat → Nat} {b L i : Nat} {xs : Nat → Int32} {Rel : St → St → Prop} (hop : Op_keep Rel) (C : zC E Γ code RL 4 room_1 lw_tbl) (hZ : zS Γ b L xs) (hcl : Jvm.Cond.constantLong RL 13 4294967295 ∈ lw_tbl) (hL : L ≤ 2560) (hi : i + 5 ≤ L) {G M : St} (hRel : Rel G M) (hk : ∀ G2 M2 : St, Rel G2 M2 → Zt E Γ 4 600000 7302250 (wEA E a G2 ++ wModel E mb M2) [(0, .ref b), (1, .ref (a 0)), (2, .ref (mb 0)), (3, .int (nI i))] 1514 []) : Zt E Γ 4 600000 7302250 (wEA E a G ++ wModel E mb M) [(0, .ref b), (1, .ref (a 0)), (2, .ref (mb 0)), (3, .int (nI i))] 1293 [] := by
  refine z_aload_n C 1 rfl rfl dL_law_1293 ?_
  refine z_aload_n C 0 rfl rfl dL_law_1294 ?_
  refine z_iload_n C 3 rfl rfl dL_law_1295 ?_
  refine z_iconst C (v := (1 : Int32)) (by decide) dL_law_1296 ?_
  refine z_iadd C dL_law_1297 ?_
  refine z_sld C hZ (zin_i (j := 1) (by omega) hL) dL_law_1298 ?_
  obtain ⟨r, G', M', e1, e2, hR2⟩ := hop (xs (Int32.toNatClampNeg ((nI i) + (1 : Int32)))) G M hRel
  refine z_callVi C (b := a 0) (As := [.int (xs (Int32.toNatClampNeg ((nI i) + (1 : Int32))))]) (rest := []) (c_X6_keep E a (xs (Int32.toNatClampNeg ((nI i) + (1 : Int32)))) G e1) rfl gT_X6_keep rfl rfl rfl 1 rfl (by decide +kernel) ⟨Nat.le_of_ble_eq_true rfl, Nat.le_of_ble_eq_true rfl⟩ (List.range 101) (zcatL (wEA_len E a G)) (znd _ List.nodup_range) (wEA_m E a _ _) (wEA E a G' ++ wModel E mb M) (zrepL (wEA_len E a G) (wEA_len E a G')) 0 6 rfl rfl rfl (Nat.le_of_ble_eq_true rfl) dL_law_1299 ⟨Nat.le_of_ble_eq_true rfl, Nat.le_of_ble_eq_true rfl⟩ _ rfl ?_
  refine z_aload_n C 2 rfl rfl dL_law_1302 ?_
  refine z_aload_n C 0 rfl rfl dL_law_1303 ?_
  refine z_iload_n C 3 rfl rfl dL_law_1304 ?_
  refine z_iconst C (v := (1 : Int32)) (by decide) dL_law_1305 ?_
  refine z_iadd C dL_law_1306 ?_
  refine z_sld C hZ (zin_i (j := 1) (by omega) hL) dL_law_1307 ?_
  refine z_callVi C (b := mb 0) (As := [.int (xs (Int32.toNatClampNeg ((nI i) + (1 : Int32))))]) (rest := [.int r]) (c_X7_keep E mb (xs (Int32.toNatClampNeg ((nI i) + (1 : Int32)))) M e2) rfl gT_X7_keep rfl rfl rfl 1 rfl (by decide +kernel) ⟨Nat.le_of_ble_eq_true rfl, Nat.le_of_ble_eq_true rfl⟩ (List.range' 101 17) (zcatR (wEA_len E a _) (wModel_len E mb M)) (znd _ List.nodup_range') (wModel_m E mb _ _) (wEA E a G' ++ wModel E mb M') (zrepR (wEA_len E a _) (wModel_len E mb M) (wModel_len E mb M')) 0 7 rfl rfl rfl (Nat.le_of_ble_eq_true rfl) dL_law_1308 ⟨Nat.le_of_ble_eq_true rfl, Nat.le_of_ble_eq_true rfl⟩ _ rfl ?_
  refine z_icmp_eq C 1514 (by decide) (F1 := some ()) (F2 := none) (r := ()) (if_pos rfl) dL_law_1311 (fun _ _ => ?_) (fun _ h => by cases h)
  exact hk G' M' hR2

set_option maxHeartbeats 4000000 in
set_option maxRecDepth 100000 in
theorem law_back {E : zEnv} {Γ : zG} {a mb : Nat → Nat} {b L i : Nat} {xs : Nat → Int32} {Rel : St → St → Prop} (hop : Op_back Rel) (C : zC E Γ code RL 4 room_1 lw_tbl) (hZ : zS Γ b L xs) (hcl : Jvm.Cond.constantLong RL 13 4294967295 ∈ lw_tbl) (hL : L ≤ 2560) (hi : i + 5 ≤ L) {G M : St} (hRel : Rel G M) (hk : ∀ G2 M2 : St, Rel G2 M2 → Zt E Γ 4 600000 7302250 (wEA E a G2 ++ wModel E mb M2) [(0, .ref b), (1, .ref (a 0)), (2, .ref (mb 0)), (3, .int (nI i))] 1514 []) : Zt E Γ 4 600000 7302250 (wEA E a G ++ wModel E mb M) [(0, .ref b), (1, .ref (a 0)), (2, .ref (mb 0)), (3, .int (nI i))] 1316 [] := by
  refine z_aload_n C 1 rfl rfl dL_law_1316 ?_
  refine z_aload_n C 0 rfl rfl dL_law_1317 ?_
  refine z_iload_n C 3 rfl rfl dL_law_1318 ?_
  refine z_iconst C (v := (1 : Int32)) (by decide) dL_law_1319 ?_
  refine z_iadd C dL_law_1320 ?_
  refine z_sld C hZ (zin_i (j := 1) (by omega) hL) dL_law_1321 ?_
  obtain ⟨r, G', M', e1, e2, hR2⟩ := hop (xs (Int32.toNatClampNeg ((nI i) + (1 : Int32)))) G M hRel
  refine z_callVi C (b := a 0) (As := [.int (xs (Int32.toNatClampNeg ((nI i) + (1 : Int32))))]) (rest := []) (c_X6_back E a (xs (Int32.toNatClampNeg ((nI i) + (1 : Int32)))) G e1) rfl gT_X6_back rfl rfl rfl 1 rfl (by decide +kernel) ⟨Nat.le_of_ble_eq_true rfl, Nat.le_of_ble_eq_true rfl⟩ (List.range 101) (zcatL (wEA_len E a G)) (znd _ List.nodup_range) (wEA_m E a _ _) (wEA E a G' ++ wModel E mb M) (zrepL (wEA_len E a G) (wEA_len E a G')) 0 6 rfl rfl rfl (Nat.le_of_ble_eq_true rfl) dL_law_1322 ⟨Nat.le_of_ble_eq_true rfl, Nat.le_of_ble_eq_true rfl⟩ _ rfl ?_
  refine z_aload_n C 2 rfl rfl dL_law_1325 ?_
  refine z_aload_n C 0 rfl rfl dL_law_1326 ?_
  refine z_iload_n C 3 rfl rfl dL_law_1327 ?_
  refine z_iconst C (v := (1 : Int32)) (by decide) dL_law_1328 ?_
  refine z_iadd C dL_law_1329 ?_
  refine z_sld C hZ (zin_i (j := 1) (by omega) hL) dL_law_1330 ?_
  refine z_callVi C (b := mb 0) (As := [.int (xs (Int32.toNatClampNeg ((nI i) + (1 : Int32))))]) (rest := [.int r]) (c_X7_back E mb (xs (Int32.toNatClampNeg ((nI i) + (1 : Int32)))) M e2) rfl gT_X7_back rfl rfl rfl 1 rfl (by decide +kernel) ⟨Nat.le_of_ble_eq_true rfl, Nat.le_of_ble_eq_true rfl⟩ (List.range' 101 17) (zcatR (wEA_len E a _) (wModel_len E mb M)) (znd _ List.nodup_range') (wModel_m E mb _ _) (wEA E a G' ++ wModel E mb M') (zrepR (wEA_len E a _) (wModel_len E mb M) (wModel_len E mb M')) 0 7 rfl rfl rfl (Nat.le_of_ble_eq_true rfl) dL_law_1331 ⟨Nat.le_of_ble_eq_true rfl, Nat.le_of_ble_eq_true rfl⟩ _ rfl ?_
  refine z_icmp_eq C 1514 (by decide) (F1 := some ()) (F2 := none) (r := ()) (if_pos rfl) dL_law_1334 (fun _ _ => ?_) (fun _ h => by cases h)
  exact hk G' M' hR2

set_option maxHeartbeats 4000000 in
set_option maxRecDepth 100000 in
theorem law_sheet {E : zEnv} {Γ : zG} {a mb : Nat → Nat} {b L i : Nat} {xs : Nat → Int32} {Rel : St → St → Prop} (hop : Op_sheet Rel) (C : zC E Γ code RL 4 room_1 lw_tbl) (hZ : zS Γ b L xs) (hcl : Jvm.Cond.constantLong RL 13 4294967295 ∈ lw_tbl) (hL : L ≤ 2560) (hi : i + 5 ≤ L) {G M : St} (hRel : Rel G M) (hk : ∀ G2 M2 : St, Rel G2 M2 → Zt E Γ 4 600000 7302250 (wEA E a G2 ++ wModel E mb M2) [(0, .ref b), (1, .ref (a 0)), (2, .ref (mb 0)), (3, .int (nI i))] 1514 []) : Zt E Γ 4 600000 7302250 (wEA E a G ++ wModel E mb M) [(0, .ref b), (1, .ref (a 0)), (2, .ref (mb 0)), (3, .int (nI i))] 1339 [] := by
  refine z_aload_n C 1 rfl rfl dL_law_1339 ?_
  refine z_aload_n C 0 rfl rfl dL_law_1340 ?_
  refine z_iload_n C 3 rfl rfl dL_law_1341 ?_
  refine z_iconst C (v := (1 : Int32)) (by decide) dL_law_1342 ?_
  refine z_iadd C dL_law_1343 ?_
  refine z_sld C hZ (zin_i (j := 1) (by omega) hL) dL_law_1344 ?_
  refine z_aload_n C 0 rfl rfl dL_law_1345 ?_
  refine z_iload_n C 3 rfl rfl dL_law_1346 ?_
  refine z_iconst C (v := (2 : Int32)) (by decide) dL_law_1347 ?_
  refine z_iadd C dL_law_1348 ?_
  refine z_sld C hZ (zin_i (j := 2) (by omega) hL) dL_law_1349 ?_
  refine z_aload_n C 0 rfl rfl dL_law_1350 ?_
  refine z_iload_n C 3 rfl rfl dL_law_1351 ?_
  refine z_iconst C (v := (3 : Int32)) (by decide) dL_law_1352 ?_
  refine z_iadd C dL_law_1353 ?_
  refine z_sld C hZ (zin_i (j := 3) (by omega) hL) dL_law_1354 ?_
  obtain ⟨r, G', M', e1, e2, hR2⟩ := hop (xs (Int32.toNatClampNeg ((nI i) + (1 : Int32)))) (xs (Int32.toNatClampNeg ((nI i) + (2 : Int32)))) (xs (Int32.toNatClampNeg ((nI i) + (3 : Int32)))) G M hRel
  refine z_callVi C (b := a 0) (As := [.int (xs (Int32.toNatClampNeg ((nI i) + (1 : Int32)))), .int (xs (Int32.toNatClampNeg ((nI i) + (2 : Int32)))), .int (xs (Int32.toNatClampNeg ((nI i) + (3 : Int32))))]) (rest := []) (c_X6_sheet E a (xs (Int32.toNatClampNeg ((nI i) + (1 : Int32)))) (xs (Int32.toNatClampNeg ((nI i) + (2 : Int32)))) (xs (Int32.toNatClampNeg ((nI i) + (3 : Int32)))) G e1) rfl gT_X6_sheet rfl rfl rfl 3 rfl (by decide +kernel) ⟨Nat.le_of_ble_eq_true rfl, Nat.le_of_ble_eq_true rfl⟩ (List.range 101) (zcatL (wEA_len E a G)) (znd _ List.nodup_range) (wEA_m E a _ _) (wEA E a G' ++ wModel E mb M) (zrepL (wEA_len E a G) (wEA_len E a G')) 0 6 rfl rfl rfl (Nat.le_of_ble_eq_true rfl) dL_law_1355 ⟨Nat.le_of_ble_eq_true rfl, Nat.le_of_ble_eq_true rfl⟩ _ rfl ?_
  refine z_aload_n C 2 rfl rfl dL_law_1358 ?_
  refine z_aload_n C 0 rfl rfl dL_law_1359 ?_
  refine z_iload_n C 3 rfl rfl dL_law_1360 ?_
  refine z_iconst C (v := (1 : Int32)) (by decide) dL_law_1361 ?_
  refine z_iadd C dL_law_1362 ?_
  refine z_sld C hZ (zin_i (j := 1) (by omega) hL) dL_law_1363 ?_
  refine z_aload_n C 0 rfl rfl dL_law_1364 ?_
  refine z_iload_n C 3 rfl rfl dL_law_1365 ?_
  refine z_iconst C (v := (2 : Int32)) (by decide) dL_law_1366 ?_
  refine z_iadd C dL_law_1367 ?_
  refine z_sld C hZ (zin_i (j := 2) (by omega) hL) dL_law_1368 ?_
  refine z_aload_n C 0 rfl rfl dL_law_1369 ?_
  refine z_iload_n C 3 rfl rfl dL_law_1370 ?_
  refine z_iconst C (v := (3 : Int32)) (by decide) dL_law_1371 ?_
  refine z_iadd C dL_law_1372 ?_
  refine z_sld C hZ (zin_i (j := 3) (by omega) hL) dL_law_1373 ?_
  refine z_callVi C (b := mb 0) (As := [.int (xs (Int32.toNatClampNeg ((nI i) + (1 : Int32)))), .int (xs (Int32.toNatClampNeg ((nI i) + (2 : Int32)))), .int (xs (Int32.toNatClampNeg ((nI i) + (3 : Int32))))]) (rest := [.int r]) (c_X7_sheet E mb (xs (Int32.toNatClampNeg ((nI i) + (1 : Int32)))) (xs (Int32.toNatClampNeg ((nI i) + (2 : Int32)))) (xs (Int32.toNatClampNeg ((nI i) + (3 : Int32)))) M e2) rfl gT_X7_sheet rfl rfl rfl 3 rfl (by decide +kernel) ⟨Nat.le_of_ble_eq_true rfl, Nat.le_of_ble_eq_true rfl⟩ (List.range' 101 17) (zcatR (wEA_len E a _) (wModel_len E mb M)) (znd _ List.nodup_range') (wModel_m E mb _ _) (wEA E a G' ++ wModel E mb M') (zrepR (wEA_len E a _) (wModel_len E mb M) (wModel_len E mb M')) 0 7 rfl rfl rfl (Nat.le_of_ble_eq_true rfl) dL_law_1374 ⟨Nat.le_of_ble_eq_true rfl, Nat.le_of_ble_eq_true rfl⟩ _ rfl ?_
  refine z_icmp_eq C 1514 (by decide) (F1 := some ()) (F2 := none) (r := ()) (if_pos rfl) dL_law_1377 (fun _ _ => ?_) (fun _ h => by cases h)
  exact hk G' M' hR2

set_option maxHeartbeats 4000000 in
set_option maxRecDepth 100000 in
theorem law_lay {E : zEnv} {Γ : zG} {a mb : Nat → Nat} {b L i : Nat} {xs : Nat → Int32} {Rel : St → St → Prop} (hop : Op_lay Rel) (C : zC E Γ code RL 4 room_1 lw_tbl) (hZ : zS Γ b L xs) (hcl : Jvm.Cond.constantLong RL 13 4294967295 ∈ lw_tbl) (hL : L ≤ 2560) (hi : i + 5 ≤ L) {G M : St} (hRel : Rel G M) (hk : ∀ G2 M2 : St, Rel G2 M2 → Zt E Γ 4 600000 7302250 (wEA E a G2 ++ wModel E mb M2) [(0, .ref b), (1, .ref (a 0)), (2, .ref (mb 0)), (3, .int (nI i))] 1514 []) : Zt E Γ 4 600000 7302250 (wEA E a G ++ wModel E mb M) [(0, .ref b), (1, .ref (a 0)), (2, .ref (mb 0)), (3, .int (nI i))] 1382 [] := by
  refine z_aload_n C 1 rfl rfl dL_law_1382 ?_
  refine z_aload_n C 0 rfl rfl dL_law_1383 ?_
  refine z_iload_n C 3 rfl rfl dL_law_1384 ?_
  refine z_iconst C (v := (1 : Int32)) (by decide) dL_law_1385 ?_
  refine z_iadd C dL_law_1386 ?_
  refine z_sld C hZ (zin_i (j := 1) (by omega) hL) dL_law_1387 ?_
  refine z_aload_n C 0 rfl rfl dL_law_1388 ?_
  refine z_iload_n C 3 rfl rfl dL_law_1389 ?_
  refine z_iconst C (v := (2 : Int32)) (by decide) dL_law_1390 ?_
  refine z_iadd C dL_law_1391 ?_
  refine z_sld C hZ (zin_i (j := 2) (by omega) hL) dL_law_1392 ?_
  refine z_aload_n C 0 rfl rfl dL_law_1393 ?_
  refine z_iload_n C 3 rfl rfl dL_law_1394 ?_
  refine z_iconst C (v := (3 : Int32)) (by decide) dL_law_1395 ?_
  refine z_iadd C dL_law_1396 ?_
  refine z_sld C hZ (zin_i (j := 3) (by omega) hL) dL_law_1397 ?_
  obtain ⟨r, G', M', e1, e2, hR2⟩ := hop (xs (Int32.toNatClampNeg ((nI i) + (1 : Int32)))) (xs (Int32.toNatClampNeg ((nI i) + (2 : Int32)))) (xs (Int32.toNatClampNeg ((nI i) + (3 : Int32)))) G M hRel
  refine z_callVi C (b := a 0) (As := [.int (xs (Int32.toNatClampNeg ((nI i) + (1 : Int32)))), .int (xs (Int32.toNatClampNeg ((nI i) + (2 : Int32)))), .int (xs (Int32.toNatClampNeg ((nI i) + (3 : Int32))))]) (rest := []) (c_X6_lay E a (xs (Int32.toNatClampNeg ((nI i) + (1 : Int32)))) (xs (Int32.toNatClampNeg ((nI i) + (2 : Int32)))) (xs (Int32.toNatClampNeg ((nI i) + (3 : Int32)))) G e1) rfl gT_X6_lay rfl rfl rfl 3 rfl (by decide +kernel) ⟨Nat.le_of_ble_eq_true rfl, Nat.le_of_ble_eq_true rfl⟩ (List.range 101) (zcatL (wEA_len E a G)) (znd _ List.nodup_range) (wEA_m E a _ _) (wEA E a G' ++ wModel E mb M) (zrepL (wEA_len E a G) (wEA_len E a G')) 0 6 rfl rfl rfl (Nat.le_of_ble_eq_true rfl) dL_law_1398 ⟨Nat.le_of_ble_eq_true rfl, Nat.le_of_ble_eq_true rfl⟩ _ rfl ?_
  refine z_aload_n C 2 rfl rfl dL_law_1401 ?_
  refine z_aload_n C 0 rfl rfl dL_law_1402 ?_
  refine z_iload_n C 3 rfl rfl dL_law_1403 ?_
  refine z_iconst C (v := (1 : Int32)) (by decide) dL_law_1404 ?_
  refine z_iadd C dL_law_1405 ?_
  refine z_sld C hZ (zin_i (j := 1) (by omega) hL) dL_law_1406 ?_
  refine z_aload_n C 0 rfl rfl dL_law_1407 ?_
  refine z_iload_n C 3 rfl rfl dL_law_1408 ?_
  refine z_iconst C (v := (2 : Int32)) (by decide) dL_law_1409 ?_
  refine z_iadd C dL_law_1410 ?_
  refine z_sld C hZ (zin_i (j := 2) (by omega) hL) dL_law_1411 ?_
  refine z_aload_n C 0 rfl rfl dL_law_1412 ?_
  refine z_iload_n C 3 rfl rfl dL_law_1413 ?_
  refine z_iconst C (v := (3 : Int32)) (by decide) dL_law_1414 ?_
  refine z_iadd C dL_law_1415 ?_
  refine z_sld C hZ (zin_i (j := 3) (by omega) hL) dL_law_1416 ?_
  refine z_callVi C (b := mb 0) (As := [.int (xs (Int32.toNatClampNeg ((nI i) + (1 : Int32)))), .int (xs (Int32.toNatClampNeg ((nI i) + (2 : Int32)))), .int (xs (Int32.toNatClampNeg ((nI i) + (3 : Int32))))]) (rest := [.int r]) (c_X7_lay E mb (xs (Int32.toNatClampNeg ((nI i) + (1 : Int32)))) (xs (Int32.toNatClampNeg ((nI i) + (2 : Int32)))) (xs (Int32.toNatClampNeg ((nI i) + (3 : Int32)))) M e2) rfl gT_X7_lay rfl rfl rfl 3 rfl (by decide +kernel) ⟨Nat.le_of_ble_eq_true rfl, Nat.le_of_ble_eq_true rfl⟩ (List.range' 101 17) (zcatR (wEA_len E a _) (wModel_len E mb M)) (znd _ List.nodup_range') (wModel_m E mb _ _) (wEA E a G' ++ wModel E mb M') (zrepR (wEA_len E a _) (wModel_len E mb M) (wModel_len E mb M')) 0 7 rfl rfl rfl (Nat.le_of_ble_eq_true rfl) dL_law_1417 ⟨Nat.le_of_ble_eq_true rfl, Nat.le_of_ble_eq_true rfl⟩ _ rfl ?_
  refine z_icmp_eq C 1514 (by decide) (F1 := some ()) (F2 := none) (r := ()) (if_pos rfl) dL_law_1420 (fun _ _ => ?_) (fun _ h => by cases h)
  exact hk G' M' hR2

set_option maxHeartbeats 4000000 in
set_option maxRecDepth 100000 in
theorem law_read {E : zEnv} {Γ : zG} {a mb : Nat → Nat} {b L i : Nat} {xs : Nat → Int32} {Rel : St → St → Prop} (hop : Op_read Rel) (C : zC E Γ code RL 4 room_1 lw_tbl) (hZ : zS Γ b L xs) (hcl : Jvm.Cond.constantLong RL 13 4294967295 ∈ lw_tbl) (hL : L ≤ 2560) (hi : i + 5 ≤ L) {G M : St} (hRel : Rel G M) (hk : ∀ G2 M2 : St, Rel G2 M2 → Zt E Γ 4 600000 7302250 (wEA E a G2 ++ wModel E mb M2) [(0, .ref b), (1, .ref (a 0)), (2, .ref (mb 0)), (3, .int (nI i))] 1514 []) : Zt E Γ 4 600000 7302250 (wEA E a G ++ wModel E mb M) [(0, .ref b), (1, .ref (a 0)), (2, .ref (mb 0)), (3, .int (nI i))] 1425 [] := by
  refine z_aload_n C 1 rfl rfl dL_law_1425 ?_
  refine z_aload_n C 0 rfl rfl dL_law_1426 ?_
  refine z_iload_n C 3 rfl rfl dL_law_1427 ?_
  refine z_iconst C (v := (1 : Int32)) (by decide) dL_law_1428 ?_
  refine z_iadd C dL_law_1429 ?_
  refine z_sld C hZ (zin_i (j := 1) (by omega) hL) dL_law_1430 ?_
  refine z_aload_n C 0 rfl rfl dL_law_1431 ?_
  refine z_iload_n C 3 rfl rfl dL_law_1432 ?_
  refine z_iconst C (v := (2 : Int32)) (by decide) dL_law_1433 ?_
  refine z_iadd C dL_law_1434 ?_
  refine z_sld C hZ (zin_i (j := 2) (by omega) hL) dL_law_1435 ?_
  refine z_aload_n C 0 rfl rfl dL_law_1436 ?_
  refine z_iload_n C 3 rfl rfl dL_law_1437 ?_
  refine z_iconst C (v := (3 : Int32)) (by decide) dL_law_1438 ?_
  refine z_iadd C dL_law_1439 ?_
  refine z_sld C hZ (zin_i (j := 3) (by omega) hL) dL_law_1440 ?_
  refine z_aload_n C 0 rfl rfl dL_law_1441 ?_
  refine z_iload_n C 3 rfl rfl dL_law_1442 ?_
  refine z_iconst C (v := (4 : Int32)) (by decide) dL_law_1443 ?_
  refine z_iadd C dL_law_1444 ?_
  refine z_sld C hZ (zin_i (j := 4) (by omega) hL) dL_law_1445 ?_
  obtain ⟨r, G', M', e1, e2, hR2⟩ := hop (xs (Int32.toNatClampNeg ((nI i) + (1 : Int32)))) (xs (Int32.toNatClampNeg ((nI i) + (2 : Int32)))) (xs (Int32.toNatClampNeg ((nI i) + (3 : Int32)))) (xs (Int32.toNatClampNeg ((nI i) + (4 : Int32)))) G M hRel
  refine z_callVi C (b := a 0) (As := [.int (xs (Int32.toNatClampNeg ((nI i) + (1 : Int32)))), .int (xs (Int32.toNatClampNeg ((nI i) + (2 : Int32)))), .int (xs (Int32.toNatClampNeg ((nI i) + (3 : Int32)))), .int (xs (Int32.toNatClampNeg ((nI i) + (4 : Int32))))]) (rest := []) (c_X6_read E a (xs (Int32.toNatClampNeg ((nI i) + (1 : Int32)))) (xs (Int32.toNatClampNeg ((nI i) + (2 : Int32)))) (xs (Int32.toNatClampNeg ((nI i) + (3 : Int32)))) (xs (Int32.toNatClampNeg ((nI i) + (4 : Int32)))) G e1) rfl gT_X6_read rfl rfl rfl 4 rfl (by decide +kernel) ⟨Nat.le_of_ble_eq_true rfl, Nat.le_of_ble_eq_true rfl⟩ (List.range 101) (zcatL (wEA_len E a G)) (znd _ List.nodup_range) (wEA_m E a _ _) (wEA E a G' ++ wModel E mb M) (zrepL (wEA_len E a G) (wEA_len E a G')) 0 6 rfl rfl rfl (Nat.le_of_ble_eq_true rfl) dL_law_1446 ⟨Nat.le_of_ble_eq_true rfl, Nat.le_of_ble_eq_true rfl⟩ _ rfl ?_
  refine z_aload_n C 2 rfl rfl dL_law_1449 ?_
  refine z_aload_n C 0 rfl rfl dL_law_1450 ?_
  refine z_iload_n C 3 rfl rfl dL_law_1451 ?_
  refine z_iconst C (v := (1 : Int32)) (by decide) dL_law_1452 ?_
  refine z_iadd C dL_law_1453 ?_
  refine z_sld C hZ (zin_i (j := 1) (by omega) hL) dL_law_1454 ?_
  refine z_aload_n C 0 rfl rfl dL_law_1455 ?_
  refine z_iload_n C 3 rfl rfl dL_law_1456 ?_
  refine z_iconst C (v := (2 : Int32)) (by decide) dL_law_1457 ?_
  refine z_iadd C dL_law_1458 ?_
  refine z_sld C hZ (zin_i (j := 2) (by omega) hL) dL_law_1459 ?_
  refine z_aload_n C 0 rfl rfl dL_law_1460 ?_
  refine z_iload_n C 3 rfl rfl dL_law_1461 ?_
  refine z_iconst C (v := (3 : Int32)) (by decide) dL_law_1462 ?_
  refine z_iadd C dL_law_1463 ?_
  refine z_sld C hZ (zin_i (j := 3) (by omega) hL) dL_law_1464 ?_
  refine z_aload_n C 0 rfl rfl dL_law_1465 ?_
  refine z_iload_n C 3 rfl rfl dL_law_1466 ?_
  refine z_iconst C (v := (4 : Int32)) (by decide) dL_law_1467 ?_
  refine z_iadd C dL_law_1468 ?_
  refine z_sld C hZ (zin_i (j := 4) (by omega) hL) dL_law_1469 ?_
  refine z_callVi C (b := mb 0) (As := [.int (xs (Int32.toNatClampNeg ((nI i) + (1 : Int32)))), .int (xs (Int32.toNatClampNeg ((nI i) + (2 : Int32)))), .int (xs (Int32.toNatClampNeg ((nI i) + (3 : Int32)))), .int (xs (Int32.toNatClampNeg ((nI i) + (4 : Int32))))]) (rest := [.int r]) (c_X7_read E mb (xs (Int32.toNatClampNeg ((nI i) + (1 : Int32)))) (xs (Int32.toNatClampNeg ((nI i) + (2 : Int32)))) (xs (Int32.toNatClampNeg ((nI i) + (3 : Int32)))) (xs (Int32.toNatClampNeg ((nI i) + (4 : Int32)))) M e2) rfl gT_X7_read rfl rfl rfl 4 rfl (by decide +kernel) ⟨Nat.le_of_ble_eq_true rfl, Nat.le_of_ble_eq_true rfl⟩ (List.range' 101 17) (zcatR (wEA_len E a _) (wModel_len E mb M)) (znd _ List.nodup_range') (wModel_m E mb _ _) (wEA E a G' ++ wModel E mb M') (zrepR (wEA_len E a _) (wModel_len E mb M) (wModel_len E mb M')) 0 7 rfl rfl rfl (Nat.le_of_ble_eq_true rfl) dL_law_1470 ⟨Nat.le_of_ble_eq_true rfl, Nat.le_of_ble_eq_true rfl⟩ _ rfl ?_
  refine z_icmp_eq C 1514 (by decide) (F1 := some ()) (F2 := none) (r := ()) (if_pos rfl) dL_law_1473 (fun _ _ => ?_) (fun _ h => by cases h)
  exact hk G' M' hR2

set_option maxHeartbeats 4000000 in
set_option maxRecDepth 100000 in
theorem law_torn {E : zEnv} {Γ : zG} {a mb : Nat → Nat} {b L i : Nat} {xs : Nat → Int32} {Rel : St → St → Prop} (hop : Op_torn Rel) (C : zC E Γ code RL 4 room_1 lw_tbl) (hZ : zS Γ b L xs) (hcl : Jvm.Cond.constantLong RL 13 4294967295 ∈ lw_tbl) (hL : L ≤ 2560) (hi : i + 5 ≤ L) {G M : St} (hRel : Rel G M) (hk : ∀ G2 M2 : St, Rel G2 M2 → Zt E Γ 4 600000 7302250 (wEA E a G2 ++ wModel E mb M2) [(0, .ref b), (1, .ref (a 0)), (2, .ref (mb 0)), (3, .int (nI i))] 1514 []) : Zt E Γ 4 600000 7302250 (wEA E a G ++ wModel E mb M) [(0, .ref b), (1, .ref (a 0)), (2, .ref (mb 0)), (3, .int (nI i))] 1478 [] := by
  refine z_aload_n C 1 rfl rfl dL_law_1478 ?_
  obtain ⟨r, e1, e2, hR2⟩ := hop G M hRel
  refine z_callVi C (b := a 0) (As := []) (rest := []) (c_X6_torn E a G e1) rfl gT_X6_torn rfl rfl rfl 0 rfl (by decide +kernel) ⟨Nat.le_of_ble_eq_true rfl, Nat.le_of_ble_eq_true rfl⟩ (List.range 101) (zcatL (wEA_len E a G)) (znd _ List.nodup_range) (wEA_m E a _ _) (wEA E a G ++ wModel E mb M) (zrep_self (zcatL (wEA_len E a G))) 0 6 rfl rfl rfl (Nat.le_of_ble_eq_true rfl) dL_law_1479 ⟨Nat.le_of_ble_eq_true rfl, Nat.le_of_ble_eq_true rfl⟩ _ rfl ?_
  refine z_aload_n C 2 rfl rfl dL_law_1482 ?_
  refine z_callVi C (b := mb 0) (As := []) (rest := [.int r]) (c_X7_torn E mb M e2) rfl gT_X7_torn rfl rfl rfl 0 rfl (by decide +kernel) ⟨Nat.le_of_ble_eq_true rfl, Nat.le_of_ble_eq_true rfl⟩ (List.range' 101 17) (zcatR (wEA_len E a _) (wModel_len E mb M)) (znd _ List.nodup_range') (wModel_m E mb _ _) (wEA E a G ++ wModel E mb M) (zrep_self (zcatR (wEA_len E a _) (wModel_len E mb M))) 0 7 rfl rfl rfl (Nat.le_of_ble_eq_true rfl) dL_law_1483 ⟨Nat.le_of_ble_eq_true rfl, Nat.le_of_ble_eq_true rfl⟩ _ rfl ?_
  refine z_icmp_eq C 1514 (by decide) (F1 := some ()) (F2 := none) (r := ()) (if_pos rfl) dL_law_1486 (fun _ _ => ?_) (fun _ h => by cases h)
  exact hk G M hR2

set_option maxHeartbeats 4000000 in
set_option maxRecDepth 100000 in
theorem law_count {E : zEnv} {Γ : zG} {a mb : Nat → Nat} {b L i : Nat} {xs : Nat → Int32} {Rel : St → St → Prop} (hop : Op_count Rel) (C : zC E Γ code RL 4 room_1 lw_tbl) (hZ : zS Γ b L xs) (hcl : Jvm.Cond.constantLong RL 13 4294967295 ∈ lw_tbl) (hL : L ≤ 2560) (hi : i + 5 ≤ L) {G M : St} (hRel : Rel G M) (hk : ∀ G2 M2 : St, Rel G2 M2 → Zt E Γ 4 600000 7302250 (wEA E a G2 ++ wModel E mb M2) [(0, .ref b), (1, .ref (a 0)), (2, .ref (mb 0)), (3, .int (nI i))] 1514 []) : Zt E Γ 4 600000 7302250 (wEA E a G ++ wModel E mb M) [(0, .ref b), (1, .ref (a 0)), (2, .ref (mb 0)), (3, .int (nI i))] 1491 [] := by
  refine z_aload_n C 1 rfl rfl dL_law_1491 ?_
  refine z_aload_n C 0 rfl rfl dL_law_1492 ?_
  refine z_iload_n C 3 rfl rfl dL_law_1493 ?_
  refine z_iconst C (v := (1 : Int32)) (by decide) dL_law_1494 ?_
  refine z_iadd C dL_law_1495 ?_
  refine z_sld C hZ (zin_i (j := 1) (by omega) hL) dL_law_1496 ?_
  obtain ⟨r, e1, e2, hR2⟩ := hop (xs (Int32.toNatClampNeg ((nI i) + (1 : Int32)))) G M hRel
  refine z_callVi C (b := a 0) (As := [.int (xs (Int32.toNatClampNeg ((nI i) + (1 : Int32))))]) (rest := []) (c_X6_count E a (xs (Int32.toNatClampNeg ((nI i) + (1 : Int32)))) G e1) rfl gT_X6_count rfl rfl rfl 1 rfl (by decide +kernel) ⟨Nat.le_of_ble_eq_true rfl, Nat.le_of_ble_eq_true rfl⟩ (List.range 101) (zcatL (wEA_len E a G)) (znd _ List.nodup_range) (wEA_m E a _ _) (wEA E a G ++ wModel E mb M) (zrep_self (zcatL (wEA_len E a G))) 0 6 rfl rfl rfl (Nat.le_of_ble_eq_true rfl) dL_law_1497 ⟨Nat.le_of_ble_eq_true rfl, Nat.le_of_ble_eq_true rfl⟩ _ rfl ?_
  refine z_aload_n C 2 rfl rfl dL_law_1500 ?_
  refine z_aload_n C 0 rfl rfl dL_law_1501 ?_
  refine z_iload_n C 3 rfl rfl dL_law_1502 ?_
  refine z_iconst C (v := (1 : Int32)) (by decide) dL_law_1503 ?_
  refine z_iadd C dL_law_1504 ?_
  refine z_sld C hZ (zin_i (j := 1) (by omega) hL) dL_law_1505 ?_
  refine z_callVi C (b := mb 0) (As := [.int (xs (Int32.toNatClampNeg ((nI i) + (1 : Int32))))]) (rest := [.int r]) (c_X7_count E mb (xs (Int32.toNatClampNeg ((nI i) + (1 : Int32)))) M e2) rfl gT_X7_count rfl rfl rfl 1 rfl (by decide +kernel) ⟨Nat.le_of_ble_eq_true rfl, Nat.le_of_ble_eq_true rfl⟩ (List.range' 101 17) (zcatR (wEA_len E a _) (wModel_len E mb M)) (znd _ List.nodup_range') (wModel_m E mb _ _) (wEA E a G ++ wModel E mb M) (zrep_self (zcatR (wEA_len E a _) (wModel_len E mb M))) 0 7 rfl rfl rfl (Nat.le_of_ble_eq_true rfl) dL_law_1506 ⟨Nat.le_of_ble_eq_true rfl, Nat.le_of_ble_eq_true rfl⟩ _ rfl ?_
  refine z_icmp_eq C 1514 (by decide) (F1 := some ()) (F2 := none) (r := ()) (if_pos rfl) dL_law_1509 (fun _ _ => ?_) (fun _ h => by cases h)
  exact hk G M hR2

