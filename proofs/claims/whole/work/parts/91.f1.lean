section CF
set_option maxRecDepth 100000 in
set_option maxHeartbeats 4000000 in
theorem lc_0 {Φ : gwC} {hb : gwHp} {M b L B : Nat} {xs : Nat → Int32} {Z : gwE} {x : Option Nat} {i K : Int} {z : St} {c : W0} {cells slots : Nat} (hB : Φ.2.1 = B) (hi : 0 ≤ i ∧ i + 4 ≤ (L : Int)) (h2048 : L ≤ 2048) (hc : cells + 20 ≤ 601024) (hs : slots + 100 ≤ 7293034) (hK : K ≤ 1000000) (hL : LI K z) (hC : CI 0 z c) (hM : MI 105 z c) (k : LK Φ hb M b L xs Z B x i K cells slots) : G Φ mL_law (E9 Z b L xs B) x cells slots 308 (lvL M b i) [] (hp Φ hb M shA c) := by
  obtain ⟨e, v, t, z', h1, h2, h3, h4⟩ := pr_setVariables hL (p := SA xs (i + 1)) (i32_r _)
  obtain ⟨c1, e1, f1, g1⟩ := h1 c hC
  have hM1 := W_c f1 hM
  have hcs : (e = 0 ∧ t = 0) ∨ (e = 1 ∧ t = 1) := by simpa using h4
  have tail : ∀ c2, CI 0 z' c2 → MI 105 z c2 → (t = 0 → c2 120 0 = w32 v) → G Φ mL_law (E9 Z b L xs B) x (cells + 1) (slots + 6) 319 (lvL M b i) [vI t] (hp Φ hb M shA c2) := by
    intro c2 hC2 hM2 ho
    obtain ⟨c3, e3, f3, g3, t3⟩ := h2 c2 hM2
    refine gw_istore dL_law_319 rfl (by decide) ?_
    refine gw_aload_n dL_law_321 rfl rfl ?_
    refine gw_aload_n dL_law_322 rfl rfl ?_
    refine gw_iload dL_law_323 rfl rfl ?_
    refine gw_iconstZ dL_law_325 rfl ?_
    refine gw_iaddZ dL_law_326 rfl ?_
    refine gl_sldZ hB ⟨by omega, by omega⟩ h2048 dL_law_327 rfl ?_
    refine gw_V1 okX9_setVariables dL_law_328 kw_1409 kw_1410 kw_1411 (hp_o shA_M.1) rfl ⟨Nat.le_of_ble_eq_true rfl, Nat.le_of_ble_eq_true rfl⟩ ⟨show cells + 1 + 0 ≤ 601024 by omega, show slots + 6 + 0 ≤ 7293034 by omega⟩ (Nat.le_of_ble_eq_true rfl) (w_X9_setVariables shA_M e3 ?_)
    refine gw_istore dL_law_331 rfl (by decide) ?_
    refine gw_aload_n dL_law_333 rfl rfl ?_
    refine gw_V0 okX9_thrown dL_law_334 kw_1405 kw_1406 kw_1407 (hp_o shA_M.1) rfl ⟨Nat.le_of_ble_eq_true rfl, Nat.le_of_ble_eq_true rfl⟩ ⟨show cells + 1 + 0 + 0 ≤ 601024 by omega, show slots + 6 + 0 + 0 ≤ 7293034 by omega⟩ (Nat.le_of_ble_eq_true rfl) (w_X9_thrown shA_M (thr9 t3) ?_)
    refine gw_iload dL_law_337 rfl rfl ?_
    refine gw_icmp_eq (tgt := 344) dL_law_339 rfl (by decide) (fun _ => ?_) (fun q => absurd rfl q)
    refine gw_iload dL_law_344 rfl rfl ?_
    refine gw_if_neZ (tgt := 361) dL_law_346 rfl (by decide) ⟨by omega, by omega⟩ (fun q => ?_) (fun q => ?_)
    · refine gw_goto (tgt := 2881) dL_law_361 (by decide) ?_
      exact k z' c3 _ _ _ h3 (W_m f3 hC2) g3 (show cells + 1 + 0 + 0 ≤ cells + 20 by omega) (show slots + 6 + 0 + 0 ≤ slots + 100 by omega) (lvA_c rfl (lvA_c rfl (lvA_c rfl (lvA_c rfl (lvA_c rfl lvA_n)))))
    · skip
      refine gw_aload_n dL_law_349 rfl rfl ?_
      refine gw_iconstZ dL_law_350 rfl ?_
      have hv : c3 120 0 = w32 v := by rw [f3 120 (Or.inr (by decide))]; exact ho q
      refine gs_laldE dL_law_351 rfl shA_o (by decide) (by decide) hv ?_
      refine gw_iload dL_law_352 rfl rfl ?_
      refine gw_i2lW dL_law_354 rfl ?_
      refine gw_lc_eq (tgt := 361) dL_law_355 rfl dL_law_356 rfl (by decide) (fun _ => ?_) (fun q => absurd rfl q)
      refine gw_goto (tgt := 2881) dL_law_361 (by decide) ?_
      exact k z' c3 _ _ _ h3 (W_m f3 hC2) g3 (show cells + 1 + 0 + 0 ≤ cells + 20 by omega) (show slots + 6 + 0 + 0 ≤ slots + 100 by omega) (lvA_c rfl (lvA_c rfl (lvA_c rfl (lvA_c rfl (lvA_c rfl lvA_n)))))
  refine gw_aload_n dL_law_308 rfl rfl ?_
  refine gw_aload_n dL_law_309 rfl rfl ?_
  refine gw_iload dL_law_310 rfl rfl ?_
  refine gw_iconstZ dL_law_312 rfl ?_
  refine gw_iaddZ dL_law_313 rfl ?_
  refine gl_sldZ hB ⟨by omega, by omega⟩ h2048 dL_law_314 rfl ?_
  refine gw_aload_n dL_law_315 rfl rfl ?_
  refine gw_SH3 okL_setVariables dL_law_316 kw_917 kw_918 ⟨Nat.le_of_ble_eq_true rfl, Nat.le_of_ble_eq_true rfl⟩ ⟨show cells + 1 ≤ 601024 by omega, show slots + 6 ≤ 7293034 by omega⟩ (Nat.le_of_ble_eq_true rfl) (v_setVariables shA_D shA_o e1 hcs (fun e0 => ?_) (fun e0 => ?_))
  · have t0 : t = 0 := by omega
    have T := tail (upc c1 120 (updZ (c1 120) 0 (w32 v))) (W_o g1) (W_oM hM1) (fun _ => by rw [upc_s, updZ_s])
    rw [t0] at T
    exact T
  · exact tail c1 g1 hM1 (fun t0 => absurd t0 (by omega))
set_option maxRecDepth 100000 in
set_option maxHeartbeats 4000000 in
theorem lc_1 {Φ : gwC} {hb : gwHp} {M b L B : Nat} {xs : Nat → Int32} {Z : gwE} {x : Option Nat} {i K : Int} {z : St} {c : W0} {cells slots : Nat} (hB : Φ.2.1 = B) (hi : 0 ≤ i ∧ i + 4 ≤ (L : Int)) (h2048 : L ≤ 2048) (hc : cells + 20 ≤ 601024) (hs : slots + 100 ≤ 7293034) (hK : K ≤ 1000000) (hL : LI K z) (hC : CI 0 z c) (hM : MI 105 z c) (k : LK Φ hb M b L xs Z B x i K cells slots) : G Φ mL_law (E9 Z b L xs B) x cells slots 364 (lvL M b i) [] (hp Φ hb M shA c) := by
  obtain ⟨e, v, t, z', h1, h2, h3, h4⟩ := pr_setProfit hL (p := SA xs (i + 1)) (i32_r _) (q := SA xs (i + 2)) (i32_r _)
  obtain ⟨c1, e1, f1, g1⟩ := h1 c hC
  have hM1 := W_c f1 hM
  have hcs : (e = 0 ∧ t = 0) ∨ (e = 3 ∧ t = 1) ∨ (e = 1 ∧ t = 2) := by simpa using h4
  have tail : ∀ c2, CI 0 z' c2 → MI 105 z c2 → (t = 0 → c2 120 0 = w32 v) → G Φ mL_law (E9 Z b L xs B) x (cells + 2) (slots + 12) 381 (lvL M b i) [vI t] (hp Φ hb M shA c2) := by
    intro c2 hC2 hM2 ho
    obtain ⟨c3, e3, f3, g3, t3⟩ := h2 c2 hM2
    refine gw_istore dL_law_381 rfl (by decide) ?_
    refine gw_aload_n dL_law_383 rfl rfl ?_
    refine gw_aload_n dL_law_384 rfl rfl ?_
    refine gw_iload dL_law_385 rfl rfl ?_
    refine gw_iconstZ dL_law_387 rfl ?_
    refine gw_iaddZ dL_law_388 rfl ?_
    refine gl_sldZ hB ⟨by omega, by omega⟩ h2048 dL_law_389 rfl ?_
    refine gw_aload_n dL_law_390 rfl rfl ?_
    refine gw_iload dL_law_391 rfl rfl ?_
    refine gw_iconstZ dL_law_393 rfl ?_
    refine gw_iaddZ dL_law_394 rfl ?_
    refine gl_sldZ hB ⟨by omega, by omega⟩ h2048 dL_law_395 rfl ?_
    refine gw_V2 okX9_setProfit dL_law_396 kw_1428 kw_1429 kw_1430 (hp_o shA_M.1) rfl ⟨Nat.le_of_ble_eq_true rfl, Nat.le_of_ble_eq_true rfl⟩ ⟨show cells + 2 + 0 ≤ 601024 by omega, show slots + 12 + 0 ≤ 7293034 by omega⟩ (Nat.le_of_ble_eq_true rfl) (w_X9_setProfit shA_M e3 ?_)
    refine gw_istore dL_law_399 rfl (by decide) ?_
    refine gw_aload_n dL_law_401 rfl rfl ?_
    refine gw_V0 okX9_thrown dL_law_402 kw_1405 kw_1406 kw_1407 (hp_o shA_M.1) rfl ⟨Nat.le_of_ble_eq_true rfl, Nat.le_of_ble_eq_true rfl⟩ ⟨show cells + 2 + 0 + 0 ≤ 601024 by omega, show slots + 12 + 0 + 0 ≤ 7293034 by omega⟩ (Nat.le_of_ble_eq_true rfl) (w_X9_thrown shA_M (thr9 t3) ?_)
    refine gw_iload dL_law_405 rfl rfl ?_
    refine gw_icmp_eq (tgt := 412) dL_law_407 rfl (by decide) (fun _ => ?_) (fun q => absurd rfl q)
    refine gw_iload dL_law_412 rfl rfl ?_
    refine gw_if_neZ (tgt := 429) dL_law_414 rfl (by decide) ⟨by omega, by omega⟩ (fun q => ?_) (fun q => ?_)
    · refine gw_goto (tgt := 2881) dL_law_429 (by decide) ?_
      exact k z' c3 _ _ _ h3 (W_m f3 hC2) g3 (show cells + 2 + 0 + 0 ≤ cells + 20 by omega) (show slots + 12 + 0 + 0 ≤ slots + 100 by omega) (lvA_c rfl (lvA_c rfl (lvA_c rfl (lvA_c rfl (lvA_c rfl lvA_n)))))
    · skip
      refine gw_aload_n dL_law_417 rfl rfl ?_
      refine gw_iconstZ dL_law_418 rfl ?_
      have hv : c3 120 0 = w32 v := by rw [f3 120 (Or.inr (by decide))]; exact ho q
      refine gs_laldE dL_law_419 rfl shA_o (by decide) (by decide) hv ?_
      refine gw_iload dL_law_420 rfl rfl ?_
      refine gw_i2lW dL_law_422 rfl ?_
      refine gw_lc_eq (tgt := 429) dL_law_423 rfl dL_law_424 rfl (by decide) (fun _ => ?_) (fun q => absurd rfl q)
      refine gw_goto (tgt := 2881) dL_law_429 (by decide) ?_
      exact k z' c3 _ _ _ h3 (W_m f3 hC2) g3 (show cells + 2 + 0 + 0 ≤ cells + 20 by omega) (show slots + 12 + 0 + 0 ≤ slots + 100 by omega) (lvA_c rfl (lvA_c rfl (lvA_c rfl (lvA_c rfl (lvA_c rfl lvA_n)))))
  refine gw_aload_n dL_law_364 rfl rfl ?_
  refine gw_aload_n dL_law_365 rfl rfl ?_
  refine gw_iload dL_law_366 rfl rfl ?_
  refine gw_iconstZ dL_law_368 rfl ?_
  refine gw_iaddZ dL_law_369 rfl ?_
  refine gl_sldZ hB ⟨by omega, by omega⟩ h2048 dL_law_370 rfl ?_
  refine gw_aload_n dL_law_371 rfl rfl ?_
  refine gw_iload dL_law_372 rfl rfl ?_
  refine gw_iconstZ dL_law_374 rfl ?_
  refine gw_iaddZ dL_law_375 rfl ?_
  refine gl_sldZ hB ⟨by omega, by omega⟩ h2048 dL_law_376 rfl ?_
  refine gw_aload_n dL_law_377 rfl rfl ?_
  refine gw_SH4 okL_setProfit dL_law_378 kw_942 kw_943 ⟨Nat.le_of_ble_eq_true rfl, Nat.le_of_ble_eq_true rfl⟩ ⟨show cells + 2 ≤ 601024 by omega, show slots + 12 ≤ 7293034 by omega⟩ (Nat.le_of_ble_eq_true rfl) (v_setProfit shA_D shA_o e1 hcs (fun e0 => ?_) (fun e0 => ?_))
  · have t0 : t = 0 := by omega
    have T := tail (upc c1 120 (updZ (c1 120) 0 (w32 v))) (W_o g1) (W_oM hM1) (fun _ => by rw [upc_s, updZ_s])
    rw [t0] at T
    exact T
  · exact tail c1 g1 hM1 (fun t0 => absurd t0 (by omega))
set_option maxRecDepth 100000 in
set_option maxHeartbeats 4000000 in
theorem lc_2 {Φ : gwC} {hb : gwHp} {M b L B : Nat} {xs : Nat → Int32} {Z : gwE} {x : Option Nat} {i K : Int} {z : St} {c : W0} {cells slots : Nat} (hB : Φ.2.1 = B) (hi : 0 ≤ i ∧ i + 4 ≤ (L : Int)) (h2048 : L ≤ 2048) (hc : cells + 20 ≤ 601024) (hs : slots + 100 ≤ 7293034) (hK : K ≤ 1000000) (hL : LI K z) (hC : CI 0 z c) (hM : MI 105 z c) (k : LK Φ hb M b L xs Z B x i K cells slots) : G Φ mL_law (E9 Z b L xs B) x cells slots 432 (lvL M b i) [] (hp Φ hb M shA c) := by
  obtain ⟨e, v, t, z', h1, h2, h3, h4⟩ := pr_addConstraint hL (p := SA xs (i + 1)) (i32_r _)
  obtain ⟨c1, e1, f1, g1⟩ := h1 c hC
  have hM1 := W_c f1 hM
  have hcs : (e = 0 ∧ t = 0) ∨ (e = 1 ∧ t = 1) ∨ (e = 2 ∧ t = 2) := by simpa using h4
  have tail : ∀ c2, CI 0 z' c2 → MI 105 z c2 → (t = 0 → c2 120 0 = w32 v) → G Φ mL_law (E9 Z b L xs B) x (cells + 2) (slots + 12) 443 (lvL M b i) [vI t] (hp Φ hb M shA c2) := by
    intro c2 hC2 hM2 ho
    obtain ⟨c3, e3, f3, g3, t3⟩ := h2 c2 hM2
    refine gw_istore dL_law_443 rfl (by decide) ?_
    refine gw_aload_n dL_law_445 rfl rfl ?_
    refine gw_aload_n dL_law_446 rfl rfl ?_
    refine gw_iload dL_law_447 rfl rfl ?_
    refine gw_iconstZ dL_law_449 rfl ?_
    refine gw_iaddZ dL_law_450 rfl ?_
    refine gl_sldZ hB ⟨by omega, by omega⟩ h2048 dL_law_451 rfl ?_
    refine gw_V1 okX9_addConstraint dL_law_452 kw_1440 kw_1441 kw_1442 (hp_o shA_M.1) rfl ⟨Nat.le_of_ble_eq_true rfl, Nat.le_of_ble_eq_true rfl⟩ ⟨show cells + 2 + 0 ≤ 601024 by omega, show slots + 12 + 0 ≤ 7293034 by omega⟩ (Nat.le_of_ble_eq_true rfl) (w_X9_addConstraint shA_M e3 ?_)
    refine gw_istore dL_law_455 rfl (by decide) ?_
    refine gw_aload_n dL_law_457 rfl rfl ?_
    refine gw_V0 okX9_thrown dL_law_458 kw_1405 kw_1406 kw_1407 (hp_o shA_M.1) rfl ⟨Nat.le_of_ble_eq_true rfl, Nat.le_of_ble_eq_true rfl⟩ ⟨show cells + 2 + 0 + 0 ≤ 601024 by omega, show slots + 12 + 0 + 0 ≤ 7293034 by omega⟩ (Nat.le_of_ble_eq_true rfl) (w_X9_thrown shA_M (thr9 t3) ?_)
    refine gw_iload dL_law_461 rfl rfl ?_
    refine gw_icmp_eq (tgt := 468) dL_law_463 rfl (by decide) (fun _ => ?_) (fun q => absurd rfl q)
    refine gw_iload dL_law_468 rfl rfl ?_
    refine gw_if_neZ (tgt := 485) dL_law_470 rfl (by decide) ⟨by omega, by omega⟩ (fun q => ?_) (fun q => ?_)
    · refine gw_goto (tgt := 2881) dL_law_485 (by decide) ?_
      exact k z' c3 _ _ _ h3 (W_m f3 hC2) g3 (show cells + 2 + 0 + 0 ≤ cells + 20 by omega) (show slots + 12 + 0 + 0 ≤ slots + 100 by omega) (lvA_c rfl (lvA_c rfl (lvA_c rfl (lvA_c rfl (lvA_c rfl lvA_n)))))
    · skip
      refine gw_aload_n dL_law_473 rfl rfl ?_
      refine gw_iconstZ dL_law_474 rfl ?_
      have hv : c3 120 0 = w32 v := by rw [f3 120 (Or.inr (by decide))]; exact ho q
      refine gs_laldE dL_law_475 rfl shA_o (by decide) (by decide) hv ?_
      refine gw_iload dL_law_476 rfl rfl ?_
      refine gw_i2lW dL_law_478 rfl ?_
      refine gw_lc_eq (tgt := 485) dL_law_479 rfl dL_law_480 rfl (by decide) (fun _ => ?_) (fun q => absurd rfl q)
      refine gw_goto (tgt := 2881) dL_law_485 (by decide) ?_
      exact k z' c3 _ _ _ h3 (W_m f3 hC2) g3 (show cells + 2 + 0 + 0 ≤ cells + 20 by omega) (show slots + 12 + 0 + 0 ≤ slots + 100 by omega) (lvA_c rfl (lvA_c rfl (lvA_c rfl (lvA_c rfl (lvA_c rfl lvA_n)))))
  refine gw_aload_n dL_law_432 rfl rfl ?_
  refine gw_aload_n dL_law_433 rfl rfl ?_
  refine gw_iload dL_law_434 rfl rfl ?_
  refine gw_iconstZ dL_law_436 rfl ?_
  refine gw_iaddZ dL_law_437 rfl ?_
  refine gl_sldZ hB ⟨by omega, by omega⟩ h2048 dL_law_438 rfl ?_
  refine gw_aload_n dL_law_439 rfl rfl ?_
  refine gw_SH3 okL_addConstraint dL_law_440 kw_963 kw_964 ⟨Nat.le_of_ble_eq_true rfl, Nat.le_of_ble_eq_true rfl⟩ ⟨show cells + 2 ≤ 601024 by omega, show slots + 12 ≤ 7293034 by omega⟩ (Nat.le_of_ble_eq_true rfl) (v_addConstraint shA_D shA_o e1 hcs (fun e0 => ?_) (fun e0 => ?_))
  · have t0 : t = 0 := by omega
    have T := tail (upc c1 120 (updZ (c1 120) 0 (w32 v))) (W_o g1) (W_oM hM1) (fun _ => by rw [upc_s, updZ_s])
    rw [t0] at T
    exact T
  · exact tail c1 g1 hM1 (fun t0 => absurd t0 (by omega))
set_option maxRecDepth 100000 in
set_option maxHeartbeats 4000000 in
theorem lc_3 {Φ : gwC} {hb : gwHp} {M b L B : Nat} {xs : Nat → Int32} {Z : gwE} {x : Option Nat} {i K : Int} {z : St} {c : W0} {cells slots : Nat} (hB : Φ.2.1 = B) (hi : 0 ≤ i ∧ i + 4 ≤ (L : Int)) (h2048 : L ≤ 2048) (hc : cells + 20 ≤ 601024) (hs : slots + 100 ≤ 7293034) (hK : K ≤ 1000000) (hL : LI K z) (hC : CI 0 z c) (hM : MI 105 z c) (k : LK Φ hb M b L xs Z B x i K cells slots) : G Φ mL_law (E9 Z b L xs B) x cells slots 488 (lvL M b i) [] (hp Φ hb M shA c) := by
  obtain ⟨e, v, t, z', h1, h2, h3, h4⟩ := pr_setCoefficient hL (p := SA xs (i + 1)) (i32_r _) (q := SA xs (i + 2)) (i32_r _) (x := SA xs (i + 3)) (i32_r _)
  obtain ⟨c1, e1, f1, g1⟩ := h1 c hC
  have hM1 := W_c f1 hM
  have hcs : (e = 0 ∧ t = 0) ∨ (e = 3 ∧ t = 1) ∨ (e = 1 ∧ t = 2) := by simpa using h4
  have tail : ∀ c2, CI 0 z' c2 → MI 105 z c2 → (t = 0 → c2 120 0 = w32 v) → G Φ mL_law (E9 Z b L xs B) x (cells + 3) (slots + 18) 511 (lvL M b i) [vI t] (hp Φ hb M shA c2) := by
    intro c2 hC2 hM2 ho
    obtain ⟨c3, e3, f3, g3, t3⟩ := h2 c2 hM2
    refine gw_istore dL_law_511 rfl (by decide) ?_
    refine gw_aload_n dL_law_513 rfl rfl ?_
    refine gw_aload_n dL_law_514 rfl rfl ?_
    refine gw_iload dL_law_515 rfl rfl ?_
    refine gw_iconstZ dL_law_517 rfl ?_
    refine gw_iaddZ dL_law_518 rfl ?_
    refine gl_sldZ hB ⟨by omega, by omega⟩ h2048 dL_law_519 rfl ?_
    refine gw_aload_n dL_law_520 rfl rfl ?_
    refine gw_iload dL_law_521 rfl rfl ?_
    refine gw_iconstZ dL_law_523 rfl ?_
    refine gw_iaddZ dL_law_524 rfl ?_
    refine gl_sldZ hB ⟨by omega, by omega⟩ h2048 dL_law_525 rfl ?_
    refine gw_aload_n dL_law_526 rfl rfl ?_
    refine gw_iload dL_law_527 rfl rfl ?_
    refine gw_iconstZ dL_law_529 rfl ?_
    refine gw_iaddZ dL_law_530 rfl ?_
    refine gl_sldZ hB ⟨by omega, by omega⟩ h2048 dL_law_531 rfl ?_
    refine gw_V3 okX9_setCoefficient dL_law_532 kw_1444 kw_1445 kw_1446 (hp_o shA_M.1) rfl ⟨Nat.le_of_ble_eq_true rfl, Nat.le_of_ble_eq_true rfl⟩ ⟨show cells + 3 + 0 ≤ 601024 by omega, show slots + 18 + 0 ≤ 7293034 by omega⟩ (Nat.le_of_ble_eq_true rfl) (w_X9_setCoefficient shA_M e3 ?_)
    refine gw_istore dL_law_535 rfl (by decide) ?_
    refine gw_aload_n dL_law_537 rfl rfl ?_
    refine gw_V0 okX9_thrown dL_law_538 kw_1405 kw_1406 kw_1407 (hp_o shA_M.1) rfl ⟨Nat.le_of_ble_eq_true rfl, Nat.le_of_ble_eq_true rfl⟩ ⟨show cells + 3 + 0 + 0 ≤ 601024 by omega, show slots + 18 + 0 + 0 ≤ 7293034 by omega⟩ (Nat.le_of_ble_eq_true rfl) (w_X9_thrown shA_M (thr9 t3) ?_)
    refine gw_iload dL_law_541 rfl rfl ?_
    refine gw_icmp_eq (tgt := 548) dL_law_543 rfl (by decide) (fun _ => ?_) (fun q => absurd rfl q)
    refine gw_iload dL_law_548 rfl rfl ?_
    refine gw_if_neZ (tgt := 565) dL_law_550 rfl (by decide) ⟨by omega, by omega⟩ (fun q => ?_) (fun q => ?_)
    · refine gw_goto (tgt := 2881) dL_law_565 (by decide) ?_
      exact k z' c3 _ _ _ h3 (W_m f3 hC2) g3 (show cells + 3 + 0 + 0 ≤ cells + 20 by omega) (show slots + 18 + 0 + 0 ≤ slots + 100 by omega) (lvA_c rfl (lvA_c rfl (lvA_c rfl (lvA_c rfl (lvA_c rfl lvA_n)))))
    · skip
      refine gw_aload_n dL_law_553 rfl rfl ?_
      refine gw_iconstZ dL_law_554 rfl ?_
      have hv : c3 120 0 = w32 v := by rw [f3 120 (Or.inr (by decide))]; exact ho q
      refine gs_laldE dL_law_555 rfl shA_o (by decide) (by decide) hv ?_
      refine gw_iload dL_law_556 rfl rfl ?_
      refine gw_i2lW dL_law_558 rfl ?_
      refine gw_lc_eq (tgt := 565) dL_law_559 rfl dL_law_560 rfl (by decide) (fun _ => ?_) (fun q => absurd rfl q)
      refine gw_goto (tgt := 2881) dL_law_565 (by decide) ?_
      exact k z' c3 _ _ _ h3 (W_m f3 hC2) g3 (show cells + 3 + 0 + 0 ≤ cells + 20 by omega) (show slots + 18 + 0 + 0 ≤ slots + 100 by omega) (lvA_c rfl (lvA_c rfl (lvA_c rfl (lvA_c rfl (lvA_c rfl lvA_n)))))
  refine gw_aload_n dL_law_488 rfl rfl ?_
  refine gw_aload_n dL_law_489 rfl rfl ?_
  refine gw_iload dL_law_490 rfl rfl ?_
  refine gw_iconstZ dL_law_492 rfl ?_
  refine gw_iaddZ dL_law_493 rfl ?_
  refine gl_sldZ hB ⟨by omega, by omega⟩ h2048 dL_law_494 rfl ?_
  refine gw_aload_n dL_law_495 rfl rfl ?_
  refine gw_iload dL_law_496 rfl rfl ?_
  refine gw_iconstZ dL_law_498 rfl ?_
  refine gw_iaddZ dL_law_499 rfl ?_
  refine gl_sldZ hB ⟨by omega, by omega⟩ h2048 dL_law_500 rfl ?_
  refine gw_aload_n dL_law_501 rfl rfl ?_
  refine gw_iload dL_law_502 rfl rfl ?_
  refine gw_iconstZ dL_law_504 rfl ?_
  refine gw_iaddZ dL_law_505 rfl ?_
  refine gl_sldZ hB ⟨by omega, by omega⟩ h2048 dL_law_506 rfl ?_
  refine gw_aload_n dL_law_507 rfl rfl ?_
  refine gw_SH5 okL_setCoefficient dL_law_508 kw_992 kw_993 ⟨Nat.le_of_ble_eq_true rfl, Nat.le_of_ble_eq_true rfl⟩ ⟨show cells + 3 ≤ 601024 by omega, show slots + 18 ≤ 7293034 by omega⟩ (Nat.le_of_ble_eq_true rfl) (v_setCoefficient shA_D shA_o e1 hcs (fun e0 => ?_) (fun e0 => ?_))
  · have t0 : t = 0 := by omega
    have T := tail (upc c1 120 (updZ (c1 120) 0 (w32 v))) (W_o g1) (W_oM hM1) (fun _ => by rw [upc_s, updZ_s])
    rw [t0] at T
    exact T
  · exact tail c1 g1 hM1 (fun t0 => absurd t0 (by omega))
set_option maxRecDepth 100000 in
set_option maxHeartbeats 4000000 in
theorem lc_4 {Φ : gwC} {hb : gwHp} {M b L B : Nat} {xs : Nat → Int32} {Z : gwE} {x : Option Nat} {i K : Int} {z : St} {c : W0} {cells slots : Nat} (hB : Φ.2.1 = B) (hi : 0 ≤ i ∧ i + 4 ≤ (L : Int)) (h2048 : L ≤ 2048) (hc : cells + 20 ≤ 601024) (hs : slots + 100 ≤ 7293034) (hK : K ≤ 1000000) (hL : LI K z) (hC : CI 0 z c) (hM : MI 105 z c) (k : LK Φ hb M b L xs Z B x i K cells slots) : G Φ mL_law (E9 Z b L xs B) x cells slots 568 (lvL M b i) [] (hp Φ hb M shA c) := by
  obtain ⟨e, v, t, z', h1, h2, h3, h4⟩ := pr_setBound hL (p := SA xs (i + 1)) (i32_r _) (q := SA xs (i + 2)) (i32_r _)
  obtain ⟨c1, e1, f1, g1⟩ := h1 c hC
  have hM1 := W_c f1 hM
  have hcs : (e = 0 ∧ t = 0) ∨ (e = 3 ∧ t = 1) ∨ (e = 1 ∧ t = 2) := by simpa using h4
  have tail : ∀ c2, CI 0 z' c2 → MI 105 z c2 → (t = 0 → c2 120 0 = w32 v) → G Φ mL_law (E9 Z b L xs B) x (cells + 2) (slots + 12) 585 (lvL M b i) [vI t] (hp Φ hb M shA c2) := by
    intro c2 hC2 hM2 ho
    obtain ⟨c3, e3, f3, g3, t3⟩ := h2 c2 hM2
    refine gw_istore dL_law_585 rfl (by decide) ?_
    refine gw_aload_n dL_law_587 rfl rfl ?_
    refine gw_aload_n dL_law_588 rfl rfl ?_
    refine gw_iload dL_law_589 rfl rfl ?_
    refine gw_iconstZ dL_law_591 rfl ?_
    refine gw_iaddZ dL_law_592 rfl ?_
    refine gl_sldZ hB ⟨by omega, by omega⟩ h2048 dL_law_593 rfl ?_
    refine gw_aload_n dL_law_594 rfl rfl ?_
    refine gw_iload dL_law_595 rfl rfl ?_
    refine gw_iconstZ dL_law_597 rfl ?_
    refine gw_iaddZ dL_law_598 rfl ?_
    refine gl_sldZ hB ⟨by omega, by omega⟩ h2048 dL_law_599 rfl ?_
    refine gw_V2 okX9_setBound dL_law_600 kw_1452 kw_1453 kw_1454 (hp_o shA_M.1) rfl ⟨Nat.le_of_ble_eq_true rfl, Nat.le_of_ble_eq_true rfl⟩ ⟨show cells + 2 + 0 ≤ 601024 by omega, show slots + 12 + 0 ≤ 7293034 by omega⟩ (Nat.le_of_ble_eq_true rfl) (w_X9_setBound shA_M e3 ?_)
    refine gw_istore dL_law_603 rfl (by decide) ?_
    refine gw_aload_n dL_law_605 rfl rfl ?_
    refine gw_V0 okX9_thrown dL_law_606 kw_1405 kw_1406 kw_1407 (hp_o shA_M.1) rfl ⟨Nat.le_of_ble_eq_true rfl, Nat.le_of_ble_eq_true rfl⟩ ⟨show cells + 2 + 0 + 0 ≤ 601024 by omega, show slots + 12 + 0 + 0 ≤ 7293034 by omega⟩ (Nat.le_of_ble_eq_true rfl) (w_X9_thrown shA_M (thr9 t3) ?_)
    refine gw_iload dL_law_609 rfl rfl ?_
    refine gw_icmp_eq (tgt := 616) dL_law_611 rfl (by decide) (fun _ => ?_) (fun q => absurd rfl q)
    refine gw_iload dL_law_616 rfl rfl ?_
    refine gw_if_neZ (tgt := 633) dL_law_618 rfl (by decide) ⟨by omega, by omega⟩ (fun q => ?_) (fun q => ?_)
    · refine gw_goto (tgt := 2881) dL_law_633 (by decide) ?_
      exact k z' c3 _ _ _ h3 (W_m f3 hC2) g3 (show cells + 2 + 0 + 0 ≤ cells + 20 by omega) (show slots + 12 + 0 + 0 ≤ slots + 100 by omega) (lvA_c rfl (lvA_c rfl (lvA_c rfl (lvA_c rfl (lvA_c rfl lvA_n)))))
    · skip
      refine gw_aload_n dL_law_621 rfl rfl ?_
      refine gw_iconstZ dL_law_622 rfl ?_
      have hv : c3 120 0 = w32 v := by rw [f3 120 (Or.inr (by decide))]; exact ho q
      refine gs_laldE dL_law_623 rfl shA_o (by decide) (by decide) hv ?_
      refine gw_iload dL_law_624 rfl rfl ?_
      refine gw_i2lW dL_law_626 rfl ?_
      refine gw_lc_eq (tgt := 633) dL_law_627 rfl dL_law_628 rfl (by decide) (fun _ => ?_) (fun q => absurd rfl q)
      refine gw_goto (tgt := 2881) dL_law_633 (by decide) ?_
      exact k z' c3 _ _ _ h3 (W_m f3 hC2) g3 (show cells + 2 + 0 + 0 ≤ cells + 20 by omega) (show slots + 12 + 0 + 0 ≤ slots + 100 by omega) (lvA_c rfl (lvA_c rfl (lvA_c rfl (lvA_c rfl (lvA_c rfl lvA_n)))))
  refine gw_aload_n dL_law_568 rfl rfl ?_
  refine gw_aload_n dL_law_569 rfl rfl ?_
  refine gw_iload dL_law_570 rfl rfl ?_
  refine gw_iconstZ dL_law_572 rfl ?_
  refine gw_iaddZ dL_law_573 rfl ?_
  refine gl_sldZ hB ⟨by omega, by omega⟩ h2048 dL_law_574 rfl ?_
  refine gw_aload_n dL_law_575 rfl rfl ?_
  refine gw_iload dL_law_576 rfl rfl ?_
  refine gw_iconstZ dL_law_578 rfl ?_
  refine gw_iaddZ dL_law_579 rfl ?_
  refine gl_sldZ hB ⟨by omega, by omega⟩ h2048 dL_law_580 rfl ?_
  refine gw_aload_n dL_law_581 rfl rfl ?_
  refine gw_SH4 okL_setBound dL_law_582 kw_1000 kw_1001 ⟨Nat.le_of_ble_eq_true rfl, Nat.le_of_ble_eq_true rfl⟩ ⟨show cells + 2 ≤ 601024 by omega, show slots + 12 ≤ 7293034 by omega⟩ (Nat.le_of_ble_eq_true rfl) (v_setBound shA_D shA_o e1 hcs (fun e0 => ?_) (fun e0 => ?_))
  · have t0 : t = 0 := by omega
    have T := tail (upc c1 120 (updZ (c1 120) 0 (w32 v))) (W_o g1) (W_oM hM1) (fun _ => by rw [upc_s, updZ_s])
    rw [t0] at T
    exact T
  · exact tail c1 g1 hM1 (fun t0 => absurd t0 (by omega))
set_option maxRecDepth 100000 in
set_option maxHeartbeats 4000000 in
theorem lc_5 {Φ : gwC} {hb : gwHp} {M b L B : Nat} {xs : Nat → Int32} {Z : gwE} {x : Option Nat} {i K : Int} {z : St} {c : W0} {cells slots : Nat} (hB : Φ.2.1 = B) (hi : 0 ≤ i ∧ i + 4 ≤ (L : Int)) (h2048 : L ≤ 2048) (hc : cells + 20 ≤ 601024) (hs : slots + 100 ≤ 7293034) (hK : K ≤ 1000000) (hL : LI K z) (hC : CI 0 z c) (hM : MI 105 z c) (k : LK Φ hb M b L xs Z B x i K cells slots) : G Φ mL_law (E9 Z b L xs B) x cells slots 636 (lvL M b i) [] (hp Φ hb M shA c) := by
  obtain ⟨e, v, t, z', h1, h2, h3, h4⟩ := pr_dropConstraint hL (p := SA xs (i + 1)) (i32_r _)
  obtain ⟨c1, e1, f1, g1⟩ := h1 c hC
  have hM1 := W_c f1 hM
  have hcs : (e = 0 ∧ t = 0) ∨ (e = 3 ∧ t = 1) := by simpa using h4
  have tail : ∀ c2, CI 0 z' c2 → MI 105 z c2 → (t = 0 → c2 120 0 = w32 v) → G Φ mL_law (E9 Z b L xs B) x (cells + 1) (slots + 6) 647 (lvL M b i) [vI t] (hp Φ hb M shA c2) := by
    intro c2 hC2 hM2 ho
    obtain ⟨c3, e3, f3, g3, t3⟩ := h2 c2 hM2
    refine gw_istore dL_law_647 rfl (by decide) ?_
    refine gw_aload_n dL_law_649 rfl rfl ?_
    refine gw_aload_n dL_law_650 rfl rfl ?_
    refine gw_iload dL_law_651 rfl rfl ?_
    refine gw_iconstZ dL_law_653 rfl ?_
    refine gw_iaddZ dL_law_654 rfl ?_
    refine gl_sldZ hB ⟨by omega, by omega⟩ h2048 dL_law_655 rfl ?_
    refine gw_V1 okX9_dropConstraint dL_law_656 kw_1456 kw_1457 kw_1458 (hp_o shA_M.1) rfl ⟨Nat.le_of_ble_eq_true rfl, Nat.le_of_ble_eq_true rfl⟩ ⟨show cells + 1 + 0 ≤ 601024 by omega, show slots + 6 + 0 ≤ 7293034 by omega⟩ (Nat.le_of_ble_eq_true rfl) (w_X9_dropConstraint shA_M e3 ?_)
    refine gw_istore dL_law_659 rfl (by decide) ?_
    refine gw_aload_n dL_law_661 rfl rfl ?_
    refine gw_V0 okX9_thrown dL_law_662 kw_1405 kw_1406 kw_1407 (hp_o shA_M.1) rfl ⟨Nat.le_of_ble_eq_true rfl, Nat.le_of_ble_eq_true rfl⟩ ⟨show cells + 1 + 0 + 0 ≤ 601024 by omega, show slots + 6 + 0 + 0 ≤ 7293034 by omega⟩ (Nat.le_of_ble_eq_true rfl) (w_X9_thrown shA_M (thr9 t3) ?_)
    refine gw_iload dL_law_665 rfl rfl ?_
    refine gw_icmp_eq (tgt := 672) dL_law_667 rfl (by decide) (fun _ => ?_) (fun q => absurd rfl q)
    refine gw_iload dL_law_672 rfl rfl ?_
    refine gw_if_neZ (tgt := 689) dL_law_674 rfl (by decide) ⟨by omega, by omega⟩ (fun q => ?_) (fun q => ?_)
    · refine gw_goto (tgt := 2881) dL_law_689 (by decide) ?_
      exact k z' c3 _ _ _ h3 (W_m f3 hC2) g3 (show cells + 1 + 0 + 0 ≤ cells + 20 by omega) (show slots + 6 + 0 + 0 ≤ slots + 100 by omega) (lvA_c rfl (lvA_c rfl (lvA_c rfl (lvA_c rfl (lvA_c rfl lvA_n)))))
    · skip
      refine gw_aload_n dL_law_677 rfl rfl ?_
      refine gw_iconstZ dL_law_678 rfl ?_
      have hv : c3 120 0 = w32 v := by rw [f3 120 (Or.inr (by decide))]; exact ho q
      refine gs_laldE dL_law_679 rfl shA_o (by decide) (by decide) hv ?_
      refine gw_iload dL_law_680 rfl rfl ?_
      refine gw_i2lW dL_law_682 rfl ?_
      refine gw_lc_eq (tgt := 689) dL_law_683 rfl dL_law_684 rfl (by decide) (fun _ => ?_) (fun q => absurd rfl q)
      refine gw_goto (tgt := 2881) dL_law_689 (by decide) ?_
      exact k z' c3 _ _ _ h3 (W_m f3 hC2) g3 (show cells + 1 + 0 + 0 ≤ cells + 20 by omega) (show slots + 6 + 0 + 0 ≤ slots + 100 by omega) (lvA_c rfl (lvA_c rfl (lvA_c rfl (lvA_c rfl (lvA_c rfl lvA_n)))))
  refine gw_aload_n dL_law_636 rfl rfl ?_
  refine gw_aload_n dL_law_637 rfl rfl ?_
  refine gw_iload dL_law_638 rfl rfl ?_
  refine gw_iconstZ dL_law_640 rfl ?_
  refine gw_iaddZ dL_law_641 rfl ?_
  refine gl_sldZ hB ⟨by omega, by omega⟩ h2048 dL_law_642 rfl ?_
  refine gw_aload_n dL_law_643 rfl rfl ?_
  refine gw_SH3 okL_dropConstraint dL_law_644 kw_1008 kw_1009 ⟨Nat.le_of_ble_eq_true rfl, Nat.le_of_ble_eq_true rfl⟩ ⟨show cells + 1 ≤ 601024 by omega, show slots + 6 ≤ 7293034 by omega⟩ (Nat.le_of_ble_eq_true rfl) (v_dropConstraint shA_D shA_o e1 hcs (fun e0 => ?_) (fun e0 => ?_))
  · have t0 : t = 0 := by omega
    have T := tail (upc c1 120 (updZ (c1 120) 0 (w32 v))) (W_o g1) (W_oM hM1) (fun _ => by rw [upc_s, updZ_s])
    rw [t0] at T
    exact T
  · exact tail c1 g1 hM1 (fun t0 => absurd t0 (by omega))
set_option maxRecDepth 100000 in
set_option maxHeartbeats 4000000 in
theorem lc_6 {Φ : gwC} {hb : gwHp} {M b L B : Nat} {xs : Nat → Int32} {Z : gwE} {x : Option Nat} {i K : Int} {z : St} {c : W0} {cells slots : Nat} (hB : Φ.2.1 = B) (hi : 0 ≤ i ∧ i + 4 ≤ (L : Int)) (h2048 : L ≤ 2048) (hc : cells + 20 ≤ 601024) (hs : slots + 100 ≤ 7293034) (hK : K ≤ 1000000) (hL : LI K z) (hC : CI 0 z c) (hM : MI 105 z c) (k : LK Φ hb M b L xs Z B x i K cells slots) : G Φ mL_law (E9 Z b L xs B) x cells slots 692 (lvL M b i) [] (hp Φ hb M shA c) := by
  obtain ⟨v, z', h1, h2, h3⟩ := pr_begin hL
  obtain ⟨c1, e1, f1, g1⟩ := h1 c hC
  obtain ⟨c2, e2, f2, g2, -⟩ := h2 c1 (W_c f1 hM)
  refine gw_aload_n dL_law_692 rfl rfl ?_
  refine gw_V0 okX8_begin dL_law_693 kw_362 kw_363 kw_364 (hp_o shA_D.1) rfl ⟨Nat.le_of_ble_eq_true rfl, Nat.le_of_ble_eq_true rfl⟩ ⟨show cells + 0 ≤ 601024 by omega, show slots + 0 ≤ 7293034 by omega⟩ (Nat.le_of_ble_eq_true rfl) (w_X8_begin shA_D e1 ?_)
  refine gw_aload_n dL_law_696 rfl rfl ?_
  refine gw_V0 okX9_begin dL_law_697 kw_1460 kw_1461 kw_1462 (hp_o shA_M.1) rfl ⟨Nat.le_of_ble_eq_true rfl, Nat.le_of_ble_eq_true rfl⟩ ⟨show cells + 0 + 0 ≤ 601024 by omega, show slots + 0 + 0 ≤ 7293034 by omega⟩ (Nat.le_of_ble_eq_true rfl) (w_X9_begin shA_M e2 ?_)
  refine gw_icmp_eq (tgt := 2881) dL_law_700 rfl (by decide) (fun _ => ?_) (fun q => absurd rfl q)
  exact k z' c2 _ _ _ h3 (W_m f2 g1) g2 (show cells + 0 + 0 ≤ cells + 20 by omega) (show slots + 0 + 0 ≤ slots + 100 by omega) (lvA_c rfl (lvA_c rfl (lvA_c rfl (lvA_c rfl (lvA_c rfl lvA_n)))))
set_option maxRecDepth 100000 in
set_option maxHeartbeats 4000000 in
theorem lc_7 {Φ : gwC} {hb : gwHp} {M b L B : Nat} {xs : Nat → Int32} {Z : gwE} {x : Option Nat} {i K : Int} {z : St} {c : W0} {cells slots : Nat} (hB : Φ.2.1 = B) (hi : 0 ≤ i ∧ i + 4 ≤ (L : Int)) (h2048 : L ≤ 2048) (hc : cells + 20 ≤ 601024) (hs : slots + 100 ≤ 7293034) (hK : K ≤ 1000000) (hL : LI K z) (hC : CI 0 z c) (hM : MI 105 z c) (k : LK Φ hb M b L xs Z B x i K cells slots) : G Φ mL_law (E9 Z b L xs B) x cells slots 705 (lvL M b i) [] (hp Φ hb M shA c) := by
  obtain ⟨e, v, t, z', h1, h2, h3, h4⟩ := pr_pivot hL (p := SA xs (i + 1)) (i32_r _) (q := SA xs (i + 2)) (i32_r _)
  obtain ⟨c1, e1, f1, g1⟩ := h1 c hC
  have hM1 := W_c f1 hM
  have hcs : (e = 0 ∧ t = 0) ∨ (e = 3 ∧ t = 1) ∨ (e = 2 ∧ t = 2) := by simpa using h4
  have tail : ∀ c2, CI 0 z' c2 → MI 105 z c2 → (t = 0 → c2 120 0 = w32 v) → G Φ mL_law (E9 Z b L xs B) x (cells + 3) (slots + 18) 722 (lvL M b i) [vI t] (hp Φ hb M shA c2) := by
    intro c2 hC2 hM2 ho
    obtain ⟨c3, e3, f3, g3, t3⟩ := h2 c2 hM2
    refine gw_istore dL_law_722 rfl (by decide) ?_
    refine gw_aload_n dL_law_724 rfl rfl ?_
    refine gw_aload_n dL_law_725 rfl rfl ?_
    refine gw_iload dL_law_726 rfl rfl ?_
    refine gw_iconstZ dL_law_728 rfl ?_
    refine gw_iaddZ dL_law_729 rfl ?_
    refine gl_sldZ hB ⟨by omega, by omega⟩ h2048 dL_law_730 rfl ?_
    refine gw_aload_n dL_law_731 rfl rfl ?_
    refine gw_iload dL_law_732 rfl rfl ?_
    refine gw_iconstZ dL_law_734 rfl ?_
    refine gw_iaddZ dL_law_735 rfl ?_
    refine gl_sldZ hB ⟨by omega, by omega⟩ h2048 dL_law_736 rfl ?_
    refine gw_V2 okX9_pivot dL_law_737 kw_1464 kw_1465 kw_1466 (hp_o shA_M.1) rfl ⟨Nat.le_of_ble_eq_true rfl, Nat.le_of_ble_eq_true rfl⟩ ⟨show cells + 3 + 0 ≤ 601024 by omega, show slots + 18 + 0 ≤ 7293034 by omega⟩ (Nat.le_of_ble_eq_true rfl) (w_X9_pivot shA_M e3 ?_)
    refine gw_istore dL_law_740 rfl (by decide) ?_
    refine gw_aload_n dL_law_742 rfl rfl ?_
    refine gw_V0 okX9_thrown dL_law_743 kw_1405 kw_1406 kw_1407 (hp_o shA_M.1) rfl ⟨Nat.le_of_ble_eq_true rfl, Nat.le_of_ble_eq_true rfl⟩ ⟨show cells + 3 + 0 + 0 ≤ 601024 by omega, show slots + 18 + 0 + 0 ≤ 7293034 by omega⟩ (Nat.le_of_ble_eq_true rfl) (w_X9_thrown shA_M (thr9 t3) ?_)
    refine gw_iload dL_law_746 rfl rfl ?_
    refine gw_icmp_eq (tgt := 753) dL_law_748 rfl (by decide) (fun _ => ?_) (fun q => absurd rfl q)
    refine gw_iload dL_law_753 rfl rfl ?_
    refine gw_if_neZ (tgt := 770) dL_law_755 rfl (by decide) ⟨by omega, by omega⟩ (fun q => ?_) (fun q => ?_)
    · refine gw_goto (tgt := 2881) dL_law_770 (by decide) ?_
      exact k z' c3 _ _ _ h3 (W_m f3 hC2) g3 (show cells + 3 + 0 + 0 ≤ cells + 20 by omega) (show slots + 18 + 0 + 0 ≤ slots + 100 by omega) (lvA_c rfl (lvA_c rfl (lvA_c rfl (lvA_c rfl (lvA_c rfl lvA_n)))))
    · skip
      refine gw_aload_n dL_law_758 rfl rfl ?_
      refine gw_iconstZ dL_law_759 rfl ?_
      have hv : c3 120 0 = w32 v := by rw [f3 120 (Or.inr (by decide))]; exact ho q
      refine gs_laldE dL_law_760 rfl shA_o (by decide) (by decide) hv ?_
      refine gw_iload dL_law_761 rfl rfl ?_
      refine gw_i2lW dL_law_763 rfl ?_
      refine gw_lc_eq (tgt := 770) dL_law_764 rfl dL_law_765 rfl (by decide) (fun _ => ?_) (fun q => absurd rfl q)
      refine gw_goto (tgt := 2881) dL_law_770 (by decide) ?_
      exact k z' c3 _ _ _ h3 (W_m f3 hC2) g3 (show cells + 3 + 0 + 0 ≤ cells + 20 by omega) (show slots + 18 + 0 + 0 ≤ slots + 100 by omega) (lvA_c rfl (lvA_c rfl (lvA_c rfl (lvA_c rfl (lvA_c rfl lvA_n)))))
  refine gw_aload_n dL_law_705 rfl rfl ?_
  refine gw_aload_n dL_law_706 rfl rfl ?_
  refine gw_iload dL_law_707 rfl rfl ?_
  refine gw_iconstZ dL_law_709 rfl ?_
  refine gw_iaddZ dL_law_710 rfl ?_
  refine gl_sldZ hB ⟨by omega, by omega⟩ h2048 dL_law_711 rfl ?_
  refine gw_aload_n dL_law_712 rfl rfl ?_
  refine gw_iload dL_law_713 rfl rfl ?_
  refine gw_iconstZ dL_law_715 rfl ?_
  refine gw_iaddZ dL_law_716 rfl ?_
  refine gl_sldZ hB ⟨by omega, by omega⟩ h2048 dL_law_717 rfl ?_
  refine gw_aload_n dL_law_718 rfl rfl ?_
  refine gw_SH4 okL_pivot dL_law_719 kw_1019 kw_1020 ⟨Nat.le_of_ble_eq_true rfl, Nat.le_of_ble_eq_true rfl⟩ ⟨show cells + 3 ≤ 601024 by omega, show slots + 18 ≤ 7293034 by omega⟩ (Nat.le_of_ble_eq_true rfl) (v_pivot shA_D shA_o e1 hcs (fun e0 => ?_) (fun e0 => ?_))
  · have t0 : t = 0 := by omega
    have T := tail (upc c1 120 (updZ (c1 120) 0 (w32 v))) (W_o g1) (W_oM hM1) (fun _ => by rw [upc_s, updZ_s])
    rw [t0] at T
    exact T
  · exact tail c1 g1 hM1 (fun t0 => absurd t0 (by omega))
set_option maxRecDepth 100000 in
set_option maxHeartbeats 4000000 in
theorem lc_8 {Φ : gwC} {hb : gwHp} {M b L B : Nat} {xs : Nat → Int32} {Z : gwE} {x : Option Nat} {i K : Int} {z : St} {c : W0} {cells slots : Nat} (hB : Φ.2.1 = B) (hi : 0 ≤ i ∧ i + 4 ≤ (L : Int)) (h2048 : L ≤ 2048) (hc : cells + 20 ≤ 601024) (hs : slots + 100 ≤ 7293034) (hK : K ≤ 1000000) (hL : LI K z) (hC : CI 0 z c) (hM : MI 105 z c) (k : LK Φ hb M b L xs Z B x i K cells slots) : G Φ mL_law (E9 Z b L xs B) x cells slots 773 (lvL M b i) [] (hp Φ hb M shA c) := by
  obtain ⟨e, v, t, z', h1, h2, h3, h4⟩ := pr_step hL
  obtain ⟨c1, e1, f1, g1⟩ := h1 c hC
  have hM1 := W_c f1 hM
  have hcs : (e = 0 ∧ t = 0) ∨ (e = 2 ∧ t = 1) := by simpa using h4
  have tail : ∀ c2, CI 0 z' c2 → MI 105 z c2 → (t = 0 → c2 120 0 = w32 v) → G Φ mL_law (E9 Z b L xs B) x (cells + 1) (slots + 6) 778 (lvL M b i) [vI t] (hp Φ hb M shA c2) := by
    intro c2 hC2 hM2 ho
    obtain ⟨c3, e3, f3, g3, t3⟩ := h2 c2 hM2
    refine gw_istore dL_law_778 rfl (by decide) ?_
    refine gw_aload_n dL_law_780 rfl rfl ?_
    refine gw_V0 okX9_step dL_law_781 kw_1547 kw_1548 kw_1549 (hp_o shA_M.1) rfl ⟨Nat.le_of_ble_eq_true rfl, Nat.le_of_ble_eq_true rfl⟩ ⟨show cells + 1 + 0 ≤ 601024 by omega, show slots + 6 + 0 ≤ 7293034 by omega⟩ (Nat.le_of_ble_eq_true rfl) (w_X9_step shA_M e3 ?_)
    refine gw_istore dL_law_784 rfl (by decide) ?_
    refine gw_aload_n dL_law_786 rfl rfl ?_
    refine gw_V0 okX9_thrown dL_law_787 kw_1405 kw_1406 kw_1407 (hp_o shA_M.1) rfl ⟨Nat.le_of_ble_eq_true rfl, Nat.le_of_ble_eq_true rfl⟩ ⟨show cells + 1 + 0 + 0 ≤ 601024 by omega, show slots + 6 + 0 + 0 ≤ 7293034 by omega⟩ (Nat.le_of_ble_eq_true rfl) (w_X9_thrown shA_M (thr9 t3) ?_)
    refine gw_iload dL_law_790 rfl rfl ?_
    refine gw_icmp_eq (tgt := 797) dL_law_792 rfl (by decide) (fun _ => ?_) (fun q => absurd rfl q)
    refine gw_iload dL_law_797 rfl rfl ?_
    refine gw_if_neZ (tgt := 814) dL_law_799 rfl (by decide) ⟨by omega, by omega⟩ (fun q => ?_) (fun q => ?_)
    · refine gw_goto (tgt := 2881) dL_law_814 (by decide) ?_
      exact k z' c3 _ _ _ h3 (W_m f3 hC2) g3 (show cells + 1 + 0 + 0 ≤ cells + 20 by omega) (show slots + 6 + 0 + 0 ≤ slots + 100 by omega) (lvA_c rfl (lvA_c rfl (lvA_c rfl (lvA_c rfl (lvA_c rfl lvA_n)))))
    · skip
      refine gw_aload_n dL_law_802 rfl rfl ?_
      refine gw_iconstZ dL_law_803 rfl ?_
      have hv : c3 120 0 = w32 v := by rw [f3 120 (Or.inr (by decide))]; exact ho q
      refine gs_laldE dL_law_804 rfl shA_o (by decide) (by decide) hv ?_
      refine gw_iload dL_law_805 rfl rfl ?_
      refine gw_i2lW dL_law_807 rfl ?_
      refine gw_lc_eq (tgt := 814) dL_law_808 rfl dL_law_809 rfl (by decide) (fun _ => ?_) (fun q => absurd rfl q)
      refine gw_goto (tgt := 2881) dL_law_814 (by decide) ?_
      exact k z' c3 _ _ _ h3 (W_m f3 hC2) g3 (show cells + 1 + 0 + 0 ≤ cells + 20 by omega) (show slots + 6 + 0 + 0 ≤ slots + 100 by omega) (lvA_c rfl (lvA_c rfl (lvA_c rfl (lvA_c rfl (lvA_c rfl lvA_n)))))
  refine gw_aload_n dL_law_773 rfl rfl ?_
  refine gw_aload_n dL_law_774 rfl rfl ?_
  refine gw_SH2 okL_step dL_law_775 kw_1042 kw_1043 ⟨Nat.le_of_ble_eq_true rfl, Nat.le_of_ble_eq_true rfl⟩ ⟨show cells + 1 ≤ 601024 by omega, show slots + 6 ≤ 7293034 by omega⟩ (Nat.le_of_ble_eq_true rfl) (v_step shA_D shA_o e1 hcs (fun e0 => ?_) (fun e0 => ?_))
  · have t0 : t = 0 := by omega
    have T := tail (upc c1 120 (updZ (c1 120) 0 (w32 v))) (W_o g1) (W_oM hM1) (fun _ => by rw [upc_s, updZ_s])
    rw [t0] at T
    exact T
  · exact tail c1 g1 hM1 (fun t0 => absurd t0 (by omega))
set_option maxRecDepth 100000 in
set_option maxHeartbeats 4000000 in
theorem lc_9 {Φ : gwC} {hb : gwHp} {M b L B : Nat} {xs : Nat → Int32} {Z : gwE} {x : Option Nat} {i K : Int} {z : St} {c : W0} {cells slots : Nat} (hB : Φ.2.1 = B) (hi : 0 ≤ i ∧ i + 4 ≤ (L : Int)) (h2048 : L ≤ 2048) (hc : cells + 20 ≤ 601024) (hs : slots + 100 ≤ 7293034) (hK : K ≤ 1000000) (hL : LI K z) (hC : CI 0 z c) (hM : MI 105 z c) (k : LK Φ hb M b L xs Z B x i K cells slots) : G Φ mL_law (E9 Z b L xs B) x cells slots 817 (lvL M b i) [] (hp Φ hb M shA c) := by
  obtain ⟨v, z', h1, h2, h3⟩ := pr_solve hL
  obtain ⟨c1, e1, f1, g1⟩ := h1 c hC
  obtain ⟨c2, e2, f2, g2, -⟩ := h2 c1 (W_c f1 hM)
  refine gw_aload_n dL_law_817 rfl rfl ?_
  refine gw_V0 okX8_solve dL_law_818 kw_430 kw_431 kw_432 (hp_o shA_D.1) rfl ⟨Nat.le_of_ble_eq_true rfl, Nat.le_of_ble_eq_true rfl⟩ ⟨show cells + 0 ≤ 601024 by omega, show slots + 0 ≤ 7293034 by omega⟩ (Nat.le_of_ble_eq_true rfl) (w_X8_solve shA_D e1 ?_)
  refine gw_aload_n dL_law_821 rfl rfl ?_
  refine gw_V0 okX9_solve dL_law_822 kw_1587 kw_1588 kw_1589 (hp_o shA_M.1) rfl ⟨Nat.le_of_ble_eq_true rfl, Nat.le_of_ble_eq_true rfl⟩ ⟨show cells + 0 + 0 ≤ 601024 by omega, show slots + 0 + 0 ≤ 7293034 by omega⟩ (Nat.le_of_ble_eq_true rfl) (w_X9_solve shA_M e2 ?_)
  refine gw_icmp_eq (tgt := 2881) dL_law_825 rfl (by decide) (fun _ => ?_) (fun q => absurd rfl q)
  exact k z' c2 _ _ _ h3 (W_m f2 g1) g2 (show cells + 0 + 0 ≤ cells + 20 by omega) (show slots + 0 + 0 ≤ slots + 100 by omega) (lvA_c rfl (lvA_c rfl (lvA_c rfl (lvA_c rfl (lvA_c rfl lvA_n)))))
set_option maxRecDepth 100000 in
set_option maxHeartbeats 4000000 in
theorem lc_10 {Φ : gwC} {hb : gwHp} {M b L B : Nat} {xs : Nat → Int32} {Z : gwE} {x : Option Nat} {i K : Int} {z : St} {c : W0} {cells slots : Nat} (hB : Φ.2.1 = B) (hi : 0 ≤ i ∧ i + 4 ≤ (L : Int)) (h2048 : L ≤ 2048) (hc : cells + 20 ≤ 601024) (hs : slots + 100 ≤ 7293034) (hK : K ≤ 1000000) (hL : LI K z) (hC : CI 0 z c) (hM : MI 105 z c) (k : LK Φ hb M b L xs Z B x i K cells slots) : G Φ mL_law (E9 Z b L xs B) x cells slots 830 (lvL M b i) [] (hp Φ hb M shA c) := by
  obtain ⟨e, v, t, z', h1, h2, h3, h4⟩ := pr_setRule hL (p := SA xs (i + 1)) (i32_r _)
  obtain ⟨c1, e1, f1, g1⟩ := h1 c hC
  have hM1 := W_c f1 hM
  have hcs : (e = 0 ∧ t = 0) ∨ (e = 1 ∧ t = 1) := by simpa using h4
  have tail : ∀ c2, CI 0 z' c2 → MI 105 z c2 → (t = 0 → c2 120 0 = w32 v) → G Φ mL_law (E9 Z b L xs B) x (cells + 1) (slots + 6) 841 (lvL M b i) [vI t] (hp Φ hb M shA c2) := by
    intro c2 hC2 hM2 ho
    obtain ⟨c3, e3, f3, g3, t3⟩ := h2 c2 hM2
    refine gw_istore dL_law_841 rfl (by decide) ?_
    refine gw_aload_n dL_law_843 rfl rfl ?_
    refine gw_aload_n dL_law_844 rfl rfl ?_
    refine gw_iload dL_law_845 rfl rfl ?_
    refine gw_iconstZ dL_law_847 rfl ?_
    refine gw_iaddZ dL_law_848 rfl ?_
    refine gl_sldZ hB ⟨by omega, by omega⟩ h2048 dL_law_849 rfl ?_
    refine gw_V1 okX9_setRule dL_law_850 kw_1595 kw_1596 kw_1597 (hp_o shA_M.1) rfl ⟨Nat.le_of_ble_eq_true rfl, Nat.le_of_ble_eq_true rfl⟩ ⟨show cells + 1 + 0 ≤ 601024 by omega, show slots + 6 + 0 ≤ 7293034 by omega⟩ (Nat.le_of_ble_eq_true rfl) (w_X9_setRule shA_M e3 ?_)
    refine gw_istore dL_law_853 rfl (by decide) ?_
    refine gw_aload_n dL_law_855 rfl rfl ?_
    refine gw_V0 okX9_thrown dL_law_856 kw_1405 kw_1406 kw_1407 (hp_o shA_M.1) rfl ⟨Nat.le_of_ble_eq_true rfl, Nat.le_of_ble_eq_true rfl⟩ ⟨show cells + 1 + 0 + 0 ≤ 601024 by omega, show slots + 6 + 0 + 0 ≤ 7293034 by omega⟩ (Nat.le_of_ble_eq_true rfl) (w_X9_thrown shA_M (thr9 t3) ?_)
    refine gw_iload dL_law_859 rfl rfl ?_
    refine gw_icmp_eq (tgt := 866) dL_law_861 rfl (by decide) (fun _ => ?_) (fun q => absurd rfl q)
    refine gw_iload dL_law_866 rfl rfl ?_
    refine gw_if_neZ (tgt := 883) dL_law_868 rfl (by decide) ⟨by omega, by omega⟩ (fun q => ?_) (fun q => ?_)
    · refine gw_goto (tgt := 2881) dL_law_883 (by decide) ?_
      exact k z' c3 _ _ _ h3 (W_m f3 hC2) g3 (show cells + 1 + 0 + 0 ≤ cells + 20 by omega) (show slots + 6 + 0 + 0 ≤ slots + 100 by omega) (lvA_c rfl (lvA_c rfl (lvA_c rfl (lvA_c rfl (lvA_c rfl lvA_n)))))
    · skip
      refine gw_aload_n dL_law_871 rfl rfl ?_
      refine gw_iconstZ dL_law_872 rfl ?_
      have hv : c3 120 0 = w32 v := by rw [f3 120 (Or.inr (by decide))]; exact ho q
      refine gs_laldE dL_law_873 rfl shA_o (by decide) (by decide) hv ?_
      refine gw_iload dL_law_874 rfl rfl ?_
      refine gw_i2lW dL_law_876 rfl ?_
      refine gw_lc_eq (tgt := 883) dL_law_877 rfl dL_law_878 rfl (by decide) (fun _ => ?_) (fun q => absurd rfl q)
      refine gw_goto (tgt := 2881) dL_law_883 (by decide) ?_
      exact k z' c3 _ _ _ h3 (W_m f3 hC2) g3 (show cells + 1 + 0 + 0 ≤ cells + 20 by omega) (show slots + 6 + 0 + 0 ≤ slots + 100 by omega) (lvA_c rfl (lvA_c rfl (lvA_c rfl (lvA_c rfl (lvA_c rfl lvA_n)))))
  refine gw_aload_n dL_law_830 rfl rfl ?_
  refine gw_aload_n dL_law_831 rfl rfl ?_
  refine gw_iload dL_law_832 rfl rfl ?_
  refine gw_iconstZ dL_law_834 rfl ?_
  refine gw_iaddZ dL_law_835 rfl ?_
  refine gl_sldZ hB ⟨by omega, by omega⟩ h2048 dL_law_836 rfl ?_
  refine gw_aload_n dL_law_837 rfl rfl ?_
  refine gw_SH3 okL_setRule dL_law_838 kw_1055 kw_1056 ⟨Nat.le_of_ble_eq_true rfl, Nat.le_of_ble_eq_true rfl⟩ ⟨show cells + 1 ≤ 601024 by omega, show slots + 6 ≤ 7293034 by omega⟩ (Nat.le_of_ble_eq_true rfl) (v_setRule shA_D shA_o e1 hcs (fun e0 => ?_) (fun e0 => ?_))
  · have t0 : t = 0 := by omega
    have T := tail (upc c1 120 (updZ (c1 120) 0 (w32 v))) (W_o g1) (W_oM hM1) (fun _ => by rw [upc_s, updZ_s])
    rw [t0] at T
    exact T
  · exact tail c1 g1 hM1 (fun t0 => absurd t0 (by omega))
set_option maxRecDepth 100000 in
set_option maxHeartbeats 4000000 in
theorem lc_11 {Φ : gwC} {hb : gwHp} {M b L B : Nat} {xs : Nat → Int32} {Z : gwE} {x : Option Nat} {i K : Int} {z : St} {c : W0} {cells slots : Nat} (hB : Φ.2.1 = B) (hi : 0 ≤ i ∧ i + 4 ≤ (L : Int)) (h2048 : L ≤ 2048) (hc : cells + 20 ≤ 601024) (hs : slots + 100 ≤ 7293034) (hK : K ≤ 1000000) (hL : LI K z) (hC : CI 0 z c) (hM : MI 105 z c) (k : LK Φ hb M b L xs Z B x i K cells slots) : G Φ mL_law (E9 Z b L xs B) x cells slots 886 (lvL M b i) [] (hp Φ hb M shA c) := by
  obtain ⟨e, v, t, z', h1, h2, h3, h4⟩ := pr_append hL (p := SA xs (i + 1)) (i32_r _)
  obtain ⟨c1, e1, f1, g1⟩ := h1 c hC
  have hM1 := W_c f1 hM
  have hcs : (e = 0 ∧ t = 0) ∨ (e = 1 ∧ t = 1) ∨ (e = 2 ∧ t = 2) := by simpa using h4
  have tail : ∀ c2, CI 0 z' c2 → MI 105 z c2 → (t = 0 → c2 120 0 = w32 v) → G Φ mL_law (E9 Z b L xs B) x (cells + 1) (slots + 6) 897 (lvL M b i) [vI t] (hp Φ hb M shA c2) := by
    intro c2 hC2 hM2 ho
    obtain ⟨c3, e3, f3, g3, t3⟩ := h2 c2 hM2
    refine gw_istore dL_law_897 rfl (by decide) ?_
    refine gw_aload_n dL_law_899 rfl rfl ?_
    refine gw_aload_n dL_law_900 rfl rfl ?_
    refine gw_iload dL_law_901 rfl rfl ?_
    refine gw_iconstZ dL_law_903 rfl ?_
    refine gw_iaddZ dL_law_904 rfl ?_
    refine gl_sldZ hB ⟨by omega, by omega⟩ h2048 dL_law_905 rfl ?_
    refine gw_V1 okX9_append dL_law_906 kw_1599 kw_1600 kw_1601 (hp_o shA_M.1) rfl ⟨Nat.le_of_ble_eq_true rfl, Nat.le_of_ble_eq_true rfl⟩ ⟨show cells + 1 + 0 ≤ 601024 by omega, show slots + 6 + 0 ≤ 7293034 by omega⟩ (Nat.le_of_ble_eq_true rfl) (w_X9_append shA_M e3 ?_)
    refine gw_istore dL_law_909 rfl (by decide) ?_
    refine gw_aload_n dL_law_911 rfl rfl ?_
    refine gw_V0 okX9_thrown dL_law_912 kw_1405 kw_1406 kw_1407 (hp_o shA_M.1) rfl ⟨Nat.le_of_ble_eq_true rfl, Nat.le_of_ble_eq_true rfl⟩ ⟨show cells + 1 + 0 + 0 ≤ 601024 by omega, show slots + 6 + 0 + 0 ≤ 7293034 by omega⟩ (Nat.le_of_ble_eq_true rfl) (w_X9_thrown shA_M (thr9 t3) ?_)
    refine gw_iload dL_law_915 rfl rfl ?_
    refine gw_icmp_eq (tgt := 922) dL_law_917 rfl (by decide) (fun _ => ?_) (fun q => absurd rfl q)
    refine gw_iload dL_law_922 rfl rfl ?_
    refine gw_if_neZ (tgt := 939) dL_law_924 rfl (by decide) ⟨by omega, by omega⟩ (fun q => ?_) (fun q => ?_)
    · refine gw_goto (tgt := 2881) dL_law_939 (by decide) ?_
      exact k z' c3 _ _ _ h3 (W_m f3 hC2) g3 (show cells + 1 + 0 + 0 ≤ cells + 20 by omega) (show slots + 6 + 0 + 0 ≤ slots + 100 by omega) (lvA_c rfl (lvA_c rfl (lvA_c rfl (lvA_c rfl (lvA_c rfl lvA_n)))))
    · skip
      refine gw_aload_n dL_law_927 rfl rfl ?_
      refine gw_iconstZ dL_law_928 rfl ?_
      have hv : c3 120 0 = w32 v := by rw [f3 120 (Or.inr (by decide))]; exact ho q
      refine gs_laldE dL_law_929 rfl shA_o (by decide) (by decide) hv ?_
      refine gw_iload dL_law_930 rfl rfl ?_
      refine gw_i2lW dL_law_932 rfl ?_
      refine gw_lc_eq (tgt := 939) dL_law_933 rfl dL_law_934 rfl (by decide) (fun _ => ?_) (fun q => absurd rfl q)
      refine gw_goto (tgt := 2881) dL_law_939 (by decide) ?_
      exact k z' c3 _ _ _ h3 (W_m f3 hC2) g3 (show cells + 1 + 0 + 0 ≤ cells + 20 by omega) (show slots + 6 + 0 + 0 ≤ slots + 100 by omega) (lvA_c rfl (lvA_c rfl (lvA_c rfl (lvA_c rfl (lvA_c rfl lvA_n)))))
  refine gw_aload_n dL_law_886 rfl rfl ?_
  refine gw_aload_n dL_law_887 rfl rfl ?_
  refine gw_iload dL_law_888 rfl rfl ?_
  refine gw_iconstZ dL_law_890 rfl ?_
  refine gw_iaddZ dL_law_891 rfl ?_
  refine gl_sldZ hB ⟨by omega, by omega⟩ h2048 dL_law_892 rfl ?_
  refine gw_aload_n dL_law_893 rfl rfl ?_
  refine gw_SH3 okL_append dL_law_894 kw_1063 kw_1064 ⟨Nat.le_of_ble_eq_true rfl, Nat.le_of_ble_eq_true rfl⟩ ⟨show cells + 1 ≤ 601024 by omega, show slots + 6 ≤ 7293034 by omega⟩ (Nat.le_of_ble_eq_true rfl) (v_append shA_D shA_o e1 hcs (fun e0 => ?_) (fun e0 => ?_))
  · have t0 : t = 0 := by omega
    have T := tail (upc c1 120 (updZ (c1 120) 0 (w32 v))) (W_o g1) (W_oM hM1) (fun _ => by rw [upc_s, updZ_s])
    rw [t0] at T
    exact T
  · exact tail c1 g1 hM1 (fun t0 => absurd t0 (by omega))
set_option maxRecDepth 100000 in
set_option maxHeartbeats 4000000 in
theorem lc_12 {Φ : gwC} {hb : gwHp} {M b L B : Nat} {xs : Nat → Int32} {Z : gwE} {x : Option Nat} {i K : Int} {z : St} {c : W0} {cells slots : Nat} (hB : Φ.2.1 = B) (hi : 0 ≤ i ∧ i + 4 ≤ (L : Int)) (h2048 : L ≤ 2048) (hc : cells + 20 ≤ 601024) (hs : slots + 100 ≤ 7293034) (hK : K ≤ 1000000) (hL : LI K z) (hC : CI 0 z c) (hM : MI 105 z c) (k : LK Φ hb M b L xs Z B x i K cells slots) : G Φ mL_law (E9 Z b L xs B) x cells slots 942 (lvL M b i) [] (hp Φ hb M shA c) := by
  obtain ⟨v, z', h1, h2, h3⟩ := pr_clearBuffer hL
  obtain ⟨c1, e1, f1, g1⟩ := h1 c hC
  obtain ⟨c2, e2, f2, g2, -⟩ := h2 c1 (W_c f1 hM)
  refine gw_aload_n dL_law_942 rfl rfl ?_
  refine gw_V0 okX8_clearBuffer dL_law_943 kw_491 kw_492 kw_493 (hp_o shA_D.1) rfl ⟨Nat.le_of_ble_eq_true rfl, Nat.le_of_ble_eq_true rfl⟩ ⟨show cells + 0 ≤ 601024 by omega, show slots + 0 ≤ 7293034 by omega⟩ (Nat.le_of_ble_eq_true rfl) (w_X8_clearBuffer shA_D e1 ?_)
  refine gw_aload_n dL_law_946 rfl rfl ?_
  refine gw_V0 okX9_clearBuffer dL_law_947 kw_1603 kw_1604 kw_1605 (hp_o shA_M.1) rfl ⟨Nat.le_of_ble_eq_true rfl, Nat.le_of_ble_eq_true rfl⟩ ⟨show cells + 0 + 0 ≤ 601024 by omega, show slots + 0 + 0 ≤ 7293034 by omega⟩ (Nat.le_of_ble_eq_true rfl) (w_X9_clearBuffer shA_M e2 ?_)
  refine gw_icmp_eq (tgt := 2881) dL_law_950 rfl (by decide) (fun _ => ?_) (fun q => absurd rfl q)
  exact k z' c2 _ _ _ h3 (W_m f2 g1) g2 (show cells + 0 + 0 ≤ cells + 20 by omega) (show slots + 0 + 0 ≤ slots + 100 by omega) (lvA_c rfl (lvA_c rfl (lvA_c rfl (lvA_c rfl (lvA_c rfl lvA_n)))))
set_option maxRecDepth 100000 in
set_option maxHeartbeats 4000000 in
theorem lc_13 {Φ : gwC} {hb : gwHp} {M b L B : Nat} {xs : Nat → Int32} {Z : gwE} {x : Option Nat} {i K : Int} {z : St} {c : W0} {cells slots : Nat} (hB : Φ.2.1 = B) (hi : 0 ≤ i ∧ i + 4 ≤ (L : Int)) (h2048 : L ≤ 2048) (hc : cells + 20 ≤ 601024) (hs : slots + 100 ≤ 7293034) (hK : K ≤ 1000000) (hL : LI K z) (hC : CI 0 z c) (hM : MI 105 z c) (k : LK Φ hb M b L xs Z B x i K cells slots) : G Φ mL_law (E9 Z b L xs B) x cells slots 955 (lvL M b i) [] (hp Φ hb M shA c) := by
  obtain ⟨v, z', h1, h2, h3⟩ := pr_firstError hL
  obtain ⟨c1, e1, f1, g1⟩ := h1 c hC
  obtain ⟨c2, e2, f2, g2, -⟩ := h2 c1 (W_c f1 hM)
  refine gw_aload_n dL_law_955 rfl rfl ?_
  refine gw_V0 okX8_firstError dL_law_956 kw_499 kw_500 kw_501 (hp_o shA_D.1) rfl ⟨Nat.le_of_ble_eq_true rfl, Nat.le_of_ble_eq_true rfl⟩ ⟨show cells + 0 ≤ 601024 by omega, show slots + 0 ≤ 7293034 by omega⟩ (Nat.le_of_ble_eq_true rfl) (w_X8_firstError shA_D e1 ?_)
  refine gw_aload_n dL_law_959 rfl rfl ?_
  refine gw_V0 okX9_firstError dL_law_960 kw_1607 kw_1608 kw_1609 (hp_o shA_M.1) rfl ⟨Nat.le_of_ble_eq_true rfl, Nat.le_of_ble_eq_true rfl⟩ ⟨show cells + 0 + 0 ≤ 601024 by omega, show slots + 0 + 0 ≤ 7293034 by omega⟩ (Nat.le_of_ble_eq_true rfl) (w_X9_firstError shA_M e2 ?_)
  refine gw_icmp_eq (tgt := 2881) dL_law_963 rfl (by decide) (fun _ => ?_) (fun q => absurd rfl q)
  exact k z' c2 _ _ _ h3 (W_m f2 g1) g2 (show cells + 0 + 0 ≤ cells + 20 by omega) (show slots + 0 + 0 ≤ slots + 100 by omega) (lvA_c rfl (lvA_c rfl (lvA_c rfl (lvA_c rfl (lvA_c rfl lvA_n)))))
set_option maxRecDepth 100000 in
set_option maxHeartbeats 4000000 in
theorem lc_14 {Φ : gwC} {hb : gwHp} {M b L B : Nat} {xs : Nat → Int32} {Z : gwE} {x : Option Nat} {i K : Int} {z : St} {c : W0} {cells slots : Nat} (hB : Φ.2.1 = B) (hi : 0 ≤ i ∧ i + 4 ≤ (L : Int)) (h2048 : L ≤ 2048) (hc : cells + 20 ≤ 601024) (hs : slots + 100 ≤ 7293034) (hK : K ≤ 1000000) (hL : LI K z) (hC : CI 0 z c) (hM : MI 105 z c) (k : LK Φ hb M b L xs Z B x i K cells slots) : G Φ mL_law (E9 Z b L xs B) x cells slots 968 (lvL M b i) [] (hp Φ hb M shA c) := by
  obtain ⟨e, v, t, z', h1, h2, h3, h4⟩ := pr_load hL
  obtain ⟨c1, e1, f1, g1⟩ := h1 c hC
  have hM1 := W_c f1 hM
  have hcs : (e = 0 ∧ t = 0) ∨ (e = 1 ∧ t = 1) := by simpa using h4
  have tail : ∀ c2, CI 0 z' c2 → MI 105 z c2 → (t = 0 → c2 120 0 = w32 v) → G Φ mL_law (E9 Z b L xs B) x (cells + 1) (slots + 6) 973 (lvL M b i) [vI t] (hp Φ hb M shA c2) := by
    intro c2 hC2 hM2 ho
    obtain ⟨c3, e3, f3, g3, t3⟩ := h2 c2 hM2
    refine gw_istore dL_law_973 rfl (by decide) ?_
    refine gw_aload_n dL_law_975 rfl rfl ?_
    refine gw_V0 okX9_load dL_law_976 kw_1635 kw_1636 kw_1637 (hp_o shA_M.1) rfl ⟨Nat.le_of_ble_eq_true rfl, Nat.le_of_ble_eq_true rfl⟩ ⟨show cells + 1 + 0 ≤ 601024 by omega, show slots + 6 + 0 ≤ 7293034 by omega⟩ (Nat.le_of_ble_eq_true rfl) (w_X9_load shA_M e3 ?_)
    refine gw_istore dL_law_979 rfl (by decide) ?_
    refine gw_aload_n dL_law_981 rfl rfl ?_
    refine gw_V0 okX9_thrown dL_law_982 kw_1405 kw_1406 kw_1407 (hp_o shA_M.1) rfl ⟨Nat.le_of_ble_eq_true rfl, Nat.le_of_ble_eq_true rfl⟩ ⟨show cells + 1 + 0 + 0 ≤ 601024 by omega, show slots + 6 + 0 + 0 ≤ 7293034 by omega⟩ (Nat.le_of_ble_eq_true rfl) (w_X9_thrown shA_M (thr9 t3) ?_)
    refine gw_iload dL_law_985 rfl rfl ?_
    refine gw_icmp_eq (tgt := 992) dL_law_987 rfl (by decide) (fun _ => ?_) (fun q => absurd rfl q)
    refine gw_iload dL_law_992 rfl rfl ?_
    refine gw_if_neZ (tgt := 1009) dL_law_994 rfl (by decide) ⟨by omega, by omega⟩ (fun q => ?_) (fun q => ?_)
    · refine gw_goto (tgt := 2881) dL_law_1009 (by decide) ?_
      exact k z' c3 _ _ _ h3 (W_m f3 hC2) g3 (show cells + 1 + 0 + 0 ≤ cells + 20 by omega) (show slots + 6 + 0 + 0 ≤ slots + 100 by omega) (lvA_c rfl (lvA_c rfl (lvA_c rfl (lvA_c rfl (lvA_c rfl lvA_n)))))
    · skip
      refine gw_aload_n dL_law_997 rfl rfl ?_
      refine gw_iconstZ dL_law_998 rfl ?_
      have hv : c3 120 0 = w32 v := by rw [f3 120 (Or.inr (by decide))]; exact ho q
      refine gs_laldE dL_law_999 rfl shA_o (by decide) (by decide) hv ?_
      refine gw_iload dL_law_1000 rfl rfl ?_
      refine gw_i2lW dL_law_1002 rfl ?_
      refine gw_lc_eq (tgt := 1009) dL_law_1003 rfl dL_law_1004 rfl (by decide) (fun _ => ?_) (fun q => absurd rfl q)
      refine gw_goto (tgt := 2881) dL_law_1009 (by decide) ?_
      exact k z' c3 _ _ _ h3 (W_m f3 hC2) g3 (show cells + 1 + 0 + 0 ≤ cells + 20 by omega) (show slots + 6 + 0 + 0 ≤ slots + 100 by omega) (lvA_c rfl (lvA_c rfl (lvA_c rfl (lvA_c rfl (lvA_c rfl lvA_n)))))
  refine gw_aload_n dL_law_968 rfl rfl ?_
  refine gw_aload_n dL_law_969 rfl rfl ?_
  refine gw_SH2 okL_load dL_law_970 kw_1077 kw_1078 ⟨Nat.le_of_ble_eq_true rfl, Nat.le_of_ble_eq_true rfl⟩ ⟨show cells + 1 ≤ 601024 by omega, show slots + 6 ≤ 7293034 by omega⟩ (Nat.le_of_ble_eq_true rfl) (v_load shA_D shA_o e1 hcs (fun e0 => ?_) (fun e0 => ?_))
  · have t0 : t = 0 := by omega
    have T := tail (upc c1 120 (updZ (c1 120) 0 (w32 v))) (W_o g1) (W_oM hM1) (fun _ => by rw [upc_s, updZ_s])
    rw [t0] at T
    exact T
  · exact tail c1 g1 hM1 (fun t0 => absurd t0 (by omega))
set_option maxRecDepth 100000 in
set_option maxHeartbeats 4000000 in
theorem lc_15 {Φ : gwC} {hb : gwHp} {M b L B : Nat} {xs : Nat → Int32} {Z : gwE} {x : Option Nat} {i K : Int} {z : St} {c : W0} {cells slots : Nat} (hB : Φ.2.1 = B) (hi : 0 ≤ i ∧ i + 4 ≤ (L : Int)) (h2048 : L ≤ 2048) (hc : cells + 20 ≤ 601024) (hs : slots + 100 ≤ 7293034) (hK : K ≤ 1000000) (hL : LI K z) (hC : CI 0 z c) (hM : MI 105 z c) (k : LK Φ hb M b L xs Z B x i K cells slots) : G Φ mL_law (E9 Z b L xs B) x cells slots 1012 (lvL M b i) [] (hp Φ hb M shA c) := by
  obtain ⟨e, v, t, z', h1, h2, h3, h4⟩ := pr_write hL
  obtain ⟨c1, e1, f1, g1⟩ := h1 c hC
  have hM1 := W_c f1 hM
  have hcs : (e = 0 ∧ t = 0) ∨ (e = 2 ∧ t = 1) := by simpa using h4
  have tail : ∀ c2, CI 0 z' c2 → MI 105 z c2 → (t = 0 → c2 120 0 = w32 v) → G Φ mL_law (E9 Z b L xs B) x (cells + 1) (slots + 6) 1017 (lvL M b i) [vI t] (hp Φ hb M shA c2) := by
    intro c2 hC2 hM2 ho
    obtain ⟨c3, e3, f3, g3, t3⟩ := h2 c2 hM2
    refine gw_istore dL_law_1017 rfl (by decide) ?_
    refine gw_aload_n dL_law_1019 rfl rfl ?_
    refine gw_V0 okX9_write dL_law_1020 kw_1639 kw_1640 kw_1641 (hp_o shA_M.1) rfl ⟨Nat.le_of_ble_eq_true rfl, Nat.le_of_ble_eq_true rfl⟩ ⟨show cells + 1 + 0 ≤ 601024 by omega, show slots + 6 + 0 ≤ 7293034 by omega⟩ (Nat.le_of_ble_eq_true rfl) (w_X9_write shA_M e3 ?_)
    refine gw_istore dL_law_1023 rfl (by decide) ?_
    refine gw_aload_n dL_law_1025 rfl rfl ?_
    refine gw_V0 okX9_thrown dL_law_1026 kw_1405 kw_1406 kw_1407 (hp_o shA_M.1) rfl ⟨Nat.le_of_ble_eq_true rfl, Nat.le_of_ble_eq_true rfl⟩ ⟨show cells + 1 + 0 + 0 ≤ 601024 by omega, show slots + 6 + 0 + 0 ≤ 7293034 by omega⟩ (Nat.le_of_ble_eq_true rfl) (w_X9_thrown shA_M (thr9 t3) ?_)
    refine gw_iload dL_law_1029 rfl rfl ?_
    refine gw_icmp_eq (tgt := 1036) dL_law_1031 rfl (by decide) (fun _ => ?_) (fun q => absurd rfl q)
    refine gw_iload dL_law_1036 rfl rfl ?_
    refine gw_if_neZ (tgt := 1053) dL_law_1038 rfl (by decide) ⟨by omega, by omega⟩ (fun q => ?_) (fun q => ?_)
    · refine gw_goto (tgt := 2881) dL_law_1053 (by decide) ?_
      exact k z' c3 _ _ _ h3 (W_m f3 hC2) g3 (show cells + 1 + 0 + 0 ≤ cells + 20 by omega) (show slots + 6 + 0 + 0 ≤ slots + 100 by omega) (lvA_c rfl (lvA_c rfl (lvA_c rfl (lvA_c rfl (lvA_c rfl lvA_n)))))
    · skip
      refine gw_aload_n dL_law_1041 rfl rfl ?_
      refine gw_iconstZ dL_law_1042 rfl ?_
      have hv : c3 120 0 = w32 v := by rw [f3 120 (Or.inr (by decide))]; exact ho q
      refine gs_laldE dL_law_1043 rfl shA_o (by decide) (by decide) hv ?_
      refine gw_iload dL_law_1044 rfl rfl ?_
      refine gw_i2lW dL_law_1046 rfl ?_
      refine gw_lc_eq (tgt := 1053) dL_law_1047 rfl dL_law_1048 rfl (by decide) (fun _ => ?_) (fun q => absurd rfl q)
      refine gw_goto (tgt := 2881) dL_law_1053 (by decide) ?_
      exact k z' c3 _ _ _ h3 (W_m f3 hC2) g3 (show cells + 1 + 0 + 0 ≤ cells + 20 by omega) (show slots + 6 + 0 + 0 ≤ slots + 100 by omega) (lvA_c rfl (lvA_c rfl (lvA_c rfl (lvA_c rfl (lvA_c rfl lvA_n)))))
  refine gw_aload_n dL_law_1012 rfl rfl ?_
  refine gw_aload_n dL_law_1013 rfl rfl ?_
  refine gw_SH2 okL_write dL_law_1014 kw_1086 kw_1087 ⟨Nat.le_of_ble_eq_true rfl, Nat.le_of_ble_eq_true rfl⟩ ⟨show cells + 1 ≤ 601024 by omega, show slots + 6 ≤ 7293034 by omega⟩ (Nat.le_of_ble_eq_true rfl) (v_write shA_D shA_o e1 hcs (fun e0 => ?_) (fun e0 => ?_))
  · have t0 : t = 0 := by omega
    have T := tail (upc c1 120 (updZ (c1 120) 0 (w32 v))) (W_o g1) (W_oM hM1) (fun _ => by rw [upc_s, updZ_s])
    rw [t0] at T
    exact T
  · exact tail c1 g1 hM1 (fun t0 => absurd t0 (by omega))
end CF
