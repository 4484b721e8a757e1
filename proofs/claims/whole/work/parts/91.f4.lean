section CF
set_option maxRecDepth 100000 in
set_option maxHeartbeats 4000000 in
theorem lc_48 {Φ : gwC} {hb : gwHp} {M b L B : Nat} {xs : Nat → Int32} {Z : gwE} {x : Option Nat} {i K : Int} {z : St} {c : W0} {cells slots : Nat} (hB : Φ.2.1 = B) (hi : 0 ≤ i ∧ i + 4 ≤ (L : Int)) (h2048 : L ≤ 2048) (hc : cells + 20 ≤ 601024) (hs : slots + 100 ≤ 7293034) (hK : K ≤ 1000000) (hL : LI K z) (hC : CI 0 z c) (hM : MI 105 z c) (k : LK Φ hb M b L xs Z B x i K cells slots) : G Φ mL_law (E9 Z b L xs B) x cells slots 2244 (lvL M b i) [] (hp Φ hb M shA c) := by
  obtain ⟨e, v, t, z', h1, h2, h3, h4⟩ := pr_rayColumn hL
  obtain ⟨c1, e1, f1, g1⟩ := h1 c hC
  have hM1 := W_c f1 hM
  have hcs : (e = 0 ∧ t = 0) ∨ (e = 2 ∧ t = 1) := by simpa using h4
  have tail : ∀ c2, CI 0 z' c2 → MI 105 z c2 → (t = 0 → c2 120 0 = w32 v) → G Φ mL_law (E9 Z b L xs B) x (cells + 1) (slots + 6) 2249 (lvL M b i) [vI t] (hp Φ hb M shA c2) := by
    intro c2 hC2 hM2 ho
    obtain ⟨c3, e3, f3, g3, t3⟩ := h2 c2 hM2
    refine gw_istore dL_law_2249 rfl (by decide) ?_
    refine gw_aload_n dL_law_2251 rfl rfl ?_
    refine gw_V0 okX9_rayColumn dL_law_2252 kw_1813 kw_1814 kw_1815 (hp_o shA_M.1) rfl ⟨Nat.le_of_ble_eq_true rfl, Nat.le_of_ble_eq_true rfl⟩ ⟨show cells + 1 + 0 ≤ 601024 by omega, show slots + 6 + 0 ≤ 7293034 by omega⟩ (Nat.le_of_ble_eq_true rfl) (w_X9_rayColumn shA_M e3 ?_)
    refine gw_istore dL_law_2255 rfl (by decide) ?_
    refine gw_aload_n dL_law_2257 rfl rfl ?_
    refine gw_V0 okX9_thrown dL_law_2258 kw_1405 kw_1406 kw_1407 (hp_o shA_M.1) rfl ⟨Nat.le_of_ble_eq_true rfl, Nat.le_of_ble_eq_true rfl⟩ ⟨show cells + 1 + 0 + 0 ≤ 601024 by omega, show slots + 6 + 0 + 0 ≤ 7293034 by omega⟩ (Nat.le_of_ble_eq_true rfl) (w_X9_thrown shA_M (thr9 t3) ?_)
    refine gw_iload dL_law_2261 rfl rfl ?_
    refine gw_icmp_eq (tgt := 2268) dL_law_2263 rfl (by decide) (fun _ => ?_) (fun q => absurd rfl q)
    refine gw_iload dL_law_2268 rfl rfl ?_
    refine gw_if_neZ (tgt := 2285) dL_law_2270 rfl (by decide) ⟨by omega, by omega⟩ (fun q => ?_) (fun q => ?_)
    · refine gw_goto (tgt := 2881) dL_law_2285 (by decide) ?_
      exact k z' c3 _ _ _ h3 (W_m f3 hC2) g3 (show cells + 1 + 0 + 0 ≤ cells + 20 by omega) (show slots + 6 + 0 + 0 ≤ slots + 100 by omega) (lvA_c rfl (lvA_c rfl (lvA_c rfl (lvA_c rfl (lvA_c rfl lvA_n)))))
    · skip
      refine gw_aload_n dL_law_2273 rfl rfl ?_
      refine gw_iconstZ dL_law_2274 rfl ?_
      have hv : c3 120 0 = w32 v := by rw [f3 120 (Or.inr (by decide))]; exact ho q
      refine gs_laldE dL_law_2275 rfl shA_o (by decide) (by decide) hv ?_
      refine gw_iload dL_law_2276 rfl rfl ?_
      refine gw_i2lW dL_law_2278 rfl ?_
      refine gw_lc_eq (tgt := 2285) dL_law_2279 rfl dL_law_2280 rfl (by decide) (fun _ => ?_) (fun q => absurd rfl q)
      refine gw_goto (tgt := 2881) dL_law_2285 (by decide) ?_
      exact k z' c3 _ _ _ h3 (W_m f3 hC2) g3 (show cells + 1 + 0 + 0 ≤ cells + 20 by omega) (show slots + 6 + 0 + 0 ≤ slots + 100 by omega) (lvA_c rfl (lvA_c rfl (lvA_c rfl (lvA_c rfl (lvA_c rfl lvA_n)))))
  refine gw_aload_n dL_law_2244 rfl rfl ?_
  refine gw_aload_n dL_law_2245 rfl rfl ?_
  refine gw_SH2 okL_rayColumn dL_law_2246 kw_1235 kw_1236 ⟨Nat.le_of_ble_eq_true rfl, Nat.le_of_ble_eq_true rfl⟩ ⟨show cells + 1 ≤ 601024 by omega, show slots + 6 ≤ 7293034 by omega⟩ (Nat.le_of_ble_eq_true rfl) (v_rayColumn shA_D shA_o e1 hcs (fun e0 => ?_) (fun e0 => ?_))
  · have t0 : t = 0 := by omega
    have T := tail (upc c1 120 (updZ (c1 120) 0 (w32 v))) (W_o g1) (W_oM hM1) (fun _ => by rw [upc_s, updZ_s])
    rw [t0] at T
    exact T
  · exact tail c1 g1 hM1 (fun t0 => absurd t0 (by omega))
set_option maxRecDepth 100000 in
set_option maxHeartbeats 4000000 in
theorem lc_49 {Φ : gwC} {hb : gwHp} {M b L B : Nat} {xs : Nat → Int32} {Z : gwE} {x : Option Nat} {i K : Int} {z : St} {c : W0} {cells slots : Nat} (hB : Φ.2.1 = B) (hi : 0 ≤ i ∧ i + 4 ≤ (L : Int)) (h2048 : L ≤ 2048) (hc : cells + 20 ≤ 601024) (hs : slots + 100 ≤ 7293034) (hK : K ≤ 1000000) (hL : LI K z) (hC : CI 0 z c) (hM : MI 105 z c) (k : LK Φ hb M b L xs Z B x i K cells slots) : G Φ mL_law (E9 Z b L xs B) x cells slots 2288 (lvL M b i) [] (hp Φ hb M shA c) := by
  obtain ⟨e, v, t, z', h1, h2, h3, h4⟩ := pr_rayNumerator hL (q := SA xs (i + 1)) (i32_r _)
  obtain ⟨c1, e1, f1, g1⟩ := h1 c hC
  have hM1 := W_c f1 hM
  have hcs : (e = 0 ∧ t = 0) ∨ (e = 3 ∧ t = 1) ∨ (e = 2 ∧ t = 2) := by simpa using h4
  have tail : ∀ c2, CI 0 z' c2 → MI 105 z c2 → (t = 0 → c2 120 0 = v) → G Φ mL_law (E9 Z b L xs B) x (cells + 2) (slots + 12) 2299 (lvL M b i) [vI t] (hp Φ hb M shA c2) := by
    intro c2 hC2 hM2 ho
    obtain ⟨c3, e3, f3, g3, t3⟩ := h2 c2 hM2
    refine gw_istore dL_law_2299 rfl (by decide) ?_
    refine gw_aload_n dL_law_2301 rfl rfl ?_
    refine gw_aload_n dL_law_2302 rfl rfl ?_
    refine gw_iload dL_law_2303 rfl rfl ?_
    refine gw_iconstZ dL_law_2305 rfl ?_
    refine gw_iaddZ dL_law_2306 rfl ?_
    refine gl_sldZ hB ⟨by omega, by omega⟩ h2048 dL_law_2307 rfl ?_
    refine gw_V1 okX9_rayNumerator dL_law_2308 kw_1821 kw_1822 kw_1823 (hp_o shA_M.1) rfl ⟨Nat.le_of_ble_eq_true rfl, Nat.le_of_ble_eq_true rfl⟩ ⟨show cells + 2 + 0 ≤ 601024 by omega, show slots + 12 + 0 ≤ 7293034 by omega⟩ (Nat.le_of_ble_eq_true rfl) (w_X9_rayNumerator shA_M e3 ?_)
    refine gw_lstore dL_law_2311 rfl (by decide) ?_
    refine gw_aload_n dL_law_2313 rfl rfl ?_
    refine gw_V0 okX9_thrown dL_law_2314 kw_1405 kw_1406 kw_1407 (hp_o shA_M.1) rfl ⟨Nat.le_of_ble_eq_true rfl, Nat.le_of_ble_eq_true rfl⟩ ⟨show cells + 2 + 0 + 0 ≤ 601024 by omega, show slots + 12 + 0 + 0 ≤ 7293034 by omega⟩ (Nat.le_of_ble_eq_true rfl) (w_X9_thrown shA_M (thr9 t3) ?_)
    refine gw_iload dL_law_2317 rfl rfl ?_
    refine gw_icmp_eq (tgt := 2324) dL_law_2319 rfl (by decide) (fun _ => ?_) (fun q => absurd rfl q)
    refine gw_iload dL_law_2324 rfl rfl ?_
    refine gw_if_neZ (tgt := 2340) dL_law_2326 rfl (by decide) ⟨by omega, by omega⟩ (fun q => ?_) (fun q => ?_)
    · refine gw_goto (tgt := 2881) dL_law_2340 (by decide) ?_
      exact k z' c3 _ _ _ h3 (W_m f3 hC2) g3 (show cells + 2 + 0 + 0 ≤ cells + 20 by omega) (show slots + 12 + 0 + 0 ≤ slots + 100 by omega) (lvA_c rfl (lvA_c rfl (lvA_c rfl (lvA_c rfl (lvA_c rfl lvA_n)))))
    · skip
      refine gw_aload_n dL_law_2329 rfl rfl ?_
      refine gw_iconstZ dL_law_2330 rfl ?_
      have hv : c3 120 0 = v := by rw [f3 120 (Or.inr (by decide))]; exact ho q
      refine gs_laldE dL_law_2331 rfl shA_o (by decide) (by decide) hv ?_
      refine gw_lload dL_law_2332 rfl rfl ?_
      refine gw_lc_eq (tgt := 2340) dL_law_2334 rfl dL_law_2335 rfl (by decide) (fun _ => ?_) (fun q => absurd rfl q)
      refine gw_goto (tgt := 2881) dL_law_2340 (by decide) ?_
      exact k z' c3 _ _ _ h3 (W_m f3 hC2) g3 (show cells + 2 + 0 + 0 ≤ cells + 20 by omega) (show slots + 12 + 0 + 0 ≤ slots + 100 by omega) (lvA_c rfl (lvA_c rfl (lvA_c rfl (lvA_c rfl (lvA_c rfl lvA_n)))))
  refine gw_aload_n dL_law_2288 rfl rfl ?_
  refine gw_aload_n dL_law_2289 rfl rfl ?_
  refine gw_iload dL_law_2290 rfl rfl ?_
  refine gw_iconstZ dL_law_2292 rfl ?_
  refine gw_iaddZ dL_law_2293 rfl ?_
  refine gl_sldZ hB ⟨by omega, by omega⟩ h2048 dL_law_2294 rfl ?_
  refine gw_aload_n dL_law_2295 rfl rfl ?_
  refine gw_SH3 okL_rayNumerator dL_law_2296 kw_1247 kw_1248 ⟨Nat.le_of_ble_eq_true rfl, Nat.le_of_ble_eq_true rfl⟩ ⟨show cells + 2 ≤ 601024 by omega, show slots + 12 ≤ 7293034 by omega⟩ (Nat.le_of_ble_eq_true rfl) (v_rayNumerator shA_D shA_o e1 hcs (fun e0 => ?_) (fun e0 => ?_))
  · have t0 : t = 0 := by omega
    have T := tail (upc c1 120 (updZ (c1 120) 0 (v))) (W_o g1) (W_oM hM1) (fun _ => by rw [upc_s, updZ_s])
    rw [t0] at T
    exact T
  · exact tail c1 g1 hM1 (fun t0 => absurd t0 (by omega))
set_option maxRecDepth 100000 in
set_option maxHeartbeats 4000000 in
theorem lc_50 {Φ : gwC} {hb : gwHp} {M b L B : Nat} {xs : Nat → Int32} {Z : gwE} {x : Option Nat} {i K : Int} {z : St} {c : W0} {cells slots : Nat} (hB : Φ.2.1 = B) (hi : 0 ≤ i ∧ i + 4 ≤ (L : Int)) (h2048 : L ≤ 2048) (hc : cells + 20 ≤ 601024) (hs : slots + 100 ≤ 7293034) (hK : K ≤ 1000000) (hL : LI K z) (hC : CI 0 z c) (hM : MI 105 z c) (k : LK Φ hb M b L xs Z B x i K cells slots) : G Φ mL_law (E9 Z b L xs B) x cells slots 2343 (lvL M b i) [] (hp Φ hb M shA c) := by
  obtain ⟨e, v, t, z', h1, h2, h3, h4⟩ := pr_rayDenominator hL (q := SA xs (i + 1)) (i32_r _)
  obtain ⟨c1, e1, f1, g1⟩ := h1 c hC
  have hM1 := W_c f1 hM
  have hcs : (e = 0 ∧ t = 0) ∨ (e = 3 ∧ t = 1) ∨ (e = 2 ∧ t = 2) := by simpa using h4
  have tail : ∀ c2, CI 0 z' c2 → MI 105 z c2 → (t = 0 → c2 120 0 = v) → G Φ mL_law (E9 Z b L xs B) x (cells + 2) (slots + 12) 2354 (lvL M b i) [vI t] (hp Φ hb M shA c2) := by
    intro c2 hC2 hM2 ho
    obtain ⟨c3, e3, f3, g3, t3⟩ := h2 c2 hM2
    refine gw_istore dL_law_2354 rfl (by decide) ?_
    refine gw_aload_n dL_law_2356 rfl rfl ?_
    refine gw_aload_n dL_law_2357 rfl rfl ?_
    refine gw_iload dL_law_2358 rfl rfl ?_
    refine gw_iconstZ dL_law_2360 rfl ?_
    refine gw_iaddZ dL_law_2361 rfl ?_
    refine gl_sldZ hB ⟨by omega, by omega⟩ h2048 dL_law_2362 rfl ?_
    refine gw_V1 okX9_rayDenominator dL_law_2363 kw_1833 kw_1834 kw_1835 (hp_o shA_M.1) rfl ⟨Nat.le_of_ble_eq_true rfl, Nat.le_of_ble_eq_true rfl⟩ ⟨show cells + 2 + 0 ≤ 601024 by omega, show slots + 12 + 0 ≤ 7293034 by omega⟩ (Nat.le_of_ble_eq_true rfl) (w_X9_rayDenominator shA_M e3 ?_)
    refine gw_lstore dL_law_2366 rfl (by decide) ?_
    refine gw_aload_n dL_law_2368 rfl rfl ?_
    refine gw_V0 okX9_thrown dL_law_2369 kw_1405 kw_1406 kw_1407 (hp_o shA_M.1) rfl ⟨Nat.le_of_ble_eq_true rfl, Nat.le_of_ble_eq_true rfl⟩ ⟨show cells + 2 + 0 + 0 ≤ 601024 by omega, show slots + 12 + 0 + 0 ≤ 7293034 by omega⟩ (Nat.le_of_ble_eq_true rfl) (w_X9_thrown shA_M (thr9 t3) ?_)
    refine gw_iload dL_law_2372 rfl rfl ?_
    refine gw_icmp_eq (tgt := 2379) dL_law_2374 rfl (by decide) (fun _ => ?_) (fun q => absurd rfl q)
    refine gw_iload dL_law_2379 rfl rfl ?_
    refine gw_if_neZ (tgt := 2395) dL_law_2381 rfl (by decide) ⟨by omega, by omega⟩ (fun q => ?_) (fun q => ?_)
    · refine gw_goto (tgt := 2881) dL_law_2395 (by decide) ?_
      exact k z' c3 _ _ _ h3 (W_m f3 hC2) g3 (show cells + 2 + 0 + 0 ≤ cells + 20 by omega) (show slots + 12 + 0 + 0 ≤ slots + 100 by omega) (lvA_c rfl (lvA_c rfl (lvA_c rfl (lvA_c rfl (lvA_c rfl lvA_n)))))
    · skip
      refine gw_aload_n dL_law_2384 rfl rfl ?_
      refine gw_iconstZ dL_law_2385 rfl ?_
      have hv : c3 120 0 = v := by rw [f3 120 (Or.inr (by decide))]; exact ho q
      refine gs_laldE dL_law_2386 rfl shA_o (by decide) (by decide) hv ?_
      refine gw_lload dL_law_2387 rfl rfl ?_
      refine gw_lc_eq (tgt := 2395) dL_law_2389 rfl dL_law_2390 rfl (by decide) (fun _ => ?_) (fun q => absurd rfl q)
      refine gw_goto (tgt := 2881) dL_law_2395 (by decide) ?_
      exact k z' c3 _ _ _ h3 (W_m f3 hC2) g3 (show cells + 2 + 0 + 0 ≤ cells + 20 by omega) (show slots + 12 + 0 + 0 ≤ slots + 100 by omega) (lvA_c rfl (lvA_c rfl (lvA_c rfl (lvA_c rfl (lvA_c rfl lvA_n)))))
  refine gw_aload_n dL_law_2343 rfl rfl ?_
  refine gw_aload_n dL_law_2344 rfl rfl ?_
  refine gw_iload dL_law_2345 rfl rfl ?_
  refine gw_iconstZ dL_law_2347 rfl ?_
  refine gw_iaddZ dL_law_2348 rfl ?_
  refine gl_sldZ hB ⟨by omega, by omega⟩ h2048 dL_law_2349 rfl ?_
  refine gw_aload_n dL_law_2350 rfl rfl ?_
  refine gw_SH3 okL_rayDenominator dL_law_2351 kw_1258 kw_1259 ⟨Nat.le_of_ble_eq_true rfl, Nat.le_of_ble_eq_true rfl⟩ ⟨show cells + 2 ≤ 601024 by omega, show slots + 12 ≤ 7293034 by omega⟩ (Nat.le_of_ble_eq_true rfl) (v_rayDenominator shA_D shA_o e1 hcs (fun e0 => ?_) (fun e0 => ?_))
  · have t0 : t = 0 := by omega
    have T := tail (upc c1 120 (updZ (c1 120) 0 (v))) (W_o g1) (W_oM hM1) (fun _ => by rw [upc_s, updZ_s])
    rw [t0] at T
    exact T
  · exact tail c1 g1 hM1 (fun t0 => absurd t0 (by omega))
set_option maxRecDepth 100000 in
set_option maxHeartbeats 4000000 in
theorem lc_51 {Φ : gwC} {hb : gwHp} {M b L B : Nat} {xs : Nat → Int32} {Z : gwE} {x : Option Nat} {i K : Int} {z : St} {c : W0} {cells slots : Nat} (hB : Φ.2.1 = B) (hi : 0 ≤ i ∧ i + 4 ≤ (L : Int)) (h2048 : L ≤ 2048) (hc : cells + 20 ≤ 601024) (hs : slots + 100 ≤ 7293034) (hK : K ≤ 1000000) (hL : LI K z) (hC : CI 0 z c) (hM : MI 105 z c) (k : LK Φ hb M b L xs Z B x i K cells slots) : G Φ mL_law (E9 Z b L xs B) x cells slots 2398 (lvL M b i) [] (hp Φ hb M shA c) := by
  obtain ⟨v, z', h1, h2, h3⟩ := pr_feasibleBases hL
  obtain ⟨c1, e1, f1, g1⟩ := h1 c hC
  obtain ⟨c2, e2, f2, g2, -⟩ := h2 c1 (W_c f1 hM)
  refine gw_aload_n dL_law_2398 rfl rfl ?_
  refine gw_V0 okX8_feasibleBases dL_law_2399 kw_654 kw_655 kw_656 (hp_o shA_D.1) rfl ⟨Nat.le_of_ble_eq_true rfl, Nat.le_of_ble_eq_true rfl⟩ ⟨show cells + 0 ≤ 601024 by omega, show slots + 0 ≤ 7293034 by omega⟩ (Nat.le_of_ble_eq_true rfl) (w_X8_feasibleBases shA_D e1 ?_)
  refine gw_aload_n dL_law_2402 rfl rfl ?_
  refine gw_V0 okX9_feasibleBases dL_law_2403 kw_1837 kw_1838 kw_1839 (hp_o shA_M.1) rfl ⟨Nat.le_of_ble_eq_true rfl, Nat.le_of_ble_eq_true rfl⟩ ⟨show cells + 0 + 0 ≤ 601024 by omega, show slots + 0 + 0 ≤ 7293034 by omega⟩ (Nat.le_of_ble_eq_true rfl) (w_X9_feasibleBases shA_M e2 ?_)
  refine gw_icmp_eq (tgt := 2881) dL_law_2406 rfl (by decide) (fun _ => ?_) (fun q => absurd rfl q)
  exact k z' c2 _ _ _ h3 (W_m f2 g1) g2 (show cells + 0 + 0 ≤ cells + 20 by omega) (show slots + 0 + 0 ≤ slots + 100 by omega) (lvA_c rfl (lvA_c rfl (lvA_c rfl (lvA_c rfl (lvA_c rfl lvA_n)))))
set_option maxRecDepth 100000 in
set_option maxHeartbeats 4000000 in
theorem lc_52 {Φ : gwC} {hb : gwHp} {M b L B : Nat} {xs : Nat → Int32} {Z : gwE} {x : Option Nat} {i K : Int} {z : St} {c : W0} {cells slots : Nat} (hB : Φ.2.1 = B) (hi : 0 ≤ i ∧ i + 4 ≤ (L : Int)) (h2048 : L ≤ 2048) (hc : cells + 20 ≤ 601024) (hs : slots + 100 ≤ 7293034) (hK : K ≤ 1000000) (hL : LI K z) (hC : CI 0 z c) (hM : MI 105 z c) (k : LK Φ hb M b L xs Z B x i K cells slots) : G Φ mL_law (E9 Z b L xs B) x cells slots 2411 (lvL M b i) [] (hp Φ hb M shA c) := by
  obtain ⟨v, z', h1, h2, h3⟩ := pr_unlikeValues hL
  obtain ⟨c1, e1, f1, g1⟩ := h1 c hC
  obtain ⟨c2, e2, f2, g2, -⟩ := h2 c1 (W_c f1 hM)
  refine gw_aload_n dL_law_2411 rfl rfl ?_
  refine gw_V0 okX8_unlikeValues dL_law_2412 kw_717 kw_718 kw_719 (hp_o shA_D.1) rfl ⟨Nat.le_of_ble_eq_true rfl, Nat.le_of_ble_eq_true rfl⟩ ⟨show cells + 0 ≤ 601024 by omega, show slots + 0 ≤ 7293034 by omega⟩ (Nat.le_of_ble_eq_true rfl) (w_X8_unlikeValues shA_D e1 ?_)
  refine gw_aload_n dL_law_2415 rfl rfl ?_
  refine gw_V0 okX9_unlikeValues dL_law_2416 kw_1857 kw_1858 kw_1859 (hp_o shA_M.1) rfl ⟨Nat.le_of_ble_eq_true rfl, Nat.le_of_ble_eq_true rfl⟩ ⟨show cells + 0 + 0 ≤ 601024 by omega, show slots + 0 + 0 ≤ 7293034 by omega⟩ (Nat.le_of_ble_eq_true rfl) (w_X9_unlikeValues shA_M e2 ?_)
  refine gw_icmp_eq (tgt := 2881) dL_law_2419 rfl (by decide) (fun _ => ?_) (fun q => absurd rfl q)
  exact k z' c2 _ _ _ h3 (W_m f2 g1) g2 (show cells + 0 + 0 ≤ cells + 20 by omega) (show slots + 0 + 0 ≤ slots + 100 by omega) (lvA_c rfl (lvA_c rfl (lvA_c rfl (lvA_c rfl (lvA_c rfl lvA_n)))))
set_option maxRecDepth 100000 in
set_option maxHeartbeats 4000000 in
theorem lc_53 {Φ : gwC} {hb : gwHp} {M b L B : Nat} {xs : Nat → Int32} {Z : gwE} {x : Option Nat} {i K : Int} {z : St} {c : W0} {cells slots : Nat} (hB : Φ.2.1 = B) (hi : 0 ≤ i ∧ i + 4 ≤ (L : Int)) (h2048 : L ≤ 2048) (hc : cells + 20 ≤ 601024) (hs : slots + 100 ≤ 7293034) (hK : K ≤ 1000000) (hL : LI K z) (hC : CI 0 z c) (hM : MI 105 z c) (k : LK Φ hb M b L xs Z B x i K cells slots) : G Φ mL_law (E9 Z b L xs B) x cells slots 2424 (lvL M b i) [] (hp Φ hb M shA c) := by
  obtain ⟨v, z', h1, h2, h3⟩ := pr_bestNumerator hL
  obtain ⟨c1, e1, f1, g1⟩ := h1 c hC
  obtain ⟨c2, e2, f2, g2, -⟩ := h2 c1 (W_c f1 hM)
  refine gw_aload_n dL_law_2424 rfl rfl ?_
  refine gw_V0 okX8_bestNumerator dL_law_2425 kw_721 kw_722 kw_723 (hp_o shA_D.1) rfl ⟨Nat.le_of_ble_eq_true rfl, Nat.le_of_ble_eq_true rfl⟩ ⟨show cells + 0 ≤ 601024 by omega, show slots + 0 ≤ 7293034 by omega⟩ (Nat.le_of_ble_eq_true rfl) (w_X8_bestNumerator shA_D e1 ?_)
  refine gw_aload_n dL_law_2428 rfl rfl ?_
  refine gw_V0 okX9_bestNumerator dL_law_2429 kw_1861 kw_1862 kw_1863 (hp_o shA_M.1) rfl ⟨Nat.le_of_ble_eq_true rfl, Nat.le_of_ble_eq_true rfl⟩ ⟨show cells + 0 + 0 ≤ 601024 by omega, show slots + 0 + 0 ≤ 7293034 by omega⟩ (Nat.le_of_ble_eq_true rfl) (w_X9_bestNumerator shA_M e2 ?_)
  refine gw_lc_eq (tgt := 2881) dL_law_2432 rfl dL_law_2433 rfl (by decide) (fun _ => ?_) (fun q => absurd rfl q)
  exact k z' c2 _ _ _ h3 (W_m f2 g1) g2 (show cells + 0 + 0 ≤ cells + 20 by omega) (show slots + 0 + 0 ≤ slots + 100 by omega) (lvA_c rfl (lvA_c rfl (lvA_c rfl (lvA_c rfl (lvA_c rfl lvA_n)))))
set_option maxRecDepth 100000 in
set_option maxHeartbeats 4000000 in
theorem lc_54 {Φ : gwC} {hb : gwHp} {M b L B : Nat} {xs : Nat → Int32} {Z : gwE} {x : Option Nat} {i K : Int} {z : St} {c : W0} {cells slots : Nat} (hB : Φ.2.1 = B) (hi : 0 ≤ i ∧ i + 4 ≤ (L : Int)) (h2048 : L ≤ 2048) (hc : cells + 20 ≤ 601024) (hs : slots + 100 ≤ 7293034) (hK : K ≤ 1000000) (hL : LI K z) (hC : CI 0 z c) (hM : MI 105 z c) (k : LK Φ hb M b L xs Z B x i K cells slots) : G Φ mL_law (E9 Z b L xs B) x cells slots 2438 (lvL M b i) [] (hp Φ hb M shA c) := by
  obtain ⟨v, z', h1, h2, h3⟩ := pr_bestDenominator hL
  obtain ⟨c1, e1, f1, g1⟩ := h1 c hC
  obtain ⟨c2, e2, f2, g2, -⟩ := h2 c1 (W_c f1 hM)
  refine gw_aload_n dL_law_2438 rfl rfl ?_
  refine gw_V0 okX8_bestDenominator dL_law_2439 kw_725 kw_726 kw_727 (hp_o shA_D.1) rfl ⟨Nat.le_of_ble_eq_true rfl, Nat.le_of_ble_eq_true rfl⟩ ⟨show cells + 0 ≤ 601024 by omega, show slots + 0 ≤ 7293034 by omega⟩ (Nat.le_of_ble_eq_true rfl) (w_X8_bestDenominator shA_D e1 ?_)
  refine gw_aload_n dL_law_2442 rfl rfl ?_
  refine gw_V0 okX9_bestDenominator dL_law_2443 kw_1865 kw_1866 kw_1867 (hp_o shA_M.1) rfl ⟨Nat.le_of_ble_eq_true rfl, Nat.le_of_ble_eq_true rfl⟩ ⟨show cells + 0 + 0 ≤ 601024 by omega, show slots + 0 + 0 ≤ 7293034 by omega⟩ (Nat.le_of_ble_eq_true rfl) (w_X9_bestDenominator shA_M e2 ?_)
  refine gw_lc_eq (tgt := 2881) dL_law_2446 rfl dL_law_2447 rfl (by decide) (fun _ => ?_) (fun q => absurd rfl q)
  exact k z' c2 _ _ _ h3 (W_m f2 g1) g2 (show cells + 0 + 0 ≤ cells + 20 by omega) (show slots + 0 + 0 ≤ slots + 100 by omega) (lvA_c rfl (lvA_c rfl (lvA_c rfl (lvA_c rfl (lvA_c rfl lvA_n)))))
set_option maxRecDepth 100000 in
set_option maxHeartbeats 4000000 in
theorem lc_55 {Φ : gwC} {hb : gwHp} {M b L B : Nat} {xs : Nat → Int32} {Z : gwE} {x : Option Nat} {i K : Int} {z : St} {c : W0} {cells slots : Nat} (hB : Φ.2.1 = B) (hi : 0 ≤ i ∧ i + 4 ≤ (L : Int)) (h2048 : L ≤ 2048) (hc : cells + 20 ≤ 601024) (hs : slots + 100 ≤ 7293034) (hK : K ≤ 1000000) (hL : LI K z) (hC : CI 0 z c) (hM : MI 105 z c) (k : LK Φ hb M b L xs Z B x i K cells slots) : G Φ mL_law (E9 Z b L xs B) x cells slots 2452 (lvL M b i) [] (hp Φ hb M shA c) := by
  obtain ⟨e, v, t, z', h1, h2, h3, h4⟩ := pr_whyNoPivot hL (p := SA xs (i + 1)) (i32_r _) (q := SA xs (i + 2)) (i32_r _)
  obtain ⟨c1, e1, f1, g1⟩ := h1 c hC
  have hM1 := W_c f1 hM
  have hcs : (e = 0 ∧ t = 0) ∨ (e = 3 ∧ t = 1) := by simpa using h4
  have tail : ∀ c2, CI 0 z' c2 → MI 105 z c2 → (t = 0 → c2 120 0 = w32 v) → G Φ mL_law (E9 Z b L xs B) x (cells + 2) (slots + 12) 2469 (lvL M b i) [vI t] (hp Φ hb M shA c2) := by
    intro c2 hC2 hM2 ho
    obtain ⟨c3, e3, f3, g3, t3⟩ := h2 c2 hM2
    refine gw_istore dL_law_2469 rfl (by decide) ?_
    refine gw_aload_n dL_law_2471 rfl rfl ?_
    refine gw_aload_n dL_law_2472 rfl rfl ?_
    refine gw_iload dL_law_2473 rfl rfl ?_
    refine gw_iconstZ dL_law_2475 rfl ?_
    refine gw_iaddZ dL_law_2476 rfl ?_
    refine gl_sldZ hB ⟨by omega, by omega⟩ h2048 dL_law_2477 rfl ?_
    refine gw_aload_n dL_law_2478 rfl rfl ?_
    refine gw_iload dL_law_2479 rfl rfl ?_
    refine gw_iconstZ dL_law_2481 rfl ?_
    refine gw_iaddZ dL_law_2482 rfl ?_
    refine gl_sldZ hB ⟨by omega, by omega⟩ h2048 dL_law_2483 rfl ?_
    refine gw_V2 okX9_whyNoPivot dL_law_2484 kw_1869 kw_1870 kw_1871 (hp_o shA_M.1) rfl ⟨Nat.le_of_ble_eq_true rfl, Nat.le_of_ble_eq_true rfl⟩ ⟨show cells + 2 + 0 ≤ 601024 by omega, show slots + 12 + 0 ≤ 7293034 by omega⟩ (Nat.le_of_ble_eq_true rfl) (w_X9_whyNoPivot shA_M e3 ?_)
    refine gw_istore dL_law_2487 rfl (by decide) ?_
    refine gw_aload_n dL_law_2489 rfl rfl ?_
    refine gw_V0 okX9_thrown dL_law_2490 kw_1405 kw_1406 kw_1407 (hp_o shA_M.1) rfl ⟨Nat.le_of_ble_eq_true rfl, Nat.le_of_ble_eq_true rfl⟩ ⟨show cells + 2 + 0 + 0 ≤ 601024 by omega, show slots + 12 + 0 + 0 ≤ 7293034 by omega⟩ (Nat.le_of_ble_eq_true rfl) (w_X9_thrown shA_M (thr9 t3) ?_)
    refine gw_iload dL_law_2493 rfl rfl ?_
    refine gw_icmp_eq (tgt := 2500) dL_law_2495 rfl (by decide) (fun _ => ?_) (fun q => absurd rfl q)
    refine gw_iload dL_law_2500 rfl rfl ?_
    refine gw_if_neZ (tgt := 2517) dL_law_2502 rfl (by decide) ⟨by omega, by omega⟩ (fun q => ?_) (fun q => ?_)
    · refine gw_goto (tgt := 2881) dL_law_2517 (by decide) ?_
      exact k z' c3 _ _ _ h3 (W_m f3 hC2) g3 (show cells + 2 + 0 + 0 ≤ cells + 20 by omega) (show slots + 12 + 0 + 0 ≤ slots + 100 by omega) (lvA_c rfl (lvA_c rfl (lvA_c rfl (lvA_c rfl (lvA_c rfl lvA_n)))))
    · skip
      refine gw_aload_n dL_law_2505 rfl rfl ?_
      refine gw_iconstZ dL_law_2506 rfl ?_
      have hv : c3 120 0 = w32 v := by rw [f3 120 (Or.inr (by decide))]; exact ho q
      refine gs_laldE dL_law_2507 rfl shA_o (by decide) (by decide) hv ?_
      refine gw_iload dL_law_2508 rfl rfl ?_
      refine gw_i2lW dL_law_2510 rfl ?_
      refine gw_lc_eq (tgt := 2517) dL_law_2511 rfl dL_law_2512 rfl (by decide) (fun _ => ?_) (fun q => absurd rfl q)
      refine gw_goto (tgt := 2881) dL_law_2517 (by decide) ?_
      exact k z' c3 _ _ _ h3 (W_m f3 hC2) g3 (show cells + 2 + 0 + 0 ≤ cells + 20 by omega) (show slots + 12 + 0 + 0 ≤ slots + 100 by omega) (lvA_c rfl (lvA_c rfl (lvA_c rfl (lvA_c rfl (lvA_c rfl lvA_n)))))
  refine gw_aload_n dL_law_2452 rfl rfl ?_
  refine gw_aload_n dL_law_2453 rfl rfl ?_
  refine gw_iload dL_law_2454 rfl rfl ?_
  refine gw_iconstZ dL_law_2456 rfl ?_
  refine gw_iaddZ dL_law_2457 rfl ?_
  refine gl_sldZ hB ⟨by omega, by omega⟩ h2048 dL_law_2458 rfl ?_
  refine gw_aload_n dL_law_2459 rfl rfl ?_
  refine gw_iload dL_law_2460 rfl rfl ?_
  refine gw_iconstZ dL_law_2462 rfl ?_
  refine gw_iaddZ dL_law_2463 rfl ?_
  refine gl_sldZ hB ⟨by omega, by omega⟩ h2048 dL_law_2464 rfl ?_
  refine gw_aload_n dL_law_2465 rfl rfl ?_
  refine gw_SH4 okL_whyNoPivot dL_law_2466 kw_1265 kw_1266 ⟨Nat.le_of_ble_eq_true rfl, Nat.le_of_ble_eq_true rfl⟩ ⟨show cells + 2 ≤ 601024 by omega, show slots + 12 ≤ 7293034 by omega⟩ (Nat.le_of_ble_eq_true rfl) (v_whyNoPivot shA_D shA_o e1 hcs (fun e0 => ?_) (fun e0 => ?_))
  · have t0 : t = 0 := by omega
    have T := tail (upc c1 120 (updZ (c1 120) 0 (w32 v))) (W_o g1) (W_oM hM1) (fun _ => by rw [upc_s, updZ_s])
    rw [t0] at T
    exact T
  · exact tail c1 g1 hM1 (fun t0 => absurd t0 (by omega))
set_option maxRecDepth 100000 in
set_option maxHeartbeats 4000000 in
theorem lc_56 {Φ : gwC} {hb : gwHp} {M b L B : Nat} {xs : Nat → Int32} {Z : gwE} {x : Option Nat} {i K : Int} {z : St} {c : W0} {cells slots : Nat} (hB : Φ.2.1 = B) (hi : 0 ≤ i ∧ i + 4 ≤ (L : Int)) (h2048 : L ≤ 2048) (hc : cells + 20 ≤ 601024) (hs : slots + 100 ≤ 7293034) (hK : K ≤ 1000000) (hL : LI K z) (hC : CI 0 z c) (hM : MI 105 z c) (k : LK Φ hb M b L xs Z B x i K cells slots) : G Φ mL_law (E9 Z b L xs B) x cells slots 2520 (lvL M b i) [] (hp Φ hb M shA c) := by
  obtain ⟨e, v, t, z', h1, h2, h3, h4⟩ := pr_nextColumn hL
  obtain ⟨c1, e1, f1, g1⟩ := h1 c hC
  have hM1 := W_c f1 hM
  have hcs : (e = 0 ∧ t = 0) ∨ (e = 2 ∧ t = 1) := by simpa using h4
  have tail : ∀ c2, CI 0 z' c2 → MI 105 z c2 → (t = 0 → c2 120 0 = w32 v) → G Φ mL_law (E9 Z b L xs B) x (cells + 1) (slots + 6) 2525 (lvL M b i) [vI t] (hp Φ hb M shA c2) := by
    intro c2 hC2 hM2 ho
    obtain ⟨c3, e3, f3, g3, t3⟩ := h2 c2 hM2
    refine gw_istore dL_law_2525 rfl (by decide) ?_
    refine gw_aload_n dL_law_2527 rfl rfl ?_
    refine gw_V0 okX9_nextColumn dL_law_2528 kw_1873 kw_1874 kw_1875 (hp_o shA_M.1) rfl ⟨Nat.le_of_ble_eq_true rfl, Nat.le_of_ble_eq_true rfl⟩ ⟨show cells + 1 + 0 ≤ 601024 by omega, show slots + 6 + 0 ≤ 7293034 by omega⟩ (Nat.le_of_ble_eq_true rfl) (w_X9_nextColumn shA_M e3 ?_)
    refine gw_istore dL_law_2531 rfl (by decide) ?_
    refine gw_aload_n dL_law_2533 rfl rfl ?_
    refine gw_V0 okX9_thrown dL_law_2534 kw_1405 kw_1406 kw_1407 (hp_o shA_M.1) rfl ⟨Nat.le_of_ble_eq_true rfl, Nat.le_of_ble_eq_true rfl⟩ ⟨show cells + 1 + 0 + 0 ≤ 601024 by omega, show slots + 6 + 0 + 0 ≤ 7293034 by omega⟩ (Nat.le_of_ble_eq_true rfl) (w_X9_thrown shA_M (thr9 t3) ?_)
    refine gw_iload dL_law_2537 rfl rfl ?_
    refine gw_icmp_eq (tgt := 2544) dL_law_2539 rfl (by decide) (fun _ => ?_) (fun q => absurd rfl q)
    refine gw_iload dL_law_2544 rfl rfl ?_
    refine gw_if_neZ (tgt := 2561) dL_law_2546 rfl (by decide) ⟨by omega, by omega⟩ (fun q => ?_) (fun q => ?_)
    · refine gw_goto (tgt := 2881) dL_law_2561 (by decide) ?_
      exact k z' c3 _ _ _ h3 (W_m f3 hC2) g3 (show cells + 1 + 0 + 0 ≤ cells + 20 by omega) (show slots + 6 + 0 + 0 ≤ slots + 100 by omega) (lvA_c rfl (lvA_c rfl (lvA_c rfl (lvA_c rfl (lvA_c rfl lvA_n)))))
    · skip
      refine gw_aload_n dL_law_2549 rfl rfl ?_
      refine gw_iconstZ dL_law_2550 rfl ?_
      have hv : c3 120 0 = w32 v := by rw [f3 120 (Or.inr (by decide))]; exact ho q
      refine gs_laldE dL_law_2551 rfl shA_o (by decide) (by decide) hv ?_
      refine gw_iload dL_law_2552 rfl rfl ?_
      refine gw_i2lW dL_law_2554 rfl ?_
      refine gw_lc_eq (tgt := 2561) dL_law_2555 rfl dL_law_2556 rfl (by decide) (fun _ => ?_) (fun q => absurd rfl q)
      refine gw_goto (tgt := 2881) dL_law_2561 (by decide) ?_
      exact k z' c3 _ _ _ h3 (W_m f3 hC2) g3 (show cells + 1 + 0 + 0 ≤ cells + 20 by omega) (show slots + 6 + 0 + 0 ≤ slots + 100 by omega) (lvA_c rfl (lvA_c rfl (lvA_c rfl (lvA_c rfl (lvA_c rfl lvA_n)))))
  refine gw_aload_n dL_law_2520 rfl rfl ?_
  refine gw_aload_n dL_law_2521 rfl rfl ?_
  refine gw_SH2 okL_nextColumn dL_law_2522 kw_1272 kw_1273 ⟨Nat.le_of_ble_eq_true rfl, Nat.le_of_ble_eq_true rfl⟩ ⟨show cells + 1 ≤ 601024 by omega, show slots + 6 ≤ 7293034 by omega⟩ (Nat.le_of_ble_eq_true rfl) (v_nextColumn shA_D shA_o e1 hcs (fun e0 => ?_) (fun e0 => ?_))
  · have t0 : t = 0 := by omega
    have T := tail (upc c1 120 (updZ (c1 120) 0 (w32 v))) (W_o g1) (W_oM hM1) (fun _ => by rw [upc_s, updZ_s])
    rw [t0] at T
    exact T
  · exact tail c1 g1 hM1 (fun t0 => absurd t0 (by omega))
set_option maxRecDepth 100000 in
set_option maxHeartbeats 4000000 in
theorem lc_57 {Φ : gwC} {hb : gwHp} {M b L B : Nat} {xs : Nat → Int32} {Z : gwE} {x : Option Nat} {i K : Int} {z : St} {c : W0} {cells slots : Nat} (hB : Φ.2.1 = B) (hi : 0 ≤ i ∧ i + 4 ≤ (L : Int)) (h2048 : L ≤ 2048) (hc : cells + 20 ≤ 601024) (hs : slots + 100 ≤ 7293034) (hK : K ≤ 1000000) (hL : LI K z) (hC : CI 0 z c) (hM : MI 105 z c) (k : LK Φ hb M b L xs Z B x i K cells slots) : G Φ mL_law (E9 Z b L xs B) x cells slots 2564 (lvL M b i) [] (hp Φ hb M shA c) := by
  obtain ⟨e, v, t, z', h1, h2, h3, h4⟩ := pr_nextRow hL
  obtain ⟨c1, e1, f1, g1⟩ := h1 c hC
  have hM1 := W_c f1 hM
  have hcs : (e = 0 ∧ t = 0) ∨ (e = 2 ∧ t = 1) := by simpa using h4
  have tail : ∀ c2, CI 0 z' c2 → MI 105 z c2 → (t = 0 → c2 120 0 = w32 v) → G Φ mL_law (E9 Z b L xs B) x (cells + 1) (slots + 6) 2569 (lvL M b i) [vI t] (hp Φ hb M shA c2) := by
    intro c2 hC2 hM2 ho
    obtain ⟨c3, e3, f3, g3, t3⟩ := h2 c2 hM2
    refine gw_istore dL_law_2569 rfl (by decide) ?_
    refine gw_aload_n dL_law_2571 rfl rfl ?_
    refine gw_V0 okX9_nextRow dL_law_2572 kw_1877 kw_1878 kw_1879 (hp_o shA_M.1) rfl ⟨Nat.le_of_ble_eq_true rfl, Nat.le_of_ble_eq_true rfl⟩ ⟨show cells + 1 + 0 ≤ 601024 by omega, show slots + 6 + 0 ≤ 7293034 by omega⟩ (Nat.le_of_ble_eq_true rfl) (w_X9_nextRow shA_M e3 ?_)
    refine gw_istore dL_law_2575 rfl (by decide) ?_
    refine gw_aload_n dL_law_2577 rfl rfl ?_
    refine gw_V0 okX9_thrown dL_law_2578 kw_1405 kw_1406 kw_1407 (hp_o shA_M.1) rfl ⟨Nat.le_of_ble_eq_true rfl, Nat.le_of_ble_eq_true rfl⟩ ⟨show cells + 1 + 0 + 0 ≤ 601024 by omega, show slots + 6 + 0 + 0 ≤ 7293034 by omega⟩ (Nat.le_of_ble_eq_true rfl) (w_X9_thrown shA_M (thr9 t3) ?_)
    refine gw_iload dL_law_2581 rfl rfl ?_
    refine gw_icmp_eq (tgt := 2588) dL_law_2583 rfl (by decide) (fun _ => ?_) (fun q => absurd rfl q)
    refine gw_iload dL_law_2588 rfl rfl ?_
    refine gw_if_neZ (tgt := 2605) dL_law_2590 rfl (by decide) ⟨by omega, by omega⟩ (fun q => ?_) (fun q => ?_)
    · refine gw_goto (tgt := 2881) dL_law_2605 (by decide) ?_
      exact k z' c3 _ _ _ h3 (W_m f3 hC2) g3 (show cells + 1 + 0 + 0 ≤ cells + 20 by omega) (show slots + 6 + 0 + 0 ≤ slots + 100 by omega) (lvA_c rfl (lvA_c rfl (lvA_c rfl (lvA_c rfl (lvA_c rfl lvA_n)))))
    · skip
      refine gw_aload_n dL_law_2593 rfl rfl ?_
      refine gw_iconstZ dL_law_2594 rfl ?_
      have hv : c3 120 0 = w32 v := by rw [f3 120 (Or.inr (by decide))]; exact ho q
      refine gs_laldE dL_law_2595 rfl shA_o (by decide) (by decide) hv ?_
      refine gw_iload dL_law_2596 rfl rfl ?_
      refine gw_i2lW dL_law_2598 rfl ?_
      refine gw_lc_eq (tgt := 2605) dL_law_2599 rfl dL_law_2600 rfl (by decide) (fun _ => ?_) (fun q => absurd rfl q)
      refine gw_goto (tgt := 2881) dL_law_2605 (by decide) ?_
      exact k z' c3 _ _ _ h3 (W_m f3 hC2) g3 (show cells + 1 + 0 + 0 ≤ cells + 20 by omega) (show slots + 6 + 0 + 0 ≤ slots + 100 by omega) (lvA_c rfl (lvA_c rfl (lvA_c rfl (lvA_c rfl (lvA_c rfl lvA_n)))))
  refine gw_aload_n dL_law_2564 rfl rfl ?_
  refine gw_aload_n dL_law_2565 rfl rfl ?_
  refine gw_SH2 okL_nextRow dL_law_2566 kw_1279 kw_1280 ⟨Nat.le_of_ble_eq_true rfl, Nat.le_of_ble_eq_true rfl⟩ ⟨show cells + 1 ≤ 601024 by omega, show slots + 6 ≤ 7293034 by omega⟩ (Nat.le_of_ble_eq_true rfl) (v_nextRow shA_D shA_o e1 hcs (fun e0 => ?_) (fun e0 => ?_))
  · have t0 : t = 0 := by omega
    have T := tail (upc c1 120 (updZ (c1 120) 0 (w32 v))) (W_o g1) (W_oM hM1) (fun _ => by rw [upc_s, updZ_s])
    rw [t0] at T
    exact T
  · exact tail c1 g1 hM1 (fun t0 => absurd t0 (by omega))
set_option maxRecDepth 100000 in
set_option maxHeartbeats 4000000 in
theorem lc_58 {Φ : gwC} {hb : gwHp} {M b L B : Nat} {xs : Nat → Int32} {Z : gwE} {x : Option Nat} {i K : Int} {z : St} {c : W0} {cells slots : Nat} (hB : Φ.2.1 = B) (hi : 0 ≤ i ∧ i + 4 ≤ (L : Int)) (h2048 : L ≤ 2048) (hc : cells + 20 ≤ 601024) (hs : slots + 100 ≤ 7293034) (hK : K ≤ 1000000) (hL : LI K z) (hC : CI 0 z c) (hM : MI 105 z c) (k : LK Φ hb M b L xs Z B x i K cells slots) : G Φ mL_law (E9 Z b L xs B) x cells slots 2608 (lvL M b i) [] (hp Φ hb M shA c) := by
  obtain ⟨v, z', h1, h2, h3⟩ := pr_pivotsLeft hL
  obtain ⟨c1, e1, f1, g1⟩ := h1 c hC
  obtain ⟨c2, e2, f2, g2, -⟩ := h2 c1 (W_c f1 hM)
  refine gw_aload_n dL_law_2608 rfl rfl ?_
  refine gw_V0 okX8_pivotsLeft dL_law_2609 kw_729 kw_730 kw_731 (hp_o shA_D.1) rfl ⟨Nat.le_of_ble_eq_true rfl, Nat.le_of_ble_eq_true rfl⟩ ⟨show cells + 0 ≤ 601024 by omega, show slots + 0 ≤ 7293034 by omega⟩ (Nat.le_of_ble_eq_true rfl) (w_X8_pivotsLeft shA_D e1 ?_)
  refine gw_aload_n dL_law_2612 rfl rfl ?_
  refine gw_V0 okX9_pivotsLeft dL_law_2613 kw_1881 kw_1882 kw_1883 (hp_o shA_M.1) rfl ⟨Nat.le_of_ble_eq_true rfl, Nat.le_of_ble_eq_true rfl⟩ ⟨show cells + 0 + 0 ≤ 601024 by omega, show slots + 0 + 0 ≤ 7293034 by omega⟩ (Nat.le_of_ble_eq_true rfl) (w_X9_pivotsLeft shA_M e2 ?_)
  refine gw_icmp_eq (tgt := 2881) dL_law_2616 rfl (by decide) (fun _ => ?_) (fun q => absurd rfl q)
  exact k z' c2 _ _ _ h3 (W_m f2 g1) g2 (show cells + 0 + 0 ≤ cells + 20 by omega) (show slots + 0 + 0 ≤ slots + 100 by omega) (lvA_c rfl (lvA_c rfl (lvA_c rfl (lvA_c rfl (lvA_c rfl lvA_n)))))
set_option maxRecDepth 100000 in
set_option maxHeartbeats 4000000 in
theorem lc_59 {Φ : gwC} {hb : gwHp} {M b L B : Nat} {xs : Nat → Int32} {Z : gwE} {x : Option Nat} {i K : Int} {z : St} {c : W0} {cells slots : Nat} (hB : Φ.2.1 = B) (hi : 0 ≤ i ∧ i + 4 ≤ (L : Int)) (h2048 : L ≤ 2048) (hc : cells + 20 ≤ 601024) (hs : slots + 100 ≤ 7293034) (hK : K ≤ 1000000) (hL : LI K z) (hC : CI 0 z c) (hM : MI 105 z c) (k : LK Φ hb M b L xs Z B x i K cells slots) : G Φ mL_law (E9 Z b L xs B) x cells slots 2621 (lvL M b i) [] (hp Φ hb M shA c) := by
  obtain ⟨e, v, t, z', h1, h2, h3, h4⟩ := pr_leastBound hL (p := SA xs (i + 1)) (i32_r _)
  obtain ⟨c1, e1, f1, g1⟩ := h1 c hC
  have hM1 := W_c f1 hM
  have hcs : (e = 0 ∧ t = 0) ∨ (e = 3 ∧ t = 1) := by simpa using h4
  have tail : ∀ c2, CI 0 z' c2 → MI 105 z c2 → (t = 0 → c2 120 0 = w32 v) → G Φ mL_law (E9 Z b L xs B) x (cells + 1) (slots + 6) 2632 (lvL M b i) [vI t] (hp Φ hb M shA c2) := by
    intro c2 hC2 hM2 ho
    obtain ⟨c3, e3, f3, g3, t3⟩ := h2 c2 hM2
    refine gw_istore dL_law_2632 rfl (by decide) ?_
    refine gw_aload_n dL_law_2634 rfl rfl ?_
    refine gw_aload_n dL_law_2635 rfl rfl ?_
    refine gw_iload dL_law_2636 rfl rfl ?_
    refine gw_iconstZ dL_law_2638 rfl ?_
    refine gw_iaddZ dL_law_2639 rfl ?_
    refine gl_sldZ hB ⟨by omega, by omega⟩ h2048 dL_law_2640 rfl ?_
    refine gw_V1 okX9_leastBound dL_law_2641 kw_1897 kw_1898 kw_1899 (hp_o shA_M.1) rfl ⟨Nat.le_of_ble_eq_true rfl, Nat.le_of_ble_eq_true rfl⟩ ⟨show cells + 1 + 0 ≤ 601024 by omega, show slots + 6 + 0 ≤ 7293034 by omega⟩ (Nat.le_of_ble_eq_true rfl) (w_X9_leastBound shA_M e3 ?_)
    refine gw_istore dL_law_2644 rfl (by decide) ?_
    refine gw_aload_n dL_law_2646 rfl rfl ?_
    refine gw_V0 okX9_thrown dL_law_2647 kw_1405 kw_1406 kw_1407 (hp_o shA_M.1) rfl ⟨Nat.le_of_ble_eq_true rfl, Nat.le_of_ble_eq_true rfl⟩ ⟨show cells + 1 + 0 + 0 ≤ 601024 by omega, show slots + 6 + 0 + 0 ≤ 7293034 by omega⟩ (Nat.le_of_ble_eq_true rfl) (w_X9_thrown shA_M (thr9 t3) ?_)
    refine gw_iload dL_law_2650 rfl rfl ?_
    refine gw_icmp_eq (tgt := 2657) dL_law_2652 rfl (by decide) (fun _ => ?_) (fun q => absurd rfl q)
    refine gw_iload dL_law_2657 rfl rfl ?_
    refine gw_if_neZ (tgt := 2674) dL_law_2659 rfl (by decide) ⟨by omega, by omega⟩ (fun q => ?_) (fun q => ?_)
    · refine gw_goto (tgt := 2881) dL_law_2674 (by decide) ?_
      exact k z' c3 _ _ _ h3 (W_m f3 hC2) g3 (show cells + 1 + 0 + 0 ≤ cells + 20 by omega) (show slots + 6 + 0 + 0 ≤ slots + 100 by omega) (lvA_c rfl (lvA_c rfl (lvA_c rfl (lvA_c rfl (lvA_c rfl lvA_n)))))
    · skip
      refine gw_aload_n dL_law_2662 rfl rfl ?_
      refine gw_iconstZ dL_law_2663 rfl ?_
      have hv : c3 120 0 = w32 v := by rw [f3 120 (Or.inr (by decide))]; exact ho q
      refine gs_laldE dL_law_2664 rfl shA_o (by decide) (by decide) hv ?_
      refine gw_iload dL_law_2665 rfl rfl ?_
      refine gw_i2lW dL_law_2667 rfl ?_
      refine gw_lc_eq (tgt := 2674) dL_law_2668 rfl dL_law_2669 rfl (by decide) (fun _ => ?_) (fun q => absurd rfl q)
      refine gw_goto (tgt := 2881) dL_law_2674 (by decide) ?_
      exact k z' c3 _ _ _ h3 (W_m f3 hC2) g3 (show cells + 1 + 0 + 0 ≤ cells + 20 by omega) (show slots + 6 + 0 + 0 ≤ slots + 100 by omega) (lvA_c rfl (lvA_c rfl (lvA_c rfl (lvA_c rfl (lvA_c rfl lvA_n)))))
  refine gw_aload_n dL_law_2621 rfl rfl ?_
  refine gw_aload_n dL_law_2622 rfl rfl ?_
  refine gw_iload dL_law_2623 rfl rfl ?_
  refine gw_iconstZ dL_law_2625 rfl ?_
  refine gw_iaddZ dL_law_2626 rfl ?_
  refine gl_sldZ hB ⟨by omega, by omega⟩ h2048 dL_law_2627 rfl ?_
  refine gw_aload_n dL_law_2628 rfl rfl ?_
  refine gw_SH3 okL_leastBound dL_law_2629 kw_1286 kw_1287 ⟨Nat.le_of_ble_eq_true rfl, Nat.le_of_ble_eq_true rfl⟩ ⟨show cells + 1 ≤ 601024 by omega, show slots + 6 ≤ 7293034 by omega⟩ (Nat.le_of_ble_eq_true rfl) (v_leastBound shA_D shA_o e1 hcs (fun e0 => ?_) (fun e0 => ?_))
  · have t0 : t = 0 := by omega
    have T := tail (upc c1 120 (updZ (c1 120) 0 (w32 v))) (W_o g1) (W_oM hM1) (fun _ => by rw [upc_s, updZ_s])
    rw [t0] at T
    exact T
  · exact tail c1 g1 hM1 (fun t0 => absurd t0 (by omega))
set_option maxRecDepth 100000 in
set_option maxHeartbeats 4000000 in
theorem lc_60 {Φ : gwC} {hb : gwHp} {M b L B : Nat} {xs : Nat → Int32} {Z : gwE} {x : Option Nat} {i K : Int} {z : St} {c : W0} {cells slots : Nat} (hB : Φ.2.1 = B) (hi : 0 ≤ i ∧ i + 4 ≤ (L : Int)) (h2048 : L ≤ 2048) (hc : cells + 20 ≤ 601024) (hs : slots + 100 ≤ 7293034) (hK : K ≤ 1000000) (hL : LI K z) (hC : CI 0 z c) (hM : MI 105 z c) (k : LK Φ hb M b L xs Z B x i K cells slots) : G Φ mL_law (E9 Z b L xs B) x cells slots 2677 (lvL M b i) [] (hp Φ hb M shA c) := by
  obtain ⟨e, v, t, z', h1, h2, h3, h4⟩ := pr_greatestBound hL (p := SA xs (i + 1)) (i32_r _)
  obtain ⟨c1, e1, f1, g1⟩ := h1 c hC
  have hM1 := W_c f1 hM
  have hcs : (e = 0 ∧ t = 0) ∨ (e = 3 ∧ t = 1) := by simpa using h4
  have tail : ∀ c2, CI 0 z' c2 → MI 105 z c2 → (t = 0 → c2 120 0 = w32 v) → G Φ mL_law (E9 Z b L xs B) x (cells + 1) (slots + 6) 2688 (lvL M b i) [vI t] (hp Φ hb M shA c2) := by
    intro c2 hC2 hM2 ho
    obtain ⟨c3, e3, f3, g3, t3⟩ := h2 c2 hM2
    refine gw_istore dL_law_2688 rfl (by decide) ?_
    refine gw_aload_n dL_law_2690 rfl rfl ?_
    refine gw_aload_n dL_law_2691 rfl rfl ?_
    refine gw_iload dL_law_2692 rfl rfl ?_
    refine gw_iconstZ dL_law_2694 rfl ?_
    refine gw_iaddZ dL_law_2695 rfl ?_
    refine gl_sldZ hB ⟨by omega, by omega⟩ h2048 dL_law_2696 rfl ?_
    refine gw_V1 okX9_greatestBound dL_law_2697 kw_1909 kw_1910 kw_1911 (hp_o shA_M.1) rfl ⟨Nat.le_of_ble_eq_true rfl, Nat.le_of_ble_eq_true rfl⟩ ⟨show cells + 1 + 0 ≤ 601024 by omega, show slots + 6 + 0 ≤ 7293034 by omega⟩ (Nat.le_of_ble_eq_true rfl) (w_X9_greatestBound shA_M e3 ?_)
    refine gw_istore dL_law_2700 rfl (by decide) ?_
    refine gw_aload_n dL_law_2702 rfl rfl ?_
    refine gw_V0 okX9_thrown dL_law_2703 kw_1405 kw_1406 kw_1407 (hp_o shA_M.1) rfl ⟨Nat.le_of_ble_eq_true rfl, Nat.le_of_ble_eq_true rfl⟩ ⟨show cells + 1 + 0 + 0 ≤ 601024 by omega, show slots + 6 + 0 + 0 ≤ 7293034 by omega⟩ (Nat.le_of_ble_eq_true rfl) (w_X9_thrown shA_M (thr9 t3) ?_)
    refine gw_iload dL_law_2706 rfl rfl ?_
    refine gw_icmp_eq (tgt := 2713) dL_law_2708 rfl (by decide) (fun _ => ?_) (fun q => absurd rfl q)
    refine gw_iload dL_law_2713 rfl rfl ?_
    refine gw_if_neZ (tgt := 2730) dL_law_2715 rfl (by decide) ⟨by omega, by omega⟩ (fun q => ?_) (fun q => ?_)
    · refine gw_goto (tgt := 2881) dL_law_2730 (by decide) ?_
      exact k z' c3 _ _ _ h3 (W_m f3 hC2) g3 (show cells + 1 + 0 + 0 ≤ cells + 20 by omega) (show slots + 6 + 0 + 0 ≤ slots + 100 by omega) (lvA_c rfl (lvA_c rfl (lvA_c rfl (lvA_c rfl (lvA_c rfl lvA_n)))))
    · skip
      refine gw_aload_n dL_law_2718 rfl rfl ?_
      refine gw_iconstZ dL_law_2719 rfl ?_
      have hv : c3 120 0 = w32 v := by rw [f3 120 (Or.inr (by decide))]; exact ho q
      refine gs_laldE dL_law_2720 rfl shA_o (by decide) (by decide) hv ?_
      refine gw_iload dL_law_2721 rfl rfl ?_
      refine gw_i2lW dL_law_2723 rfl ?_
      refine gw_lc_eq (tgt := 2730) dL_law_2724 rfl dL_law_2725 rfl (by decide) (fun _ => ?_) (fun q => absurd rfl q)
      refine gw_goto (tgt := 2881) dL_law_2730 (by decide) ?_
      exact k z' c3 _ _ _ h3 (W_m f3 hC2) g3 (show cells + 1 + 0 + 0 ≤ cells + 20 by omega) (show slots + 6 + 0 + 0 ≤ slots + 100 by omega) (lvA_c rfl (lvA_c rfl (lvA_c rfl (lvA_c rfl (lvA_c rfl lvA_n)))))
  refine gw_aload_n dL_law_2677 rfl rfl ?_
  refine gw_aload_n dL_law_2678 rfl rfl ?_
  refine gw_iload dL_law_2679 rfl rfl ?_
  refine gw_iconstZ dL_law_2681 rfl ?_
  refine gw_iaddZ dL_law_2682 rfl ?_
  refine gl_sldZ hB ⟨by omega, by omega⟩ h2048 dL_law_2683 rfl ?_
  refine gw_aload_n dL_law_2684 rfl rfl ?_
  refine gw_SH3 okL_greatestBound dL_law_2685 kw_1290 kw_1291 ⟨Nat.le_of_ble_eq_true rfl, Nat.le_of_ble_eq_true rfl⟩ ⟨show cells + 1 ≤ 601024 by omega, show slots + 6 ≤ 7293034 by omega⟩ (Nat.le_of_ble_eq_true rfl) (v_greatestBound shA_D shA_o e1 hcs (fun e0 => ?_) (fun e0 => ?_))
  · have t0 : t = 0 := by omega
    have T := tail (upc c1 120 (updZ (c1 120) 0 (w32 v))) (W_o g1) (W_oM hM1) (fun _ => by rw [upc_s, updZ_s])
    rw [t0] at T
    exact T
  · exact tail c1 g1 hM1 (fun t0 => absurd t0 (by omega))
set_option maxRecDepth 100000 in
set_option maxHeartbeats 4000000 in
theorem lc_61 {Φ : gwC} {hb : gwHp} {M b L B : Nat} {xs : Nat → Int32} {Z : gwE} {x : Option Nat} {i K : Int} {z : St} {c : W0} {cells slots : Nat} (hB : Φ.2.1 = B) (hi : 0 ≤ i ∧ i + 4 ≤ (L : Int)) (h2048 : L ≤ 2048) (hc : cells + 20 ≤ 601024) (hs : slots + 100 ≤ 7293034) (hK : K ≤ 1000000) (hL : LI K z) (hC : CI 0 z c) (hM : MI 105 z c) (k : LK Φ hb M b L xs Z B x i K cells slots) : G Φ mL_law (E9 Z b L xs B) x cells slots 2733 (lvL M b i) [] (hp Φ hb M shA c) := by
  obtain ⟨e, v, t, z', h1, h2, h3, h4⟩ := pr_solvedNumerator hL (p := SA xs (i + 1)) (i32_r _) (q := SA xs (i + 2)) (i32_r _)
  obtain ⟨c1, e1, f1, g1⟩ := h1 c hC
  have hM1 := W_c f1 hM
  have hcs : (e = 0 ∧ t = 0) ∨ (e = 3 ∧ t = 1) ∨ (e = 1 ∧ t = 2) ∨ (e = 2 ∧ t = 3) := by simpa using h4
  have tail : ∀ c2, CI 0 z' c2 → MI 105 z c2 → (t = 0 → c2 120 0 = v) → G Φ mL_law (E9 Z b L xs B) x (cells + 3) (slots + 18) 2750 (lvL M b i) [vI t] (hp Φ hb M shA c2) := by
    intro c2 hC2 hM2 ho
    obtain ⟨c3, e3, f3, g3, t3⟩ := h2 c2 hM2
    refine gw_istore dL_law_2750 rfl (by decide) ?_
    refine gw_aload_n dL_law_2752 rfl rfl ?_
    refine gw_aload_n dL_law_2753 rfl rfl ?_
    refine gw_iload dL_law_2754 rfl rfl ?_
    refine gw_iconstZ dL_law_2756 rfl ?_
    refine gw_iaddZ dL_law_2757 rfl ?_
    refine gl_sldZ hB ⟨by omega, by omega⟩ h2048 dL_law_2758 rfl ?_
    refine gw_aload_n dL_law_2759 rfl rfl ?_
    refine gw_iload dL_law_2760 rfl rfl ?_
    refine gw_iconstZ dL_law_2762 rfl ?_
    refine gw_iaddZ dL_law_2763 rfl ?_
    refine gl_sldZ hB ⟨by omega, by omega⟩ h2048 dL_law_2764 rfl ?_
    refine gw_V2 okX9_solvedNumerator dL_law_2765 kw_1913 kw_1914 kw_1915 (hp_o shA_M.1) rfl ⟨Nat.le_of_ble_eq_true rfl, Nat.le_of_ble_eq_true rfl⟩ ⟨show cells + 3 + 0 ≤ 601024 by omega, show slots + 18 + 0 ≤ 7293034 by omega⟩ (Nat.le_of_ble_eq_true rfl) (w_X9_solvedNumerator shA_M e3 ?_)
    refine gw_lstore dL_law_2768 rfl (by decide) ?_
    refine gw_aload_n dL_law_2770 rfl rfl ?_
    refine gw_V0 okX9_thrown dL_law_2771 kw_1405 kw_1406 kw_1407 (hp_o shA_M.1) rfl ⟨Nat.le_of_ble_eq_true rfl, Nat.le_of_ble_eq_true rfl⟩ ⟨show cells + 3 + 0 + 0 ≤ 601024 by omega, show slots + 18 + 0 + 0 ≤ 7293034 by omega⟩ (Nat.le_of_ble_eq_true rfl) (w_X9_thrown shA_M (thr9 t3) ?_)
    refine gw_iload dL_law_2774 rfl rfl ?_
    refine gw_icmp_eq (tgt := 2781) dL_law_2776 rfl (by decide) (fun _ => ?_) (fun q => absurd rfl q)
    refine gw_iload dL_law_2781 rfl rfl ?_
    refine gw_if_neZ (tgt := 2797) dL_law_2783 rfl (by decide) ⟨by omega, by omega⟩ (fun q => ?_) (fun q => ?_)
    · refine gw_goto (tgt := 2881) dL_law_2797 (by decide) ?_
      exact k z' c3 _ _ _ h3 (W_m f3 hC2) g3 (show cells + 3 + 0 + 0 ≤ cells + 20 by omega) (show slots + 18 + 0 + 0 ≤ slots + 100 by omega) (lvA_c rfl (lvA_c rfl (lvA_c rfl (lvA_c rfl (lvA_c rfl lvA_n)))))
    · skip
      refine gw_aload_n dL_law_2786 rfl rfl ?_
      refine gw_iconstZ dL_law_2787 rfl ?_
      have hv : c3 120 0 = v := by rw [f3 120 (Or.inr (by decide))]; exact ho q
      refine gs_laldE dL_law_2788 rfl shA_o (by decide) (by decide) hv ?_
      refine gw_lload dL_law_2789 rfl rfl ?_
      refine gw_lc_eq (tgt := 2797) dL_law_2791 rfl dL_law_2792 rfl (by decide) (fun _ => ?_) (fun q => absurd rfl q)
      refine gw_goto (tgt := 2881) dL_law_2797 (by decide) ?_
      exact k z' c3 _ _ _ h3 (W_m f3 hC2) g3 (show cells + 3 + 0 + 0 ≤ cells + 20 by omega) (show slots + 18 + 0 + 0 ≤ slots + 100 by omega) (lvA_c rfl (lvA_c rfl (lvA_c rfl (lvA_c rfl (lvA_c rfl lvA_n)))))
  refine gw_aload_n dL_law_2733 rfl rfl ?_
  refine gw_aload_n dL_law_2734 rfl rfl ?_
  refine gw_iload dL_law_2735 rfl rfl ?_
  refine gw_iconstZ dL_law_2737 rfl ?_
  refine gw_iaddZ dL_law_2738 rfl ?_
  refine gl_sldZ hB ⟨by omega, by omega⟩ h2048 dL_law_2739 rfl ?_
  refine gw_aload_n dL_law_2740 rfl rfl ?_
  refine gw_iload dL_law_2741 rfl rfl ?_
  refine gw_iconstZ dL_law_2743 rfl ?_
  refine gw_iaddZ dL_law_2744 rfl ?_
  refine gl_sldZ hB ⟨by omega, by omega⟩ h2048 dL_law_2745 rfl ?_
  refine gw_aload_n dL_law_2746 rfl rfl ?_
  refine gw_SH4 okL_solvedNumerator dL_law_2747 kw_1294 kw_1295 ⟨Nat.le_of_ble_eq_true rfl, Nat.le_of_ble_eq_true rfl⟩ ⟨show cells + 3 ≤ 601024 by omega, show slots + 18 ≤ 7293034 by omega⟩ (Nat.le_of_ble_eq_true rfl) (v_solvedNumerator shA_D shA_o e1 hcs (fun e0 => ?_) (fun e0 => ?_))
  · have t0 : t = 0 := by omega
    have T := tail (upc c1 120 (updZ (c1 120) 0 (v))) (W_o g1) (W_oM hM1) (fun _ => by rw [upc_s, updZ_s])
    rw [t0] at T
    exact T
  · exact tail c1 g1 hM1 (fun t0 => absurd t0 (by omega))
set_option maxRecDepth 100000 in
set_option maxHeartbeats 4000000 in
theorem lc_62 {Φ : gwC} {hb : gwHp} {M b L B : Nat} {xs : Nat → Int32} {Z : gwE} {x : Option Nat} {i K : Int} {z : St} {c : W0} {cells slots : Nat} (hB : Φ.2.1 = B) (hi : 0 ≤ i ∧ i + 4 ≤ (L : Int)) (h2048 : L ≤ 2048) (hc : cells + 20 ≤ 601024) (hs : slots + 100 ≤ 7293034) (hK : K ≤ 1000000) (hL : LI K z) (hC : CI 0 z c) (hM : MI 105 z c) (k : LK Φ hb M b L xs Z B x i K cells slots) : G Φ mL_law (E9 Z b L xs B) x cells slots 2800 (lvL M b i) [] (hp Φ hb M shA c) := by
  obtain ⟨e, v, t, z', h1, h2, h3, h4⟩ := pr_solvedDenominator hL (p := SA xs (i + 1)) (i32_r _) (q := SA xs (i + 2)) (i32_r _)
  obtain ⟨c1, e1, f1, g1⟩ := h1 c hC
  have hM1 := W_c f1 hM
  have hcs : (e = 0 ∧ t = 0) ∨ (e = 3 ∧ t = 1) ∨ (e = 1 ∧ t = 2) ∨ (e = 2 ∧ t = 3) := by simpa using h4
  have tail : ∀ c2, CI 0 z' c2 → MI 105 z c2 → (t = 0 → c2 120 0 = v) → G Φ mL_law (E9 Z b L xs B) x (cells + 3) (slots + 18) 2817 (lvL M b i) [vI t] (hp Φ hb M shA c2) := by
    intro c2 hC2 hM2 ho
    obtain ⟨c3, e3, f3, g3, t3⟩ := h2 c2 hM2
    refine gw_istore dL_law_2817 rfl (by decide) ?_
    refine gw_aload_n dL_law_2819 rfl rfl ?_
    refine gw_aload_n dL_law_2820 rfl rfl ?_
    refine gw_iload dL_law_2821 rfl rfl ?_
    refine gw_iconstZ dL_law_2823 rfl ?_
    refine gw_iaddZ dL_law_2824 rfl ?_
    refine gl_sldZ hB ⟨by omega, by omega⟩ h2048 dL_law_2825 rfl ?_
    refine gw_aload_n dL_law_2826 rfl rfl ?_
    refine gw_iload dL_law_2827 rfl rfl ?_
    refine gw_iconstZ dL_law_2829 rfl ?_
    refine gw_iaddZ dL_law_2830 rfl ?_
    refine gl_sldZ hB ⟨by omega, by omega⟩ h2048 dL_law_2831 rfl ?_
    refine gw_V2 okX9_solvedDenominator dL_law_2832 kw_1921 kw_1922 kw_1923 (hp_o shA_M.1) rfl ⟨Nat.le_of_ble_eq_true rfl, Nat.le_of_ble_eq_true rfl⟩ ⟨show cells + 3 + 0 ≤ 601024 by omega, show slots + 18 + 0 ≤ 7293034 by omega⟩ (Nat.le_of_ble_eq_true rfl) (w_X9_solvedDenominator shA_M e3 ?_)
    refine gw_lstore dL_law_2835 rfl (by decide) ?_
    refine gw_aload_n dL_law_2837 rfl rfl ?_
    refine gw_V0 okX9_thrown dL_law_2838 kw_1405 kw_1406 kw_1407 (hp_o shA_M.1) rfl ⟨Nat.le_of_ble_eq_true rfl, Nat.le_of_ble_eq_true rfl⟩ ⟨show cells + 3 + 0 + 0 ≤ 601024 by omega, show slots + 18 + 0 + 0 ≤ 7293034 by omega⟩ (Nat.le_of_ble_eq_true rfl) (w_X9_thrown shA_M (thr9 t3) ?_)
    refine gw_iload dL_law_2841 rfl rfl ?_
    refine gw_icmp_eq (tgt := 2848) dL_law_2843 rfl (by decide) (fun _ => ?_) (fun q => absurd rfl q)
    refine gw_iload dL_law_2848 rfl rfl ?_
    refine gw_if_neZ (tgt := 2864) dL_law_2850 rfl (by decide) ⟨by omega, by omega⟩ (fun q => ?_) (fun q => ?_)
    · refine gw_goto (tgt := 2881) dL_law_2864 (by decide) ?_
      exact k z' c3 _ _ _ h3 (W_m f3 hC2) g3 (show cells + 3 + 0 + 0 ≤ cells + 20 by omega) (show slots + 18 + 0 + 0 ≤ slots + 100 by omega) (lvA_c rfl (lvA_c rfl (lvA_c rfl (lvA_c rfl (lvA_c rfl lvA_n)))))
    · skip
      refine gw_aload_n dL_law_2853 rfl rfl ?_
      refine gw_iconstZ dL_law_2854 rfl ?_
      have hv : c3 120 0 = v := by rw [f3 120 (Or.inr (by decide))]; exact ho q
      refine gs_laldE dL_law_2855 rfl shA_o (by decide) (by decide) hv ?_
      refine gw_lload dL_law_2856 rfl rfl ?_
      refine gw_lc_eq (tgt := 2864) dL_law_2858 rfl dL_law_2859 rfl (by decide) (fun _ => ?_) (fun q => absurd rfl q)
      refine gw_goto (tgt := 2881) dL_law_2864 (by decide) ?_
      exact k z' c3 _ _ _ h3 (W_m f3 hC2) g3 (show cells + 3 + 0 + 0 ≤ cells + 20 by omega) (show slots + 18 + 0 + 0 ≤ slots + 100 by omega) (lvA_c rfl (lvA_c rfl (lvA_c rfl (lvA_c rfl (lvA_c rfl lvA_n)))))
  refine gw_aload_n dL_law_2800 rfl rfl ?_
  refine gw_aload_n dL_law_2801 rfl rfl ?_
  refine gw_iload dL_law_2802 rfl rfl ?_
  refine gw_iconstZ dL_law_2804 rfl ?_
  refine gw_iaddZ dL_law_2805 rfl ?_
  refine gl_sldZ hB ⟨by omega, by omega⟩ h2048 dL_law_2806 rfl ?_
  refine gw_aload_n dL_law_2807 rfl rfl ?_
  refine gw_iload dL_law_2808 rfl rfl ?_
  refine gw_iconstZ dL_law_2810 rfl ?_
  refine gw_iaddZ dL_law_2811 rfl ?_
  refine gl_sldZ hB ⟨by omega, by omega⟩ h2048 dL_law_2812 rfl ?_
  refine gw_aload_n dL_law_2813 rfl rfl ?_
  refine gw_SH4 okL_solvedDenominator dL_law_2814 kw_1306 kw_1307 ⟨Nat.le_of_ble_eq_true rfl, Nat.le_of_ble_eq_true rfl⟩ ⟨show cells + 3 ≤ 601024 by omega, show slots + 18 ≤ 7293034 by omega⟩ (Nat.le_of_ble_eq_true rfl) (v_solvedDenominator shA_D shA_o e1 hcs (fun e0 => ?_) (fun e0 => ?_))
  · have t0 : t = 0 := by omega
    have T := tail (upc c1 120 (updZ (c1 120) 0 (v))) (W_o g1) (W_oM hM1) (fun _ => by rw [upc_s, updZ_s])
    rw [t0] at T
    exact T
  · exact tail c1 g1 hM1 (fun t0 => absurd t0 (by omega))
set_option maxRecDepth 100000 in
set_option maxHeartbeats 4000000 in
theorem lc_63 {Φ : gwC} {hb : gwHp} {M b L B : Nat} {xs : Nat → Int32} {Z : gwE} {x : Option Nat} {i K : Int} {z : St} {c : W0} {cells slots : Nat} (hB : Φ.2.1 = B) (hi : 0 ≤ i ∧ i + 4 ≤ (L : Int)) (h2048 : L ≤ 2048) (hc : cells + 20 ≤ 601024) (hs : slots + 100 ≤ 7293034) (hK : K ≤ 1000000) (hL : LI K z) (hC : CI 0 z c) (hM : MI 105 z c) (k : LK Φ hb M b L xs Z B x i K cells slots) : G Φ mL_law (E9 Z b L xs B) x cells slots 2867 (lvL M b i) [] (hp Φ hb M shA c) := by
  obtain ⟨v, z', h1, h2, h3⟩ := pr_digest hL hK
  obtain ⟨c1, e1, f1, g1⟩ := h1 c hC
  obtain ⟨c2, e2, f2, g2, -⟩ := h2 c1 (W_c f1 hM)
  refine gw_aload_n dL_law_2867 rfl rfl ?_
  refine gw_V0 okX8_digest dL_law_2868 kw_733 kw_734 kw_735 (hp_o shA_D.1) rfl ⟨Nat.le_of_ble_eq_true rfl, Nat.le_of_ble_eq_true rfl⟩ ⟨show cells + 8 ≤ 601024 by omega, show slots + 48 ≤ 7293034 by omega⟩ (Nat.le_of_ble_eq_true rfl) (w_X8_digest shA_D e1 ?_)
  refine gw_aload_n dL_law_2871 rfl rfl ?_
  refine gw_V0 okX9_digest dL_law_2872 kw_1925 kw_1926 kw_1927 (hp_o shA_M.1) rfl ⟨Nat.le_of_ble_eq_true rfl, Nat.le_of_ble_eq_true rfl⟩ ⟨show cells + 8 + 0 ≤ 601024 by omega, show slots + 48 + 0 ≤ 7293034 by omega⟩ (Nat.le_of_ble_eq_true rfl) (w_X9_digest shA_M e2 ?_)
  refine gw_lc_eq (tgt := 2881) dL_law_2875 rfl dL_law_2876 rfl (by decide) (fun _ => ?_) (fun q => absurd rfl q)
  exact k z' c2 _ _ _ h3 (W_m f2 g1) g2 (show cells + 8 + 0 ≤ cells + 20 by omega) (show slots + 48 + 0 ≤ slots + 100 by omega) (lvA_c rfl (lvA_c rfl (lvA_c rfl (lvA_c rfl (lvA_c rfl lvA_n)))))
end CF
