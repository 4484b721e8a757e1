section NW
abbrev nL_act : gwY := (yL_act, cL_act, 8, (Option.some Jvm.ClassFile.FieldType.int), { frames := 10, cells := 16, slots := 96, locals := 215 }, [])
theorem oknL_act : gw_ok nL_act 3 := ⟨by decide +kernel, kw_368, kw_16, by decide +kernel, rfl⟩
set_option maxRecDepth 100000 in
set_option maxHeartbeats 4000000 in
theorem w_L_act {Φ : gwC} {hb : gwHp} {M : Nat} {sh : Nat → Option gSh} {p1 : Nat} {p2 : Int} {p3 : Nat} {c : W0} {r : Int × W0} {K : Option Value → gwHp → Prop} (h0 : sD sh p1) (h2 : sh p3 = some (1, 1, [])) (H : f_L_act p1 p2 p3 c = some r) (hK : K (some (vI r.1)) (hp Φ hb M sh r.2)) : gw_Con Φ nL_act none [.ref (M + p1), vI p2, .ref (M + p3)] (hp Φ hb M sh c) K := by
  unfold f_L_act at H
  refine gw_start oknL_act (Nat.le_of_ble_eq_true rfl) ?_
  refine gw_iload_n dL_act_0 rfl rfl ?_
  refine gw_iconstZ dL_act_1 rfl ?_
  refine gw_ishrZ dL_act_2 rfl ?_
  refine gw_istore_n dL_act_3 rfl (by decide) ?_
  refine gw_iload_n dL_act_4 rfl rfl ?_
  refine gw_bipushZ dL_act_5 rfl (by decide) ?_
  refine gw_ishrZ dL_act_7 rfl ?_
  refine gw_bipushZ dL_act_8 rfl (by decide) ?_
  obtain ⟨v1, e_v1, H⟩ := cv_i H
  refine gw_S2 oknL_low dL_act_10 kw_369 kw_370 ⟨by decide, by decide⟩ ⟨by decide, by decide⟩ (Nat.le_of_ble_eq_true rfl) (w_L_low  e_v1 ?_)
  obtain ⟨g, H⟩ := gd_i H
  obtain ⟨k2, e_k2, H⟩ := jn_i H
  have hJ_k2 : ∀ (v3 : Int), k2 v3 = some r → G Φ nL_act (gw_M Φ nL_act K) none 0 0 21 [(0, .ref (M + p1)), (1, vI p2), (2, .ref (M + p3)), (3, vI (ishrZ p2 5))] [vI v3] (hp Φ hb M sh c) := by
    intro v3 H
    subst e_k2
    refine gw_istore dL_act_21 rfl (by decide) ?_
    refine gw_iload_n dL_act_23 rfl rfl ?_
    refine gw_bipushZ dL_act_24 rfl (by decide) ?_
    obtain ⟨v4, e_v4, H⟩ := cv_i H
    refine gw_S2 oknL_low dL_act_26 kw_369 kw_370 ⟨by decide, by decide⟩ ⟨by decide, by decide⟩ (Nat.le_of_ble_eq_true rfl) (w_L_low  e_v4 ?_)
    refine gw_istore dL_act_29 rfl (by decide) ?_
    refine gw_iload_n dL_act_31 rfl rfl ?_
    refine gw_aload_n dL_act_32 rfl rfl ?_
    obtain ⟨v5, e_v5, H⟩ := cv_i H
    refine gw_V0 okX8_constraints dL_act_33 kw_373 kw_374 kw_375 (hp_o (h0.1)) rfl ⟨by decide, by decide⟩ ⟨by decide, by decide⟩ (Nat.le_of_ble_eq_true rfl) (w_X8_constraints (h0) e_v5 ?_)
    refine gw_iload dL_act_36 rfl rfl ?_
    obtain ⟨g, H⟩ := gd_i H
    obtain ⟨k6, e_k6, H⟩ := jn_i H
    have hJ_k6 : ∀ (u7 : Unit), k6 u7 = some r → G Φ nL_act (gw_M Φ nL_act K) none 0 0 52 [(0, .ref (M + p1)), (2, .ref (M + p3)), (3, vI (ishrZ p2 5)), (4, vI v3), (5, vI v4)] [vI v5, vI (ishrZ p2 5)] (hp Φ hb M sh c) := by
      intro u7 H
      subst e_k6
      refine gw_iconstZ dL_act_52 rfl ?_
      refine gw_iaddZ dL_act_53 rfl ?_
      obtain ⟨v8, e_v8, H⟩ := cv_i H
      refine gw_S2 oknL_low dL_act_54 kw_369 kw_370 ⟨by decide, by decide⟩ ⟨by decide, by decide⟩ (Nat.le_of_ble_eq_true rfl) (w_L_low  e_v8 ?_)
      refine gw_istore dL_act_57 rfl (by decide) ?_
      refine gw_iload_n dL_act_59 rfl rfl ?_
      refine gw_iconstZ dL_act_60 rfl ?_
      refine gw_ishrZ dL_act_61 rfl ?_
      refine gw_aload_n dL_act_62 rfl rfl ?_
      obtain ⟨v9, e_v9, H⟩ := cv_i H
      refine gw_V0 okX8_variables dL_act_63 kw_377 kw_378 kw_379 (hp_o (h0.1)) rfl ⟨by decide, by decide⟩ ⟨by decide, by decide⟩ (Nat.le_of_ble_eq_true rfl) (w_X8_variables (h0) e_v9 ?_)
      refine gw_iload dL_act_66 rfl rfl ?_
      obtain ⟨g, H⟩ := gd_i H
      obtain ⟨k10, e_k10, H⟩ := jn_i H
      have hJ_k10 : ∀ (v11 : Int), k10 v11 = some r → G Φ nL_act (gw_M Φ nL_act K) none 0 0 76 [(0, .ref (M + p1)), (2, .ref (M + p3)), (3, vI (ishrZ p2 5)), (4, vI v3), (5, vI v4), (6, vI v8)] [vI v11, vI v9, vI (ishrZ (ishrZ p2 5) 3)] (hp Φ hb M sh c) := by
        intro v11 H
        subst e_k10
        refine gw_iaddZ dL_act_76 rfl ?_
        obtain ⟨v12, e_v12, H⟩ := cv_i H
        refine gw_S2 oknL_low dL_act_77 kw_369 kw_370 ⟨by decide, by decide⟩ ⟨by decide, by decide⟩ (Nat.le_of_ble_eq_true rfl) (w_L_low  e_v12 ?_)
        refine gw_istore dL_act_80 rfl (by decide) ?_
        refine gw_iload dL_act_82 rfl rfl ?_
        refine gw_iconstZ dL_act_84 rfl ?_
        obtain ⟨g, H⟩ := gd_i H
        refine gw_icmp_geZ (tgt := 119) dL_act_85 rfl (by decide) g (by decide) (fun q => ?_) (fun q => ?_)
        · have H := bq_t q H
          refine gw_iload dL_act_119 rfl rfl ?_
          refine gw_bipushZ dL_act_121 rfl (by decide) ?_
          obtain ⟨g, H⟩ := gd_i H
          refine gw_icmp_geZ (tgt := 151) dL_act_123 rfl (by decide) g (by decide) (fun q => ?_) (fun q => ?_)
          · have H := bq_t q H
            refine gw_iload dL_act_151 rfl rfl ?_
            refine gw_bipushZ dL_act_153 rfl (by decide) ?_
            obtain ⟨g, H⟩ := gd_i H
            refine gw_icmp_geZ (tgt := 190) dL_act_155 rfl (by decide) g (by decide) (fun q => ?_) (fun q => ?_)
            · have H := bq_t q H
              refine gw_iload dL_act_190 rfl rfl ?_
              refine gw_bipushZ dL_act_192 rfl (by decide) ?_
              obtain ⟨g, H⟩ := gd_i H
              refine gw_icmp_geZ (tgt := 320) dL_act_194 rfl (by decide) g (by decide) (fun q => ?_) (fun q => ?_)
              · have H := bq_t q H
                refine gw_iload dL_act_320 rfl rfl ?_
                refine gw_bipushZ dL_act_322 rfl (by decide) ?_
                obtain ⟨g, H⟩ := gd_i H
                refine gw_icmp_geZ (tgt := 366) dL_act_324 rfl (by decide) g (by decide) (fun q => ?_) (fun q => ?_)
                · have H := bq_t q H
                  refine gw_iload dL_act_366 rfl rfl ?_
                  refine gw_bipushZ dL_act_368 rfl (by decide) ?_
                  obtain ⟨g, H⟩ := gd_i H
                  refine gw_icmp_geZ (tgt := 386) dL_act_370 rfl (by decide) g (by decide) (fun q => ?_) (fun q => ?_)
                  · have H := bq_t q H
                    refine gw_aload_n dL_act_386 rfl rfl ?_
                    refine gw_iload dL_act_387 rfl rfl ?_
                    refine gw_bipushZ dL_act_389 rfl (by decide) ?_
                    obtain ⟨g, H⟩ := gd_i H
                    obtain ⟨k13, e_k13, H⟩ := jn_i H
                    have hJ_k13 : ∀ (v14 : Int), k13 v14 = some r → G Φ nL_act (gw_M Φ nL_act K) none 0 0 401 [(2, .ref (M + p3))] [vI v14, .ref (M + p1)] (hp Φ hb M sh c) := by
                      intro v14 H
                      subst e_k13
                      refine gw_iconstZ dL_act_401 rfl ?_
                      refine gw_iconstZ dL_act_402 rfl ?_
                      refine gw_iconstZ dL_act_403 rfl ?_
                      refine gw_aload_n dL_act_404 rfl rfl ?_
                      obtain ⟨v15, c16, e_c16, H⟩ := cl_i H
                      refine gw_SH6 okL_changes dL_act_405 kw_381 kw_382 ⟨by decide, by decide⟩ ⟨by decide, by decide⟩ (Nat.le_of_ble_eq_true rfl) (w_L_changes (h0) (h2) e_c16 ?_)
                      cases H
                      exact gw_iret dL_act_408 rfl (by decide) (by decide) hK
                    refine gw_icmp_neZ (tgt := 399) dL_act_391 rfl (by decide) g (by decide) (fun q => ?_) (fun q => ?_)
                    · have H := bq_f q H
                      refine gw_bipushZ dL_act_399 rfl (by decide) ?_
                      exact gw_L (hJ_k13 _ H) ((lvA_c rfl lvA_n))
                    · have H := bq_t q H
                      refine gw_bipushZ dL_act_394 rfl (by decide) ?_
                      refine gw_goto (tgt := 401) dL_act_396 (by decide) ?_
                      exact gw_L (hJ_k13 _ H) ((lvA_c rfl lvA_n))
                  · have H := bq_f q H
                    refine gw_aload_n dL_act_373 rfl rfl ?_
                    refine gw_bipushZ dL_act_374 rfl (by decide) ?_
                    refine gw_iconstZ dL_act_376 rfl ?_
                    refine gw_iconstZ dL_act_377 rfl ?_
                    refine gw_iconstZ dL_act_378 rfl ?_
                    refine gw_aload_n dL_act_379 rfl rfl ?_
                    obtain ⟨v17, c18, e_c18, H⟩ := cl_i H
                    refine gw_SH6 okL_changes dL_act_380 kw_381 kw_382 ⟨by decide, by decide⟩ ⟨by decide, by decide⟩ (Nat.le_of_ble_eq_true rfl) (w_L_changes (h0) (h2) e_c18 ?_)
                    refine gw_goto (tgt := 408) dL_act_383 (by decide) ?_
                    cases H
                    exact gw_iret dL_act_408 rfl (by decide) (by decide) hK
                · have H := bq_f q H
                  refine gw_aload_n dL_act_327 rfl rfl ?_
                  refine gw_bipushZ dL_act_328 rfl (by decide) ?_
                  refine gw_iload dL_act_330 rfl rfl ?_
                  refine gw_iload_n dL_act_332 rfl rfl ?_
                  refine gw_iconstZ dL_act_333 rfl ?_
                  refine gw_ishrZ dL_act_334 rfl ?_
                  refine gw_aload_n dL_act_335 rfl rfl ?_
                  obtain ⟨v19, e_v19, H⟩ := cv_i H
                  refine gw_V0 okX8_variables dL_act_336 kw_377 kw_378 kw_379 (hp_o (h0.1)) rfl ⟨by decide, by decide⟩ ⟨by decide, by decide⟩ (Nat.le_of_ble_eq_true rfl) (w_X8_variables (h0) e_v19 ?_)
                  refine gw_aload_n dL_act_339 rfl rfl ?_
                  obtain ⟨v20, e_v20, H⟩ := cv_i H
                  refine gw_V0 okX8_constraints dL_act_340 kw_373 kw_374 kw_375 (hp_o (h0.1)) rfl ⟨by decide, by decide⟩ ⟨by decide, by decide⟩ (Nat.le_of_ble_eq_true rfl) (w_X8_constraints (h0) e_v20 ?_)
                  refine gw_iaddZ dL_act_343 rfl ?_
                  refine gw_iload dL_act_344 rfl rfl ?_
                  obtain ⟨g, H⟩ := gd_i H
                  obtain ⟨k21, e_k21, H⟩ := jn_i H
                  have hJ_k21 : ∀ (v22 : Int), k21 v22 = some r → G Φ nL_act (gw_M Φ nL_act K) none 0 0 354 [(2, .ref (M + p3))] [vI v22, vI (v19 + v20), vI (ishrZ (ishrZ p2 5) 3), vI v8, vI 6, .ref (M + p1)] (hp Φ hb M sh c) := by
                    intro v22 H
                    subst e_k21
                    refine gw_iaddZ dL_act_354 rfl ?_
                    obtain ⟨v23, e_v23, H⟩ := cv_i H
                    refine gw_S2 oknL_low dL_act_355 kw_369 kw_370 ⟨by decide, by decide⟩ ⟨by decide, by decide⟩ (Nat.le_of_ble_eq_true rfl) (w_L_low  e_v23 ?_)
                    refine gw_iconstZ dL_act_358 rfl ?_
                    refine gw_aload_n dL_act_359 rfl rfl ?_
                    obtain ⟨v24, c25, e_c25, H⟩ := cl_i H
                    refine gw_SH6 okL_changes dL_act_360 kw_381 kw_382 ⟨by decide, by decide⟩ ⟨by decide, by decide⟩ (Nat.le_of_ble_eq_true rfl) (w_L_changes (h0) (h2) e_c25 ?_)
                    refine gw_goto (tgt := 408) dL_act_363 (by decide) ?_
                    cases H
                    exact gw_iret dL_act_408 rfl (by decide) (by decide) hK
                  refine gw_if_eqZ (tgt := 353) dL_act_346 rfl (by decide) g (fun q => ?_) (fun q => ?_)
                  · have H := bq_t q H
                    refine gw_iconstZ dL_act_353 rfl ?_
                    exact gw_L (hJ_k21 _ H) ((lvA_c rfl lvA_n))
                  · have H := bq_f q H
                    refine gw_iconstZ dL_act_349 rfl ?_
                    refine gw_goto (tgt := 354) dL_act_350 (by decide) ?_
                    exact gw_L (hJ_k21 _ H) ((lvA_c rfl lvA_n))
              · have H := bq_f q H
                refine gw_iload dL_act_197 rfl rfl ?_
                refine gw_bipushZ dL_act_199 rfl (by decide) ?_
                obtain ⟨g, H⟩ := gd_i H
                refine gw_icmp_neZ (tgt := 239) dL_act_201 rfl (by decide) g (by decide) (fun q => ?_) (fun q => ?_)
                · have H := bq_f q H
                  refine gw_iload dL_act_239 rfl rfl ?_
                  refine gw_bipushZ dL_act_241 rfl (by decide) ?_
                  obtain ⟨g, H⟩ := gd_i H
                  refine gw_icmp_neZ (tgt := 276) dL_act_243 rfl (by decide) g (by decide) (fun q => ?_) (fun q => ?_)
                  · have H := bq_f q H
                    refine gw_iload dL_act_276 rfl rfl ?_
                    refine gw_bipushZ dL_act_278 rfl (by decide) ?_
                    obtain ⟨g, H⟩ := gd_i H
                    refine gw_icmp_neZ (tgt := 296) dL_act_280 rfl (by decide) g (by decide) (fun q => ?_) (fun q => ?_)
                    · have H := bq_f q H
                      refine gw_aload_n dL_act_296 rfl rfl ?_
                      refine gw_bipushZ dL_act_297 rfl (by decide) ?_
                      refine gw_iload_n dL_act_299 rfl rfl ?_
                      refine gw_iload dL_act_300 rfl rfl ?_
                      obtain ⟨g, H⟩ := gd_i H
                      obtain ⟨k26, e_k26, H⟩ := jn_i H
                      have hJ_k26 : ∀ (v27 : Int), k26 v27 = some r → G Φ nL_act (gw_M Φ nL_act K) none 0 0 310 [(2, .ref (M + p3))] [vI v27, vI (ishrZ p2 5), vI 9, .ref (M + p1)] (hp Φ hb M sh c) := by
                        intro v27 H
                        subst e_k26
                        obtain ⟨v28, e_v28, H⟩ := cv_i H
                        refine gw_S2 oknL_low dL_act_310 kw_369 kw_370 ⟨by decide, by decide⟩ ⟨by decide, by decide⟩ (Nat.le_of_ble_eq_true rfl) (w_L_low  e_v28 ?_)
                        refine gw_iconstZ dL_act_313 rfl ?_
                        refine gw_iconstZ dL_act_314 rfl ?_
                        refine gw_aload_n dL_act_315 rfl rfl ?_
                        obtain ⟨v29, c30, e_c30, H⟩ := cl_i H
                        refine gw_SH6 okL_changes dL_act_316 kw_381 kw_382 ⟨by decide, by decide⟩ ⟨by decide, by decide⟩ (Nat.le_of_ble_eq_true rfl) (w_L_changes (h0) (h2) e_c30 ?_)
                        cases H
                        exact gw_iret dL_act_319 rfl (by decide) (by decide) hK
                      refine gw_if_eqZ (tgt := 309) dL_act_302 rfl (by decide) g (fun q => ?_) (fun q => ?_)
                      · have H := bq_t q H
                        refine gw_iconstZ dL_act_309 rfl ?_
                        exact gw_L (hJ_k26 _ H) ((lvA_c rfl lvA_n))
                      · have H := bq_f q H
                        refine gw_iconstZ dL_act_305 rfl ?_
                        refine gw_goto (tgt := 310) dL_act_306 (by decide) ?_
                        exact gw_L (hJ_k26 _ H) ((lvA_c rfl lvA_n))
                    · have H := bq_t q H
                      refine gw_aload_n dL_act_283 rfl rfl ?_
                      refine gw_iconstZ dL_act_284 rfl ?_
                      refine gw_iload dL_act_285 rfl rfl ?_
                      refine gw_iconstZ dL_act_287 rfl ?_
                      refine gw_iconstZ dL_act_288 rfl ?_
                      refine gw_aload_n dL_act_289 rfl rfl ?_
                      obtain ⟨v31, c32, e_c32, H⟩ := cl_i H
                      refine gw_SH6 okL_changes dL_act_290 kw_381 kw_382 ⟨by decide, by decide⟩ ⟨by decide, by decide⟩ (Nat.le_of_ble_eq_true rfl) (w_L_changes (h0) (h2) e_c32 ?_)
                      refine gw_goto (tgt := 319) dL_act_293 (by decide) ?_
                      cases H
                      exact gw_iret dL_act_319 rfl (by decide) (by decide) hK
                  · have H := bq_t q H
                    refine gw_aload_n dL_act_246 rfl rfl ?_
                    refine gw_iconstZ dL_act_247 rfl ?_
                    refine gw_iload dL_act_248 rfl rfl ?_
                    refine gw_iload_n dL_act_250 rfl rfl ?_
                    refine gw_iconstZ dL_act_251 rfl ?_
                    refine gw_ishrZ dL_act_252 rfl ?_
                    refine gw_iload dL_act_253 rfl rfl ?_
                    obtain ⟨g, H⟩ := gd_i H
                    obtain ⟨k33, e_k33, H⟩ := jn_i H
                    have hJ_k33 : ∀ (v34 : Int), k33 v34 = some r → G Φ nL_act (gw_M Φ nL_act K) none 0 0 265 [(2, .ref (M + p3))] [vI v34, vI (ishrZ (ishrZ p2 5) 3), vI v8, vI 4, .ref (M + p1)] (hp Φ hb M sh c) := by
                      intro v34 H
                      subst e_k33
                      obtain ⟨v35, e_v35, H⟩ := cv_i H
                      refine gw_S2 oknL_low dL_act_265 kw_369 kw_370 ⟨by decide, by decide⟩ ⟨by decide, by decide⟩ (Nat.le_of_ble_eq_true rfl) (w_L_low  e_v35 ?_)
                      refine gw_iconstZ dL_act_268 rfl ?_
                      refine gw_aload_n dL_act_269 rfl rfl ?_
                      obtain ⟨v36, c37, e_c37, H⟩ := cl_i H
                      refine gw_SH6 okL_changes dL_act_270 kw_381 kw_382 ⟨by decide, by decide⟩ ⟨by decide, by decide⟩ (Nat.le_of_ble_eq_true rfl) (w_L_changes (h0) (h2) e_c37 ?_)
                      refine gw_goto (tgt := 319) dL_act_273 (by decide) ?_
                      cases H
                      exact gw_iret dL_act_319 rfl (by decide) (by decide) hK
                    refine gw_if_eqZ (tgt := 263) dL_act_255 rfl (by decide) g (fun q => ?_) (fun q => ?_)
                    · have H := bq_t q H
                      refine gw_bipushZ dL_act_263 rfl (by decide) ?_
                      exact gw_L (hJ_k33 _ H) ((lvA_c rfl lvA_n))
                    · have H := bq_f q H
                      refine gw_bipushZ dL_act_258 rfl (by decide) ?_
                      refine gw_goto (tgt := 265) dL_act_260 (by decide) ?_
                      exact gw_L (hJ_k33 _ H) ((lvA_c rfl lvA_n))
                · have H := bq_t q H
                  refine gw_aload_n dL_act_204 rfl rfl ?_
                  refine gw_iconstZ dL_act_205 rfl ?_
                  refine gw_iload_n dL_act_206 rfl rfl ?_
                  refine gw_iconstZ dL_act_207 rfl ?_
                  obtain ⟨v38, e_v38, H⟩ := cv_i H
                  refine gw_S2 oknL_low dL_act_208 kw_369 kw_370 ⟨by decide, by decide⟩ ⟨by decide, by decide⟩ (Nat.le_of_ble_eq_true rfl) (w_L_low  e_v38 ?_)
                  refine gw_iload dL_act_211 rfl rfl ?_
                  obtain ⟨g, H⟩ := gd_i H
                  obtain ⟨k39, e_k39, H⟩ := jn_i H
                  have hJ_k39 : ∀ (v40 : Int), k39 v40 = some r → G Φ nL_act (gw_M Φ nL_act K) none 0 0 221 [(2, .ref (M + p3)), (3, vI (ishrZ p2 5))] [vI v40, vI v38, vI 0, .ref (M + p1)] (hp Φ hb M sh c) := by
                    intro v40 H
                    subst e_k39
                    refine gw_iaddZ dL_act_221 rfl ?_
                    refine gw_iload_n dL_act_222 rfl rfl ?_
                    refine gw_iconstZ dL_act_223 rfl ?_
                    obtain ⟨v41, e_v41, H⟩ := cv_i H
                    refine gw_S2 oknL_low dL_act_224 kw_369 kw_370 ⟨by decide, by decide⟩ ⟨by decide, by decide⟩ (Nat.le_of_ble_eq_true rfl) (w_L_low  e_v41 ?_)
                    refine gw_iconstZ dL_act_227 rfl ?_
                    obtain ⟨g, H⟩ := gd_i H
                    refine gw_idivZ dL_act_228 rfl (by decide) g (by decide) ?_
                    refine gw_isubZ dL_act_229 rfl ?_
                    refine gw_iconstZ dL_act_230 rfl ?_
                    refine gw_iconstZ dL_act_231 rfl ?_
                    refine gw_aload_n dL_act_232 rfl rfl ?_
                    obtain ⟨v42, c43, e_c43, H⟩ := cl_i H
                    refine gw_SH6 okL_changes dL_act_233 kw_381 kw_382 ⟨by decide, by decide⟩ ⟨by decide, by decide⟩ (Nat.le_of_ble_eq_true rfl) (w_L_changes (h0) (h2) e_c43 ?_)
                    refine gw_goto (tgt := 319) dL_act_236 (by decide) ?_
                    cases H
                    exact gw_iret dL_act_319 rfl (by decide) (by decide) hK
                  refine gw_if_eqZ (tgt := 220) dL_act_213 rfl (by decide) g (fun q => ?_) (fun q => ?_)
                  · have H := bq_t q H
                    refine gw_iconstZ dL_act_220 rfl ?_
                    exact gw_L (hJ_k39 _ H) ((lvA_c rfl (lvA_c rfl lvA_n)))
                  · have H := bq_f q H
                    refine gw_iconstZ dL_act_216 rfl ?_
                    refine gw_goto (tgt := 221) dL_act_217 (by decide) ?_
                    exact gw_L (hJ_k39 _ H) ((lvA_c rfl (lvA_c rfl lvA_n)))
            · have H := bq_f q H
              refine gw_aload_n dL_act_158 rfl rfl ?_
              refine gw_iconstZ dL_act_159 rfl ?_
              refine gw_iload dL_act_160 rfl rfl ?_
              refine gw_iload dL_act_162 rfl rfl ?_
              refine gw_iload_n dL_act_164 rfl rfl ?_
              refine gw_bipushZ dL_act_165 rfl (by decide) ?_
              refine gw_ishrZ dL_act_167 rfl ?_
              refine gw_iload dL_act_168 rfl rfl ?_
              obtain ⟨g, H⟩ := gd_i H
              obtain ⟨k44, e_k44, H⟩ := jn_i H
              have hJ_k44 : ∀ (v45 : Int), k44 v45 = some r → G Φ nL_act (gw_M Φ nL_act K) none 0 0 180 [(2, .ref (M + p3))] [vI v45, vI (ishrZ (ishrZ p2 5) 6), vI v12, vI v8, vI 3, .ref (M + p1)] (hp Φ hb M sh c) := by
                intro v45 H
                subst e_k44
                obtain ⟨v46, e_v46, H⟩ := cv_i H
                refine gw_S2 oknL_low dL_act_180 kw_369 kw_370 ⟨by decide, by decide⟩ ⟨by decide, by decide⟩ (Nat.le_of_ble_eq_true rfl) (w_L_low  e_v46 ?_)
                refine gw_iconstZ dL_act_183 rfl ?_
                refine gw_isubZ dL_act_184 rfl ?_
                refine gw_aload_n dL_act_185 rfl rfl ?_
                obtain ⟨v47, c48, e_c48, H⟩ := cl_i H
                refine gw_SH6 okL_changes dL_act_186 kw_381 kw_382 ⟨by decide, by decide⟩ ⟨by decide, by decide⟩ (Nat.le_of_ble_eq_true rfl) (w_L_changes (h0) (h2) e_c48 ?_)
                cases H
                exact gw_iret dL_act_189 rfl (by decide) (by decide) hK
              refine gw_if_eqZ (tgt := 178) dL_act_170 rfl (by decide) g (fun q => ?_) (fun q => ?_)
              · have H := bq_t q H
                refine gw_bipushZ dL_act_178 rfl (by decide) ?_
                exact gw_L (hJ_k44 _ H) ((lvA_c rfl lvA_n))
              · have H := bq_f q H
                refine gw_bipushZ dL_act_173 rfl (by decide) ?_
                refine gw_goto (tgt := 180) dL_act_175 (by decide) ?_
                exact gw_L (hJ_k44 _ H) ((lvA_c rfl lvA_n))
          · have H := bq_f q H
            refine gw_aload_n dL_act_126 rfl rfl ?_
            refine gw_iconstZ dL_act_127 rfl ?_
            refine gw_iload_n dL_act_128 rfl rfl ?_
            refine gw_iload dL_act_129 rfl rfl ?_
            obtain ⟨g, H⟩ := gd_i H
            obtain ⟨k49, e_k49, H⟩ := jn_i H
            have hJ_k49 : ∀ (v50 : Int), k49 v50 = some r → G Φ nL_act (gw_M Φ nL_act K) none 0 0 141 [(2, .ref (M + p3))] [vI v50, vI (ishrZ p2 5), vI 2, .ref (M + p1)] (hp Φ hb M sh c) := by
              intro v50 H
              subst e_k49
              obtain ⟨v51, e_v51, H⟩ := cv_i H
              refine gw_S2 oknL_low dL_act_141 kw_369 kw_370 ⟨by decide, by decide⟩ ⟨by decide, by decide⟩ (Nat.le_of_ble_eq_true rfl) (w_L_low  e_v51 ?_)
              refine gw_iconstZ dL_act_144 rfl ?_
              refine gw_iconstZ dL_act_145 rfl ?_
              refine gw_aload_n dL_act_146 rfl rfl ?_
              obtain ⟨v52, c53, e_c53, H⟩ := cl_i H
              refine gw_SH6 okL_changes dL_act_147 kw_381 kw_382 ⟨by decide, by decide⟩ ⟨by decide, by decide⟩ (Nat.le_of_ble_eq_true rfl) (w_L_changes (h0) (h2) e_c53 ?_)
              cases H
              exact gw_iret dL_act_150 rfl (by decide) (by decide) hK
            refine gw_if_eqZ (tgt := 139) dL_act_131 rfl (by decide) g (fun q => ?_) (fun q => ?_)
            · have H := bq_t q H
              refine gw_bipushZ dL_act_139 rfl (by decide) ?_
              exact gw_L (hJ_k49 _ H) ((lvA_c rfl lvA_n))
            · have H := bq_f q H
              refine gw_bipushZ dL_act_134 rfl (by decide) ?_
              refine gw_goto (tgt := 141) dL_act_136 (by decide) ?_
              exact gw_L (hJ_k49 _ H) ((lvA_c rfl lvA_n))
        · have H := bq_f q H
          refine gw_aload_n dL_act_88 rfl rfl ?_
          refine gw_iconstZ dL_act_89 rfl ?_
          refine gw_iload dL_act_90 rfl rfl ?_
          refine gw_iload_n dL_act_92 rfl rfl ?_
          refine gw_bipushZ dL_act_93 rfl (by decide) ?_
          refine gw_ishrZ dL_act_95 rfl ?_
          refine gw_iload dL_act_96 rfl rfl ?_
          obtain ⟨g, H⟩ := gd_i H
          obtain ⟨k54, e_k54, H⟩ := jn_i H
          have hJ_k54 : ∀ (v55 : Int), k54 v55 = some r → G Φ nL_act (gw_M Φ nL_act K) none 0 0 108 [(2, .ref (M + p3))] [vI v55, vI (ishrZ (ishrZ p2 5) 6), vI v12, vI 1, .ref (M + p1)] (hp Φ hb M sh c) := by
            intro v55 H
            subst e_k54
            obtain ⟨v56, e_v56, H⟩ := cv_i H
            refine gw_S2 oknL_low dL_act_108 kw_369 kw_370 ⟨by decide, by decide⟩ ⟨by decide, by decide⟩ (Nat.le_of_ble_eq_true rfl) (w_L_low  e_v56 ?_)
            refine gw_iconstZ dL_act_111 rfl ?_
            refine gw_isubZ dL_act_112 rfl ?_
            refine gw_iconstZ dL_act_113 rfl ?_
            refine gw_aload_n dL_act_114 rfl rfl ?_
            obtain ⟨v57, c58, e_c58, H⟩ := cl_i H
            refine gw_SH6 okL_changes dL_act_115 kw_381 kw_382 ⟨by decide, by decide⟩ ⟨by decide, by decide⟩ (Nat.le_of_ble_eq_true rfl) (w_L_changes (h0) (h2) e_c58 ?_)
            cases H
            exact gw_iret dL_act_118 rfl (by decide) (by decide) hK
          refine gw_if_eqZ (tgt := 106) dL_act_98 rfl (by decide) g (fun q => ?_) (fun q => ?_)
          · have H := bq_t q H
            refine gw_bipushZ dL_act_106 rfl (by decide) ?_
            exact gw_L (hJ_k54 _ H) ((lvA_c rfl lvA_n))
          · have H := bq_f q H
            refine gw_bipushZ dL_act_101 rfl (by decide) ?_
            refine gw_goto (tgt := 108) dL_act_103 (by decide) ?_
            exact gw_L (hJ_k54 _ H) ((lvA_c rfl lvA_n))
      refine gw_if_eqZ (tgt := 75) dL_act_68 rfl (by decide) g (fun q => ?_) (fun q => ?_)
      · have H := bq_t q H
        refine gw_iconstZ dL_act_75 rfl ?_
        exact gw_L (hJ_k10 _ H) ((lvA_c rfl (lvA_c rfl (lvA_c rfl (lvA_c rfl (lvA_c rfl (lvA_c rfl lvA_n)))))))
      · have H := bq_f q H
        refine gw_iconstZ dL_act_71 rfl ?_
        refine gw_goto (tgt := 76) dL_act_72 (by decide) ?_
        exact gw_L (hJ_k10 _ H) ((lvA_c rfl (lvA_c rfl (lvA_c rfl (lvA_c rfl (lvA_c rfl (lvA_c rfl lvA_n)))))))
    refine gw_if_eqZ (tgt := 52) dL_act_38 rfl (by decide) g (fun q => ?_) (fun q => ?_)
    · have H := bq_t q H
      exact gw_L (hJ_k6 _ H) ((lvA_c rfl (lvA_c rfl (lvA_c rfl (lvA_c rfl (lvA_c rfl lvA_n))))))
    · have H := bq_f q H
      refine gw_aload_n dL_act_41 rfl rfl ?_
      obtain ⟨v59, e_v59, H⟩ := cv_i H
      refine gw_V0 okX8_constraints dL_act_42 kw_373 kw_374 kw_375 (hp_o (h0.1)) rfl ⟨by decide, by decide⟩ ⟨by decide, by decide⟩ (Nat.le_of_ble_eq_true rfl) (w_X8_constraints (h0) e_v59 ?_)
      obtain ⟨g, H⟩ := gd_i H
      refine gw_if_leZ (tgt := 52) dL_act_45 rfl (by decide) g (fun q => ?_) (fun q => ?_)
      · have H := bq_t q H
        exact gw_L (hJ_k6 _ H) ((lvA_c rfl (lvA_c rfl (lvA_c rfl (lvA_c rfl (lvA_c rfl lvA_n))))))
      · have H := bq_f q H
        refine gw_iconstZ dL_act_48 rfl ?_
        refine gw_goto (tgt := 53) dL_act_49 (by decide) ?_
        refine gw_iaddZ dL_act_53 rfl ?_
        obtain ⟨v60, e_v60, H⟩ := cv_i H
        refine gw_S2 oknL_low dL_act_54 kw_369 kw_370 ⟨by decide, by decide⟩ ⟨by decide, by decide⟩ (Nat.le_of_ble_eq_true rfl) (w_L_low  e_v60 ?_)
        refine gw_istore dL_act_57 rfl (by decide) ?_
        refine gw_iload_n dL_act_59 rfl rfl ?_
        refine gw_iconstZ dL_act_60 rfl ?_
        refine gw_ishrZ dL_act_61 rfl ?_
        refine gw_aload_n dL_act_62 rfl rfl ?_
        obtain ⟨v61, e_v61, H⟩ := cv_i H
        refine gw_V0 okX8_variables dL_act_63 kw_377 kw_378 kw_379 (hp_o (h0.1)) rfl ⟨by decide, by decide⟩ ⟨by decide, by decide⟩ (Nat.le_of_ble_eq_true rfl) (w_X8_variables (h0) e_v61 ?_)
        refine gw_iload dL_act_66 rfl rfl ?_
        obtain ⟨g, H⟩ := gd_i H
        obtain ⟨k62, e_k62, H⟩ := jn_i H
        have hJ_k62 : ∀ (v63 : Int), k62 v63 = some r → G Φ nL_act (gw_M Φ nL_act K) none 0 0 76 [(0, .ref (M + p1)), (2, .ref (M + p3)), (3, vI (ishrZ p2 5)), (4, vI v3), (5, vI v4), (6, vI v60)] [vI v63, vI v61, vI (ishrZ (ishrZ p2 5) 3)] (hp Φ hb M sh c) := by
          intro v63 H
          subst e_k62
          refine gw_iaddZ dL_act_76 rfl ?_
          obtain ⟨v64, e_v64, H⟩ := cv_i H
          refine gw_S2 oknL_low dL_act_77 kw_369 kw_370 ⟨by decide, by decide⟩ ⟨by decide, by decide⟩ (Nat.le_of_ble_eq_true rfl) (w_L_low  e_v64 ?_)
          refine gw_istore dL_act_80 rfl (by decide) ?_
          refine gw_iload dL_act_82 rfl rfl ?_
          refine gw_iconstZ dL_act_84 rfl ?_
          obtain ⟨g, H⟩ := gd_i H
          refine gw_icmp_geZ (tgt := 119) dL_act_85 rfl (by decide) g (by decide) (fun q => ?_) (fun q => ?_)
          · have H := bq_t q H
            refine gw_iload dL_act_119 rfl rfl ?_
            refine gw_bipushZ dL_act_121 rfl (by decide) ?_
            obtain ⟨g, H⟩ := gd_i H
            refine gw_icmp_geZ (tgt := 151) dL_act_123 rfl (by decide) g (by decide) (fun q => ?_) (fun q => ?_)
            · have H := bq_t q H
              refine gw_iload dL_act_151 rfl rfl ?_
              refine gw_bipushZ dL_act_153 rfl (by decide) ?_
              obtain ⟨g, H⟩ := gd_i H
              refine gw_icmp_geZ (tgt := 190) dL_act_155 rfl (by decide) g (by decide) (fun q => ?_) (fun q => ?_)
              · have H := bq_t q H
                refine gw_iload dL_act_190 rfl rfl ?_
                refine gw_bipushZ dL_act_192 rfl (by decide) ?_
                obtain ⟨g, H⟩ := gd_i H
                refine gw_icmp_geZ (tgt := 320) dL_act_194 rfl (by decide) g (by decide) (fun q => ?_) (fun q => ?_)
                · have H := bq_t q H
                  refine gw_iload dL_act_320 rfl rfl ?_
                  refine gw_bipushZ dL_act_322 rfl (by decide) ?_
                  obtain ⟨g, H⟩ := gd_i H
                  refine gw_icmp_geZ (tgt := 366) dL_act_324 rfl (by decide) g (by decide) (fun q => ?_) (fun q => ?_)
                  · have H := bq_t q H
                    refine gw_iload dL_act_366 rfl rfl ?_
                    refine gw_bipushZ dL_act_368 rfl (by decide) ?_
                    obtain ⟨g, H⟩ := gd_i H
                    refine gw_icmp_geZ (tgt := 386) dL_act_370 rfl (by decide) g (by decide) (fun q => ?_) (fun q => ?_)
                    · have H := bq_t q H
                      refine gw_aload_n dL_act_386 rfl rfl ?_
                      refine gw_iload dL_act_387 rfl rfl ?_
                      refine gw_bipushZ dL_act_389 rfl (by decide) ?_
                      obtain ⟨g, H⟩ := gd_i H
                      obtain ⟨k65, e_k65, H⟩ := jn_i H
                      have hJ_k65 : ∀ (v66 : Int), k65 v66 = some r → G Φ nL_act (gw_M Φ nL_act K) none 0 0 401 [(2, .ref (M + p3))] [vI v66, .ref (M + p1)] (hp Φ hb M sh c) := by
                        intro v66 H
                        subst e_k65
                        refine gw_iconstZ dL_act_401 rfl ?_
                        refine gw_iconstZ dL_act_402 rfl ?_
                        refine gw_iconstZ dL_act_403 rfl ?_
                        refine gw_aload_n dL_act_404 rfl rfl ?_
                        obtain ⟨v67, c68, e_c68, H⟩ := cl_i H
                        refine gw_SH6 okL_changes dL_act_405 kw_381 kw_382 ⟨by decide, by decide⟩ ⟨by decide, by decide⟩ (Nat.le_of_ble_eq_true rfl) (w_L_changes (h0) (h2) e_c68 ?_)
                        cases H
                        exact gw_iret dL_act_408 rfl (by decide) (by decide) hK
                      refine gw_icmp_neZ (tgt := 399) dL_act_391 rfl (by decide) g (by decide) (fun q => ?_) (fun q => ?_)
                      · have H := bq_f q H
                        refine gw_bipushZ dL_act_399 rfl (by decide) ?_
                        exact gw_L (hJ_k65 _ H) ((lvA_c rfl lvA_n))
                      · have H := bq_t q H
                        refine gw_bipushZ dL_act_394 rfl (by decide) ?_
                        refine gw_goto (tgt := 401) dL_act_396 (by decide) ?_
                        exact gw_L (hJ_k65 _ H) ((lvA_c rfl lvA_n))
                    · have H := bq_f q H
                      refine gw_aload_n dL_act_373 rfl rfl ?_
                      refine gw_bipushZ dL_act_374 rfl (by decide) ?_
                      refine gw_iconstZ dL_act_376 rfl ?_
                      refine gw_iconstZ dL_act_377 rfl ?_
                      refine gw_iconstZ dL_act_378 rfl ?_
                      refine gw_aload_n dL_act_379 rfl rfl ?_
                      obtain ⟨v69, c70, e_c70, H⟩ := cl_i H
                      refine gw_SH6 okL_changes dL_act_380 kw_381 kw_382 ⟨by decide, by decide⟩ ⟨by decide, by decide⟩ (Nat.le_of_ble_eq_true rfl) (w_L_changes (h0) (h2) e_c70 ?_)
                      refine gw_goto (tgt := 408) dL_act_383 (by decide) ?_
                      cases H
                      exact gw_iret dL_act_408 rfl (by decide) (by decide) hK
                  · have H := bq_f q H
                    refine gw_aload_n dL_act_327 rfl rfl ?_
                    refine gw_bipushZ dL_act_328 rfl (by decide) ?_
                    refine gw_iload dL_act_330 rfl rfl ?_
                    refine gw_iload_n dL_act_332 rfl rfl ?_
                    refine gw_iconstZ dL_act_333 rfl ?_
                    refine gw_ishrZ dL_act_334 rfl ?_
                    refine gw_aload_n dL_act_335 rfl rfl ?_
                    obtain ⟨v71, e_v71, H⟩ := cv_i H
                    refine gw_V0 okX8_variables dL_act_336 kw_377 kw_378 kw_379 (hp_o (h0.1)) rfl ⟨by decide, by decide⟩ ⟨by decide, by decide⟩ (Nat.le_of_ble_eq_true rfl) (w_X8_variables (h0) e_v71 ?_)
                    refine gw_aload_n dL_act_339 rfl rfl ?_
                    obtain ⟨v72, e_v72, H⟩ := cv_i H
                    refine gw_V0 okX8_constraints dL_act_340 kw_373 kw_374 kw_375 (hp_o (h0.1)) rfl ⟨by decide, by decide⟩ ⟨by decide, by decide⟩ (Nat.le_of_ble_eq_true rfl) (w_X8_constraints (h0) e_v72 ?_)
                    refine gw_iaddZ dL_act_343 rfl ?_
                    refine gw_iload dL_act_344 rfl rfl ?_
                    obtain ⟨g, H⟩ := gd_i H
                    obtain ⟨k73, e_k73, H⟩ := jn_i H
                    have hJ_k73 : ∀ (v74 : Int), k73 v74 = some r → G Φ nL_act (gw_M Φ nL_act K) none 0 0 354 [(2, .ref (M + p3))] [vI v74, vI (v71 + v72), vI (ishrZ (ishrZ p2 5) 3), vI v60, vI 6, .ref (M + p1)] (hp Φ hb M sh c) := by
                      intro v74 H
                      subst e_k73
                      refine gw_iaddZ dL_act_354 rfl ?_
                      obtain ⟨v75, e_v75, H⟩ := cv_i H
                      refine gw_S2 oknL_low dL_act_355 kw_369 kw_370 ⟨by decide, by decide⟩ ⟨by decide, by decide⟩ (Nat.le_of_ble_eq_true rfl) (w_L_low  e_v75 ?_)
                      refine gw_iconstZ dL_act_358 rfl ?_
                      refine gw_aload_n dL_act_359 rfl rfl ?_
                      obtain ⟨v76, c77, e_c77, H⟩ := cl_i H
                      refine gw_SH6 okL_changes dL_act_360 kw_381 kw_382 ⟨by decide, by decide⟩ ⟨by decide, by decide⟩ (Nat.le_of_ble_eq_true rfl) (w_L_changes (h0) (h2) e_c77 ?_)
                      refine gw_goto (tgt := 408) dL_act_363 (by decide) ?_
                      cases H
                      exact gw_iret dL_act_408 rfl (by decide) (by decide) hK
                    refine gw_if_eqZ (tgt := 353) dL_act_346 rfl (by decide) g (fun q => ?_) (fun q => ?_)
                    · have H := bq_t q H
                      refine gw_iconstZ dL_act_353 rfl ?_
                      exact gw_L (hJ_k73 _ H) ((lvA_c rfl lvA_n))
                    · have H := bq_f q H
                      refine gw_iconstZ dL_act_349 rfl ?_
                      refine gw_goto (tgt := 354) dL_act_350 (by decide) ?_
                      exact gw_L (hJ_k73 _ H) ((lvA_c rfl lvA_n))
                · have H := bq_f q H
                  refine gw_iload dL_act_197 rfl rfl ?_
                  refine gw_bipushZ dL_act_199 rfl (by decide) ?_
                  obtain ⟨g, H⟩ := gd_i H
                  refine gw_icmp_neZ (tgt := 239) dL_act_201 rfl (by decide) g (by decide) (fun q => ?_) (fun q => ?_)
                  · have H := bq_f q H
                    refine gw_iload dL_act_239 rfl rfl ?_
                    refine gw_bipushZ dL_act_241 rfl (by decide) ?_
                    obtain ⟨g, H⟩ := gd_i H
                    refine gw_icmp_neZ (tgt := 276) dL_act_243 rfl (by decide) g (by decide) (fun q => ?_) (fun q => ?_)
                    · have H := bq_f q H
                      refine gw_iload dL_act_276 rfl rfl ?_
                      refine gw_bipushZ dL_act_278 rfl (by decide) ?_
                      obtain ⟨g, H⟩ := gd_i H
                      refine gw_icmp_neZ (tgt := 296) dL_act_280 rfl (by decide) g (by decide) (fun q => ?_) (fun q => ?_)
                      · have H := bq_f q H
                        refine gw_aload_n dL_act_296 rfl rfl ?_
                        refine gw_bipushZ dL_act_297 rfl (by decide) ?_
                        refine gw_iload_n dL_act_299 rfl rfl ?_
                        refine gw_iload dL_act_300 rfl rfl ?_
                        obtain ⟨g, H⟩ := gd_i H
                        obtain ⟨k78, e_k78, H⟩ := jn_i H
                        have hJ_k78 : ∀ (v79 : Int), k78 v79 = some r → G Φ nL_act (gw_M Φ nL_act K) none 0 0 310 [(2, .ref (M + p3))] [vI v79, vI (ishrZ p2 5), vI 9, .ref (M + p1)] (hp Φ hb M sh c) := by
                          intro v79 H
                          subst e_k78
                          obtain ⟨v80, e_v80, H⟩ := cv_i H
                          refine gw_S2 oknL_low dL_act_310 kw_369 kw_370 ⟨by decide, by decide⟩ ⟨by decide, by decide⟩ (Nat.le_of_ble_eq_true rfl) (w_L_low  e_v80 ?_)
                          refine gw_iconstZ dL_act_313 rfl ?_
                          refine gw_iconstZ dL_act_314 rfl ?_
                          refine gw_aload_n dL_act_315 rfl rfl ?_
                          obtain ⟨v81, c82, e_c82, H⟩ := cl_i H
                          refine gw_SH6 okL_changes dL_act_316 kw_381 kw_382 ⟨by decide, by decide⟩ ⟨by decide, by decide⟩ (Nat.le_of_ble_eq_true rfl) (w_L_changes (h0) (h2) e_c82 ?_)
                          cases H
                          exact gw_iret dL_act_319 rfl (by decide) (by decide) hK
                        refine gw_if_eqZ (tgt := 309) dL_act_302 rfl (by decide) g (fun q => ?_) (fun q => ?_)
                        · have H := bq_t q H
                          refine gw_iconstZ dL_act_309 rfl ?_
                          exact gw_L (hJ_k78 _ H) ((lvA_c rfl lvA_n))
                        · have H := bq_f q H
                          refine gw_iconstZ dL_act_305 rfl ?_
                          refine gw_goto (tgt := 310) dL_act_306 (by decide) ?_
                          exact gw_L (hJ_k78 _ H) ((lvA_c rfl lvA_n))
                      · have H := bq_t q H
                        refine gw_aload_n dL_act_283 rfl rfl ?_
                        refine gw_iconstZ dL_act_284 rfl ?_
                        refine gw_iload dL_act_285 rfl rfl ?_
                        refine gw_iconstZ dL_act_287 rfl ?_
                        refine gw_iconstZ dL_act_288 rfl ?_
                        refine gw_aload_n dL_act_289 rfl rfl ?_
                        obtain ⟨v83, c84, e_c84, H⟩ := cl_i H
                        refine gw_SH6 okL_changes dL_act_290 kw_381 kw_382 ⟨by decide, by decide⟩ ⟨by decide, by decide⟩ (Nat.le_of_ble_eq_true rfl) (w_L_changes (h0) (h2) e_c84 ?_)
                        refine gw_goto (tgt := 319) dL_act_293 (by decide) ?_
                        cases H
                        exact gw_iret dL_act_319 rfl (by decide) (by decide) hK
                    · have H := bq_t q H
                      refine gw_aload_n dL_act_246 rfl rfl ?_
                      refine gw_iconstZ dL_act_247 rfl ?_
                      refine gw_iload dL_act_248 rfl rfl ?_
                      refine gw_iload_n dL_act_250 rfl rfl ?_
                      refine gw_iconstZ dL_act_251 rfl ?_
                      refine gw_ishrZ dL_act_252 rfl ?_
                      refine gw_iload dL_act_253 rfl rfl ?_
                      obtain ⟨g, H⟩ := gd_i H
                      obtain ⟨k85, e_k85, H⟩ := jn_i H
                      have hJ_k85 : ∀ (v86 : Int), k85 v86 = some r → G Φ nL_act (gw_M Φ nL_act K) none 0 0 265 [(2, .ref (M + p3))] [vI v86, vI (ishrZ (ishrZ p2 5) 3), vI v60, vI 4, .ref (M + p1)] (hp Φ hb M sh c) := by
                        intro v86 H
                        subst e_k85
                        obtain ⟨v87, e_v87, H⟩ := cv_i H
                        refine gw_S2 oknL_low dL_act_265 kw_369 kw_370 ⟨by decide, by decide⟩ ⟨by decide, by decide⟩ (Nat.le_of_ble_eq_true rfl) (w_L_low  e_v87 ?_)
                        refine gw_iconstZ dL_act_268 rfl ?_
                        refine gw_aload_n dL_act_269 rfl rfl ?_
                        obtain ⟨v88, c89, e_c89, H⟩ := cl_i H
                        refine gw_SH6 okL_changes dL_act_270 kw_381 kw_382 ⟨by decide, by decide⟩ ⟨by decide, by decide⟩ (Nat.le_of_ble_eq_true rfl) (w_L_changes (h0) (h2) e_c89 ?_)
                        refine gw_goto (tgt := 319) dL_act_273 (by decide) ?_
                        cases H
                        exact gw_iret dL_act_319 rfl (by decide) (by decide) hK
                      refine gw_if_eqZ (tgt := 263) dL_act_255 rfl (by decide) g (fun q => ?_) (fun q => ?_)
                      · have H := bq_t q H
                        refine gw_bipushZ dL_act_263 rfl (by decide) ?_
                        exact gw_L (hJ_k85 _ H) ((lvA_c rfl lvA_n))
                      · have H := bq_f q H
                        refine gw_bipushZ dL_act_258 rfl (by decide) ?_
                        refine gw_goto (tgt := 265) dL_act_260 (by decide) ?_
                        exact gw_L (hJ_k85 _ H) ((lvA_c rfl lvA_n))
                  · have H := bq_t q H
                    refine gw_aload_n dL_act_204 rfl rfl ?_
                    refine gw_iconstZ dL_act_205 rfl ?_
                    refine gw_iload_n dL_act_206 rfl rfl ?_
                    refine gw_iconstZ dL_act_207 rfl ?_
                    obtain ⟨v90, e_v90, H⟩ := cv_i H
                    refine gw_S2 oknL_low dL_act_208 kw_369 kw_370 ⟨by decide, by decide⟩ ⟨by decide, by decide⟩ (Nat.le_of_ble_eq_true rfl) (w_L_low  e_v90 ?_)
                    refine gw_iload dL_act_211 rfl rfl ?_
                    obtain ⟨g, H⟩ := gd_i H
                    obtain ⟨k91, e_k91, H⟩ := jn_i H
                    have hJ_k91 : ∀ (v92 : Int), k91 v92 = some r → G Φ nL_act (gw_M Φ nL_act K) none 0 0 221 [(2, .ref (M + p3)), (3, vI (ishrZ p2 5))] [vI v92, vI v90, vI 0, .ref (M + p1)] (hp Φ hb M sh c) := by
                      intro v92 H
                      subst e_k91
                      refine gw_iaddZ dL_act_221 rfl ?_
                      refine gw_iload_n dL_act_222 rfl rfl ?_
                      refine gw_iconstZ dL_act_223 rfl ?_
                      obtain ⟨v93, e_v93, H⟩ := cv_i H
                      refine gw_S2 oknL_low dL_act_224 kw_369 kw_370 ⟨by decide, by decide⟩ ⟨by decide, by decide⟩ (Nat.le_of_ble_eq_true rfl) (w_L_low  e_v93 ?_)
                      refine gw_iconstZ dL_act_227 rfl ?_
                      obtain ⟨g, H⟩ := gd_i H
                      refine gw_idivZ dL_act_228 rfl (by decide) g (by decide) ?_
                      refine gw_isubZ dL_act_229 rfl ?_
                      refine gw_iconstZ dL_act_230 rfl ?_
                      refine gw_iconstZ dL_act_231 rfl ?_
                      refine gw_aload_n dL_act_232 rfl rfl ?_
                      obtain ⟨v94, c95, e_c95, H⟩ := cl_i H
                      refine gw_SH6 okL_changes dL_act_233 kw_381 kw_382 ⟨by decide, by decide⟩ ⟨by decide, by decide⟩ (Nat.le_of_ble_eq_true rfl) (w_L_changes (h0) (h2) e_c95 ?_)
                      refine gw_goto (tgt := 319) dL_act_236 (by decide) ?_
                      cases H
                      exact gw_iret dL_act_319 rfl (by decide) (by decide) hK
                    refine gw_if_eqZ (tgt := 220) dL_act_213 rfl (by decide) g (fun q => ?_) (fun q => ?_)
                    · have H := bq_t q H
                      refine gw_iconstZ dL_act_220 rfl ?_
                      exact gw_L (hJ_k91 _ H) ((lvA_c rfl (lvA_c rfl lvA_n)))
                    · have H := bq_f q H
                      refine gw_iconstZ dL_act_216 rfl ?_
                      refine gw_goto (tgt := 221) dL_act_217 (by decide) ?_
                      exact gw_L (hJ_k91 _ H) ((lvA_c rfl (lvA_c rfl lvA_n)))
              · have H := bq_f q H
                refine gw_aload_n dL_act_158 rfl rfl ?_
                refine gw_iconstZ dL_act_159 rfl ?_
                refine gw_iload dL_act_160 rfl rfl ?_
                refine gw_iload dL_act_162 rfl rfl ?_
                refine gw_iload_n dL_act_164 rfl rfl ?_
                refine gw_bipushZ dL_act_165 rfl (by decide) ?_
                refine gw_ishrZ dL_act_167 rfl ?_
                refine gw_iload dL_act_168 rfl rfl ?_
                obtain ⟨g, H⟩ := gd_i H
                obtain ⟨k96, e_k96, H⟩ := jn_i H
                have hJ_k96 : ∀ (v97 : Int), k96 v97 = some r → G Φ nL_act (gw_M Φ nL_act K) none 0 0 180 [(2, .ref (M + p3))] [vI v97, vI (ishrZ (ishrZ p2 5) 6), vI v64, vI v60, vI 3, .ref (M + p1)] (hp Φ hb M sh c) := by
                  intro v97 H
                  subst e_k96
                  obtain ⟨v98, e_v98, H⟩ := cv_i H
                  refine gw_S2 oknL_low dL_act_180 kw_369 kw_370 ⟨by decide, by decide⟩ ⟨by decide, by decide⟩ (Nat.le_of_ble_eq_true rfl) (w_L_low  e_v98 ?_)
                  refine gw_iconstZ dL_act_183 rfl ?_
                  refine gw_isubZ dL_act_184 rfl ?_
                  refine gw_aload_n dL_act_185 rfl rfl ?_
                  obtain ⟨v99, c100, e_c100, H⟩ := cl_i H
                  refine gw_SH6 okL_changes dL_act_186 kw_381 kw_382 ⟨by decide, by decide⟩ ⟨by decide, by decide⟩ (Nat.le_of_ble_eq_true rfl) (w_L_changes (h0) (h2) e_c100 ?_)
                  cases H
                  exact gw_iret dL_act_189 rfl (by decide) (by decide) hK
                refine gw_if_eqZ (tgt := 178) dL_act_170 rfl (by decide) g (fun q => ?_) (fun q => ?_)
                · have H := bq_t q H
                  refine gw_bipushZ dL_act_178 rfl (by decide) ?_
                  exact gw_L (hJ_k96 _ H) ((lvA_c rfl lvA_n))
                · have H := bq_f q H
                  refine gw_bipushZ dL_act_173 rfl (by decide) ?_
                  refine gw_goto (tgt := 180) dL_act_175 (by decide) ?_
                  exact gw_L (hJ_k96 _ H) ((lvA_c rfl lvA_n))
            · have H := bq_f q H
              refine gw_aload_n dL_act_126 rfl rfl ?_
              refine gw_iconstZ dL_act_127 rfl ?_
              refine gw_iload_n dL_act_128 rfl rfl ?_
              refine gw_iload dL_act_129 rfl rfl ?_
              obtain ⟨g, H⟩ := gd_i H
              obtain ⟨k101, e_k101, H⟩ := jn_i H
              have hJ_k101 : ∀ (v102 : Int), k101 v102 = some r → G Φ nL_act (gw_M Φ nL_act K) none 0 0 141 [(2, .ref (M + p3))] [vI v102, vI (ishrZ p2 5), vI 2, .ref (M + p1)] (hp Φ hb M sh c) := by
                intro v102 H
                subst e_k101
                obtain ⟨v103, e_v103, H⟩ := cv_i H
                refine gw_S2 oknL_low dL_act_141 kw_369 kw_370 ⟨by decide, by decide⟩ ⟨by decide, by decide⟩ (Nat.le_of_ble_eq_true rfl) (w_L_low  e_v103 ?_)
                refine gw_iconstZ dL_act_144 rfl ?_
                refine gw_iconstZ dL_act_145 rfl ?_
                refine gw_aload_n dL_act_146 rfl rfl ?_
                obtain ⟨v104, c105, e_c105, H⟩ := cl_i H
                refine gw_SH6 okL_changes dL_act_147 kw_381 kw_382 ⟨by decide, by decide⟩ ⟨by decide, by decide⟩ (Nat.le_of_ble_eq_true rfl) (w_L_changes (h0) (h2) e_c105 ?_)
                cases H
                exact gw_iret dL_act_150 rfl (by decide) (by decide) hK
              refine gw_if_eqZ (tgt := 139) dL_act_131 rfl (by decide) g (fun q => ?_) (fun q => ?_)
              · have H := bq_t q H
                refine gw_bipushZ dL_act_139 rfl (by decide) ?_
                exact gw_L (hJ_k101 _ H) ((lvA_c rfl lvA_n))
              · have H := bq_f q H
                refine gw_bipushZ dL_act_134 rfl (by decide) ?_
                refine gw_goto (tgt := 141) dL_act_136 (by decide) ?_
                exact gw_L (hJ_k101 _ H) ((lvA_c rfl lvA_n))
          · have H := bq_f q H
            refine gw_aload_n dL_act_88 rfl rfl ?_
            refine gw_iconstZ dL_act_89 rfl ?_
            refine gw_iload dL_act_90 rfl rfl ?_
            refine gw_iload_n dL_act_92 rfl rfl ?_
            refine gw_bipushZ dL_act_93 rfl (by decide) ?_
            refine gw_ishrZ dL_act_95 rfl ?_
            refine gw_iload dL_act_96 rfl rfl ?_
            obtain ⟨g, H⟩ := gd_i H
            obtain ⟨k106, e_k106, H⟩ := jn_i H
            have hJ_k106 : ∀ (v107 : Int), k106 v107 = some r → G Φ nL_act (gw_M Φ nL_act K) none 0 0 108 [(2, .ref (M + p3))] [vI v107, vI (ishrZ (ishrZ p2 5) 6), vI v64, vI 1, .ref (M + p1)] (hp Φ hb M sh c) := by
              intro v107 H
              subst e_k106
              obtain ⟨v108, e_v108, H⟩ := cv_i H
              refine gw_S2 oknL_low dL_act_108 kw_369 kw_370 ⟨by decide, by decide⟩ ⟨by decide, by decide⟩ (Nat.le_of_ble_eq_true rfl) (w_L_low  e_v108 ?_)
              refine gw_iconstZ dL_act_111 rfl ?_
              refine gw_isubZ dL_act_112 rfl ?_
              refine gw_iconstZ dL_act_113 rfl ?_
              refine gw_aload_n dL_act_114 rfl rfl ?_
              obtain ⟨v109, c110, e_c110, H⟩ := cl_i H
              refine gw_SH6 okL_changes dL_act_115 kw_381 kw_382 ⟨by decide, by decide⟩ ⟨by decide, by decide⟩ (Nat.le_of_ble_eq_true rfl) (w_L_changes (h0) (h2) e_c110 ?_)
              cases H
              exact gw_iret dL_act_118 rfl (by decide) (by decide) hK
            refine gw_if_eqZ (tgt := 106) dL_act_98 rfl (by decide) g (fun q => ?_) (fun q => ?_)
            · have H := bq_t q H
              refine gw_bipushZ dL_act_106 rfl (by decide) ?_
              exact gw_L (hJ_k106 _ H) ((lvA_c rfl lvA_n))
            · have H := bq_f q H
              refine gw_bipushZ dL_act_101 rfl (by decide) ?_
              refine gw_goto (tgt := 108) dL_act_103 (by decide) ?_
              exact gw_L (hJ_k106 _ H) ((lvA_c rfl lvA_n))
        refine gw_if_eqZ (tgt := 75) dL_act_68 rfl (by decide) g (fun q => ?_) (fun q => ?_)
        · have H := bq_t q H
          refine gw_iconstZ dL_act_75 rfl ?_
          exact gw_L (hJ_k62 _ H) ((lvA_c rfl (lvA_c rfl (lvA_c rfl (lvA_c rfl (lvA_c rfl (lvA_c rfl lvA_n)))))))
        · have H := bq_f q H
          refine gw_iconstZ dL_act_71 rfl ?_
          refine gw_goto (tgt := 76) dL_act_72 (by decide) ?_
          exact gw_L (hJ_k62 _ H) ((lvA_c rfl (lvA_c rfl (lvA_c rfl (lvA_c rfl (lvA_c rfl (lvA_c rfl lvA_n)))))))
  refine gw_if_leZ (tgt := 20) dL_act_13 rfl (by decide) g (fun q => ?_) (fun q => ?_)
  · have H := bq_t q H
    refine gw_iconstZ dL_act_20 rfl ?_
    exact gw_L (hJ_k2 _ H) ((lvA_c rfl (lvA_c rfl (lvA_c rfl (lvA_c rfl lvA_n)))))
  · have H := bq_f q H
    refine gw_iconstZ dL_act_16 rfl ?_
    refine gw_goto (tgt := 21) dL_act_17 (by decide) ?_
    exact gw_L (hJ_k2 _ H) ((lvA_c rfl (lvA_c rfl (lvA_c rfl (lvA_c rfl lvA_n)))))
end NW
