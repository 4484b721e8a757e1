section FW
set_option maxRecDepth 100000 in
set_option maxHeartbeats 4000000 in
theorem w_X8_setRule {Φ : gwC} {hb : gwHp} {M : Nat} {sh : Nat → Option gSh} {th : Nat} {p1 : Int} {c : W0} {r : Int × Int × W0} {K : Option Value → gwHp → Prop} {KX : String → gwHp → Prop} (h0 : sD sh th) (H : f_X8_setRule th p1 c = some r) (hK : r.1 = 0 → K (some (vI r.2.1)) (hp Φ hb M sh r.2.2)) (hKX : ¬ r.1 = 0 → KX (xnm r.1) (hp Φ hb M sh r.2.2)) : gw_ConX Φ mX8_setRule [.ref (M + th), vI p1] (hp Φ hb M sh c) K KX := by
  unfold f_X8_setRule at H
  refine gw_startX okX8_setRule (Nat.le_of_ble_eq_true rfl) ?_
  refine gw_iload_n dX8_setRule_0 rfl rfl ?_
  obtain ⟨g, H⟩ := gd_i H
  obtain ⟨k1, e_k1, H⟩ := jn_i H
  have hJ : ∀ (u2 : Unit), k1 u2 = some r → G Φ mX8_setRule (gw_MX Φ mX8_setRule K KX) none 0 0 9 [] [] (hp Φ hb M sh c) := by
    intro u2 H
    subst e_k1
    cases H
    exact gw_throw (text := "a rule is 0 to 2") (by decide +kernel) gw_nms_ok kw_925 kw_114 thw_IA (by decide +kernel) dX8_setRule_9 dX8_setRule_12 dX8_setRule_13 dX8_setRule_15 dX8_setRule_18 rfl (by decide) (by decide) (by decide) (by decide) (hKX (show ¬ (1 : Int) = 0 by decide))
  refine gw_if_ltZ (tgt := 9) dX8_setRule_1 rfl (by decide) g (fun q => ?_) (fun q => ?_)
  · have H := bq_t q H
    exact gw_L (hJ _ H) (lvA_n)
  · have H := bq_f q H
    refine gw_iload_n dX8_setRule_4 rfl rfl ?_
    refine gw_iconstZ dX8_setRule_5 rfl ?_
    obtain ⟨g, H⟩ := gd_i H
    refine gw_icmp_leZ (tgt := 19) dX8_setRule_6 rfl (by decide) g (by decide) (fun q => ?_) (fun q => ?_)
    · have H := bq_t q H
      refine gw_aload_n dX8_setRule_19 rfl rfl ?_
      obtain ⟨v4, c3, e_c3, H⟩ := cl_i H
      refine gw_V0 okX8_saveState dX8_setRule_20 kw_366 kw_368 kw_0 (hp_o (h0.1)) rfl ⟨by decide, by decide⟩ ⟨by decide, by decide⟩ (Nat.le_of_ble_eq_true rfl) (w_X8_saveState (h0) e_c3 ?_)
      refine gw_aload_n dX8_setRule_23 rfl rfl ?_
      refine gs_getR cl8 0 dX8_setRule_24 rfl kw_328 (by decide) (h0.1) rfl ?_
      refine gs_getIN cl4 2 2 dX8_setRule_27 rfl kw_214 (by decide) (h0.2.1.1) rfl rfl ?_
      refine gw_istore_n dX8_setRule_30 rfl (by decide) ?_
      refine gw_aload_n dX8_setRule_31 rfl rfl ?_
      refine gs_getR cl8 0 dX8_setRule_32 rfl kw_328 (by decide) (h0.1) rfl ?_
      refine gw_iload_n dX8_setRule_35 rfl rfl ?_
      obtain ⟨c5, e_c5, H⟩ := sto_i H
      refine gs_putINE cl4 2 2 dX8_setRule_36 rfl kw_214 (by decide) rfl rfl (h0.2.1.1) rfl rfl e_c5 ?_
      refine gw_iload_n dX8_setRule_39 rfl rfl ?_
      cases H
      exact gw_iretX dX8_setRule_40 rfl (by decide) (by decide) (hK rfl)
    · have H := bq_f q H
      exact gw_L (hJ _ H) (lvA_n)
set_option maxRecDepth 100000 in
set_option maxHeartbeats 4000000 in
theorem w_X8_append {Φ : gwC} {hb : gwHp} {M : Nat} {sh : Nat → Option gSh} {th : Nat} {p1 : Int} {c : W0} {r : Int × Int × W0} {K : Option Value → gwHp → Prop} {KX : String → gwHp → Prop} (h0 : sD sh th) (H : f_X8_append th p1 c = some r) (hK : r.1 = 0 → K (some (vI r.2.1)) (hp Φ hb M sh r.2.2)) (hKX : ¬ r.1 = 0 → KX (xnm r.1) (hp Φ hb M sh r.2.2)) : gw_ConX Φ mX8_append [.ref (M + th), vI p1] (hp Φ hb M sh c) K KX := by
  unfold f_X8_append at H
  refine gw_startX okX8_append (Nat.le_of_ble_eq_true rfl) ?_
  refine gw_iload_n dX8_append_0 rfl rfl ?_
  refine gw_bipushZ dX8_append_1 rfl (by decide) ?_
  obtain ⟨g, H⟩ := gd_i H
  obtain ⟨k1, e_k1, H⟩ := jn_i H
  have hJ : ∀ (u2 : Unit), k1 u2 = some r → G Φ mX8_append (gw_MX Φ mX8_append K KX) none 0 0 12 [] [] (hp Φ hb M sh c) := by
    intro u2 H
    subst e_k1
    cases H
    exact gw_throw (text := "a character code is 33 to 126") (by decide +kernel) gw_nms_ok kw_925 kw_114 thw_IA (by decide +kernel) dX8_append_12 dX8_append_15 dX8_append_16 dX8_append_18 dX8_append_21 rfl (by decide) (by decide) (by decide) (by decide) (hKX (show ¬ (1 : Int) = 0 by decide))
  refine gw_icmp_ltZ (tgt := 12) dX8_append_3 rfl (by decide) g (by decide) (fun q => ?_) (fun q => ?_)
  · have H := bq_t q H
    exact gw_L (hJ _ H) (lvA_n)
  · have H := bq_f q H
    refine gw_iload_n dX8_append_6 rfl rfl ?_
    refine gw_bipushZ dX8_append_7 rfl (by decide) ?_
    obtain ⟨g, H⟩ := gd_i H
    refine gw_icmp_leZ (tgt := 22) dX8_append_9 rfl (by decide) g (by decide) (fun q => ?_) (fun q => ?_)
    · have H := bq_t q H
      refine gw_aload_n dX8_append_22 rfl rfl ?_
      refine gs_getR cl8 4 dX8_append_23 rfl kw_332 (by decide) (h0.1) rfl ?_
      refine gs_getIN cl7 0 0 dX8_append_26 rfl kw_245 (by decide) (h0.2.2.2.2.2.1.1) rfl rfl ?_
      refine gw_bipushZ dX8_append_29 rfl (by decide) ?_
      obtain ⟨g, H⟩ := gd_i H
      refine gw_icmp_ltZ (tgt := 44) dX8_append_31 rfl (by decide) g (by decide) (fun q => ?_) (fun q => ?_)
      · have H := bq_t q H
        refine gw_aload_n dX8_append_44 rfl rfl ?_
        refine gs_getR cl8 4 dX8_append_45 rfl kw_332 (by decide) (h0.1) rfl ?_
        refine gw_iload_n dX8_append_48 rfl rfl ?_
        obtain ⟨v4, c3, e_c3, H⟩ := cl_i H
        refine gw_V1 okX7_add dX8_append_49 kw_1072 kw_1073 kw_1074 (hp_o (h0.2.2.2.2.2.1.1)) rfl ⟨by decide, by decide⟩ ⟨by decide, by decide⟩ (Nat.le_of_ble_eq_true rfl) (w_X7_add (h0.2.2.2.2.2.1) e_c3 ?_)
        refine gw_aload_n dX8_append_52 rfl rfl ?_
        refine gs_getR cl8 4 dX8_append_53 rfl kw_332 (by decide) (h0.1) rfl ?_
        refine gs_getIN cl7 0 0 dX8_append_56 rfl kw_245 (by decide) (h0.2.2.2.2.2.1.1) rfl rfl ?_
        cases H
        exact gw_iretX dX8_append_59 rfl (by decide) (by decide) (hK rfl)
      · have H := bq_f q H
        cases H
        exact gw_throw (text := "the buffer has 60 characters") (by decide +kernel) gw_nms_ok kw_975 kw_117 thw_IS (by decide +kernel) dX8_append_34 dX8_append_37 dX8_append_38 dX8_append_40 dX8_append_43 rfl (by decide) (by decide) (by decide) (by decide) (hKX (show ¬ (2 : Int) = 0 by decide))
    · have H := bq_f q H
      exact gw_L (hJ _ H) (lvA_n)
set_option maxRecDepth 100000 in
set_option maxHeartbeats 4000000 in
theorem w_X8_clearBuffer {Φ : gwC} {hb : gwHp} {M : Nat} {sh : Nat → Option gSh} {th : Nat} {c : W0} {r : Int × W0} {K : Option Value → gwHp → Prop} (h0 : sD sh th) (H : f_X8_clearBuffer th c = some r) (hK : K (some (vI r.1)) (hp Φ hb M sh r.2)) : gw_Con Φ mX8_clearBuffer none [.ref (M + th)] (hp Φ hb M sh c) K := by
  unfold f_X8_clearBuffer at H
  refine gw_start okX8_clearBuffer (Nat.le_of_ble_eq_true rfl) ?_
  refine gw_aload_n dX8_clearBuffer_0 rfl rfl ?_
  refine gs_getR cl8 4 dX8_clearBuffer_1 rfl kw_332 (by decide) (h0.1) rfl ?_
  refine gs_getIN cl7 0 0 dX8_clearBuffer_4 rfl kw_245 (by decide) (h0.2.2.2.2.2.1.1) rfl rfl ?_
  refine gw_istore_n dX8_clearBuffer_7 rfl (by decide) ?_
  refine gw_aload_n dX8_clearBuffer_8 rfl rfl ?_
  refine gs_getR cl8 4 dX8_clearBuffer_9 rfl kw_332 (by decide) (h0.1) rfl ?_
  obtain ⟨v2, c1, e_c1, H⟩ := cl_i H
  refine gw_V0 okX7_clear dX8_clearBuffer_12 kw_495 kw_496 kw_497 (hp_o (h0.2.2.2.2.2.1.1)) rfl ⟨by decide, by decide⟩ ⟨by decide, by decide⟩ (Nat.le_of_ble_eq_true rfl) (w_X7_clear (h0.2.2.2.2.2.1) e_c1 ?_)
  refine gw_iload_n dX8_clearBuffer_15 rfl rfl ?_
  cases H
  exact gw_iret dX8_clearBuffer_16 rfl (by decide) (by decide) hK
set_option maxRecDepth 100000 in
set_option maxHeartbeats 4000000 in
theorem w_X8_firstError {Φ : gwC} {hb : gwHp} {M : Nat} {sh : Nat → Option gSh} {th : Nat} {c : W0} {r : Int × W0} {K : Option Value → gwHp → Prop} (h0 : sD sh th) (H : f_X8_firstError th c = some r) (hK : K (some (vI r.1)) (hp Φ hb M sh r.2)) : gw_Con Φ mX8_firstError none [.ref (M + th)] (hp Φ hb M sh c) K := by
  unfold f_X8_firstError at H
  refine gw_start okX8_firstError (Nat.le_of_ble_eq_true rfl) ?_
  refine gw_aload_n dX8_firstError_0 rfl rfl ?_
  refine gs_getR cl8 6 dX8_firstError_1 rfl kw_334 (by decide) (h0.1) rfl ?_
  refine gw_aload_n dX8_firstError_4 rfl rfl ?_
  refine gs_getR cl8 4 dX8_firstError_5 rfl kw_332 (by decide) (h0.1) rfl ?_
  obtain ⟨v1, c2, e_c2, H⟩ := cl_i H
  refine gw_V1 okX3_read dX8_firstError_8 kw_503 kw_504 kw_505 (hp_o (h0.2.2.2.2.2.2.2.1.1)) rfl ⟨by decide, by decide⟩ ⟨by decide, by decide⟩ (Nat.le_of_ble_eq_true rfl) (w_X3_read (h0.2.2.2.2.2.2.2.1) (h0.2.2.2.2.2.1) e_c2 ?_)
  refine gw_pop dX8_firstError_11 rfl rfl ?_
  refine gw_aload_n dX8_firstError_12 rfl rfl ?_
  refine gs_getR cl8 6 dX8_firstError_13 rfl kw_334 (by decide) (h0.1) rfl ?_
  refine gs_getIN cl3 2 2 dX8_firstError_16 rfl kw_266 (by decide) (h0.2.2.2.2.2.2.2.1.1) rfl rfl ?_
  cases H
  exact gw_iret dX8_firstError_19 rfl (by decide) (by decide) hK
set_option maxRecDepth 100000 in
set_option maxHeartbeats 4000000 in
theorem w_X8_load {Φ : gwC} {hb : gwHp} {M : Nat} {sh : Nat → Option gSh} {th : Nat} {c : W0} {r : Int × Int × W0} {K : Option Value → gwHp → Prop} {KX : String → gwHp → Prop} (h0 : sD sh th) (H : f_X8_load th c = some r) (hK : r.1 = 0 → K (some (vI r.2.1)) (hp Φ hb M sh r.2.2)) (hKX : ¬ r.1 = 0 → KX (xnm r.1) (hp Φ hb M sh r.2.2)) : gw_ConX Φ mX8_load [.ref (M + th)] (hp Φ hb M sh c) K KX := by
  unfold f_X8_load at H
  refine gw_startX okX8_load (Nat.le_of_ble_eq_true rfl) ?_
  refine gw_aload_n dX8_load_0 rfl rfl ?_
  refine gs_getR cl8 6 dX8_load_1 rfl kw_334 (by decide) (h0.1) rfl ?_
  refine gw_aload_n dX8_load_4 rfl rfl ?_
  refine gs_getR cl8 4 dX8_load_5 rfl kw_332 (by decide) (h0.1) rfl ?_
  obtain ⟨v1, c2, e_c2, H⟩ := cl_i H
  refine gw_V1 okX3_read dX8_load_8 kw_503 kw_504 kw_505 (hp_o (h0.2.2.2.2.2.2.2.1.1)) rfl ⟨by decide, by decide⟩ ⟨by decide, by decide⟩ (Nat.le_of_ble_eq_true rfl) (w_X3_read (h0.2.2.2.2.2.2.2.1) (h0.2.2.2.2.2.1) e_c2 ?_)
  obtain ⟨g, H⟩ := gd_i H
  refine gw_if_neZ (tgt := 24) dX8_load_11 rfl (by decide) g (fun q => ?_) (fun q => ?_)
  · have H := bq_f q H
    refine gw_aload_n dX8_load_24 rfl rfl ?_
    obtain ⟨v4, c3, e_c3, H⟩ := cl_i H
    refine gw_V0 okX8_saveState dX8_load_25 kw_366 kw_368 kw_0 (hp_o (h0.1)) rfl ⟨by decide, by decide⟩ ⟨by decide, by decide⟩ (Nat.le_of_ble_eq_true rfl) (w_X8_saveState (h0) e_c3 ?_)
    refine gw_aload_n dX8_load_28 rfl rfl ?_
    refine gs_getR cl8 0 dX8_load_29 rfl kw_328 (by decide) (h0.1) rfl ?_
    refine gs_getRN cl4 0 dX8_load_32 rfl kw_208 (by decide) (h0.2.1.1) rfl ?_
    refine gw_aload_n dX8_load_35 rfl rfl ?_
    refine gs_getR cl8 6 dX8_load_36 rfl kw_334 (by decide) (h0.1) rfl ?_
    refine gs_getRN cl3 1 dX8_load_39 rfl kw_264 (by decide) (h0.2.2.2.2.2.2.2.1.1) rfl ?_
    obtain ⟨v6, c5, e_c5, H⟩ := cl_i H
    refine gw_V1 okX2_copy dX8_load_42 kw_1085 kw_379 kw_380 (hp_o (h0.2.1.2.1.1)) rfl ⟨by decide, by decide⟩ ⟨by decide, by decide⟩ (Nat.le_of_ble_eq_true rfl) (w_X2_copy (h0.2.1.2.1) (h0.2.2.2.2.2.2.2.1.2.2) e_c5 ?_)
    refine gw_aload_n dX8_load_45 rfl rfl ?_
    refine gs_getR cl8 0 dX8_load_46 rfl kw_328 (by decide) (h0.1) rfl ?_
    obtain ⟨v8, c7, e_c7, H⟩ := cl_i H
    refine gw_V0 okX4_start dX8_load_49 kw_394 kw_395 kw_396 (hp_o (h0.2.1.1)) rfl ⟨by decide, by decide⟩ ⟨by decide, by decide⟩ (Nat.le_of_ble_eq_true rfl) (w_X4_start (h0.2.1) e_c7 ?_)
    refine gw_aload_n dX8_load_52 rfl rfl ?_
    refine gs_getR cl8 4 dX8_load_53 rfl kw_332 (by decide) (h0.1) rfl ?_
    obtain ⟨v10, c9, e_c9, H⟩ := cl_i H
    refine gw_V0 okX7_clear dX8_load_56 kw_495 kw_496 kw_497 (hp_o (h0.2.2.2.2.2.1.1)) rfl ⟨by decide, by decide⟩ ⟨by decide, by decide⟩ (Nat.le_of_ble_eq_true rfl) (w_X7_clear (h0.2.2.2.2.2.1) e_c9 ?_)
    refine gw_aload_n dX8_load_59 rfl rfl ?_
    refine gs_getR cl8 0 dX8_load_60 rfl kw_328 (by decide) (h0.1) rfl ?_
    refine gs_getRN cl4 0 dX8_load_63 rfl kw_208 (by decide) (h0.2.1.1) rfl ?_
    refine gs_getIN cl2 1 1 dX8_load_66 rfl kw_167 (by decide) (h0.2.1.2.1.1) rfl rfl ?_
    cases H
    exact gw_iretX dX8_load_69 rfl (by decide) (by decide) (hK rfl)
  · have H := bq_t q H
    cases H
    exact gw_throw (text := "the buffer is not a complete problem") (by decide +kernel) gw_nms_ok kw_925 kw_114 thw_IA (by decide +kernel) dX8_load_14 dX8_load_17 dX8_load_18 dX8_load_20 dX8_load_23 rfl (by decide) (by decide) (by decide) (by decide) (hKX (show ¬ (1 : Int) = 0 by decide))
set_option maxRecDepth 100000 in
set_option maxHeartbeats 4000000 in
theorem w_X8_write {Φ : gwC} {hb : gwHp} {M : Nat} {sh : Nat → Option gSh} {th : Nat} {c : W0} {r : Int × Int × W0} {K : Option Value → gwHp → Prop} {KX : String → gwHp → Prop} (h0 : sD sh th) (H : f_X8_write th c = some r) (hK : r.1 = 0 → K (some (vI r.2.1)) (hp Φ hb M sh r.2.2)) (hKX : ¬ r.1 = 0 → KX (xnm r.1) (hp Φ hb M sh r.2.2)) : gw_ConX Φ mX8_write [.ref (M + th)] (hp Φ hb M sh c) K KX := by
  unfold f_X8_write at H
  refine gw_startX okX8_write (Nat.le_of_ble_eq_true rfl) ?_
  refine gw_aload_n dX8_write_0 rfl rfl ?_
  refine gs_getR cl8 5 dX8_write_1 rfl kw_333 (by decide) (h0.1) rfl ?_
  obtain ⟨v2, c1, e_c1, H⟩ := cl_i H
  refine gw_V0 okX7_clear dX8_write_4 kw_495 kw_496 kw_497 (hp_o (h0.2.2.2.2.2.2.1.1)) rfl ⟨by decide, by decide⟩ ⟨by decide, by decide⟩ (Nat.le_of_ble_eq_true rfl) (w_X7_clear (h0.2.2.2.2.2.2.1) e_c1 ?_)
  refine gw_aload_n dX8_write_7 rfl rfl ?_
  refine gs_getR cl8 5 dX8_write_8 rfl kw_333 (by decide) (h0.1) rfl ?_
  refine gw_aload_n dX8_write_11 rfl rfl ?_
  refine gs_getR cl8 0 dX8_write_12 rfl kw_328 (by decide) (h0.1) rfl ?_
  refine gs_getRN cl4 0 dX8_write_15 rfl kw_208 (by decide) (h0.2.1.1) rfl ?_
  obtain ⟨v4, c3, e_c3, H⟩ := cl_i H
  refine gw_V1 okX7_addProblem dX8_write_18 kw_1093 kw_1094 kw_1095 (hp_o (h0.2.2.2.2.2.2.1.1)) rfl ⟨by decide, by decide⟩ ⟨by decide, by decide⟩ (Nat.le_of_ble_eq_true rfl) (w_X7_addProblem (h0.2.2.2.2.2.2.1) (h0.2.1.2.1) e_c3 ?_)
  refine gw_aload_n dX8_write_21 rfl rfl ?_
  refine gs_getR cl8 5 dX8_write_22 rfl kw_333 (by decide) (h0.1) rfl ?_
  refine gs_getIN cl7 0 0 dX8_write_25 rfl kw_245 (by decide) (h0.2.2.2.2.2.2.1.1) rfl rfl ?_
  refine gw_bipushZ dX8_write_28 rfl (by decide) ?_
  obtain ⟨g, H⟩ := gd_i H
  refine gw_icmp_leZ (tgt := 43) dX8_write_30 rfl (by decide) g (by decide) (fun q => ?_) (fun q => ?_)
  · have H := bq_t q H
    refine gw_aload_n dX8_write_43 rfl rfl ?_
    refine gs_getR cl8 4 dX8_write_44 rfl kw_332 (by decide) (h0.1) rfl ?_
    refine gw_aload_n dX8_write_47 rfl rfl ?_
    refine gs_getR cl8 5 dX8_write_48 rfl kw_333 (by decide) (h0.1) rfl ?_
    obtain ⟨v6, c5, e_c5, H⟩ := cl_i H
    refine gw_V1 okX7_copy dX8_write_51 kw_1113 kw_508 kw_509 (hp_o (h0.2.2.2.2.2.1.1)) rfl ⟨by decide, by decide⟩ ⟨by decide, by decide⟩ (Nat.le_of_ble_eq_true rfl) (w_X7_copy (h0.2.2.2.2.2.1) (h0.2.2.2.2.2.2.1) e_c5 ?_)
    refine gw_aload_n dX8_write_54 rfl rfl ?_
    refine gs_getR cl8 4 dX8_write_55 rfl kw_332 (by decide) (h0.1) rfl ?_
    refine gs_getIN cl7 0 0 dX8_write_58 rfl kw_245 (by decide) (h0.2.2.2.2.2.1.1) rfl rfl ?_
    cases H
    exact gw_iretX dX8_write_61 rfl (by decide) (by decide) (hK rfl)
  · have H := bq_f q H
    cases H
    exact gw_throw (text := "the text would have more than 60 characters") (by decide +kernel) gw_nms_ok kw_975 kw_117 thw_IS (by decide +kernel) dX8_write_33 dX8_write_36 dX8_write_37 dX8_write_39 dX8_write_42 rfl (by decide) (by decide) (by decide) (by decide) (hKX (show ¬ (2 : Int) = 0 by decide))
set_option maxRecDepth 100000 in
set_option maxHeartbeats 4000000 in
theorem w_X8_undo {Φ : gwC} {hb : gwHp} {M : Nat} {sh : Nat → Option gSh} {th : Nat} {c : W0} {r : Int × Int × W0} {K : Option Value → gwHp → Prop} {KX : String → gwHp → Prop} (h0 : sD sh th) (H : f_X8_undo th c = some r) (hK : r.1 = 0 → K (some (vI r.2.1)) (hp Φ hb M sh r.2.2)) (hKX : ¬ r.1 = 0 → KX (xnm r.1) (hp Φ hb M sh r.2.2)) : gw_ConX Φ mX8_undo [.ref (M + th)] (hp Φ hb M sh c) K KX := by
  unfold f_X8_undo at H
  refine gw_startX okX8_undo (Nat.le_of_ble_eq_true rfl) ?_
  refine gw_aload_n dX8_undo_0 rfl rfl ?_
  refine gs_getI cl8 10 10 dX8_undo_1 rfl kw_338 (by decide) (h0.1) rfl rfl ?_
  refine gw_iconstZ dX8_undo_4 rfl ?_
  obtain ⟨g, H⟩ := gd_i H
  obtain ⟨k1, e_k1, H⟩ := jn_i H
  have hJ : ∀ (u2 : Unit), k1 u2 = some r → G Φ mX8_undo (gw_MX Φ mX8_undo K KX) none 0 0 20 [] [] (hp Φ hb M sh c) := by
    intro u2 H
    subst e_k1
    cases H
    exact gw_throw (text := "there is no saved state") (by decide +kernel) gw_nms_ok kw_975 kw_117 thw_IS (by decide +kernel) dX8_undo_20 dX8_undo_23 dX8_undo_24 dX8_undo_26 dX8_undo_29 rfl (by decide) (by decide) (by decide) (by decide) (hKX (show ¬ (2 : Int) = 0 by decide))
  refine gw_icmp_ltZ (tgt := 20) dX8_undo_5 rfl (by decide) g (by decide) (fun q => ?_) (fun q => ?_)
  · have H := bq_t q H
    exact gw_L (hJ _ H) (lvA_n)
  · have H := bq_f q H
    refine gw_aload_n dX8_undo_8 rfl rfl ?_
    refine gs_getI cl8 10 10 dX8_undo_9 rfl kw_338 (by decide) (h0.1) rfl rfl ?_
    refine gw_aload_n dX8_undo_12 rfl rfl ?_
    refine gs_getR cl8 3 dX8_undo_13 rfl kw_331 (by decide) (h0.1) rfl ?_
    refine gs_alenR dX8_undo_16 rfl (h0.2.2.2.2.1) ?_
    obtain ⟨g, H⟩ := gd_i H
    refine gw_icmp_leZ (tgt := 30) dX8_undo_17 rfl (by decide) g (by decide) (fun q => ?_) (fun q => ?_)
    · have H := bq_t q H
      refine gw_aload_n dX8_undo_30 rfl rfl ?_
      refine gw_dup dX8_undo_31 rfl rfl ?_
      refine gs_getI cl8 10 10 dX8_undo_32 rfl kw_338 (by decide) (h0.1) rfl rfl ?_
      refine gw_iconstZ dX8_undo_35 rfl ?_
      refine gw_isubZ dX8_undo_36 rfl ?_
      obtain ⟨c3, e_c3, H⟩ := sto_i H
      refine gs_putIE cl8 10 10 dX8_undo_37 rfl kw_338 (by decide) rfl rfl (h0.1) rfl rfl e_c3 ?_
      refine gw_aload_n dX8_undo_40 rfl rfl ?_
      refine gs_getR cl8 0 dX8_undo_41 rfl kw_328 (by decide) (h0.1) rfl ?_
      refine gw_aload_n dX8_undo_44 rfl rfl ?_
      refine gs_getR cl8 3 dX8_undo_45 rfl kw_331 (by decide) (h0.1) rfl ?_
      refine gw_aload_n dX8_undo_48 rfl rfl ?_
      refine gs_getI cl8 10 10 dX8_undo_49 rfl kw_338 (by decide) (h0.1) rfl rfl ?_
      obtain ⟨g, H⟩ := gd_i H
      refine gs_aaldZ dX8_undo_52 rfl (h0.2.2.2.2.1) g (by decide) ?_
      obtain ⟨hz4, H⟩ := gd_i H
      have hz4 := stP_s h0 hz4
      obtain ⟨v6, c5, e_c5, H⟩ := cl_i H
      refine gw_V1 okX4_copy dX8_undo_53 kw_374 kw_375 kw_376 (hp_o (h0.2.1.1)) rfl ⟨by decide, by decide⟩ ⟨by decide, by decide⟩ (Nat.le_of_ble_eq_true rfl) (w_X4_copy (h0.2.1) (hz4) e_c5 ?_)
      refine gw_aload_n dX8_undo_56 rfl rfl ?_
      refine gs_getI cl8 10 10 dX8_undo_57 rfl kw_338 (by decide) (h0.1) rfl rfl ?_
      cases H
      exact gw_iretX dX8_undo_60 rfl (by decide) (by decide) (hK rfl)
    · have H := bq_f q H
      exact gw_L (hJ _ H) (lvA_n)
set_option maxRecDepth 100000 in
set_option maxHeartbeats 4000000 in
theorem w_X8_keep {Φ : gwC} {hb : gwHp} {M : Nat} {sh : Nat → Option gSh} {th : Nat} {c : W0} {r : Int × W0} {K : Option Value → gwHp → Prop} (h0 : sD sh th) (H : f_X8_keep th c = some r) (hK : K (some (vI r.1)) (hp Φ hb M sh r.2)) : gw_Con Φ mX8_keep none [.ref (M + th)] (hp Φ hb M sh c) K := by
  unfold f_X8_keep at H
  refine gw_start okX8_keep (Nat.le_of_ble_eq_true rfl) ?_
  refine gw_aload_n dX8_keep_0 rfl rfl ?_
  refine gs_getR cl8 2 dX8_keep_1 rfl kw_330 (by decide) (h0.1) rfl ?_
  refine gw_aload_n dX8_keep_4 rfl rfl ?_
  refine gs_getR cl8 0 dX8_keep_5 rfl kw_328 (by decide) (h0.1) rfl ?_
  obtain ⟨v2, c1, e_c1, H⟩ := cl_i H
  refine gw_V1 okX4_copy dX8_keep_8 kw_374 kw_375 kw_376 (hp_o (h0.2.2.2.1.1)) rfl ⟨by decide, by decide⟩ ⟨by decide, by decide⟩ (Nat.le_of_ble_eq_true rfl) (w_X4_copy (h0.2.2.2.1) (h0.2.1) e_c1 ?_)
  refine gw_aload_n dX8_keep_11 rfl rfl ?_
  refine gw_iconstZ dX8_keep_12 rfl ?_
  obtain ⟨c3, e_c3, H⟩ := sto_i H
  refine gs_putZE cl8 9 9 dX8_keep_13 rfl kw_337 (by decide) rfl rfl (h0.1) rfl rfl (by decide) e_c3 ?_
  refine gw_aload_n dX8_keep_16 rfl rfl ?_
  refine gs_getR cl8 0 dX8_keep_17 rfl kw_328 (by decide) (h0.1) rfl ?_
  refine gs_getIN cl4 4 4 dX8_keep_20 rfl kw_218 (by decide) (h0.2.1.1) rfl rfl ?_
  cases H
  exact gw_iret dX8_keep_23 rfl (by decide) (by decide) hK
set_option maxRecDepth 100000 in
set_option maxHeartbeats 4000000 in
theorem w_X8_restore {Φ : gwC} {hb : gwHp} {M : Nat} {sh : Nat → Option gSh} {th : Nat} {c : W0} {r : Int × Int × W0} {K : Option Value → gwHp → Prop} {KX : String → gwHp → Prop} (h0 : sD sh th) (H : f_X8_restore th c = some r) (hK : r.1 = 0 → K (some (vI r.2.1)) (hp Φ hb M sh r.2.2)) (hKX : ¬ r.1 = 0 → KX (xnm r.1) (hp Φ hb M sh r.2.2)) : gw_ConX Φ mX8_restore [.ref (M + th)] (hp Φ hb M sh c) K KX := by
  unfold f_X8_restore at H
  refine gw_startX okX8_restore (Nat.le_of_ble_eq_true rfl) ?_
  refine gw_aload_n dX8_restore_0 rfl rfl ?_
  refine gs_getI cl8 9 9 dX8_restore_1 rfl kw_337 (by decide) (h0.1) rfl rfl ?_
  obtain ⟨g, H⟩ := gd_i H
  refine gw_if_neZ (tgt := 17) dX8_restore_4 rfl (by decide) g (fun q => ?_) (fun q => ?_)
  · have H := bq_f q H
    refine gw_aload_n dX8_restore_17 rfl rfl ?_
    obtain ⟨v2, c1, e_c1, H⟩ := cl_i H
    refine gw_V0 okX8_saveState dX8_restore_18 kw_366 kw_368 kw_0 (hp_o (h0.1)) rfl ⟨by decide, by decide⟩ ⟨by decide, by decide⟩ (Nat.le_of_ble_eq_true rfl) (w_X8_saveState (h0) e_c1 ?_)
    refine gw_aload_n dX8_restore_21 rfl rfl ?_
    refine gs_getR cl8 0 dX8_restore_22 rfl kw_328 (by decide) (h0.1) rfl ?_
    refine gw_aload_n dX8_restore_25 rfl rfl ?_
    refine gs_getR cl8 2 dX8_restore_26 rfl kw_330 (by decide) (h0.1) rfl ?_
    obtain ⟨v4, c3, e_c3, H⟩ := cl_i H
    refine gw_V1 okX4_copy dX8_restore_29 kw_374 kw_375 kw_376 (hp_o (h0.2.1.1)) rfl ⟨by decide, by decide⟩ ⟨by decide, by decide⟩ (Nat.le_of_ble_eq_true rfl) (w_X4_copy (h0.2.1) (h0.2.2.2.1) e_c3 ?_)
    refine gw_aload_n dX8_restore_32 rfl rfl ?_
    refine gs_getR cl8 0 dX8_restore_33 rfl kw_328 (by decide) (h0.1) rfl ?_
    refine gs_getIN cl4 4 4 dX8_restore_36 rfl kw_218 (by decide) (h0.2.1.1) rfl rfl ?_
    cases H
    exact gw_iretX dX8_restore_39 rfl (by decide) (by decide) (hK rfl)
  · have H := bq_t q H
    cases H
    exact gw_throw (text := "there is no snapshot") (by decide +kernel) gw_nms_ok kw_975 kw_117 thw_IS (by decide +kernel) dX8_restore_7 dX8_restore_10 dX8_restore_11 dX8_restore_13 dX8_restore_16 rfl (by decide) (by decide) (by decide) (by decide) (hKX (show ¬ (2 : Int) = 0 by decide))
set_option maxRecDepth 100000 in
set_option maxHeartbeats 4000000 in
theorem w_X8_savedStates {Φ : gwC} {hb : gwHp} {M : Nat} {sh : Nat → Option gSh} {th : Nat} {c : W0} {r : Int} {K : Option Value → gwHp → Prop} (h0 : sD sh th) (H : f_X8_savedStates th c = some r) (hK : K (some (vI r)) (hp Φ hb M sh c)) : gw_Con Φ mX8_savedStates none [.ref (M + th)] (hp Φ hb M sh c) K := by
  unfold f_X8_savedStates at H
  refine gw_start okX8_savedStates (Nat.le_of_ble_eq_true rfl) ?_
  refine gw_aload_n dX8_savedStates_0 rfl rfl ?_
  refine gs_getI cl8 10 10 dX8_savedStates_1 rfl kw_338 (by decide) (h0.1) rfl rfl ?_
  cases H
  exact gw_iret dX8_savedStates_4 rfl (by decide) (by decide) hK
set_option maxRecDepth 100000 in
set_option maxHeartbeats 4000000 in
theorem w_X8_variables {Φ : gwC} {hb : gwHp} {M : Nat} {sh : Nat → Option gSh} {th : Nat} {c : W0} {r : Int} {K : Option Value → gwHp → Prop} (h0 : sD sh th) (H : f_X8_variables th c = some r) (hK : K (some (vI r)) (hp Φ hb M sh c)) : gw_Con Φ mX8_variables none [.ref (M + th)] (hp Φ hb M sh c) K := by
  unfold f_X8_variables at H
  refine gw_start okX8_variables (Nat.le_of_ble_eq_true rfl) ?_
  refine gw_aload_n dX8_variables_0 rfl rfl ?_
  refine gs_getR cl8 0 dX8_variables_1 rfl kw_328 (by decide) (h0.1) rfl ?_
  refine gs_getRN cl4 0 dX8_variables_4 rfl kw_208 (by decide) (h0.2.1.1) rfl ?_
  refine gs_getIN cl2 0 0 dX8_variables_7 rfl kw_159 (by decide) (h0.2.1.2.1.1) rfl rfl ?_
  cases H
  exact gw_iret dX8_variables_10 rfl (by decide) (by decide) hK
set_option maxRecDepth 100000 in
set_option maxHeartbeats 4000000 in
theorem w_X8_constraints {Φ : gwC} {hb : gwHp} {M : Nat} {sh : Nat → Option gSh} {th : Nat} {c : W0} {r : Int} {K : Option Value → gwHp → Prop} (h0 : sD sh th) (H : f_X8_constraints th c = some r) (hK : K (some (vI r)) (hp Φ hb M sh c)) : gw_Con Φ mX8_constraints none [.ref (M + th)] (hp Φ hb M sh c) K := by
  unfold f_X8_constraints at H
  refine gw_start okX8_constraints (Nat.le_of_ble_eq_true rfl) ?_
  refine gw_aload_n dX8_constraints_0 rfl rfl ?_
  refine gs_getR cl8 0 dX8_constraints_1 rfl kw_328 (by decide) (h0.1) rfl ?_
  refine gs_getRN cl4 0 dX8_constraints_4 rfl kw_208 (by decide) (h0.2.1.1) rfl ?_
  refine gs_getIN cl2 1 1 dX8_constraints_7 rfl kw_167 (by decide) (h0.2.1.2.1.1) rfl rfl ?_
  cases H
  exact gw_iret dX8_constraints_10 rfl (by decide) (by decide) hK
set_option maxRecDepth 100000 in
set_option maxHeartbeats 4000000 in
theorem w_X8_profitOf {Φ : gwC} {hb : gwHp} {M : Nat} {sh : Nat → Option gSh} {th : Nat} {p1 : Int} {c : W0} {r : Int × Int × W0} {K : Option Value → gwHp → Prop} {KX : String → gwHp → Prop} (h0 : sD sh th) (H : f_X8_profitOf th p1 c = some r) (hK : r.1 = 0 → K (some (vI r.2.1)) (hp Φ hb M sh r.2.2)) (hKX : ¬ r.1 = 0 → KX (xnm r.1) (hp Φ hb M sh r.2.2)) : gw_ConX Φ mX8_profitOf [.ref (M + th), vI p1] (hp Φ hb M sh c) K KX := by
  unfold f_X8_profitOf at H
  refine gw_startX okX8_profitOf (Nat.le_of_ble_eq_true rfl) ?_
  refine gw_aload_n dX8_profitOf_0 rfl rfl ?_
  refine gw_iload_n dX8_profitOf_1 rfl rfl ?_
  obtain ⟨e9, v2, c1, e_c1, H⟩ := cx_i H
  refine gw_VX1 okX8_requireVariable dX8_profitOf_2 kw_950 kw_952 kw_25 (hp_o (h0.1)) rfl ⟨by decide, by decide⟩ ⟨by decide, by decide⟩ (Nat.le_of_ble_eq_true rfl) (w_X8_requireVariable (h0) e_c1 (fun z => ?_) (fun z => ?_))
  · rcases H with ⟨-, H⟩ | ⟨z2, H⟩
    rotate_left
    · exact absurd z z2
    refine gw_aload_n dX8_profitOf_5 rfl rfl ?_
    refine gs_getR cl8 0 dX8_profitOf_6 rfl kw_328 (by decide) (h0.1) rfl ?_
    refine gs_getRN cl4 0 dX8_profitOf_9 rfl kw_208 (by decide) (h0.2.1.1) rfl ?_
    refine gw_iload_n dX8_profitOf_12 rfl rfl ?_
    obtain ⟨v3, e_v3, H⟩ := cv_i H
    refine gw_V1 okX2_profit dX8_profitOf_13 kw_763 kw_427 kw_428 (hp_o (h0.2.1.2.1.1)) rfl ⟨by decide, by decide⟩ ⟨by decide, by decide⟩ (Nat.le_of_ble_eq_true rfl) (w_X2_profit (h0.2.1.2.1) e_v3 ?_)
    cases H
    exact gw_iretX dX8_profitOf_16 rfl (by decide) (by decide) (hK rfl)
  · exact gw_out rfl (by decide) (by decide) (by rcases H with ⟨z2, H⟩ | ⟨z2, rfl⟩; (· exact absurd z2 z); exact hKX z)
set_option maxRecDepth 100000 in
set_option maxHeartbeats 4000000 in
theorem w_X8_coefficientOf {Φ : gwC} {hb : gwHp} {M : Nat} {sh : Nat → Option gSh} {th : Nat} {p1 : Int} {p2 : Int} {c : W0} {r : Int × Int × W0} {K : Option Value → gwHp → Prop} {KX : String → gwHp → Prop} (h0 : sD sh th) (H : f_X8_coefficientOf th p1 p2 c = some r) (hK : r.1 = 0 → K (some (vI r.2.1)) (hp Φ hb M sh r.2.2)) (hKX : ¬ r.1 = 0 → KX (xnm r.1) (hp Φ hb M sh r.2.2)) : gw_ConX Φ mX8_coefficientOf [.ref (M + th), vI p1, vI p2] (hp Φ hb M sh c) K KX := by
  unfold f_X8_coefficientOf at H
  refine gw_startX okX8_coefficientOf (Nat.le_of_ble_eq_true rfl) ?_
  refine gw_aload_n dX8_coefficientOf_0 rfl rfl ?_
  refine gw_iload_n dX8_coefficientOf_1 rfl rfl ?_
  obtain ⟨e9, v2, c1, e_c1, H⟩ := cx_i H
  refine gw_VX1 okX8_requireConstraint dX8_coefficientOf_2 kw_781 kw_783 kw_19 (hp_o (h0.1)) rfl ⟨by decide, by decide⟩ ⟨by decide, by decide⟩ (Nat.le_of_ble_eq_true rfl) (w_X8_requireConstraint (h0) e_c1 (fun z => ?_) (fun z => ?_))
  · rcases H with ⟨-, H⟩ | ⟨z2, H⟩
    rotate_left
    · exact absurd z z2
    refine gw_aload_n dX8_coefficientOf_5 rfl rfl ?_
    refine gw_iload_n dX8_coefficientOf_6 rfl rfl ?_
    obtain ⟨e9, v4, c3, e_c3, H⟩ := cx_i H
    refine gw_VX1 okX8_requireVariable dX8_coefficientOf_7 kw_950 kw_952 kw_25 (hp_o (h0.1)) rfl ⟨by decide, by decide⟩ ⟨by decide, by decide⟩ (Nat.le_of_ble_eq_true rfl) (w_X8_requireVariable (h0) e_c3 (fun z => ?_) (fun z => ?_))
    · rcases H with ⟨-, H⟩ | ⟨z2, H⟩
      rotate_left
      · exact absurd z z2
      refine gw_aload_n dX8_coefficientOf_10 rfl rfl ?_
      refine gs_getR cl8 0 dX8_coefficientOf_11 rfl kw_328 (by decide) (h0.1) rfl ?_
      refine gs_getRN cl4 0 dX8_coefficientOf_14 rfl kw_208 (by decide) (h0.2.1.1) rfl ?_
      refine gw_iload_n dX8_coefficientOf_17 rfl rfl ?_
      refine gw_iload_n dX8_coefficientOf_18 rfl rfl ?_
      obtain ⟨v5, e_v5, H⟩ := cv_i H
      refine gw_V2 okX2_coefficient dX8_coefficientOf_19 kw_773 kw_411 kw_412 (hp_o (h0.2.1.2.1.1)) rfl ⟨by decide, by decide⟩ ⟨by decide, by decide⟩ (Nat.le_of_ble_eq_true rfl) (w_X2_coefficient (h0.2.1.2.1) e_v5 ?_)
      cases H
      exact gw_iretX dX8_coefficientOf_22 rfl (by decide) (by decide) (hK rfl)
    · exact gw_out rfl (by decide) (by decide) (by rcases H with ⟨z2, H⟩ | ⟨z2, rfl⟩; (· exact absurd z2 z); exact hKX z)
  · exact gw_out rfl (by decide) (by decide) (by rcases H with ⟨z2, H⟩ | ⟨z2, rfl⟩; (· exact absurd z2 z); exact hKX z)
set_option maxRecDepth 100000 in
set_option maxHeartbeats 4000000 in
theorem w_X8_boundOf {Φ : gwC} {hb : gwHp} {M : Nat} {sh : Nat → Option gSh} {th : Nat} {p1 : Int} {c : W0} {r : Int × Int × W0} {K : Option Value → gwHp → Prop} {KX : String → gwHp → Prop} (h0 : sD sh th) (H : f_X8_boundOf th p1 c = some r) (hK : r.1 = 0 → K (some (vI r.2.1)) (hp Φ hb M sh r.2.2)) (hKX : ¬ r.1 = 0 → KX (xnm r.1) (hp Φ hb M sh r.2.2)) : gw_ConX Φ mX8_boundOf [.ref (M + th), vI p1] (hp Φ hb M sh c) K KX := by
  unfold f_X8_boundOf at H
  refine gw_startX okX8_boundOf (Nat.le_of_ble_eq_true rfl) ?_
  refine gw_aload_n dX8_boundOf_0 rfl rfl ?_
  refine gw_iload_n dX8_boundOf_1 rfl rfl ?_
  obtain ⟨e9, v2, c1, e_c1, H⟩ := cx_i H
  refine gw_VX1 okX8_requireConstraint dX8_boundOf_2 kw_781 kw_783 kw_19 (hp_o (h0.1)) rfl ⟨by decide, by decide⟩ ⟨by decide, by decide⟩ (Nat.le_of_ble_eq_true rfl) (w_X8_requireConstraint (h0) e_c1 (fun z => ?_) (fun z => ?_))
  · rcases H with ⟨-, H⟩ | ⟨z2, H⟩
    rotate_left
    · exact absurd z z2
    refine gw_aload_n dX8_boundOf_5 rfl rfl ?_
    refine gs_getR cl8 0 dX8_boundOf_6 rfl kw_328 (by decide) (h0.1) rfl ?_
    refine gs_getRN cl4 0 dX8_boundOf_9 rfl kw_208 (by decide) (h0.2.1.1) rfl ?_
    refine gw_iload_n dX8_boundOf_12 rfl rfl ?_
    obtain ⟨v3, e_v3, H⟩ := cv_i H
    refine gw_V1 okX2_bound dX8_boundOf_13 kw_774 kw_419 kw_420 (hp_o (h0.2.1.2.1.1)) rfl ⟨by decide, by decide⟩ ⟨by decide, by decide⟩ (Nat.le_of_ble_eq_true rfl) (w_X2_bound (h0.2.1.2.1) e_v3 ?_)
    cases H
    exact gw_iretX dX8_boundOf_16 rfl (by decide) (by decide) (hK rfl)
  · exact gw_out rfl (by decide) (by decide) (by rcases H with ⟨z2, H⟩ | ⟨z2, rfl⟩; (· exact absurd z2 z); exact hKX z)
set_option maxRecDepth 100000 in
set_option maxHeartbeats 4000000 in
theorem w_X8_rule {Φ : gwC} {hb : gwHp} {M : Nat} {sh : Nat → Option gSh} {th : Nat} {c : W0} {r : Int} {K : Option Value → gwHp → Prop} (h0 : sD sh th) (H : f_X8_rule th c = some r) (hK : K (some (vI r)) (hp Φ hb M sh c)) : gw_Con Φ mX8_rule none [.ref (M + th)] (hp Φ hb M sh c) K := by
  unfold f_X8_rule at H
  refine gw_start okX8_rule (Nat.le_of_ble_eq_true rfl) ?_
  refine gw_aload_n dX8_rule_0 rfl rfl ?_
  refine gs_getR cl8 0 dX8_rule_1 rfl kw_328 (by decide) (h0.1) rfl ?_
  refine gs_getIN cl4 2 2 dX8_rule_4 rfl kw_214 (by decide) (h0.2.1.1) rfl rfl ?_
  cases H
  exact gw_iret dX8_rule_7 rfl (by decide) (by decide) hK
set_option maxRecDepth 100000 in
set_option maxHeartbeats 4000000 in
theorem w_X8_columnOf {Φ : gwC} {hb : gwHp} {M : Nat} {sh : Nat → Option gSh} {th : Nat} {p1 : Int} {c : W0} {r : Int × Int × W0} {K : Option Value → gwHp → Prop} {KX : String → gwHp → Prop} (h0 : sD sh th) (H : f_X8_columnOf th p1 c = some r) (hK : r.1 = 0 → K (some (vI r.2.1)) (hp Φ hb M sh r.2.2)) (hKX : ¬ r.1 = 0 → KX (xnm r.1) (hp Φ hb M sh r.2.2)) : gw_ConX Φ mX8_columnOf [.ref (M + th), vI p1] (hp Φ hb M sh c) K KX := by
  unfold f_X8_columnOf at H
  refine gw_startX okX8_columnOf (Nat.le_of_ble_eq_true rfl) ?_
  refine gw_aload_n dX8_columnOf_0 rfl rfl ?_
  refine gw_iload_n dX8_columnOf_1 rfl rfl ?_
  obtain ⟨e9, v2, c1, e_c1, H⟩ := cx_i H
  refine gw_VX1 okX8_requireRow dX8_columnOf_2 kw_1026 kw_1028 kw_26 (hp_o (h0.1)) rfl ⟨by decide, by decide⟩ ⟨by decide, by decide⟩ (Nat.le_of_ble_eq_true rfl) (w_X8_requireRow (h0) e_c1 (fun z => ?_) (fun z => ?_))
  · rcases H with ⟨-, H⟩ | ⟨z2, H⟩
    rotate_left
    · exact absurd z z2
    refine gw_aload_n dX8_columnOf_5 rfl rfl ?_
    refine gs_getR cl8 0 dX8_columnOf_6 rfl kw_328 (by decide) (h0.1) rfl ?_
    refine gs_getRN cl4 1 dX8_columnOf_9 rfl kw_212 (by decide) (h0.2.1.1) rfl ?_
    refine gw_iload_n dX8_columnOf_12 rfl rfl ?_
    obtain ⟨v3, e_v3, H⟩ := cv_i H
    refine gw_V1 okX6_namedBy dX8_columnOf_13 kw_894 kw_769 kw_770 (hp_o (h0.2.1.2.2.1)) rfl ⟨by decide, by decide⟩ ⟨by decide, by decide⟩ (Nat.le_of_ble_eq_true rfl) (w_X6_namedBy (h0.2.1.2.2) e_v3 ?_)
    cases H
    exact gw_iretX dX8_columnOf_16 rfl (by decide) (by decide) (hK rfl)
  · exact gw_out rfl (by decide) (by decide) (by rcases H with ⟨z2, H⟩ | ⟨z2, rfl⟩; (· exact absurd z2 z); exact hKX z)
set_option maxRecDepth 100000 in
set_option maxHeartbeats 4000000 in
theorem w_X8_isNamed {Φ : gwC} {hb : gwHp} {M : Nat} {sh : Nat → Option gSh} {th : Nat} {p1 : Int} {c : W0} {r : Int × Int × W0} {K : Option Value → gwHp → Prop} {KX : String → gwHp → Prop} (h0 : sD sh th) (H : f_X8_isNamed th p1 c = some r) (hK : r.1 = 0 → K (some (vI r.2.1)) (hp Φ hb M sh r.2.2)) (hKX : ¬ r.1 = 0 → KX (xnm r.1) (hp Φ hb M sh r.2.2)) : gw_ConX Φ mX8_isNamed [.ref (M + th), vI p1] (hp Φ hb M sh c) K KX := by
  unfold f_X8_isNamed at H
  refine gw_startX okX8_isNamed (Nat.le_of_ble_eq_true rfl) ?_
  refine gw_aload_n dX8_isNamed_0 rfl rfl ?_
  refine gw_iload_n dX8_isNamed_1 rfl rfl ?_
  obtain ⟨e9, v2, c1, e_c1, H⟩ := cx_i H
  refine gw_VX1 okX8_requireColumn dX8_isNamed_2 kw_1031 kw_1033 kw_27 (hp_o (h0.1)) rfl ⟨by decide, by decide⟩ ⟨by decide, by decide⟩ (Nat.le_of_ble_eq_true rfl) (w_X8_requireColumn (h0) e_c1 (fun z => ?_) (fun z => ?_))
  · rcases H with ⟨-, H⟩ | ⟨z2, H⟩
    rotate_left
    · exact absurd z z2
    refine gw_aload_n dX8_isNamed_5 rfl rfl ?_
    refine gs_getR cl8 0 dX8_isNamed_6 rfl kw_328 (by decide) (h0.1) rfl ?_
    refine gs_getRN cl4 1 dX8_isNamed_9 rfl kw_212 (by decide) (h0.2.1.1) rfl ?_
    refine gw_iload_n dX8_isNamed_12 rfl rfl ?_
    obtain ⟨v3, e_v3, H⟩ := cv_i H
    refine gw_V1 okX6_rowNaming dX8_isNamed_13 kw_879 kw_880 kw_881 (hp_o (h0.2.1.2.2.1)) rfl ⟨by decide, by decide⟩ ⟨by decide, by decide⟩ (Nat.le_of_ble_eq_true rfl) (w_X6_rowNaming (h0.2.1.2.2) e_v3 ?_)
    obtain ⟨g, H⟩ := gd_i H
    refine gw_if_ltZ (tgt := 23) dX8_isNamed_16 rfl (by decide) g (fun q => ?_) (fun q => ?_)
    · have H := bq_t q H
      refine gw_iconstZ dX8_isNamed_23 rfl ?_
      cases H
      exact gw_zretX rfl dX8_isNamed_24 rfl (by decide) (by decide) (hK rfl)
    · have H := bq_f q H
      refine gw_iconstZ dX8_isNamed_19 rfl ?_
      refine gw_goto (tgt := 24) dX8_isNamed_20 (by decide) ?_
      cases H
      exact gw_zretX rfl dX8_isNamed_24 rfl (by decide) (by decide) (hK rfl)
  · exact gw_out rfl (by decide) (by decide) (by rcases H with ⟨z2, H⟩ | ⟨z2, rfl⟩; (· exact absurd z2 z); exact hKX z)
set_option maxRecDepth 100000 in
set_option maxHeartbeats 4000000 in
theorem w_X8_isOptimal {Φ : gwC} {hb : gwHp} {M : Nat} {sh : Nat → Option gSh} {th : Nat} {c : W0} {r : Int} {K : Option Value → gwHp → Prop} (h0 : sD sh th) (H : f_X8_isOptimal th c = some r) (hK : K (some (vI r)) (hp Φ hb M sh c)) : gw_Con Φ mX8_isOptimal none [.ref (M + th)] (hp Φ hb M sh c) K := by
  unfold f_X8_isOptimal at H
  refine gw_start okX8_isOptimal (Nat.le_of_ble_eq_true rfl) ?_
  refine gw_aload_n dX8_isOptimal_0 rfl rfl ?_
  refine gs_getR cl8 0 dX8_isOptimal_1 rfl kw_328 (by decide) (h0.1) rfl ?_
  refine gs_getRN cl4 1 dX8_isOptimal_4 rfl kw_212 (by decide) (h0.2.1.1) rfl ?_
  obtain ⟨v1, e_v1, H⟩ := cv_i H
  refine gw_V0 okX6_isBest dX8_isOptimal_7 kw_588 kw_443 kw_444 (hp_o (h0.2.1.2.2.1)) rfl ⟨by decide, by decide⟩ ⟨by decide, by decide⟩ (Nat.le_of_ble_eq_true rfl) (w_X6_isBest (h0.2.1.2.2) e_v1 ?_)
  obtain ⟨g, H⟩ := gd_i H
  cases H
  exact gw_zret (gs_nz g) dX8_isOptimal_10 rfl (by decide) (by decide) hK
set_option maxRecDepth 100000 in
set_option maxHeartbeats 4000000 in
theorem w_X8_hasRay {Φ : gwC} {hb : gwHp} {M : Nat} {sh : Nat → Option gSh} {th : Nat} {c : W0} {r : Int} {K : Option Value → gwHp → Prop} (h0 : sD sh th) (H : f_X8_hasRay th c = some r) (hK : K (some (vI r)) (hp Φ hb M sh c)) : gw_Con Φ mX8_hasRay none [.ref (M + th)] (hp Φ hb M sh c) K := by
  unfold f_X8_hasRay at H
  refine gw_start okX8_hasRay (Nat.le_of_ble_eq_true rfl) ?_
  refine gw_aload_n dX8_hasRay_0 rfl rfl ?_
  refine gs_getR cl8 0 dX8_hasRay_1 rfl kw_328 (by decide) (h0.1) rfl ?_
  refine gs_getRN cl4 1 dX8_hasRay_4 rfl kw_212 (by decide) (h0.2.1.1) rfl ?_
  obtain ⟨v1, e_v1, H⟩ := cv_i H
  refine gw_V0 okX6_openColumn dX8_hasRay_7 kw_593 kw_452 kw_453 (hp_o (h0.2.1.2.2.1)) rfl ⟨by decide, by decide⟩ ⟨by decide, by decide⟩ (Nat.le_of_ble_eq_true rfl) (w_X6_openColumn (h0.2.1.2.2) e_v1 ?_)
  obtain ⟨g, H⟩ := gd_i H
  refine gw_if_ltZ (tgt := 17) dX8_hasRay_10 rfl (by decide) g (fun q => ?_) (fun q => ?_)
  · have H := bq_t q H
    refine gw_iconstZ dX8_hasRay_17 rfl ?_
    cases H
    exact gw_zret rfl dX8_hasRay_18 rfl (by decide) (by decide) hK
  · have H := bq_f q H
    refine gw_iconstZ dX8_hasRay_13 rfl ?_
    refine gw_goto (tgt := 18) dX8_hasRay_14 (by decide) ?_
    cases H
    exact gw_zret rfl dX8_hasRay_18 rfl (by decide) (by decide) hK
set_option maxRecDepth 100000 in
set_option maxHeartbeats 4000000 in
theorem w_X8_pivots {Φ : gwC} {hb : gwHp} {M : Nat} {sh : Nat → Option gSh} {th : Nat} {c : W0} {r : Int} {K : Option Value → gwHp → Prop} (h0 : sD sh th) (H : f_X8_pivots th c = some r) (hK : K (some (vI r)) (hp Φ hb M sh c)) : gw_Con Φ mX8_pivots none [.ref (M + th)] (hp Φ hb M sh c) K := by
  unfold f_X8_pivots at H
  refine gw_start okX8_pivots (Nat.le_of_ble_eq_true rfl) ?_
  refine gw_aload_n dX8_pivots_0 rfl rfl ?_
  refine gs_getR cl8 0 dX8_pivots_1 rfl kw_328 (by decide) (h0.1) rfl ?_
  refine gs_getIN cl4 3 3 dX8_pivots_4 rfl kw_216 (by decide) (h0.2.1.1) rfl rfl ?_
  cases H
  exact gw_iret dX8_pivots_7 rfl (by decide) (by decide) hK
set_option maxRecDepth 100000 in
set_option maxHeartbeats 4000000 in
theorem w_X8_allPivots {Φ : gwC} {hb : gwHp} {M : Nat} {sh : Nat → Option gSh} {th : Nat} {c : W0} {r : Int} {K : Option Value → gwHp → Prop} (h0 : sD sh th) (H : f_X8_allPivots th c = some r) (hK : K (some (vI r)) (hp Φ hb M sh c)) : gw_Con Φ mX8_allPivots none [.ref (M + th)] (hp Φ hb M sh c) K := by
  unfold f_X8_allPivots at H
  refine gw_start okX8_allPivots (Nat.le_of_ble_eq_true rfl) ?_
  refine gw_aload_n dX8_allPivots_0 rfl rfl ?_
  refine gs_getR cl8 0 dX8_allPivots_1 rfl kw_328 (by decide) (h0.1) rfl ?_
  refine gs_getIN cl4 4 4 dX8_allPivots_4 rfl kw_218 (by decide) (h0.2.1.1) rfl rfl ?_
  cases H
  exact gw_iret dX8_allPivots_7 rfl (by decide) (by decide) hK
set_option maxRecDepth 100000 in
set_option maxHeartbeats 4000000 in
theorem w_X8_idlePivots {Φ : gwC} {hb : gwHp} {M : Nat} {sh : Nat → Option gSh} {th : Nat} {c : W0} {r : Int} {K : Option Value → gwHp → Prop} (h0 : sD sh th) (H : f_X8_idlePivots th c = some r) (hK : K (some (vI r)) (hp Φ hb M sh c)) : gw_Con Φ mX8_idlePivots none [.ref (M + th)] (hp Φ hb M sh c) K := by
  unfold f_X8_idlePivots at H
  refine gw_start okX8_idlePivots (Nat.le_of_ble_eq_true rfl) ?_
  refine gw_aload_n dX8_idlePivots_0 rfl rfl ?_
  refine gs_getR cl8 0 dX8_idlePivots_1 rfl kw_328 (by decide) (h0.1) rfl ?_
  refine gs_getIN cl4 5 5 dX8_idlePivots_4 rfl kw_220 (by decide) (h0.2.1.1) rfl rfl ?_
  cases H
  exact gw_iret dX8_idlePivots_7 rfl (by decide) (by decide) hK
set_option maxRecDepth 100000 in
set_option maxHeartbeats 4000000 in
theorem w_X8_entryNumerator {Φ : gwC} {hb : gwHp} {M : Nat} {sh : Nat → Option gSh} {th : Nat} {p1 : Int} {p2 : Int} {c : W0} {r : Int × Int × W0} {K : Option Value → gwHp → Prop} {KX : String → gwHp → Prop} (h0 : sD sh th) (H : f_X8_entryNumerator th p1 p2 c = some r) (hK : r.1 = 0 → K (some (vL r.2.1)) (hp Φ hb M sh r.2.2)) (hKX : ¬ r.1 = 0 → KX (xnm r.1) (hp Φ hb M sh r.2.2)) : gw_ConX Φ mX8_entryNumerator [.ref (M + th), vI p1, vI p2] (hp Φ hb M sh c) K KX := by
  unfold f_X8_entryNumerator at H
  refine gw_startX okX8_entryNumerator (Nat.le_of_ble_eq_true rfl) ?_
  refine gw_aload_n dX8_entryNumerator_0 rfl rfl ?_
  refine gw_iload_n dX8_entryNumerator_1 rfl rfl ?_
  obtain ⟨e9, v2, c1, e_c1, H⟩ := cx_i H
  refine gw_VX1 okX8_requireRow dX8_entryNumerator_2 kw_1026 kw_1028 kw_26 (hp_o (h0.1)) rfl ⟨by decide, by decide⟩ ⟨by decide, by decide⟩ (Nat.le_of_ble_eq_true rfl) (w_X8_requireRow (h0) e_c1 (fun z => ?_) (fun z => ?_))
  · rcases H with ⟨-, H⟩ | ⟨z2, H⟩
    rotate_left
    · exact absurd z z2
    refine gw_aload_n dX8_entryNumerator_5 rfl rfl ?_
    refine gw_iload_n dX8_entryNumerator_6 rfl rfl ?_
    obtain ⟨e9, v4, c3, e_c3, H⟩ := cx_i H
    refine gw_VX1 okX8_requireColumn dX8_entryNumerator_7 kw_1031 kw_1033 kw_27 (hp_o (h0.1)) rfl ⟨by decide, by decide⟩ ⟨by decide, by decide⟩ (Nat.le_of_ble_eq_true rfl) (w_X8_requireColumn (h0) e_c3 (fun z => ?_) (fun z => ?_))
    · rcases H with ⟨-, H⟩ | ⟨z2, H⟩
      rotate_left
      · exact absurd z z2
      refine gw_aload_n dX8_entryNumerator_10 rfl rfl ?_
      refine gs_getR cl8 0 dX8_entryNumerator_11 rfl kw_328 (by decide) (h0.1) rfl ?_
      refine gs_getRN cl4 1 dX8_entryNumerator_14 rfl kw_212 (by decide) (h0.2.1.1) rfl ?_
      refine gw_iload_n dX8_entryNumerator_17 rfl rfl ?_
      refine gw_iload_n dX8_entryNumerator_18 rfl rfl ?_
      obtain ⟨v5, e_v5, H⟩ := cv_i H
      refine gw_V2 okX6_entry dX8_entryNumerator_19 kw_895 kw_472 kw_473 (hp_o (h0.2.1.2.2.1)) rfl ⟨by decide, by decide⟩ ⟨by decide, by decide⟩ (Nat.le_of_ble_eq_true rfl) (w_X6_entry (h0.2.1.2.2) e_v5 ?_)
      refine gw_aload_n dX8_entryNumerator_22 rfl rfl ?_
      refine gs_getR cl8 0 dX8_entryNumerator_23 rfl kw_328 (by decide) (h0.1) rfl ?_
      refine gs_getRN cl4 1 dX8_entryNumerator_26 rfl kw_212 (by decide) (h0.2.1.1) rfl ?_
      refine gs_getLN cl6 2 2 dX8_entryNumerator_29 rfl kw_193 (by decide) (h0.2.1.2.2.1) rfl rfl ?_
      obtain ⟨v6, e_v6, H⟩ := cv_i H
      refine gw_S2 okX8_lowNumerator dX8_entryNumerator_32 kw_614 kw_615 ⟨by decide, by decide⟩ ⟨by decide, by decide⟩ (Nat.le_of_ble_eq_true rfl) (w_X8_lowNumerator  e_v6 ?_)
      cases H
      exact gw_lretX dX8_entryNumerator_35 rfl (by decide) (by decide) (hK rfl)
    · exact gw_out rfl (by decide) (by decide) (by rcases H with ⟨z2, H⟩ | ⟨z2, rfl⟩; (· exact absurd z2 z); exact hKX z)
  · exact gw_out rfl (by decide) (by decide) (by rcases H with ⟨z2, H⟩ | ⟨z2, rfl⟩; (· exact absurd z2 z); exact hKX z)
set_option maxRecDepth 100000 in
set_option maxHeartbeats 4000000 in
theorem w_X8_entryDenominator {Φ : gwC} {hb : gwHp} {M : Nat} {sh : Nat → Option gSh} {th : Nat} {p1 : Int} {p2 : Int} {c : W0} {r : Int × Int × W0} {K : Option Value → gwHp → Prop} {KX : String → gwHp → Prop} (h0 : sD sh th) (H : f_X8_entryDenominator th p1 p2 c = some r) (hK : r.1 = 0 → K (some (vL r.2.1)) (hp Φ hb M sh r.2.2)) (hKX : ¬ r.1 = 0 → KX (xnm r.1) (hp Φ hb M sh r.2.2)) : gw_ConX Φ mX8_entryDenominator [.ref (M + th), vI p1, vI p2] (hp Φ hb M sh c) K KX := by
  unfold f_X8_entryDenominator at H
  refine gw_startX okX8_entryDenominator (Nat.le_of_ble_eq_true rfl) ?_
  refine gw_aload_n dX8_entryDenominator_0 rfl rfl ?_
  refine gw_iload_n dX8_entryDenominator_1 rfl rfl ?_
  obtain ⟨e9, v2, c1, e_c1, H⟩ := cx_i H
  refine gw_VX1 okX8_requireRow dX8_entryDenominator_2 kw_1026 kw_1028 kw_26 (hp_o (h0.1)) rfl ⟨by decide, by decide⟩ ⟨by decide, by decide⟩ (Nat.le_of_ble_eq_true rfl) (w_X8_requireRow (h0) e_c1 (fun z => ?_) (fun z => ?_))
  · rcases H with ⟨-, H⟩ | ⟨z2, H⟩
    rotate_left
    · exact absurd z z2
    refine gw_aload_n dX8_entryDenominator_5 rfl rfl ?_
    refine gw_iload_n dX8_entryDenominator_6 rfl rfl ?_
    obtain ⟨e9, v4, c3, e_c3, H⟩ := cx_i H
    refine gw_VX1 okX8_requireColumn dX8_entryDenominator_7 kw_1031 kw_1033 kw_27 (hp_o (h0.1)) rfl ⟨by decide, by decide⟩ ⟨by decide, by decide⟩ (Nat.le_of_ble_eq_true rfl) (w_X8_requireColumn (h0) e_c3 (fun z => ?_) (fun z => ?_))
    · rcases H with ⟨-, H⟩ | ⟨z2, H⟩
      rotate_left
      · exact absurd z z2
      refine gw_aload_n dX8_entryDenominator_10 rfl rfl ?_
      refine gs_getR cl8 0 dX8_entryDenominator_11 rfl kw_328 (by decide) (h0.1) rfl ?_
      refine gs_getRN cl4 1 dX8_entryDenominator_14 rfl kw_212 (by decide) (h0.2.1.1) rfl ?_
      refine gw_iload_n dX8_entryDenominator_17 rfl rfl ?_
      refine gw_iload_n dX8_entryDenominator_18 rfl rfl ?_
      obtain ⟨v5, e_v5, H⟩ := cv_i H
      refine gw_V2 okX6_entry dX8_entryDenominator_19 kw_895 kw_472 kw_473 (hp_o (h0.2.1.2.2.1)) rfl ⟨by decide, by decide⟩ ⟨by decide, by decide⟩ (Nat.le_of_ble_eq_true rfl) (w_X6_entry (h0.2.1.2.2) e_v5 ?_)
      refine gw_aload_n dX8_entryDenominator_22 rfl rfl ?_
      refine gs_getR cl8 0 dX8_entryDenominator_23 rfl kw_328 (by decide) (h0.1) rfl ?_
      refine gs_getRN cl4 1 dX8_entryDenominator_26 rfl kw_212 (by decide) (h0.2.1.1) rfl ?_
      refine gs_getLN cl6 2 2 dX8_entryDenominator_29 rfl kw_193 (by decide) (h0.2.1.2.2.1) rfl rfl ?_
      obtain ⟨v6, e_v6, H⟩ := cv_i H
      refine gw_S2 okX8_lowDenominator dX8_entryDenominator_32 kw_627 kw_628 ⟨by decide, by decide⟩ ⟨by decide, by decide⟩ (Nat.le_of_ble_eq_true rfl) (w_X8_lowDenominator  e_v6 ?_)
      cases H
      exact gw_lretX dX8_entryDenominator_35 rfl (by decide) (by decide) (hK rfl)
    · exact gw_out rfl (by decide) (by decide) (by rcases H with ⟨z2, H⟩ | ⟨z2, rfl⟩; (· exact absurd z2 z); exact hKX z)
  · exact gw_out rfl (by decide) (by decide) (by rcases H with ⟨z2, H⟩ | ⟨z2, rfl⟩; (· exact absurd z2 z); exact hKX z)
set_option maxRecDepth 100000 in
set_option maxHeartbeats 4000000 in
theorem w_X8_reducedNumerator {Φ : gwC} {hb : gwHp} {M : Nat} {sh : Nat → Option gSh} {th : Nat} {p1 : Int} {c : W0} {r : Int × Int × W0} {K : Option Value → gwHp → Prop} {KX : String → gwHp → Prop} (h0 : sD sh th) (H : f_X8_reducedNumerator th p1 c = some r) (hK : r.1 = 0 → K (some (vL r.2.1)) (hp Φ hb M sh r.2.2)) (hKX : ¬ r.1 = 0 → KX (xnm r.1) (hp Φ hb M sh r.2.2)) : gw_ConX Φ mX8_reducedNumerator [.ref (M + th), vI p1] (hp Φ hb M sh c) K KX := by
  unfold f_X8_reducedNumerator at H
  refine gw_startX okX8_reducedNumerator (Nat.le_of_ble_eq_true rfl) ?_
  refine gw_aload_n dX8_reducedNumerator_0 rfl rfl ?_
  refine gw_iload_n dX8_reducedNumerator_1 rfl rfl ?_
  obtain ⟨e9, v2, c1, e_c1, H⟩ := cx_i H
  refine gw_VX1 okX8_requireColumn dX8_reducedNumerator_2 kw_1031 kw_1033 kw_27 (hp_o (h0.1)) rfl ⟨by decide, by decide⟩ ⟨by decide, by decide⟩ (Nat.le_of_ble_eq_true rfl) (w_X8_requireColumn (h0) e_c1 (fun z => ?_) (fun z => ?_))
  · rcases H with ⟨-, H⟩ | ⟨z2, H⟩
    rotate_left
    · exact absurd z z2
    refine gw_aload_n dX8_reducedNumerator_5 rfl rfl ?_
    refine gs_getR cl8 0 dX8_reducedNumerator_6 rfl kw_328 (by decide) (h0.1) rfl ?_
    refine gs_getRN cl4 1 dX8_reducedNumerator_9 rfl kw_212 (by decide) (h0.2.1.1) rfl ?_
    refine gw_iload_n dX8_reducedNumerator_12 rfl rfl ?_
    obtain ⟨v3, e_v3, H⟩ := cv_i H
    refine gw_V1 okX6_reduced dX8_reducedNumerator_13 kw_884 kw_447 kw_448 (hp_o (h0.2.1.2.2.1)) rfl ⟨by decide, by decide⟩ ⟨by decide, by decide⟩ (Nat.le_of_ble_eq_true rfl) (w_X6_reduced (h0.2.1.2.2) e_v3 ?_)
    refine gw_aload_n dX8_reducedNumerator_16 rfl rfl ?_
    refine gs_getR cl8 0 dX8_reducedNumerator_17 rfl kw_328 (by decide) (h0.1) rfl ?_
    refine gs_getRN cl4 1 dX8_reducedNumerator_20 rfl kw_212 (by decide) (h0.2.1.1) rfl ?_
    refine gs_getLN cl6 2 2 dX8_reducedNumerator_23 rfl kw_193 (by decide) (h0.2.1.2.2.1) rfl rfl ?_
    obtain ⟨v4, e_v4, H⟩ := cv_i H
    refine gw_S2 okX8_lowNumerator dX8_reducedNumerator_26 kw_614 kw_615 ⟨by decide, by decide⟩ ⟨by decide, by decide⟩ (Nat.le_of_ble_eq_true rfl) (w_X8_lowNumerator  e_v4 ?_)
    cases H
    exact gw_lretX dX8_reducedNumerator_29 rfl (by decide) (by decide) (hK rfl)
  · exact gw_out rfl (by decide) (by decide) (by rcases H with ⟨z2, H⟩ | ⟨z2, rfl⟩; (· exact absurd z2 z); exact hKX z)
set_option maxRecDepth 100000 in
set_option maxHeartbeats 4000000 in
theorem w_X8_reducedDenominator {Φ : gwC} {hb : gwHp} {M : Nat} {sh : Nat → Option gSh} {th : Nat} {p1 : Int} {c : W0} {r : Int × Int × W0} {K : Option Value → gwHp → Prop} {KX : String → gwHp → Prop} (h0 : sD sh th) (H : f_X8_reducedDenominator th p1 c = some r) (hK : r.1 = 0 → K (some (vL r.2.1)) (hp Φ hb M sh r.2.2)) (hKX : ¬ r.1 = 0 → KX (xnm r.1) (hp Φ hb M sh r.2.2)) : gw_ConX Φ mX8_reducedDenominator [.ref (M + th), vI p1] (hp Φ hb M sh c) K KX := by
  unfold f_X8_reducedDenominator at H
  refine gw_startX okX8_reducedDenominator (Nat.le_of_ble_eq_true rfl) ?_
  refine gw_aload_n dX8_reducedDenominator_0 rfl rfl ?_
  refine gw_iload_n dX8_reducedDenominator_1 rfl rfl ?_
  obtain ⟨e9, v2, c1, e_c1, H⟩ := cx_i H
  refine gw_VX1 okX8_requireColumn dX8_reducedDenominator_2 kw_1031 kw_1033 kw_27 (hp_o (h0.1)) rfl ⟨by decide, by decide⟩ ⟨by decide, by decide⟩ (Nat.le_of_ble_eq_true rfl) (w_X8_requireColumn (h0) e_c1 (fun z => ?_) (fun z => ?_))
  · rcases H with ⟨-, H⟩ | ⟨z2, H⟩
    rotate_left
    · exact absurd z z2
    refine gw_aload_n dX8_reducedDenominator_5 rfl rfl ?_
    refine gs_getR cl8 0 dX8_reducedDenominator_6 rfl kw_328 (by decide) (h0.1) rfl ?_
    refine gs_getRN cl4 1 dX8_reducedDenominator_9 rfl kw_212 (by decide) (h0.2.1.1) rfl ?_
    refine gw_iload_n dX8_reducedDenominator_12 rfl rfl ?_
    obtain ⟨v3, e_v3, H⟩ := cv_i H
    refine gw_V1 okX6_reduced dX8_reducedDenominator_13 kw_884 kw_447 kw_448 (hp_o (h0.2.1.2.2.1)) rfl ⟨by decide, by decide⟩ ⟨by decide, by decide⟩ (Nat.le_of_ble_eq_true rfl) (w_X6_reduced (h0.2.1.2.2) e_v3 ?_)
    refine gw_aload_n dX8_reducedDenominator_16 rfl rfl ?_
    refine gs_getR cl8 0 dX8_reducedDenominator_17 rfl kw_328 (by decide) (h0.1) rfl ?_
    refine gs_getRN cl4 1 dX8_reducedDenominator_20 rfl kw_212 (by decide) (h0.2.1.1) rfl ?_
    refine gs_getLN cl6 2 2 dX8_reducedDenominator_23 rfl kw_193 (by decide) (h0.2.1.2.2.1) rfl rfl ?_
    obtain ⟨v4, e_v4, H⟩ := cv_i H
    refine gw_S2 okX8_lowDenominator dX8_reducedDenominator_26 kw_627 kw_628 ⟨by decide, by decide⟩ ⟨by decide, by decide⟩ (Nat.le_of_ble_eq_true rfl) (w_X8_lowDenominator  e_v4 ?_)
    cases H
    exact gw_lretX dX8_reducedDenominator_29 rfl (by decide) (by decide) (hK rfl)
  · exact gw_out rfl (by decide) (by decide) (by rcases H with ⟨z2, H⟩ | ⟨z2, rfl⟩; (· exact absurd z2 z); exact hKX z)
set_option maxRecDepth 100000 in
set_option maxHeartbeats 4000000 in
theorem w_X8_valueNumerator {Φ : gwC} {hb : gwHp} {M : Nat} {sh : Nat → Option gSh} {th : Nat} {c : W0} {r : Int} {K : Option Value → gwHp → Prop} (h0 : sD sh th) (H : f_X8_valueNumerator th c = some r) (hK : K (some (vL r)) (hp Φ hb M sh c)) : gw_Con Φ mX8_valueNumerator none [.ref (M + th)] (hp Φ hb M sh c) K := by
  unfold f_X8_valueNumerator at H
  refine gw_start okX8_valueNumerator (Nat.le_of_ble_eq_true rfl) ?_
  refine gw_aload_n dX8_valueNumerator_0 rfl rfl ?_
  refine gs_getR cl8 0 dX8_valueNumerator_1 rfl kw_328 (by decide) (h0.1) rfl ?_
  refine gs_getRN cl4 1 dX8_valueNumerator_4 rfl kw_212 (by decide) (h0.2.1.1) rfl ?_
  obtain ⟨v1, e_v1, H⟩ := cv_i H
  refine gw_V0 okX6_worth dX8_valueNumerator_7 kw_610 kw_611 kw_612 (hp_o (h0.2.1.2.2.1)) rfl ⟨by decide, by decide⟩ ⟨by decide, by decide⟩ (Nat.le_of_ble_eq_true rfl) (w_X6_worth (h0.2.1.2.2) e_v1 ?_)
  refine gw_aload_n dX8_valueNumerator_10 rfl rfl ?_
  refine gs_getR cl8 0 dX8_valueNumerator_11 rfl kw_328 (by decide) (h0.1) rfl ?_
  refine gs_getRN cl4 1 dX8_valueNumerator_14 rfl kw_212 (by decide) (h0.2.1.1) rfl ?_
  refine gs_getLN cl6 2 2 dX8_valueNumerator_17 rfl kw_193 (by decide) (h0.2.1.2.2.1) rfl rfl ?_
  obtain ⟨v2, e_v2, H⟩ := cv_i H
  refine gw_S2 okX8_lowNumerator dX8_valueNumerator_20 kw_614 kw_615 ⟨by decide, by decide⟩ ⟨by decide, by decide⟩ (Nat.le_of_ble_eq_true rfl) (w_X8_lowNumerator  e_v2 ?_)
  cases H
  exact gw_lret dX8_valueNumerator_23 rfl (by decide) (by decide) hK
set_option maxRecDepth 100000 in
set_option maxHeartbeats 4000000 in
theorem w_X8_valueDenominator {Φ : gwC} {hb : gwHp} {M : Nat} {sh : Nat → Option gSh} {th : Nat} {c : W0} {r : Int} {K : Option Value → gwHp → Prop} (h0 : sD sh th) (H : f_X8_valueDenominator th c = some r) (hK : K (some (vL r)) (hp Φ hb M sh c)) : gw_Con Φ mX8_valueDenominator none [.ref (M + th)] (hp Φ hb M sh c) K := by
  unfold f_X8_valueDenominator at H
  refine gw_start okX8_valueDenominator (Nat.le_of_ble_eq_true rfl) ?_
  refine gw_aload_n dX8_valueDenominator_0 rfl rfl ?_
  refine gs_getR cl8 0 dX8_valueDenominator_1 rfl kw_328 (by decide) (h0.1) rfl ?_
  refine gs_getRN cl4 1 dX8_valueDenominator_4 rfl kw_212 (by decide) (h0.2.1.1) rfl ?_
  obtain ⟨v1, e_v1, H⟩ := cv_i H
  refine gw_V0 okX6_worth dX8_valueDenominator_7 kw_610 kw_611 kw_612 (hp_o (h0.2.1.2.2.1)) rfl ⟨by decide, by decide⟩ ⟨by decide, by decide⟩ (Nat.le_of_ble_eq_true rfl) (w_X6_worth (h0.2.1.2.2) e_v1 ?_)
  refine gw_aload_n dX8_valueDenominator_10 rfl rfl ?_
  refine gs_getR cl8 0 dX8_valueDenominator_11 rfl kw_328 (by decide) (h0.1) rfl ?_
  refine gs_getRN cl4 1 dX8_valueDenominator_14 rfl kw_212 (by decide) (h0.2.1.1) rfl ?_
  refine gs_getLN cl6 2 2 dX8_valueDenominator_17 rfl kw_193 (by decide) (h0.2.1.2.2.1) rfl rfl ?_
  obtain ⟨v2, e_v2, H⟩ := cv_i H
  refine gw_S2 okX8_lowDenominator dX8_valueDenominator_20 kw_627 kw_628 ⟨by decide, by decide⟩ ⟨by decide, by decide⟩ (Nat.le_of_ble_eq_true rfl) (w_X8_lowDenominator  e_v2 ?_)
  cases H
  exact gw_lret dX8_valueDenominator_23 rfl (by decide) (by decide) hK
set_option maxRecDepth 100000 in
set_option maxHeartbeats 4000000 in
theorem w_X8_givenNumerator {Φ : gwC} {hb : gwHp} {M : Nat} {sh : Nat → Option gSh} {th : Nat} {p1 : Int} {c : W0} {r : Int × Int × W0} {K : Option Value → gwHp → Prop} {KX : String → gwHp → Prop} (h0 : sD sh th) (H : f_X8_givenNumerator th p1 c = some r) (hK : r.1 = 0 → K (some (vL r.2.1)) (hp Φ hb M sh r.2.2)) (hKX : ¬ r.1 = 0 → KX (xnm r.1) (hp Φ hb M sh r.2.2)) : gw_ConX Φ mX8_givenNumerator [.ref (M + th), vI p1] (hp Φ hb M sh c) K KX := by
  unfold f_X8_givenNumerator at H
  refine gw_startX okX8_givenNumerator (Nat.le_of_ble_eq_true rfl) ?_
  refine gw_aload_n dX8_givenNumerator_0 rfl rfl ?_
  refine gw_iload_n dX8_givenNumerator_1 rfl rfl ?_
  obtain ⟨e9, v2, c1, e_c1, H⟩ := cx_i H
  refine gw_VX1 okX8_requireColumn dX8_givenNumerator_2 kw_1031 kw_1033 kw_27 (hp_o (h0.1)) rfl ⟨by decide, by decide⟩ ⟨by decide, by decide⟩ (Nat.le_of_ble_eq_true rfl) (w_X8_requireColumn (h0) e_c1 (fun z => ?_) (fun z => ?_))
  · rcases H with ⟨-, H⟩ | ⟨z2, H⟩
    rotate_left
    · exact absurd z z2
    refine gw_aload_n dX8_givenNumerator_5 rfl rfl ?_
    refine gs_getR cl8 0 dX8_givenNumerator_6 rfl kw_328 (by decide) (h0.1) rfl ?_
    refine gs_getRN cl4 1 dX8_givenNumerator_9 rfl kw_212 (by decide) (h0.2.1.1) rfl ?_
    refine gw_iload_n dX8_givenNumerator_12 rfl rfl ?_
    obtain ⟨v3, e_v3, H⟩ := cv_i H
    refine gw_V1 okX6_given dX8_givenNumerator_13 kw_885 kw_886 kw_887 (hp_o (h0.2.1.2.2.1)) rfl ⟨by decide, by decide⟩ ⟨by decide, by decide⟩ (Nat.le_of_ble_eq_true rfl) (w_X6_given (h0.2.1.2.2) e_v3 ?_)
    refine gw_aload_n dX8_givenNumerator_16 rfl rfl ?_
    refine gs_getR cl8 0 dX8_givenNumerator_17 rfl kw_328 (by decide) (h0.1) rfl ?_
    refine gs_getRN cl4 1 dX8_givenNumerator_20 rfl kw_212 (by decide) (h0.2.1.1) rfl ?_
    refine gs_getLN cl6 2 2 dX8_givenNumerator_23 rfl kw_193 (by decide) (h0.2.1.2.2.1) rfl rfl ?_
    obtain ⟨v4, e_v4, H⟩ := cv_i H
    refine gw_S2 okX8_lowNumerator dX8_givenNumerator_26 kw_614 kw_615 ⟨by decide, by decide⟩ ⟨by decide, by decide⟩ (Nat.le_of_ble_eq_true rfl) (w_X8_lowNumerator  e_v4 ?_)
    cases H
    exact gw_lretX dX8_givenNumerator_29 rfl (by decide) (by decide) (hK rfl)
  · exact gw_out rfl (by decide) (by decide) (by rcases H with ⟨z2, H⟩ | ⟨z2, rfl⟩; (· exact absurd z2 z); exact hKX z)
set_option maxRecDepth 100000 in
set_option maxHeartbeats 4000000 in
theorem w_X8_givenDenominator {Φ : gwC} {hb : gwHp} {M : Nat} {sh : Nat → Option gSh} {th : Nat} {p1 : Int} {c : W0} {r : Int × Int × W0} {K : Option Value → gwHp → Prop} {KX : String → gwHp → Prop} (h0 : sD sh th) (H : f_X8_givenDenominator th p1 c = some r) (hK : r.1 = 0 → K (some (vL r.2.1)) (hp Φ hb M sh r.2.2)) (hKX : ¬ r.1 = 0 → KX (xnm r.1) (hp Φ hb M sh r.2.2)) : gw_ConX Φ mX8_givenDenominator [.ref (M + th), vI p1] (hp Φ hb M sh c) K KX := by
  unfold f_X8_givenDenominator at H
  refine gw_startX okX8_givenDenominator (Nat.le_of_ble_eq_true rfl) ?_
  refine gw_aload_n dX8_givenDenominator_0 rfl rfl ?_
  refine gw_iload_n dX8_givenDenominator_1 rfl rfl ?_
  obtain ⟨e9, v2, c1, e_c1, H⟩ := cx_i H
  refine gw_VX1 okX8_requireColumn dX8_givenDenominator_2 kw_1031 kw_1033 kw_27 (hp_o (h0.1)) rfl ⟨by decide, by decide⟩ ⟨by decide, by decide⟩ (Nat.le_of_ble_eq_true rfl) (w_X8_requireColumn (h0) e_c1 (fun z => ?_) (fun z => ?_))
  · rcases H with ⟨-, H⟩ | ⟨z2, H⟩
    rotate_left
    · exact absurd z z2
    refine gw_aload_n dX8_givenDenominator_5 rfl rfl ?_
    refine gs_getR cl8 0 dX8_givenDenominator_6 rfl kw_328 (by decide) (h0.1) rfl ?_
    refine gs_getRN cl4 1 dX8_givenDenominator_9 rfl kw_212 (by decide) (h0.2.1.1) rfl ?_
    refine gw_iload_n dX8_givenDenominator_12 rfl rfl ?_
    obtain ⟨v3, e_v3, H⟩ := cv_i H
    refine gw_V1 okX6_given dX8_givenDenominator_13 kw_885 kw_886 kw_887 (hp_o (h0.2.1.2.2.1)) rfl ⟨by decide, by decide⟩ ⟨by decide, by decide⟩ (Nat.le_of_ble_eq_true rfl) (w_X6_given (h0.2.1.2.2) e_v3 ?_)
    refine gw_aload_n dX8_givenDenominator_16 rfl rfl ?_
    refine gs_getR cl8 0 dX8_givenDenominator_17 rfl kw_328 (by decide) (h0.1) rfl ?_
    refine gs_getRN cl4 1 dX8_givenDenominator_20 rfl kw_212 (by decide) (h0.2.1.1) rfl ?_
    refine gs_getLN cl6 2 2 dX8_givenDenominator_23 rfl kw_193 (by decide) (h0.2.1.2.2.1) rfl rfl ?_
    obtain ⟨v4, e_v4, H⟩ := cv_i H
    refine gw_S2 okX8_lowDenominator dX8_givenDenominator_26 kw_627 kw_628 ⟨by decide, by decide⟩ ⟨by decide, by decide⟩ (Nat.le_of_ble_eq_true rfl) (w_X8_lowDenominator  e_v4 ?_)
    cases H
    exact gw_lretX dX8_givenDenominator_29 rfl (by decide) (by decide) (hK rfl)
  · exact gw_out rfl (by decide) (by decide) (by rcases H with ⟨z2, H⟩ | ⟨z2, rfl⟩; (· exact absurd z2 z); exact hKX z)
set_option maxRecDepth 100000 in
set_option maxHeartbeats 4000000 in
theorem w_X8_value {Φ : gwC} {hb : gwHp} {M : Nat} {sh : Nat → Option gSh} {th : Nat} {c : W0} {r : UInt64} {K : Option Value → gwHp → Prop} (h0 : sD sh th) (H : f_X8_value th c = some r) (hK : K (some (.double r)) (hp Φ hb M sh c)) : gw_Con Φ mX8_value none [.ref (M + th)] (hp Φ hb M sh c) K := by
  unfold f_X8_value at H
  refine gw_start okX8_value (Nat.le_of_ble_eq_true rfl) ?_
  refine gw_aload_n dX8_value_0 rfl rfl ?_
  obtain ⟨v1, e_v1, H⟩ := cv_i H
  refine gw_V0 okX8_valueNumerator dX8_value_1 kw_634 kw_607 kw_608 (hp_o (h0.1)) rfl ⟨by decide, by decide⟩ ⟨by decide, by decide⟩ (Nat.le_of_ble_eq_true rfl) (w_X8_valueNumerator (h0) e_v1 ?_)
  refine gw_l2d dX8_value_4 rfl ?_
  refine gw_aload_n dX8_value_5 rfl rfl ?_
  obtain ⟨v2, e_v2, H⟩ := cv_i H
  refine gw_V0 okX8_valueDenominator dX8_value_6 kw_635 kw_624 kw_625 (hp_o (h0.1)) rfl ⟨by decide, by decide⟩ ⟨by decide, by decide⟩ (Nat.le_of_ble_eq_true rfl) (w_X8_valueDenominator (h0) e_v2 ?_)
  refine gw_l2d dX8_value_9 rfl ?_
  obtain ⟨g, H⟩ := gd_i H
  refine gw_ddiv dX8_value_10 rfl g ?_
  have e9 := Option.some.inj H
  rw [← e9] at hK
  try dsimp only at hK
  exact gw_dret dX8_value_11 rfl (by decide) (by decide) hK
set_option maxRecDepth 100000 in
set_option maxHeartbeats 4000000 in
theorem w_X8_dualNumerator {Φ : gwC} {hb : gwHp} {M : Nat} {sh : Nat → Option gSh} {th : Nat} {p1 : Int} {c : W0} {r : Int × Int × W0} {K : Option Value → gwHp → Prop} {KX : String → gwHp → Prop} (h0 : sD sh th) (H : f_X8_dualNumerator th p1 c = some r) (hK : r.1 = 0 → K (some (vL r.2.1)) (hp Φ hb M sh r.2.2)) (hKX : ¬ r.1 = 0 → KX (xnm r.1) (hp Φ hb M sh r.2.2)) : gw_ConX Φ mX8_dualNumerator [.ref (M + th), vI p1] (hp Φ hb M sh c) K KX := by
  unfold f_X8_dualNumerator at H
  refine gw_startX okX8_dualNumerator (Nat.le_of_ble_eq_true rfl) ?_
  refine gw_aload_n dX8_dualNumerator_0 rfl rfl ?_
  refine gw_iload_n dX8_dualNumerator_1 rfl rfl ?_
  obtain ⟨e9, v2, c1, e_c1, H⟩ := cx_i H
  refine gw_VX1 okX8_requireConstraint dX8_dualNumerator_2 kw_781 kw_783 kw_19 (hp_o (h0.1)) rfl ⟨by decide, by decide⟩ ⟨by decide, by decide⟩ (Nat.le_of_ble_eq_true rfl) (w_X8_requireConstraint (h0) e_c1 (fun z => ?_) (fun z => ?_))
  · rcases H with ⟨-, H⟩ | ⟨z2, H⟩
    rotate_left
    · exact absurd z z2
    refine gw_aload_n dX8_dualNumerator_5 rfl rfl ?_
    refine gs_getR cl8 0 dX8_dualNumerator_6 rfl kw_328 (by decide) (h0.1) rfl ?_
    refine gw_iload_n dX8_dualNumerator_9 rfl rfl ?_
    obtain ⟨v3, e_v3, H⟩ := cv_i H
    refine gw_V1 okX4_dual dX8_dualNumerator_10 kw_775 kw_645 kw_646 (hp_o (h0.2.1.1)) rfl ⟨by decide, by decide⟩ ⟨by decide, by decide⟩ (Nat.le_of_ble_eq_true rfl) (w_X4_dual (h0.2.1) e_v3 ?_)
    refine gw_aload_n dX8_dualNumerator_13 rfl rfl ?_
    refine gs_getR cl8 0 dX8_dualNumerator_14 rfl kw_328 (by decide) (h0.1) rfl ?_
    refine gs_getRN cl4 1 dX8_dualNumerator_17 rfl kw_212 (by decide) (h0.2.1.1) rfl ?_
    refine gs_getLN cl6 2 2 dX8_dualNumerator_20 rfl kw_193 (by decide) (h0.2.1.2.2.1) rfl rfl ?_
    obtain ⟨v4, e_v4, H⟩ := cv_i H
    refine gw_S2 okX8_lowNumerator dX8_dualNumerator_23 kw_614 kw_615 ⟨by decide, by decide⟩ ⟨by decide, by decide⟩ (Nat.le_of_ble_eq_true rfl) (w_X8_lowNumerator  e_v4 ?_)
    cases H
    exact gw_lretX dX8_dualNumerator_26 rfl (by decide) (by decide) (hK rfl)
  · exact gw_out rfl (by decide) (by decide) (by rcases H with ⟨z2, H⟩ | ⟨z2, rfl⟩; (· exact absurd z2 z); exact hKX z)
set_option maxRecDepth 100000 in
set_option maxHeartbeats 4000000 in
theorem w_X8_dualDenominator {Φ : gwC} {hb : gwHp} {M : Nat} {sh : Nat → Option gSh} {th : Nat} {p1 : Int} {c : W0} {r : Int × Int × W0} {K : Option Value → gwHp → Prop} {KX : String → gwHp → Prop} (h0 : sD sh th) (H : f_X8_dualDenominator th p1 c = some r) (hK : r.1 = 0 → K (some (vL r.2.1)) (hp Φ hb M sh r.2.2)) (hKX : ¬ r.1 = 0 → KX (xnm r.1) (hp Φ hb M sh r.2.2)) : gw_ConX Φ mX8_dualDenominator [.ref (M + th), vI p1] (hp Φ hb M sh c) K KX := by
  unfold f_X8_dualDenominator at H
  refine gw_startX okX8_dualDenominator (Nat.le_of_ble_eq_true rfl) ?_
  refine gw_aload_n dX8_dualDenominator_0 rfl rfl ?_
  refine gw_iload_n dX8_dualDenominator_1 rfl rfl ?_
  obtain ⟨e9, v2, c1, e_c1, H⟩ := cx_i H
  refine gw_VX1 okX8_requireConstraint dX8_dualDenominator_2 kw_781 kw_783 kw_19 (hp_o (h0.1)) rfl ⟨by decide, by decide⟩ ⟨by decide, by decide⟩ (Nat.le_of_ble_eq_true rfl) (w_X8_requireConstraint (h0) e_c1 (fun z => ?_) (fun z => ?_))
  · rcases H with ⟨-, H⟩ | ⟨z2, H⟩
    rotate_left
    · exact absurd z z2
    refine gw_aload_n dX8_dualDenominator_5 rfl rfl ?_
    refine gs_getR cl8 0 dX8_dualDenominator_6 rfl kw_328 (by decide) (h0.1) rfl ?_
    refine gw_iload_n dX8_dualDenominator_9 rfl rfl ?_
    obtain ⟨v3, e_v3, H⟩ := cv_i H
    refine gw_V1 okX4_dual dX8_dualDenominator_10 kw_775 kw_645 kw_646 (hp_o (h0.2.1.1)) rfl ⟨by decide, by decide⟩ ⟨by decide, by decide⟩ (Nat.le_of_ble_eq_true rfl) (w_X4_dual (h0.2.1) e_v3 ?_)
    refine gw_aload_n dX8_dualDenominator_13 rfl rfl ?_
    refine gs_getR cl8 0 dX8_dualDenominator_14 rfl kw_328 (by decide) (h0.1) rfl ?_
    refine gs_getRN cl4 1 dX8_dualDenominator_17 rfl kw_212 (by decide) (h0.2.1.1) rfl ?_
    refine gs_getLN cl6 2 2 dX8_dualDenominator_20 rfl kw_193 (by decide) (h0.2.1.2.2.1) rfl rfl ?_
    obtain ⟨v4, e_v4, H⟩ := cv_i H
    refine gw_S2 okX8_lowDenominator dX8_dualDenominator_23 kw_627 kw_628 ⟨by decide, by decide⟩ ⟨by decide, by decide⟩ (Nat.le_of_ble_eq_true rfl) (w_X8_lowDenominator  e_v4 ?_)
    cases H
    exact gw_lretX dX8_dualDenominator_26 rfl (by decide) (by decide) (hK rfl)
  · exact gw_out rfl (by decide) (by decide) (by rcases H with ⟨z2, H⟩ | ⟨z2, rfl⟩; (· exact absurd z2 z); exact hKX z)
set_option maxRecDepth 100000 in
set_option maxHeartbeats 4000000 in
theorem w_X8_dualNumeratorByEquations {Φ : gwC} {hb : gwHp} {M : Nat} {sh : Nat → Option gSh} {th : Nat} {p1 : Int} {c : W0} {r : Int × Int × W0} {K : Option Value → gwHp → Prop} {KX : String → gwHp → Prop} (h0 : sD sh th) (H : f_X8_dualNumeratorByEquations th p1 c = some r) (hK : r.1 = 0 → K (some (vL r.2.1)) (hp Φ hb M sh r.2.2)) (hKX : ¬ r.1 = 0 → KX (xnm r.1) (hp Φ hb M sh r.2.2)) : gw_ConX Φ mX8_dualNumeratorByEquations [.ref (M + th), vI p1] (hp Φ hb M sh c) K KX := by
  unfold f_X8_dualNumeratorByEquations at H
  refine gw_startX okX8_dualNumeratorByEquations (Nat.le_of_ble_eq_true rfl) ?_
  refine gw_aload_n dX8_dualNumeratorByEquations_0 rfl rfl ?_
  refine gw_iload_n dX8_dualNumeratorByEquations_1 rfl rfl ?_
  obtain ⟨e9, v2, c1, e_c1, H⟩ := cx_i H
  refine gw_VX1 okX8_requireConstraint dX8_dualNumeratorByEquations_2 kw_781 kw_783 kw_19 (hp_o (h0.1)) rfl ⟨by decide, by decide⟩ ⟨by decide, by decide⟩ (Nat.le_of_ble_eq_true rfl) (w_X8_requireConstraint (h0) e_c1 (fun z => ?_) (fun z => ?_))
  · rcases H with ⟨-, H⟩ | ⟨z2, H⟩
    rotate_left
    · exact absurd z z2
    refine gw_aload_n dX8_dualNumeratorByEquations_5 rfl rfl ?_
    refine gs_getR cl8 7 dX8_dualNumeratorByEquations_6 rfl kw_335 (by decide) (h0.1) rfl ?_
    refine gw_aload_n dX8_dualNumeratorByEquations_9 rfl rfl ?_
    refine gs_getR cl8 0 dX8_dualNumeratorByEquations_10 rfl kw_328 (by decide) (h0.1) rfl ?_
    obtain ⟨v3, c4, e_c4, H⟩ := cl_i H
    refine gw_V1 okX0_solveDuals dX8_dualNumeratorByEquations_13 kw_764 kw_765 kw_766 (hp_o (h0.2.2.2.2.2.2.2.2.1.1)) rfl ⟨by decide, by decide⟩ ⟨by decide, by decide⟩ (Nat.le_of_ble_eq_true rfl) (w_X0_solveDuals (h0.2.2.2.2.2.2.2.2.1) (h0.2.1) e_c4 ?_)
    refine gw_pop dX8_dualNumeratorByEquations_16 rfl rfl ?_
    refine gw_aload_n dX8_dualNumeratorByEquations_17 rfl rfl ?_
    refine gs_getR cl8 7 dX8_dualNumeratorByEquations_18 rfl kw_335 (by decide) (h0.1) rfl ?_
    refine gw_iload_n dX8_dualNumeratorByEquations_21 rfl rfl ?_
    obtain ⟨v5, e_v5, H⟩ := cv_i H
    refine gw_V1 okX0_unknown dX8_dualNumeratorByEquations_22 kw_776 kw_697 kw_698 (hp_o (h0.2.2.2.2.2.2.2.2.1.1)) rfl ⟨by decide, by decide⟩ ⟨by decide, by decide⟩ (Nat.le_of_ble_eq_true rfl) (w_X0_unknown (h0.2.2.2.2.2.2.2.2.1) e_v5 ?_)
    refine gw_aload_n dX8_dualNumeratorByEquations_25 rfl rfl ?_
    refine gs_getR cl8 7 dX8_dualNumeratorByEquations_26 rfl kw_335 (by decide) (h0.1) rfl ?_
    refine gs_getLN cl0 1 1 dX8_dualNumeratorByEquations_29 rfl kw_286 (by decide) (h0.2.2.2.2.2.2.2.2.1.1) rfl rfl ?_
    obtain ⟨v6, e_v6, H⟩ := cv_i H
    refine gw_S2 okX8_lowNumerator dX8_dualNumeratorByEquations_32 kw_614 kw_615 ⟨by decide, by decide⟩ ⟨by decide, by decide⟩ (Nat.le_of_ble_eq_true rfl) (w_X8_lowNumerator  e_v6 ?_)
    cases H
    exact gw_lretX dX8_dualNumeratorByEquations_35 rfl (by decide) (by decide) (hK rfl)
  · exact gw_out rfl (by decide) (by decide) (by rcases H with ⟨z2, H⟩ | ⟨z2, rfl⟩; (· exact absurd z2 z); exact hKX z)
set_option maxRecDepth 100000 in
set_option maxHeartbeats 4000000 in
theorem w_X8_dualDenominatorByEquations {Φ : gwC} {hb : gwHp} {M : Nat} {sh : Nat → Option gSh} {th : Nat} {p1 : Int} {c : W0} {r : Int × Int × W0} {K : Option Value → gwHp → Prop} {KX : String → gwHp → Prop} (h0 : sD sh th) (H : f_X8_dualDenominatorByEquations th p1 c = some r) (hK : r.1 = 0 → K (some (vL r.2.1)) (hp Φ hb M sh r.2.2)) (hKX : ¬ r.1 = 0 → KX (xnm r.1) (hp Φ hb M sh r.2.2)) : gw_ConX Φ mX8_dualDenominatorByEquations [.ref (M + th), vI p1] (hp Φ hb M sh c) K KX := by
  unfold f_X8_dualDenominatorByEquations at H
  refine gw_startX okX8_dualDenominatorByEquations (Nat.le_of_ble_eq_true rfl) ?_
  refine gw_aload_n dX8_dualDenominatorByEquations_0 rfl rfl ?_
  refine gw_iload_n dX8_dualDenominatorByEquations_1 rfl rfl ?_
  obtain ⟨e9, v2, c1, e_c1, H⟩ := cx_i H
  refine gw_VX1 okX8_requireConstraint dX8_dualDenominatorByEquations_2 kw_781 kw_783 kw_19 (hp_o (h0.1)) rfl ⟨by decide, by decide⟩ ⟨by decide, by decide⟩ (Nat.le_of_ble_eq_true rfl) (w_X8_requireConstraint (h0) e_c1 (fun z => ?_) (fun z => ?_))
  · rcases H with ⟨-, H⟩ | ⟨z2, H⟩
    rotate_left
    · exact absurd z z2
    refine gw_aload_n dX8_dualDenominatorByEquations_5 rfl rfl ?_
    refine gs_getR cl8 7 dX8_dualDenominatorByEquations_6 rfl kw_335 (by decide) (h0.1) rfl ?_
    refine gw_aload_n dX8_dualDenominatorByEquations_9 rfl rfl ?_
    refine gs_getR cl8 0 dX8_dualDenominatorByEquations_10 rfl kw_328 (by decide) (h0.1) rfl ?_
    obtain ⟨v3, c4, e_c4, H⟩ := cl_i H
    refine gw_V1 okX0_solveDuals dX8_dualDenominatorByEquations_13 kw_764 kw_765 kw_766 (hp_o (h0.2.2.2.2.2.2.2.2.1.1)) rfl ⟨by decide, by decide⟩ ⟨by decide, by decide⟩ (Nat.le_of_ble_eq_true rfl) (w_X0_solveDuals (h0.2.2.2.2.2.2.2.2.1) (h0.2.1) e_c4 ?_)
    refine gw_pop dX8_dualDenominatorByEquations_16 rfl rfl ?_
    refine gw_aload_n dX8_dualDenominatorByEquations_17 rfl rfl ?_
    refine gs_getR cl8 7 dX8_dualDenominatorByEquations_18 rfl kw_335 (by decide) (h0.1) rfl ?_
    refine gw_iload_n dX8_dualDenominatorByEquations_21 rfl rfl ?_
    obtain ⟨v5, e_v5, H⟩ := cv_i H
    refine gw_V1 okX0_unknown dX8_dualDenominatorByEquations_22 kw_776 kw_697 kw_698 (hp_o (h0.2.2.2.2.2.2.2.2.1.1)) rfl ⟨by decide, by decide⟩ ⟨by decide, by decide⟩ (Nat.le_of_ble_eq_true rfl) (w_X0_unknown (h0.2.2.2.2.2.2.2.2.1) e_v5 ?_)
    refine gw_aload_n dX8_dualDenominatorByEquations_25 rfl rfl ?_
    refine gs_getR cl8 7 dX8_dualDenominatorByEquations_26 rfl kw_335 (by decide) (h0.1) rfl ?_
    refine gs_getLN cl0 1 1 dX8_dualDenominatorByEquations_29 rfl kw_286 (by decide) (h0.2.2.2.2.2.2.2.2.1.1) rfl rfl ?_
    obtain ⟨v6, e_v6, H⟩ := cv_i H
    refine gw_S2 okX8_lowDenominator dX8_dualDenominatorByEquations_32 kw_627 kw_628 ⟨by decide, by decide⟩ ⟨by decide, by decide⟩ (Nat.le_of_ble_eq_true rfl) (w_X8_lowDenominator  e_v6 ?_)
    cases H
    exact gw_lretX dX8_dualDenominatorByEquations_35 rfl (by decide) (by decide) (hK rfl)
  · exact gw_out rfl (by decide) (by decide) (by rcases H with ⟨z2, H⟩ | ⟨z2, rfl⟩; (· exact absurd z2 z); exact hKX z)
set_option maxRecDepth 100000 in
set_option maxHeartbeats 4000000 in
theorem w_X8_dualValueNumerator {Φ : gwC} {hb : gwHp} {M : Nat} {sh : Nat → Option gSh} {th : Nat} {c : W0} {r : Int} {K : Option Value → gwHp → Prop} (h0 : sD sh th) (H : f_X8_dualValueNumerator th c = some r) (hK : K (some (vL r)) (hp Φ hb M sh c)) : gw_Con Φ mX8_dualValueNumerator none [.ref (M + th)] (hp Φ hb M sh c) K := by
  unfold f_X8_dualValueNumerator at H
  refine gw_start okX8_dualValueNumerator (Nat.le_of_ble_eq_true rfl) ?_
  refine gw_aload_n dX8_dualValueNumerator_0 rfl rfl ?_
  refine gs_getR cl8 0 dX8_dualValueNumerator_1 rfl kw_328 (by decide) (h0.1) rfl ?_
  obtain ⟨v1, e_v1, H⟩ := cv_i H
  refine gw_V0 okX4_dualWorth dX8_dualValueNumerator_4 kw_640 kw_641 kw_642 (hp_o (h0.2.1.1)) rfl ⟨by decide, by decide⟩ ⟨by decide, by decide⟩ (Nat.le_of_ble_eq_true rfl) (w_X4_dualWorth (h0.2.1) e_v1 ?_)
  refine gw_aload_n dX8_dualValueNumerator_7 rfl rfl ?_
  refine gs_getR cl8 0 dX8_dualValueNumerator_8 rfl kw_328 (by decide) (h0.1) rfl ?_
  refine gs_getRN cl4 1 dX8_dualValueNumerator_11 rfl kw_212 (by decide) (h0.2.1.1) rfl ?_
  refine gs_getLN cl6 2 2 dX8_dualValueNumerator_14 rfl kw_193 (by decide) (h0.2.1.2.2.1) rfl rfl ?_
  obtain ⟨v2, e_v2, H⟩ := cv_i H
  refine gw_S2 okX8_lowNumerator dX8_dualValueNumerator_17 kw_614 kw_615 ⟨by decide, by decide⟩ ⟨by decide, by decide⟩ (Nat.le_of_ble_eq_true rfl) (w_X8_lowNumerator  e_v2 ?_)
  cases H
  exact gw_lret dX8_dualValueNumerator_20 rfl (by decide) (by decide) hK
set_option maxRecDepth 100000 in
set_option maxHeartbeats 4000000 in
theorem w_X8_dualValueDenominator {Φ : gwC} {hb : gwHp} {M : Nat} {sh : Nat → Option gSh} {th : Nat} {c : W0} {r : Int} {K : Option Value → gwHp → Prop} (h0 : sD sh th) (H : f_X8_dualValueDenominator th c = some r) (hK : K (some (vL r)) (hp Φ hb M sh c)) : gw_Con Φ mX8_dualValueDenominator none [.ref (M + th)] (hp Φ hb M sh c) K := by
  unfold f_X8_dualValueDenominator at H
  refine gw_start okX8_dualValueDenominator (Nat.le_of_ble_eq_true rfl) ?_
  refine gw_aload_n dX8_dualValueDenominator_0 rfl rfl ?_
  refine gs_getR cl8 0 dX8_dualValueDenominator_1 rfl kw_328 (by decide) (h0.1) rfl ?_
  obtain ⟨v1, e_v1, H⟩ := cv_i H
  refine gw_V0 okX4_dualWorth dX8_dualValueDenominator_4 kw_640 kw_641 kw_642 (hp_o (h0.2.1.1)) rfl ⟨by decide, by decide⟩ ⟨by decide, by decide⟩ (Nat.le_of_ble_eq_true rfl) (w_X4_dualWorth (h0.2.1) e_v1 ?_)
  refine gw_aload_n dX8_dualValueDenominator_7 rfl rfl ?_
  refine gs_getR cl8 0 dX8_dualValueDenominator_8 rfl kw_328 (by decide) (h0.1) rfl ?_
  refine gs_getRN cl4 1 dX8_dualValueDenominator_11 rfl kw_212 (by decide) (h0.2.1.1) rfl ?_
  refine gs_getLN cl6 2 2 dX8_dualValueDenominator_14 rfl kw_193 (by decide) (h0.2.1.2.2.1) rfl rfl ?_
  obtain ⟨v2, e_v2, H⟩ := cv_i H
  refine gw_S2 okX8_lowDenominator dX8_dualValueDenominator_17 kw_627 kw_628 ⟨by decide, by decide⟩ ⟨by decide, by decide⟩ (Nat.le_of_ble_eq_true rfl) (w_X8_lowDenominator  e_v2 ?_)
  cases H
  exact gw_lret dX8_dualValueDenominator_20 rfl (by decide) (by decide) hK
set_option maxRecDepth 100000 in
set_option maxHeartbeats 4000000 in
theorem w_X8_requireRay {Φ : gwC} {hb : gwHp} {M : Nat} {sh : Nat → Option gSh} {th : Nat} {c : W0} {r : Int × Int × W0} {K : Option Value → gwHp → Prop} {KX : String → gwHp → Prop} (h0 : sD sh th) (H : f_X8_requireRay th c = some r) (hK : r.1 = 0 → K none (hp Φ hb M sh r.2.2)) (hKX : ¬ r.1 = 0 → KX (xnm r.1) (hp Φ hb M sh r.2.2)) : gw_ConX Φ mX8_requireRay [.ref (M + th)] (hp Φ hb M sh c) K KX := by
  unfold f_X8_requireRay at H
  refine gw_startX okX8_requireRay (Nat.le_of_ble_eq_true rfl) ?_
  refine gw_aload_n dX8_requireRay_0 rfl rfl ?_
  refine gs_getR cl8 0 dX8_requireRay_1 rfl kw_328 (by decide) (h0.1) rfl ?_
  refine gs_getRN cl4 1 dX8_requireRay_4 rfl kw_212 (by decide) (h0.2.1.1) rfl ?_
  obtain ⟨v1, e_v1, H⟩ := cv_i H
  refine gw_V0 okX6_openColumn dX8_requireRay_7 kw_593 kw_452 kw_453 (hp_o (h0.2.1.2.2.1)) rfl ⟨by decide, by decide⟩ ⟨by decide, by decide⟩ (Nat.le_of_ble_eq_true rfl) (w_X6_openColumn (h0.2.1.2.2) e_v1 ?_)
  obtain ⟨g, H⟩ := gd_i H
  refine gw_if_geZ (tgt := 24) dX8_requireRay_10 rfl (by decide) g (fun q => ?_) (fun q => ?_)
  · have H := bq_t q H
    cases H
    exact gw_vretX dX8_requireRay_24 rfl (by decide) (by decide) (hK rfl)
  · have H := bq_f q H
    cases H
    exact gw_throwW (text := "the basis has no ray") (by decide +kernel) gw_nms_ok kw_975 kw_117 thw_IS (by decide +kernel) dX8_requireRay_13 dX8_requireRay_16 dX8_requireRay_17 dX8_requireRay_20 dX8_requireRay_23 rfl (by decide) (by decide) (by decide) (by decide) (hKX (show ¬ (2 : Int) = 0 by decide))
set_option maxRecDepth 100000 in
set_option maxHeartbeats 4000000 in
theorem w_X8_rayColumn {Φ : gwC} {hb : gwHp} {M : Nat} {sh : Nat → Option gSh} {th : Nat} {c : W0} {r : Int × Int × W0} {K : Option Value → gwHp → Prop} {KX : String → gwHp → Prop} (h0 : sD sh th) (H : f_X8_rayColumn th c = some r) (hK : r.1 = 0 → K (some (vI r.2.1)) (hp Φ hb M sh r.2.2)) (hKX : ¬ r.1 = 0 → KX (xnm r.1) (hp Φ hb M sh r.2.2)) : gw_ConX Φ mX8_rayColumn [.ref (M + th)] (hp Φ hb M sh c) K KX := by
  unfold f_X8_rayColumn at H
  refine gw_startX okX8_rayColumn (Nat.le_of_ble_eq_true rfl) ?_
  refine gw_aload_n dX8_rayColumn_0 rfl rfl ?_
  obtain ⟨e9, v2, c1, e_c1, H⟩ := cx_i H
  refine gw_VX0 okX8_requireRay dX8_rayColumn_1 kw_1242 kw_1244 kw_31 (hp_o (h0.1)) rfl ⟨by decide, by decide⟩ ⟨by decide, by decide⟩ (Nat.le_of_ble_eq_true rfl) (w_X8_requireRay (h0) e_c1 (fun z => ?_) (fun z => ?_))
  · rcases H with ⟨-, H⟩ | ⟨z2, H⟩
    rotate_left
    · exact absurd z z2
    refine gw_aload_n dX8_rayColumn_4 rfl rfl ?_
    refine gs_getR cl8 0 dX8_rayColumn_5 rfl kw_328 (by decide) (h0.1) rfl ?_
    refine gs_getRN cl4 1 dX8_rayColumn_8 rfl kw_212 (by decide) (h0.2.1.1) rfl ?_
    obtain ⟨v3, e_v3, H⟩ := cv_i H
    refine gw_V0 okX6_openColumn dX8_rayColumn_11 kw_593 kw_452 kw_453 (hp_o (h0.2.1.2.2.1)) rfl ⟨by decide, by decide⟩ ⟨by decide, by decide⟩ (Nat.le_of_ble_eq_true rfl) (w_X6_openColumn (h0.2.1.2.2) e_v3 ?_)
    cases H
    exact gw_iretX dX8_rayColumn_14 rfl (by decide) (by decide) (hK rfl)
  · exact gw_out rfl (by decide) (by decide) (by rcases H with ⟨z2, H⟩ | ⟨z2, rfl⟩; (· exact absurd z2 z); exact hKX z)
set_option maxRecDepth 100000 in
set_option maxHeartbeats 4000000 in
theorem w_X8_rayNumerator {Φ : gwC} {hb : gwHp} {M : Nat} {sh : Nat → Option gSh} {th : Nat} {p1 : Int} {c : W0} {r : Int × Int × W0} {K : Option Value → gwHp → Prop} {KX : String → gwHp → Prop} (h0 : sD sh th) (H : f_X8_rayNumerator th p1 c = some r) (hK : r.1 = 0 → K (some (vL r.2.1)) (hp Φ hb M sh r.2.2)) (hKX : ¬ r.1 = 0 → KX (xnm r.1) (hp Φ hb M sh r.2.2)) : gw_ConX Φ mX8_rayNumerator [.ref (M + th), vI p1] (hp Φ hb M sh c) K KX := by
  unfold f_X8_rayNumerator at H
  refine gw_startX okX8_rayNumerator (Nat.le_of_ble_eq_true rfl) ?_
  refine gw_aload_n dX8_rayNumerator_0 rfl rfl ?_
  refine gw_iload_n dX8_rayNumerator_1 rfl rfl ?_
  obtain ⟨e9, v2, c1, e_c1, H⟩ := cx_i H
  refine gw_VX1 okX8_requireColumn dX8_rayNumerator_2 kw_1031 kw_1033 kw_27 (hp_o (h0.1)) rfl ⟨by decide, by decide⟩ ⟨by decide, by decide⟩ (Nat.le_of_ble_eq_true rfl) (w_X8_requireColumn (h0) e_c1 (fun z => ?_) (fun z => ?_))
  · rcases H with ⟨-, H⟩ | ⟨z2, H⟩
    rotate_left
    · exact absurd z z2
    refine gw_aload_n dX8_rayNumerator_5 rfl rfl ?_
    obtain ⟨e9, v4, c3, e_c3, H⟩ := cx_i H
    refine gw_VX0 okX8_requireRay dX8_rayNumerator_6 kw_1242 kw_1244 kw_31 (hp_o (h0.1)) rfl ⟨by decide, by decide⟩ ⟨by decide, by decide⟩ (Nat.le_of_ble_eq_true rfl) (w_X8_requireRay (h0) e_c3 (fun z => ?_) (fun z => ?_))
    · rcases H with ⟨-, H⟩ | ⟨z2, H⟩
      rotate_left
      · exact absurd z z2
      refine gw_aload_n dX8_rayNumerator_9 rfl rfl ?_
      refine gs_getR cl8 0 dX8_rayNumerator_10 rfl kw_328 (by decide) (h0.1) rfl ?_
      refine gs_getRN cl4 1 dX8_rayNumerator_13 rfl kw_212 (by decide) (h0.2.1.1) rfl ?_
      refine gw_iload_n dX8_rayNumerator_16 rfl rfl ?_
      obtain ⟨v5, e_v5, H⟩ := cv_i H
      refine gw_V1 okX6_growth dX8_rayNumerator_17 kw_1254 kw_1255 kw_1256 (hp_o (h0.2.1.2.2.1)) rfl ⟨by decide, by decide⟩ ⟨by decide, by decide⟩ (Nat.le_of_ble_eq_true rfl) (w_X6_growth (h0.2.1.2.2) e_v5 ?_)
      refine gw_aload_n dX8_rayNumerator_20 rfl rfl ?_
      refine gs_getR cl8 0 dX8_rayNumerator_21 rfl kw_328 (by decide) (h0.1) rfl ?_
      refine gs_getRN cl4 1 dX8_rayNumerator_24 rfl kw_212 (by decide) (h0.2.1.1) rfl ?_
      refine gs_getLN cl6 2 2 dX8_rayNumerator_27 rfl kw_193 (by decide) (h0.2.1.2.2.1) rfl rfl ?_
      obtain ⟨v6, e_v6, H⟩ := cv_i H
      refine gw_S2 okX8_lowNumerator dX8_rayNumerator_30 kw_614 kw_615 ⟨by decide, by decide⟩ ⟨by decide, by decide⟩ (Nat.le_of_ble_eq_true rfl) (w_X8_lowNumerator  e_v6 ?_)
      cases H
      exact gw_lretX dX8_rayNumerator_33 rfl (by decide) (by decide) (hK rfl)
    · exact gw_out rfl (by decide) (by decide) (by rcases H with ⟨z2, H⟩ | ⟨z2, rfl⟩; (· exact absurd z2 z); exact hKX z)
  · exact gw_out rfl (by decide) (by decide) (by rcases H with ⟨z2, H⟩ | ⟨z2, rfl⟩; (· exact absurd z2 z); exact hKX z)
set_option maxRecDepth 100000 in
set_option maxHeartbeats 4000000 in
theorem w_X8_rayDenominator {Φ : gwC} {hb : gwHp} {M : Nat} {sh : Nat → Option gSh} {th : Nat} {p1 : Int} {c : W0} {r : Int × Int × W0} {K : Option Value → gwHp → Prop} {KX : String → gwHp → Prop} (h0 : sD sh th) (H : f_X8_rayDenominator th p1 c = some r) (hK : r.1 = 0 → K (some (vL r.2.1)) (hp Φ hb M sh r.2.2)) (hKX : ¬ r.1 = 0 → KX (xnm r.1) (hp Φ hb M sh r.2.2)) : gw_ConX Φ mX8_rayDenominator [.ref (M + th), vI p1] (hp Φ hb M sh c) K KX := by
  unfold f_X8_rayDenominator at H
  refine gw_startX okX8_rayDenominator (Nat.le_of_ble_eq_true rfl) ?_
  refine gw_aload_n dX8_rayDenominator_0 rfl rfl ?_
  refine gw_iload_n dX8_rayDenominator_1 rfl rfl ?_
  obtain ⟨e9, v2, c1, e_c1, H⟩ := cx_i H
  refine gw_VX1 okX8_requireColumn dX8_rayDenominator_2 kw_1031 kw_1033 kw_27 (hp_o (h0.1)) rfl ⟨by decide, by decide⟩ ⟨by decide, by decide⟩ (Nat.le_of_ble_eq_true rfl) (w_X8_requireColumn (h0) e_c1 (fun z => ?_) (fun z => ?_))
  · rcases H with ⟨-, H⟩ | ⟨z2, H⟩
    rotate_left
    · exact absurd z z2
    refine gw_aload_n dX8_rayDenominator_5 rfl rfl ?_
    obtain ⟨e9, v4, c3, e_c3, H⟩ := cx_i H
    refine gw_VX0 okX8_requireRay dX8_rayDenominator_6 kw_1242 kw_1244 kw_31 (hp_o (h0.1)) rfl ⟨by decide, by decide⟩ ⟨by decide, by decide⟩ (Nat.le_of_ble_eq_true rfl) (w_X8_requireRay (h0) e_c3 (fun z => ?_) (fun z => ?_))
    · rcases H with ⟨-, H⟩ | ⟨z2, H⟩
      rotate_left
      · exact absurd z z2
      refine gw_aload_n dX8_rayDenominator_9 rfl rfl ?_
      refine gs_getR cl8 0 dX8_rayDenominator_10 rfl kw_328 (by decide) (h0.1) rfl ?_
      refine gs_getRN cl4 1 dX8_rayDenominator_13 rfl kw_212 (by decide) (h0.2.1.1) rfl ?_
      refine gw_iload_n dX8_rayDenominator_16 rfl rfl ?_
      obtain ⟨v5, e_v5, H⟩ := cv_i H
      refine gw_V1 okX6_growth dX8_rayDenominator_17 kw_1254 kw_1255 kw_1256 (hp_o (h0.2.1.2.2.1)) rfl ⟨by decide, by decide⟩ ⟨by decide, by decide⟩ (Nat.le_of_ble_eq_true rfl) (w_X6_growth (h0.2.1.2.2) e_v5 ?_)
      refine gw_aload_n dX8_rayDenominator_20 rfl rfl ?_
      refine gs_getR cl8 0 dX8_rayDenominator_21 rfl kw_328 (by decide) (h0.1) rfl ?_
      refine gs_getRN cl4 1 dX8_rayDenominator_24 rfl kw_212 (by decide) (h0.2.1.1) rfl ?_
      refine gs_getLN cl6 2 2 dX8_rayDenominator_27 rfl kw_193 (by decide) (h0.2.1.2.2.1) rfl rfl ?_
      obtain ⟨v6, e_v6, H⟩ := cv_i H
      refine gw_S2 okX8_lowDenominator dX8_rayDenominator_30 kw_627 kw_628 ⟨by decide, by decide⟩ ⟨by decide, by decide⟩ (Nat.le_of_ble_eq_true rfl) (w_X8_lowDenominator  e_v6 ?_)
      cases H
      exact gw_lretX dX8_rayDenominator_33 rfl (by decide) (by decide) (hK rfl)
    · exact gw_out rfl (by decide) (by decide) (by rcases H with ⟨z2, H⟩ | ⟨z2, rfl⟩; (· exact absurd z2 z); exact hKX z)
  · exact gw_out rfl (by decide) (by decide) (by rcases H with ⟨z2, H⟩ | ⟨z2, rfl⟩; (· exact absurd z2 z); exact hKX z)
set_option maxRecDepth 100000 in
set_option maxHeartbeats 4000000 in
theorem w_X8_feasibleBases {Φ : gwC} {hb : gwHp} {M : Nat} {sh : Nat → Option gSh} {th : Nat} {c : W0} {r : Int × W0} {K : Option Value → gwHp → Prop} (h0 : sD sh th) (H : f_X8_feasibleBases th c = some r) (hK : K (some (vI r.1)) (hp Φ hb M sh r.2)) : gw_Con Φ mX8_feasibleBases none [.ref (M + th)] (hp Φ hb M sh c) K := by
  unfold f_X8_feasibleBases at H
  refine gw_start okX8_feasibleBases (Nat.le_of_ble_eq_true rfl) ?_
  refine gw_aload_n dX8_feasibleBases_0 rfl rfl ?_
  refine gs_getR cl8 8 dX8_feasibleBases_1 rfl kw_336 (by decide) (h0.1) rfl ?_
  refine gw_aload_n dX8_feasibleBases_4 rfl rfl ?_
  refine gs_getR cl8 0 dX8_feasibleBases_5 rfl kw_328 (by decide) (h0.1) rfl ?_
  refine gs_getRN cl4 0 dX8_feasibleBases_8 rfl kw_208 (by decide) (h0.2.1.1) rfl ?_
  obtain ⟨v2, c1, e_c1, H⟩ := cl_i H
  refine gw_V1 okX5_look dX8_feasibleBases_11 kw_658 kw_659 kw_660 (hp_o (h0.2.2.2.2.2.2.2.2.2.1.1)) rfl ⟨by decide, by decide⟩ ⟨by decide, by decide⟩ (Nat.le_of_ble_eq_true rfl) (w_X5_look (h0.2.2.2.2.2.2.2.2.2.1) (h0.2.1.2.1) e_c1 ?_)
  refine gw_aload_n dX8_feasibleBases_14 rfl rfl ?_
  refine gs_getR cl8 8 dX8_feasibleBases_15 rfl kw_336 (by decide) (h0.1) rfl ?_
  refine gs_getIN cl5 2 2 dX8_feasibleBases_18 rfl kw_308 (by decide) (h0.2.2.2.2.2.2.2.2.2.1.1) rfl rfl ?_
  cases H
  exact gw_iret dX8_feasibleBases_21 rfl (by decide) (by decide) hK
set_option maxRecDepth 100000 in
set_option maxHeartbeats 4000000 in
theorem w_X8_unlikeValues {Φ : gwC} {hb : gwHp} {M : Nat} {sh : Nat → Option gSh} {th : Nat} {c : W0} {r : Int × W0} {K : Option Value → gwHp → Prop} (h0 : sD sh th) (H : f_X8_unlikeValues th c = some r) (hK : K (some (vI r.1)) (hp Φ hb M sh r.2)) : gw_Con Φ mX8_unlikeValues none [.ref (M + th)] (hp Φ hb M sh c) K := by
  unfold f_X8_unlikeValues at H
  refine gw_start okX8_unlikeValues (Nat.le_of_ble_eq_true rfl) ?_
  refine gw_aload_n dX8_unlikeValues_0 rfl rfl ?_
  refine gs_getR cl8 8 dX8_unlikeValues_1 rfl kw_336 (by decide) (h0.1) rfl ?_
  refine gw_aload_n dX8_unlikeValues_4 rfl rfl ?_
  refine gs_getR cl8 0 dX8_unlikeValues_5 rfl kw_328 (by decide) (h0.1) rfl ?_
  refine gs_getRN cl4 0 dX8_unlikeValues_8 rfl kw_208 (by decide) (h0.2.1.1) rfl ?_
  obtain ⟨v2, c1, e_c1, H⟩ := cl_i H
  refine gw_V1 okX5_look dX8_unlikeValues_11 kw_658 kw_659 kw_660 (hp_o (h0.2.2.2.2.2.2.2.2.2.1.1)) rfl ⟨by decide, by decide⟩ ⟨by decide, by decide⟩ (Nat.le_of_ble_eq_true rfl) (w_X5_look (h0.2.2.2.2.2.2.2.2.2.1) (h0.2.1.2.1) e_c1 ?_)
  refine gw_aload_n dX8_unlikeValues_14 rfl rfl ?_
  refine gs_getR cl8 8 dX8_unlikeValues_15 rfl kw_336 (by decide) (h0.1) rfl ?_
  refine gs_getIN cl5 3 3 dX8_unlikeValues_18 rfl kw_310 (by decide) (h0.2.2.2.2.2.2.2.2.2.1.1) rfl rfl ?_
  cases H
  exact gw_iret dX8_unlikeValues_21 rfl (by decide) (by decide) hK
set_option maxRecDepth 100000 in
set_option maxHeartbeats 4000000 in
theorem w_X8_bestNumerator {Φ : gwC} {hb : gwHp} {M : Nat} {sh : Nat → Option gSh} {th : Nat} {c : W0} {r : Int × W0} {K : Option Value → gwHp → Prop} (h0 : sD sh th) (H : f_X8_bestNumerator th c = some r) (hK : K (some (vL r.1)) (hp Φ hb M sh r.2)) : gw_Con Φ mX8_bestNumerator none [.ref (M + th)] (hp Φ hb M sh c) K := by
  unfold f_X8_bestNumerator at H
  refine gw_start okX8_bestNumerator (Nat.le_of_ble_eq_true rfl) ?_
  refine gw_aload_n dX8_bestNumerator_0 rfl rfl ?_
  refine gs_getR cl8 8 dX8_bestNumerator_1 rfl kw_336 (by decide) (h0.1) rfl ?_
  refine gw_aload_n dX8_bestNumerator_4 rfl rfl ?_
  refine gs_getR cl8 0 dX8_bestNumerator_5 rfl kw_328 (by decide) (h0.1) rfl ?_
  refine gs_getRN cl4 0 dX8_bestNumerator_8 rfl kw_208 (by decide) (h0.2.1.1) rfl ?_
  obtain ⟨v2, c1, e_c1, H⟩ := cl_i H
  refine gw_V1 okX5_look dX8_bestNumerator_11 kw_658 kw_659 kw_660 (hp_o (h0.2.2.2.2.2.2.2.2.2.1.1)) rfl ⟨by decide, by decide⟩ ⟨by decide, by decide⟩ (Nat.le_of_ble_eq_true rfl) (w_X5_look (h0.2.2.2.2.2.2.2.2.2.1) (h0.2.1.2.1) e_c1 ?_)
  refine gw_aload_n dX8_bestNumerator_14 rfl rfl ?_
  refine gs_getR cl8 8 dX8_bestNumerator_15 rfl kw_336 (by decide) (h0.1) rfl ?_
  refine gs_getLN cl5 4 4 dX8_bestNumerator_18 rfl kw_312 (by decide) (h0.2.2.2.2.2.2.2.2.2.1.1) rfl rfl ?_
  cases H
  exact gw_lret dX8_bestNumerator_21 rfl (by decide) (by decide) hK
set_option maxRecDepth 100000 in
set_option maxHeartbeats 4000000 in
theorem w_X8_bestDenominator {Φ : gwC} {hb : gwHp} {M : Nat} {sh : Nat → Option gSh} {th : Nat} {c : W0} {r : Int × W0} {K : Option Value → gwHp → Prop} (h0 : sD sh th) (H : f_X8_bestDenominator th c = some r) (hK : K (some (vL r.1)) (hp Φ hb M sh r.2)) : gw_Con Φ mX8_bestDenominator none [.ref (M + th)] (hp Φ hb M sh c) K := by
  unfold f_X8_bestDenominator at H
  refine gw_start okX8_bestDenominator (Nat.le_of_ble_eq_true rfl) ?_
  refine gw_aload_n dX8_bestDenominator_0 rfl rfl ?_
  refine gs_getR cl8 8 dX8_bestDenominator_1 rfl kw_336 (by decide) (h0.1) rfl ?_
  refine gw_aload_n dX8_bestDenominator_4 rfl rfl ?_
  refine gs_getR cl8 0 dX8_bestDenominator_5 rfl kw_328 (by decide) (h0.1) rfl ?_
  refine gs_getRN cl4 0 dX8_bestDenominator_8 rfl kw_208 (by decide) (h0.2.1.1) rfl ?_
  obtain ⟨v2, c1, e_c1, H⟩ := cl_i H
  refine gw_V1 okX5_look dX8_bestDenominator_11 kw_658 kw_659 kw_660 (hp_o (h0.2.2.2.2.2.2.2.2.2.1.1)) rfl ⟨by decide, by decide⟩ ⟨by decide, by decide⟩ (Nat.le_of_ble_eq_true rfl) (w_X5_look (h0.2.2.2.2.2.2.2.2.2.1) (h0.2.1.2.1) e_c1 ?_)
  refine gw_aload_n dX8_bestDenominator_14 rfl rfl ?_
  refine gs_getR cl8 8 dX8_bestDenominator_15 rfl kw_336 (by decide) (h0.1) rfl ?_
  refine gs_getLN cl5 5 5 dX8_bestDenominator_18 rfl kw_314 (by decide) (h0.2.2.2.2.2.2.2.2.2.1.1) rfl rfl ?_
  cases H
  exact gw_lret dX8_bestDenominator_21 rfl (by decide) (by decide) hK
set_option maxRecDepth 100000 in
set_option maxHeartbeats 4000000 in
theorem w_X8_whyNoPivot {Φ : gwC} {hb : gwHp} {M : Nat} {sh : Nat → Option gSh} {th : Nat} {p1 : Int} {p2 : Int} {c : W0} {r : Int × Int × W0} {K : Option Value → gwHp → Prop} {KX : String → gwHp → Prop} (h0 : sD sh th) (H : f_X8_whyNoPivot th p1 p2 c = some r) (hK : r.1 = 0 → K (some (vI r.2.1)) (hp Φ hb M sh r.2.2)) (hKX : ¬ r.1 = 0 → KX (xnm r.1) (hp Φ hb M sh r.2.2)) : gw_ConX Φ mX8_whyNoPivot [.ref (M + th), vI p1, vI p2] (hp Φ hb M sh c) K KX := by
  unfold f_X8_whyNoPivot at H
  refine gw_startX okX8_whyNoPivot (Nat.le_of_ble_eq_true rfl) ?_
  refine gw_aload_n dX8_whyNoPivot_0 rfl rfl ?_
  refine gw_iload_n dX8_whyNoPivot_1 rfl rfl ?_
  obtain ⟨e9, v2, c1, e_c1, H⟩ := cx_i H
  refine gw_VX1 okX8_requireRow dX8_whyNoPivot_2 kw_1026 kw_1028 kw_26 (hp_o (h0.1)) rfl ⟨by decide, by decide⟩ ⟨by decide, by decide⟩ (Nat.le_of_ble_eq_true rfl) (w_X8_requireRow (h0) e_c1 (fun z => ?_) (fun z => ?_))
  · rcases H with ⟨-, H⟩ | ⟨z2, H⟩
    rotate_left
    · exact absurd z z2
    refine gw_aload_n dX8_whyNoPivot_5 rfl rfl ?_
    refine gw_iload_n dX8_whyNoPivot_6 rfl rfl ?_
    obtain ⟨e9, v4, c3, e_c3, H⟩ := cx_i H
    refine gw_VX1 okX8_requireColumn dX8_whyNoPivot_7 kw_1031 kw_1033 kw_27 (hp_o (h0.1)) rfl ⟨by decide, by decide⟩ ⟨by decide, by decide⟩ (Nat.le_of_ble_eq_true rfl) (w_X8_requireColumn (h0) e_c3 (fun z => ?_) (fun z => ?_))
    · rcases H with ⟨-, H⟩ | ⟨z2, H⟩
      rotate_left
      · exact absurd z z2
      refine gw_aload_n dX8_whyNoPivot_10 rfl rfl ?_
      refine gs_getR cl8 0 dX8_whyNoPivot_11 rfl kw_328 (by decide) (h0.1) rfl ?_
      refine gs_getRN cl4 1 dX8_whyNoPivot_14 rfl kw_212 (by decide) (h0.2.1.1) rfl ?_
      refine gw_iload_n dX8_whyNoPivot_17 rfl rfl ?_
      refine gw_iload_n dX8_whyNoPivot_18 rfl rfl ?_
      obtain ⟨v5, e_v5, H⟩ := cv_i H
      refine gw_V2 okX6_obstacle dX8_whyNoPivot_19 kw_1036 kw_1037 kw_1038 (hp_o (h0.2.1.2.2.1)) rfl ⟨by decide, by decide⟩ ⟨by decide, by decide⟩ (Nat.le_of_ble_eq_true rfl) (w_X6_obstacle (h0.2.1.2.2) e_v5 ?_)
      cases H
      exact gw_iretX dX8_whyNoPivot_22 rfl (by decide) (by decide) (hK rfl)
    · exact gw_out rfl (by decide) (by decide) (by rcases H with ⟨z2, H⟩ | ⟨z2, rfl⟩; (· exact absurd z2 z); exact hKX z)
  · exact gw_out rfl (by decide) (by decide) (by rcases H with ⟨z2, H⟩ | ⟨z2, rfl⟩; (· exact absurd z2 z); exact hKX z)
set_option maxRecDepth 100000 in
set_option maxHeartbeats 4000000 in
theorem w_X8_nextColumn {Φ : gwC} {hb : gwHp} {M : Nat} {sh : Nat → Option gSh} {th : Nat} {c : W0} {r : Int × Int × W0} {K : Option Value → gwHp → Prop} {KX : String → gwHp → Prop} (h0 : sD sh th) (H : f_X8_nextColumn th c = some r) (hK : r.1 = 0 → K (some (vI r.2.1)) (hp Φ hb M sh r.2.2)) (hKX : ¬ r.1 = 0 → KX (xnm r.1) (hp Φ hb M sh r.2.2)) : gw_ConX Φ mX8_nextColumn [.ref (M + th)] (hp Φ hb M sh c) K KX := by
  unfold f_X8_nextColumn at H
  refine gw_startX okX8_nextColumn (Nat.le_of_ble_eq_true rfl) ?_
  refine gw_aload_n dX8_nextColumn_0 rfl rfl ?_
  obtain ⟨e9, v2, c1, e_c1, H⟩ := cx_i H
  refine gw_VX0 okX8_requireOpen dX8_nextColumn_1 kw_1049 kw_1051 kw_28 (hp_o (h0.1)) rfl ⟨by decide, by decide⟩ ⟨by decide, by decide⟩ (Nat.le_of_ble_eq_true rfl) (w_X8_requireOpen (h0) e_c1 (fun z => ?_) (fun z => ?_))
  · rcases H with ⟨-, H⟩ | ⟨z2, H⟩
    rotate_left
    · exact absurd z z2
    refine gw_aload_n dX8_nextColumn_4 rfl rfl ?_
    refine gs_getR cl8 0 dX8_nextColumn_5 rfl kw_328 (by decide) (h0.1) rfl ?_
    obtain ⟨v3, e_v3, H⟩ := cv_i H
    refine gw_V0 okX4_chosenColumn dX8_nextColumn_8 kw_900 kw_901 kw_902 (hp_o (h0.2.1.1)) rfl ⟨by decide, by decide⟩ ⟨by decide, by decide⟩ (Nat.le_of_ble_eq_true rfl) (w_X4_chosenColumn (h0.2.1) e_v3 ?_)
    cases H
    exact gw_iretX dX8_nextColumn_11 rfl (by decide) (by decide) (hK rfl)
  · exact gw_out rfl (by decide) (by decide) (by rcases H with ⟨z2, H⟩ | ⟨z2, rfl⟩; (· exact absurd z2 z); exact hKX z)
set_option maxRecDepth 100000 in
set_option maxHeartbeats 4000000 in
theorem w_X8_nextRow {Φ : gwC} {hb : gwHp} {M : Nat} {sh : Nat → Option gSh} {th : Nat} {c : W0} {r : Int × Int × W0} {K : Option Value → gwHp → Prop} {KX : String → gwHp → Prop} (h0 : sD sh th) (H : f_X8_nextRow th c = some r) (hK : r.1 = 0 → K (some (vI r.2.1)) (hp Φ hb M sh r.2.2)) (hKX : ¬ r.1 = 0 → KX (xnm r.1) (hp Φ hb M sh r.2.2)) : gw_ConX Φ mX8_nextRow [.ref (M + th)] (hp Φ hb M sh c) K KX := by
  unfold f_X8_nextRow at H
  refine gw_startX okX8_nextRow (Nat.le_of_ble_eq_true rfl) ?_
  refine gw_aload_n dX8_nextRow_0 rfl rfl ?_
  obtain ⟨e9, v2, c1, e_c1, H⟩ := cx_i H
  refine gw_VX0 okX8_requireOpen dX8_nextRow_1 kw_1049 kw_1051 kw_28 (hp_o (h0.1)) rfl ⟨by decide, by decide⟩ ⟨by decide, by decide⟩ (Nat.le_of_ble_eq_true rfl) (w_X8_requireOpen (h0) e_c1 (fun z => ?_) (fun z => ?_))
  · rcases H with ⟨-, H⟩ | ⟨z2, H⟩
    rotate_left
    · exact absurd z z2
    refine gw_aload_n dX8_nextRow_4 rfl rfl ?_
    refine gs_getR cl8 0 dX8_nextRow_5 rfl kw_328 (by decide) (h0.1) rfl ?_
    refine gs_getRN cl4 1 dX8_nextRow_8 rfl kw_212 (by decide) (h0.2.1.1) rfl ?_
    refine gw_aload_n dX8_nextRow_11 rfl rfl ?_
    refine gs_getR cl8 0 dX8_nextRow_12 rfl kw_328 (by decide) (h0.1) rfl ?_
    obtain ⟨v3, e_v3, H⟩ := cv_i H
    refine gw_V0 okX4_chosenColumn dX8_nextRow_15 kw_900 kw_901 kw_902 (hp_o (h0.2.1.1)) rfl ⟨by decide, by decide⟩ ⟨by decide, by decide⟩ (Nat.le_of_ble_eq_true rfl) (w_X4_chosenColumn (h0.2.1) e_v3 ?_)
    obtain ⟨v4, e_v4, H⟩ := cv_i H
    refine gw_V1 okX6_leastRow dX8_nextRow_18 kw_904 kw_456 kw_457 (hp_o (h0.2.1.2.2.1)) rfl ⟨by decide, by decide⟩ ⟨by decide, by decide⟩ (Nat.le_of_ble_eq_true rfl) (w_X6_leastRow (h0.2.1.2.2) e_v4 ?_)
    cases H
    exact gw_iretX dX8_nextRow_21 rfl (by decide) (by decide) (hK rfl)
  · exact gw_out rfl (by decide) (by decide) (by rcases H with ⟨z2, H⟩ | ⟨z2, rfl⟩; (· exact absurd z2 z); exact hKX z)
set_option maxRecDepth 100000 in
set_option maxHeartbeats 4000000 in
theorem w_X8_pivotsLeft {Φ : gwC} {hb : gwHp} {M : Nat} {sh : Nat → Option gSh} {th : Nat} {c : W0} {r : Int × W0} {K : Option Value → gwHp → Prop} (h0 : sD sh th) (H : f_X8_pivotsLeft th c = some r) (hK : K (some (vI r.1)) (hp Φ hb M sh r.2)) : gw_Con Φ mX8_pivotsLeft none [.ref (M + th)] (hp Φ hb M sh c) K := by
  unfold f_X8_pivotsLeft at H
  refine gw_start okX8_pivotsLeft (Nat.le_of_ble_eq_true rfl) ?_
  refine gw_aload_n dX8_pivotsLeft_0 rfl rfl ?_
  refine gs_getR cl8 1 dX8_pivotsLeft_1 rfl kw_329 (by decide) (h0.1) rfl ?_
  refine gw_aload_n dX8_pivotsLeft_4 rfl rfl ?_
  refine gs_getR cl8 0 dX8_pivotsLeft_5 rfl kw_328 (by decide) (h0.1) rfl ?_
  obtain ⟨v2, c1, e_c1, H⟩ := cl_i H
  refine gw_V1 okX4_copy dX8_pivotsLeft_8 kw_374 kw_375 kw_376 (hp_o (h0.2.2.1.1)) rfl ⟨by decide, by decide⟩ ⟨by decide, by decide⟩ (Nat.le_of_ble_eq_true rfl) (w_X4_copy (h0.2.2.1) (h0.2.1) e_c1 ?_)
  refine gw_aload_n dX8_pivotsLeft_11 rfl rfl ?_
  refine gs_getR cl8 1 dX8_pivotsLeft_12 rfl kw_329 (by decide) (h0.1) rfl ?_
  obtain ⟨v3, c4, e_c4, H⟩ := cl_i H
  refine gw_V0 okX4_run dX8_pivotsLeft_15 kw_434 kw_435 kw_436 (hp_o (h0.2.2.1.1)) rfl ⟨by decide, by decide⟩ ⟨by decide, by decide⟩ (Nat.le_of_ble_eq_true rfl) (w_X4_run (h0.2.2.1) e_c4 ?_)
  cases H
  exact gw_iret dX8_pivotsLeft_18 rfl (by decide) (by decide) hK
set_option maxRecDepth 100000 in
set_option maxHeartbeats 4000000 in
theorem w_X8_leastBound {Φ : gwC} {hb : gwHp} {M : Nat} {sh : Nat → Option gSh} {th : Nat} {p1 : Int} {c : W0} {r : Int × Int × W0} {K : Option Value → gwHp → Prop} {KX : String → gwHp → Prop} (h0 : sD sh th) (H : f_X8_leastBound th p1 c = some r) (hK : r.1 = 0 → K (some (vI r.2.1)) (hp Φ hb M sh r.2.2)) (hKX : ¬ r.1 = 0 → KX (xnm r.1) (hp Φ hb M sh r.2.2)) : gw_ConX Φ mX8_leastBound [.ref (M + th), vI p1] (hp Φ hb M sh c) K KX := by
  unfold f_X8_leastBound at H
  refine gw_startX okX8_leastBound (Nat.le_of_ble_eq_true rfl) ?_
  refine gw_aload_n dX8_leastBound_0 rfl rfl ?_
  refine gw_iload_n dX8_leastBound_1 rfl rfl ?_
  obtain ⟨e9, v2, c1, e_c1, H⟩ := cx_i H
  refine gw_VX1 okX8_requireConstraint dX8_leastBound_2 kw_781 kw_783 kw_19 (hp_o (h0.1)) rfl ⟨by decide, by decide⟩ ⟨by decide, by decide⟩ (Nat.le_of_ble_eq_true rfl) (w_X8_requireConstraint (h0) e_c1 (fun z => ?_) (fun z => ?_))
  · rcases H with ⟨-, H⟩ | ⟨z2, H⟩
    rotate_left
    · exact absurd z z2
    refine gw_aload_n dX8_leastBound_5 rfl rfl ?_
    refine gs_getR cl8 0 dX8_leastBound_6 rfl kw_328 (by decide) (h0.1) rfl ?_
    refine gs_getRN cl4 0 dX8_leastBound_9 rfl kw_208 (by decide) (h0.2.1.1) rfl ?_
    refine gw_iload_n dX8_leastBound_12 rfl rfl ?_
    obtain ⟨v3, e_v3, H⟩ := cv_i H
    refine gw_V1 okX2_bound dX8_leastBound_13 kw_774 kw_419 kw_420 (hp_o (h0.2.1.2.1.1)) rfl ⟨by decide, by decide⟩ ⟨by decide, by decide⟩ (Nat.le_of_ble_eq_true rfl) (w_X2_bound (h0.2.1.2.1) e_v3 ?_)
    refine gw_istore_n dX8_leastBound_16 rfl (by decide) ?_
    refine gw_iconstZ dX8_leastBound_17 rfl ?_
    refine gw_iload_n dX8_leastBound_18 rfl rfl ?_
    refine gw_aload_n dX8_leastBound_19 rfl rfl ?_
    refine gs_getR cl8 0 dX8_leastBound_20 rfl kw_328 (by decide) (h0.1) rfl ?_
    refine gw_iload_n dX8_leastBound_23 rfl rfl ?_
    obtain ⟨v4, e_v4, H⟩ := cv_i H
    refine gw_V1 okX4_roomToFall dX8_leastBound_24 kw_853 kw_854 kw_855 (hp_o (h0.2.1.1)) rfl ⟨by decide, by decide⟩ ⟨by decide, by decide⟩ (Nat.le_of_ble_eq_true rfl) (w_X4_roomToFall (h0.2.1) e_v4 ?_)
    refine gw_isubZ dX8_leastBound_27 rfl ?_
    obtain ⟨g, H⟩ := gd_i H
    refine gw_mmaxZ dX8_leastBound_28 rfl kw_865 kw_146 kw_104 kw_147 (by decide) (Nat.le_of_ble_eq_true rfl) (by decide) (by decide) (by decide) g ?_
    cases H
    exact gw_iretX dX8_leastBound_31 rfl (by decide) (by decide) (hK rfl)
  · exact gw_out rfl (by decide) (by decide) (by rcases H with ⟨z2, H⟩ | ⟨z2, rfl⟩; (· exact absurd z2 z); exact hKX z)
set_option maxRecDepth 100000 in
set_option maxHeartbeats 4000000 in
theorem w_X8_greatestBound {Φ : gwC} {hb : gwHp} {M : Nat} {sh : Nat → Option gSh} {th : Nat} {p1 : Int} {c : W0} {r : Int × Int × W0} {K : Option Value → gwHp → Prop} {KX : String → gwHp → Prop} (h0 : sD sh th) (H : f_X8_greatestBound th p1 c = some r) (hK : r.1 = 0 → K (some (vI r.2.1)) (hp Φ hb M sh r.2.2)) (hKX : ¬ r.1 = 0 → KX (xnm r.1) (hp Φ hb M sh r.2.2)) : gw_ConX Φ mX8_greatestBound [.ref (M + th), vI p1] (hp Φ hb M sh c) K KX := by
  unfold f_X8_greatestBound at H
  refine gw_startX okX8_greatestBound (Nat.le_of_ble_eq_true rfl) ?_
  refine gw_aload_n dX8_greatestBound_0 rfl rfl ?_
  refine gw_iload_n dX8_greatestBound_1 rfl rfl ?_
  obtain ⟨e9, v2, c1, e_c1, H⟩ := cx_i H
  refine gw_VX1 okX8_requireConstraint dX8_greatestBound_2 kw_781 kw_783 kw_19 (hp_o (h0.1)) rfl ⟨by decide, by decide⟩ ⟨by decide, by decide⟩ (Nat.le_of_ble_eq_true rfl) (w_X8_requireConstraint (h0) e_c1 (fun z => ?_) (fun z => ?_))
  · rcases H with ⟨-, H⟩ | ⟨z2, H⟩
    rotate_left
    · exact absurd z z2
    refine gw_aload_n dX8_greatestBound_5 rfl rfl ?_
    refine gs_getR cl8 0 dX8_greatestBound_6 rfl kw_328 (by decide) (h0.1) rfl ?_
    refine gs_getRN cl4 0 dX8_greatestBound_9 rfl kw_208 (by decide) (h0.2.1.1) rfl ?_
    refine gw_iload_n dX8_greatestBound_12 rfl rfl ?_
    obtain ⟨v3, e_v3, H⟩ := cv_i H
    refine gw_V1 okX2_bound dX8_greatestBound_13 kw_774 kw_419 kw_420 (hp_o (h0.2.1.2.1.1)) rfl ⟨by decide, by decide⟩ ⟨by decide, by decide⟩ (Nat.le_of_ble_eq_true rfl) (w_X2_bound (h0.2.1.2.1) e_v3 ?_)
    refine gw_istore_n dX8_greatestBound_16 rfl (by decide) ?_
    refine gw_bipushZ dX8_greatestBound_17 rfl (by decide) ?_
    refine gw_iload_n dX8_greatestBound_19 rfl rfl ?_
    refine gw_aload_n dX8_greatestBound_20 rfl rfl ?_
    refine gs_getR cl8 0 dX8_greatestBound_21 rfl kw_328 (by decide) (h0.1) rfl ?_
    refine gw_iload_n dX8_greatestBound_24 rfl rfl ?_
    obtain ⟨v4, e_v4, H⟩ := cv_i H
    refine gw_V1 okX4_roomToRise dX8_greatestBound_25 kw_870 kw_871 kw_872 (hp_o (h0.2.1.1)) rfl ⟨by decide, by decide⟩ ⟨by decide, by decide⟩ (Nat.le_of_ble_eq_true rfl) (w_X4_roomToRise (h0.2.1) e_v4 ?_)
    refine gw_iaddZ dX8_greatestBound_28 rfl ?_
    obtain ⟨g, H⟩ := gd_i H
    refine gw_mminZ dX8_greatestBound_29 rfl kw_874 kw_663 kw_104 kw_664 (by decide) (Nat.le_of_ble_eq_true rfl) (by decide) (by decide) (by decide) g ?_
    cases H
    exact gw_iretX dX8_greatestBound_32 rfl (by decide) (by decide) (hK rfl)
  · exact gw_out rfl (by decide) (by decide) (by rcases H with ⟨z2, H⟩ | ⟨z2, rfl⟩; (· exact absurd z2 z); exact hKX z)
set_option maxRecDepth 100000 in
set_option maxHeartbeats 4000000 in
theorem w_X8_tryBound {Φ : gwC} {hb : gwHp} {M : Nat} {sh : Nat → Option gSh} {th : Nat} {p1 : Int} {p2 : Int} {c : W0} {r : Int × Int × W0} {K : Option Value → gwHp → Prop} {KX : String → gwHp → Prop} (h0 : sD sh th) (H : f_X8_tryBound th p1 p2 c = some r) (hK : r.1 = 0 → K none (hp Φ hb M sh r.2.2)) (hKX : ¬ r.1 = 0 → KX (xnm r.1) (hp Φ hb M sh r.2.2)) : gw_ConX Φ mX8_tryBound [.ref (M + th), vI p1, vI p2] (hp Φ hb M sh c) K KX := by
  unfold f_X8_tryBound at H
  refine gw_startX okX8_tryBound (Nat.le_of_ble_eq_true rfl) ?_
  refine gw_aload_n dX8_tryBound_0 rfl rfl ?_
  refine gw_iload_n dX8_tryBound_1 rfl rfl ?_
  obtain ⟨e9, v2, c1, e_c1, H⟩ := cx_i H
  refine gw_VX1 okX8_requireConstraint dX8_tryBound_2 kw_781 kw_783 kw_19 (hp_o (h0.1)) rfl ⟨by decide, by decide⟩ ⟨by decide, by decide⟩ (Nat.le_of_ble_eq_true rfl) (w_X8_requireConstraint (h0) e_c1 (fun z => ?_) (fun z => ?_))
  · rcases H with ⟨-, H⟩ | ⟨z2, H⟩
    rotate_left
    · exact absurd z z2
    refine gw_iload_n dX8_tryBound_5 rfl rfl ?_
    obtain ⟨e9, v4, c3, e_c3, H⟩ := cx_i H
    refine gw_SX1 okX8_requireBound dX8_tryBound_6 kw_971 kw_972 ⟨by decide, by decide⟩ ⟨by decide, by decide⟩ (Nat.le_of_ble_eq_true rfl) (w_X8_requireBound  e_c3 (fun z => ?_) (fun z => ?_))
    · rcases H with ⟨-, H⟩ | ⟨z2, H⟩
      rotate_left
      · exact absurd z z2
      refine gw_aload_n dX8_tryBound_9 rfl rfl ?_
      refine gs_getR cl8 1 dX8_tryBound_10 rfl kw_329 (by decide) (h0.1) rfl ?_
      refine gw_aload_n dX8_tryBound_13 rfl rfl ?_
      refine gs_getR cl8 0 dX8_tryBound_14 rfl kw_328 (by decide) (h0.1) rfl ?_
      obtain ⟨v6, c5, e_c5, H⟩ := cl_i H
      refine gw_V1 okX4_copy dX8_tryBound_17 kw_374 kw_375 kw_376 (hp_o (h0.2.2.1.1)) rfl ⟨by decide, by decide⟩ ⟨by decide, by decide⟩ (Nat.le_of_ble_eq_true rfl) (w_X4_copy (h0.2.2.1) (h0.2.1) e_c5 ?_)
      refine gw_aload_n dX8_tryBound_20 rfl rfl ?_
      refine gs_getR cl8 1 dX8_tryBound_21 rfl kw_329 (by decide) (h0.1) rfl ?_
      refine gs_getRN cl4 0 dX8_tryBound_24 rfl kw_208 (by decide) (h0.2.2.1.1) rfl ?_
      refine gw_iload_n dX8_tryBound_27 rfl rfl ?_
      refine gw_iload_n dX8_tryBound_28 rfl rfl ?_
      obtain ⟨v8, c7, e_c7, H⟩ := cl_i H
      refine gw_V2 okX2_putBound dX8_tryBound_29 kw_1007 kw_556 kw_557 (hp_o (h0.2.2.1.2.1.1)) rfl ⟨by decide, by decide⟩ ⟨by decide, by decide⟩ (Nat.le_of_ble_eq_true rfl) (w_X2_putBound (h0.2.2.1.2.1) e_c7 ?_)
      refine gw_aload_n dX8_tryBound_32 rfl rfl ?_
      refine gs_getR cl8 1 dX8_tryBound_33 rfl kw_329 (by decide) (h0.1) rfl ?_
      obtain ⟨v10, c9, e_c9, H⟩ := cl_i H
      refine gw_V0 okX4_start dX8_tryBound_36 kw_394 kw_395 kw_396 (hp_o (h0.2.2.1.1)) rfl ⟨by decide, by decide⟩ ⟨by decide, by decide⟩ (Nat.le_of_ble_eq_true rfl) (w_X4_start (h0.2.2.1) e_c9 ?_)
      refine gw_aload_n dX8_tryBound_39 rfl rfl ?_
      refine gs_getR cl8 1 dX8_tryBound_40 rfl kw_329 (by decide) (h0.1) rfl ?_
      obtain ⟨v11, c12, e_c12, H⟩ := cl_i H
      refine gw_V0 okX4_run dX8_tryBound_43 kw_434 kw_435 kw_436 (hp_o (h0.2.2.1.1)) rfl ⟨by decide, by decide⟩ ⟨by decide, by decide⟩ (Nat.le_of_ble_eq_true rfl) (w_X4_run (h0.2.2.1) e_c12 ?_)
      refine gw_pop dX8_tryBound_46 rfl rfl ?_
      refine gw_aload_n dX8_tryBound_47 rfl rfl ?_
      refine gs_getR cl8 1 dX8_tryBound_48 rfl kw_329 (by decide) (h0.1) rfl ?_
      refine gs_getRN cl4 1 dX8_tryBound_51 rfl kw_212 (by decide) (h0.2.2.1.1) rfl ?_
      obtain ⟨v13, e_v13, H⟩ := cv_i H
      refine gw_V0 okX6_isBest dX8_tryBound_54 kw_588 kw_443 kw_444 (hp_o (h0.2.2.1.2.2.1)) rfl ⟨by decide, by decide⟩ ⟨by decide, by decide⟩ (Nat.le_of_ble_eq_true rfl) (w_X6_isBest (h0.2.2.1.2.2) e_v13 ?_)
      obtain ⟨g, H⟩ := gd_i H
      refine gw_if_neZ (tgt := 71) dX8_tryBound_57 rfl (by decide) g (fun q => ?_) (fun q => ?_)
      · have H := bq_f q H
        cases H
        exact gw_vretX dX8_tryBound_71 rfl (by decide) (by decide) (hK rfl)
      · have H := bq_t q H
        cases H
        exact gw_throwW (text := "the last basis would not be optimal") (by decide +kernel) gw_nms_ok kw_975 kw_117 thw_IS (by decide +kernel) dX8_tryBound_60 dX8_tryBound_63 dX8_tryBound_64 dX8_tryBound_67 dX8_tryBound_70 rfl (by decide) (by decide) (by decide) (by decide) (hKX (show ¬ (2 : Int) = 0 by decide))
    · exact gw_out rfl (by decide) (by decide) (by rcases H with ⟨z2, H⟩ | ⟨z2, rfl⟩; (· exact absurd z2 z); exact hKX z)
  · exact gw_out rfl (by decide) (by decide) (by rcases H with ⟨z2, H⟩ | ⟨z2, rfl⟩; (· exact absurd z2 z); exact hKX z)
end FW
