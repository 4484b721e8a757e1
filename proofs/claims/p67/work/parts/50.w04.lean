section FW
set_option maxRecDepth 100000 in
set_option maxHeartbeats 4000000 in
theorem w_X8_addConstraint {Φ : gwC} {hb : gwHp} {M : Nat} {sh : Nat → Option gSh} {th : Nat} {p1 : Int} {c : W0} {r : Int × Int × W0} {K : Option Value → gwHp → Prop} {KX : String → gwHp → Prop} (h0 : sD sh th) (H : f_X8_addConstraint th p1 c = some r) (hK : r.1 = 0 → K (some (vI r.2.1)) (hp Φ hb M sh r.2.2)) (hKX : ¬ r.1 = 0 → KX (xnm r.1) (hp Φ hb M sh r.2.2)) : gw_ConX Φ mX8_addConstraint [.ref (M + th), vI p1] (hp Φ hb M sh c) K KX := by
  unfold f_X8_addConstraint at H
  refine gw_startX okX8_addConstraint (Nat.le_of_ble_eq_true rfl) ?_
  refine gw_iload_n dX8_addConstraint_0 rfl rfl ?_
  obtain ⟨e9, v2, c1, e_c1, H⟩ := cx_i H
  refine gw_SX1 okX8_requireBound dX8_addConstraint_1 kw_493 kw_494 ⟨by decide, by decide⟩ ⟨by decide, by decide⟩ (Nat.le_of_ble_eq_true rfl) (w_X8_requireBound  e_c1 (fun z => ?_) (fun z => ?_))
  · rcases H with ⟨-, H⟩ | ⟨z2, H⟩
    rotate_left
    · exact absurd z z2
    refine gw_aload_n dX8_addConstraint_4 rfl rfl ?_
    refine gs_getR cl8 0 dX8_addConstraint_5 rfl kw_234 (by decide) (h0.1) rfl ?_
    refine gs_getRN cl4 0 dX8_addConstraint_8 rfl kw_120 (by decide) (h0.2.1.1) rfl ?_
    refine gs_getIN cl2 1 1 dX8_addConstraint_11 rfl kw_81 (by decide) (h0.2.1.2.1.1) rfl rfl ?_
    refine gw_iconstZ dX8_addConstraint_14 rfl ?_
    obtain ⟨g, H⟩ := gd_i H
    refine gw_icmp_ltZ (tgt := 28) dX8_addConstraint_15 rfl (by decide) g (by decide) (fun q => ?_) (fun q => ?_)
    · have H := bq_t q H
      refine gw_aload_n dX8_addConstraint_28 rfl rfl ?_
      obtain ⟨v4, c3, e_c3, H⟩ := cl_i H
      refine gw_V0 okX8_saveState dX8_addConstraint_29 kw_407 kw_409 kw_1 (hp_o (h0.1)) rfl ⟨by decide, by decide⟩ ⟨by decide, by decide⟩ (Nat.le_of_ble_eq_true rfl) (w_X8_saveState (h0) e_c3 ?_)
      refine gw_aload_n dX8_addConstraint_32 rfl rfl ?_
      refine gs_getR cl8 0 dX8_addConstraint_33 rfl kw_234 (by decide) (h0.1) rfl ?_
      refine gs_getRN cl4 0 dX8_addConstraint_36 rfl kw_120 (by decide) (h0.2.1.1) rfl ?_
      refine gw_iload_n dX8_addConstraint_39 rfl rfl ?_
      obtain ⟨v5, c6, e_c6, H⟩ := cl_i H
      refine gw_V1 okX2_add dX8_addConstraint_40 kw_498 kw_499 kw_500 (hp_o (h0.2.1.2.1.1)) rfl ⟨by decide, by decide⟩ ⟨by decide, by decide⟩ (Nat.le_of_ble_eq_true rfl) (w_X2_add (h0.2.1.2.1) e_c6 ?_)
      refine gw_istore_n dX8_addConstraint_43 rfl (by decide) ?_
      refine gw_aload_n dX8_addConstraint_44 rfl rfl ?_
      refine gs_getR cl8 0 dX8_addConstraint_45 rfl kw_234 (by decide) (h0.1) rfl ?_
      obtain ⟨v8, c7, e_c7, H⟩ := cl_i H
      refine gw_V0 okX4_start dX8_addConstraint_48 kw_423 kw_424 kw_425 (hp_o (h0.2.1.1)) rfl ⟨by decide, by decide⟩ ⟨by decide, by decide⟩ (Nat.le_of_ble_eq_true rfl) (w_X4_start (h0.2.1) e_c7 ?_)
      refine gw_iload_n dX8_addConstraint_51 rfl rfl ?_
      cases H
      exact gw_iretX dX8_addConstraint_52 rfl (by decide) (by decide) (hK rfl)
    · have H := bq_f q H
      cases H
      exact gw_throw (text := "there are 4 constraints") (by decide +kernel) gw_nms_ok kw_271 kw_33 thw_IS (by decide +kernel) dX8_addConstraint_18 dX8_addConstraint_21 dX8_addConstraint_22 dX8_addConstraint_24 dX8_addConstraint_27 rfl (by decide) (by decide) (by decide) (by decide) (hKX (show ¬ (2 : Int) = 0 by decide))
  · exact gw_out rfl (by decide) (by decide) (by rcases H with ⟨z2, H⟩ | ⟨z2, rfl⟩; (· exact absurd z2 z); exact hKX z)
set_option maxRecDepth 100000 in
set_option maxHeartbeats 4000000 in
theorem w_X8_requireConstraint {Φ : gwC} {hb : gwHp} {M : Nat} {sh : Nat → Option gSh} {th : Nat} {p1 : Int} {c : W0} {r : Int × Int × W0} {K : Option Value → gwHp → Prop} {KX : String → gwHp → Prop} (h0 : sD sh th) (H : f_X8_requireConstraint th p1 c = some r) (hK : r.1 = 0 → K none (hp Φ hb M sh r.2.2)) (hKX : ¬ r.1 = 0 → KX (xnm r.1) (hp Φ hb M sh r.2.2)) : gw_ConX Φ mX8_requireConstraint [.ref (M + th), vI p1] (hp Φ hb M sh c) K KX := by
  unfold f_X8_requireConstraint at H
  refine gw_startX okX8_requireConstraint (Nat.le_of_ble_eq_true rfl) ?_
  refine gw_iload_n dX8_requireConstraint_0 rfl rfl ?_
  obtain ⟨g, H⟩ := gd_i H
  obtain ⟨k1, e_k1, H⟩ := jn_i H
  have hJ_k1 : ∀ (u2 : Unit), k1 u2 = some r → G Φ mX8_requireConstraint (gw_MX Φ mX8_requireConstraint K KX) none 0 0 18 [] [] (hp Φ hb M sh c) := by
    intro u2 H
    subst e_k1
    cases H
    exact gw_throwW (text := "there is no such constraint") (by decide +kernel) gw_nms_ok kw_464 kw_32 thw_IO (by decide +kernel) dX8_requireConstraint_18 dX8_requireConstraint_21 dX8_requireConstraint_22 dX8_requireConstraint_25 dX8_requireConstraint_28 rfl (by decide) (by decide) (by decide) (by decide) (hKX (show ¬ (3 : Int) = 0 by decide))
  refine gw_if_ltZ (tgt := 18) dX8_requireConstraint_1 rfl (by decide) g (fun q => ?_) (fun q => ?_)
  · have H := bq_t q H
    exact gw_L (hJ_k1 _ H) (lvA_n)
  · have H := bq_f q H
    refine gw_iload_n dX8_requireConstraint_4 rfl rfl ?_
    refine gw_aload_n dX8_requireConstraint_5 rfl rfl ?_
    refine gs_getR cl8 0 dX8_requireConstraint_6 rfl kw_234 (by decide) (h0.1) rfl ?_
    refine gs_getRN cl4 0 dX8_requireConstraint_9 rfl kw_120 (by decide) (h0.2.1.1) rfl ?_
    refine gs_getIN cl2 1 1 dX8_requireConstraint_12 rfl kw_81 (by decide) (h0.2.1.2.1.1) rfl rfl ?_
    obtain ⟨g, H⟩ := gd_i H
    refine gw_icmp_ltZ (tgt := 29) dX8_requireConstraint_15 rfl (by decide) g.1 g.2 (fun q => ?_) (fun q => ?_)
    · have H := bq_t q H
      cases H
      exact gw_vretX dX8_requireConstraint_29 rfl (by decide) (by decide) (hK rfl)
    · have H := bq_f q H
      exact gw_L (hJ_k1 _ H) (lvA_n)
set_option maxRecDepth 100000 in
set_option maxHeartbeats 4000000 in
theorem w_X8_setCoefficient {Φ : gwC} {hb : gwHp} {M : Nat} {sh : Nat → Option gSh} {th : Nat} {p1 : Int} {p2 : Int} {p3 : Int} {c : W0} {r : Int × Int × W0} {K : Option Value → gwHp → Prop} {KX : String → gwHp → Prop} (h0 : sD sh th) (H : f_X8_setCoefficient th p1 p2 p3 c = some r) (hK : r.1 = 0 → K (some (vI r.2.1)) (hp Φ hb M sh r.2.2)) (hKX : ¬ r.1 = 0 → KX (xnm r.1) (hp Φ hb M sh r.2.2)) : gw_ConX Φ mX8_setCoefficient [.ref (M + th), vI p1, vI p2, vI p3] (hp Φ hb M sh c) K KX := by
  unfold f_X8_setCoefficient at H
  refine gw_startX okX8_setCoefficient (Nat.le_of_ble_eq_true rfl) ?_
  refine gw_aload_n dX8_setCoefficient_0 rfl rfl ?_
  refine gw_iload_n dX8_setCoefficient_1 rfl rfl ?_
  obtain ⟨e9, v2, c1, e_c1, H⟩ := cx_i H
  refine gw_VX1 okX8_requireConstraint dX8_setCoefficient_2 kw_514 kw_516 kw_4 (hp_o (h0.1)) rfl ⟨by decide, by decide⟩ ⟨by decide, by decide⟩ (Nat.le_of_ble_eq_true rfl) (w_X8_requireConstraint (h0) e_c1 (fun z => ?_) (fun z => ?_))
  · rcases H with ⟨-, H⟩ | ⟨z2, H⟩
    rotate_left
    · exact absurd z z2
    refine gw_aload_n dX8_setCoefficient_5 rfl rfl ?_
    refine gw_iload_n dX8_setCoefficient_6 rfl rfl ?_
    obtain ⟨e9, v4, c3, e_c3, H⟩ := cx_i H
    refine gw_VX1 okX8_requireVariable dX8_setCoefficient_7 kw_460 kw_462 kw_3 (hp_o (h0.1)) rfl ⟨by decide, by decide⟩ ⟨by decide, by decide⟩ (Nat.le_of_ble_eq_true rfl) (w_X8_requireVariable (h0) e_c3 (fun z => ?_) (fun z => ?_))
    · rcases H with ⟨-, H⟩ | ⟨z2, H⟩
      rotate_left
      · exact absurd z z2
      refine gw_iload_n dX8_setCoefficient_10 rfl rfl ?_
      obtain ⟨e9, v6, c5, e_c5, H⟩ := cx_i H
      refine gw_SX1 okX8_requireFactor dX8_setCoefficient_11 kw_480 kw_481 ⟨by decide, by decide⟩ ⟨by decide, by decide⟩ (Nat.le_of_ble_eq_true rfl) (w_X8_requireFactor  e_c5 (fun z => ?_) (fun z => ?_))
      · rcases H with ⟨-, H⟩ | ⟨z2, H⟩
        rotate_left
        · exact absurd z z2
        refine gw_aload_n dX8_setCoefficient_14 rfl rfl ?_
        obtain ⟨v8, c7, e_c7, H⟩ := cl_i H
        refine gw_V0 okX8_saveState dX8_setCoefficient_15 kw_407 kw_409 kw_1 (hp_o (h0.1)) rfl ⟨by decide, by decide⟩ ⟨by decide, by decide⟩ (Nat.le_of_ble_eq_true rfl) (w_X8_saveState (h0) e_c7 ?_)
        refine gw_aload_n dX8_setCoefficient_18 rfl rfl ?_
        refine gs_getR cl8 0 dX8_setCoefficient_19 rfl kw_234 (by decide) (h0.1) rfl ?_
        refine gs_getRN cl4 0 dX8_setCoefficient_22 rfl kw_120 (by decide) (h0.2.1.1) rfl ?_
        refine gw_iload_n dX8_setCoefficient_25 rfl rfl ?_
        refine gw_iload_n dX8_setCoefficient_26 rfl rfl ?_
        obtain ⟨v9, e_v9, H⟩ := cv_i H
        refine gw_V2 okX2_coefficient dX8_setCoefficient_27 kw_519 kw_437 kw_438 (hp_o (h0.2.1.2.1.1)) rfl ⟨by decide, by decide⟩ ⟨by decide, by decide⟩ (Nat.le_of_ble_eq_true rfl) (w_X2_coefficient (h0.2.1.2.1) e_v9 ?_)
        refine gw_istore dX8_setCoefficient_30 rfl (by decide) ?_
        refine gw_aload_n dX8_setCoefficient_32 rfl rfl ?_
        refine gs_getR cl8 0 dX8_setCoefficient_33 rfl kw_234 (by decide) (h0.1) rfl ?_
        refine gs_getRN cl4 0 dX8_setCoefficient_36 rfl kw_120 (by decide) (h0.2.1.1) rfl ?_
        refine gw_iload_n dX8_setCoefficient_39 rfl rfl ?_
        refine gw_iload_n dX8_setCoefficient_40 rfl rfl ?_
        refine gw_iload_n dX8_setCoefficient_41 rfl rfl ?_
        obtain ⟨v11, c10, e_c10, H⟩ := cl_i H
        refine gw_V3 okX2_putCoefficient dX8_setCoefficient_42 kw_520 kw_503 kw_504 (hp_o (h0.2.1.2.1.1)) rfl ⟨by decide, by decide⟩ ⟨by decide, by decide⟩ (Nat.le_of_ble_eq_true rfl) (w_X2_putCoefficient (h0.2.1.2.1) e_c10 ?_)
        refine gw_aload_n dX8_setCoefficient_45 rfl rfl ?_
        refine gs_getR cl8 0 dX8_setCoefficient_46 rfl kw_234 (by decide) (h0.1) rfl ?_
        obtain ⟨v13, c12, e_c12, H⟩ := cl_i H
        refine gw_V0 okX4_start dX8_setCoefficient_49 kw_423 kw_424 kw_425 (hp_o (h0.2.1.1)) rfl ⟨by decide, by decide⟩ ⟨by decide, by decide⟩ (Nat.le_of_ble_eq_true rfl) (w_X4_start (h0.2.1) e_c12 ?_)
        refine gw_iload dX8_setCoefficient_52 rfl rfl ?_
        cases H
        exact gw_iretX dX8_setCoefficient_54 rfl (by decide) (by decide) (hK rfl)
      · exact gw_out rfl (by decide) (by decide) (by rcases H with ⟨z2, H⟩ | ⟨z2, rfl⟩; (· exact absurd z2 z); exact hKX z)
    · exact gw_out rfl (by decide) (by decide) (by rcases H with ⟨z2, H⟩ | ⟨z2, rfl⟩; (· exact absurd z2 z); exact hKX z)
  · exact gw_out rfl (by decide) (by decide) (by rcases H with ⟨z2, H⟩ | ⟨z2, rfl⟩; (· exact absurd z2 z); exact hKX z)
set_option maxRecDepth 100000 in
set_option maxHeartbeats 4000000 in
theorem w_X8_setBound {Φ : gwC} {hb : gwHp} {M : Nat} {sh : Nat → Option gSh} {th : Nat} {p1 : Int} {p2 : Int} {c : W0} {r : Int × Int × W0} {K : Option Value → gwHp → Prop} {KX : String → gwHp → Prop} (h0 : sD sh th) (H : f_X8_setBound th p1 p2 c = some r) (hK : r.1 = 0 → K (some (vI r.2.1)) (hp Φ hb M sh r.2.2)) (hKX : ¬ r.1 = 0 → KX (xnm r.1) (hp Φ hb M sh r.2.2)) : gw_ConX Φ mX8_setBound [.ref (M + th), vI p1, vI p2] (hp Φ hb M sh c) K KX := by
  unfold f_X8_setBound at H
  refine gw_startX okX8_setBound (Nat.le_of_ble_eq_true rfl) ?_
  refine gw_aload_n dX8_setBound_0 rfl rfl ?_
  refine gw_iload_n dX8_setBound_1 rfl rfl ?_
  obtain ⟨e9, v2, c1, e_c1, H⟩ := cx_i H
  refine gw_VX1 okX8_requireConstraint dX8_setBound_2 kw_514 kw_516 kw_4 (hp_o (h0.1)) rfl ⟨by decide, by decide⟩ ⟨by decide, by decide⟩ (Nat.le_of_ble_eq_true rfl) (w_X8_requireConstraint (h0) e_c1 (fun z => ?_) (fun z => ?_))
  · rcases H with ⟨-, H⟩ | ⟨z2, H⟩
    rotate_left
    · exact absurd z z2
    refine gw_iload_n dX8_setBound_5 rfl rfl ?_
    obtain ⟨e9, v4, c3, e_c3, H⟩ := cx_i H
    refine gw_SX1 okX8_requireBound dX8_setBound_6 kw_493 kw_494 ⟨by decide, by decide⟩ ⟨by decide, by decide⟩ (Nat.le_of_ble_eq_true rfl) (w_X8_requireBound  e_c3 (fun z => ?_) (fun z => ?_))
    · rcases H with ⟨-, H⟩ | ⟨z2, H⟩
      rotate_left
      · exact absurd z z2
      refine gw_aload_n dX8_setBound_9 rfl rfl ?_
      obtain ⟨v6, c5, e_c5, H⟩ := cl_i H
      refine gw_V0 okX8_saveState dX8_setBound_10 kw_407 kw_409 kw_1 (hp_o (h0.1)) rfl ⟨by decide, by decide⟩ ⟨by decide, by decide⟩ (Nat.le_of_ble_eq_true rfl) (w_X8_saveState (h0) e_c5 ?_)
      refine gw_aload_n dX8_setBound_13 rfl rfl ?_
      refine gs_getR cl8 0 dX8_setBound_14 rfl kw_234 (by decide) (h0.1) rfl ?_
      refine gs_getRN cl4 0 dX8_setBound_17 rfl kw_120 (by decide) (h0.2.1.1) rfl ?_
      refine gw_iload_n dX8_setBound_20 rfl rfl ?_
      obtain ⟨v7, e_v7, H⟩ := cv_i H
      refine gw_V1 okX2_bound dX8_setBound_21 kw_525 kw_445 kw_446 (hp_o (h0.2.1.2.1.1)) rfl ⟨by decide, by decide⟩ ⟨by decide, by decide⟩ (Nat.le_of_ble_eq_true rfl) (w_X2_bound (h0.2.1.2.1) e_v7 ?_)
      refine gw_istore_n dX8_setBound_24 rfl (by decide) ?_
      refine gw_aload_n dX8_setBound_25 rfl rfl ?_
      refine gs_getR cl8 0 dX8_setBound_26 rfl kw_234 (by decide) (h0.1) rfl ?_
      refine gs_getRN cl4 0 dX8_setBound_29 rfl kw_120 (by decide) (h0.2.1.1) rfl ?_
      refine gw_iload_n dX8_setBound_32 rfl rfl ?_
      refine gw_iload_n dX8_setBound_33 rfl rfl ?_
      obtain ⟨v9, c8, e_c8, H⟩ := cl_i H
      refine gw_V2 okX2_putBound dX8_setBound_34 kw_526 kw_507 kw_508 (hp_o (h0.2.1.2.1.1)) rfl ⟨by decide, by decide⟩ ⟨by decide, by decide⟩ (Nat.le_of_ble_eq_true rfl) (w_X2_putBound (h0.2.1.2.1) e_c8 ?_)
      refine gw_aload_n dX8_setBound_37 rfl rfl ?_
      refine gs_getR cl8 0 dX8_setBound_38 rfl kw_234 (by decide) (h0.1) rfl ?_
      obtain ⟨v11, c10, e_c10, H⟩ := cl_i H
      refine gw_V0 okX4_start dX8_setBound_41 kw_423 kw_424 kw_425 (hp_o (h0.2.1.1)) rfl ⟨by decide, by decide⟩ ⟨by decide, by decide⟩ (Nat.le_of_ble_eq_true rfl) (w_X4_start (h0.2.1) e_c10 ?_)
      refine gw_iload_n dX8_setBound_44 rfl rfl ?_
      cases H
      exact gw_iretX dX8_setBound_45 rfl (by decide) (by decide) (hK rfl)
    · exact gw_out rfl (by decide) (by decide) (by rcases H with ⟨z2, H⟩ | ⟨z2, rfl⟩; (· exact absurd z2 z); exact hKX z)
  · exact gw_out rfl (by decide) (by decide) (by rcases H with ⟨z2, H⟩ | ⟨z2, rfl⟩; (· exact absurd z2 z); exact hKX z)
set_option maxRecDepth 100000 in
set_option maxHeartbeats 4000000 in
theorem w_X8_dropConstraint {Φ : gwC} {hb : gwHp} {M : Nat} {sh : Nat → Option gSh} {th : Nat} {p1 : Int} {c : W0} {r : Int × Int × W0} {K : Option Value → gwHp → Prop} {KX : String → gwHp → Prop} (h0 : sD sh th) (H : f_X8_dropConstraint th p1 c = some r) (hK : r.1 = 0 → K (some (vI r.2.1)) (hp Φ hb M sh r.2.2)) (hKX : ¬ r.1 = 0 → KX (xnm r.1) (hp Φ hb M sh r.2.2)) : gw_ConX Φ mX8_dropConstraint [.ref (M + th), vI p1] (hp Φ hb M sh c) K KX := by
  unfold f_X8_dropConstraint at H
  refine gw_startX okX8_dropConstraint (Nat.le_of_ble_eq_true rfl) ?_
  refine gw_aload_n dX8_dropConstraint_0 rfl rfl ?_
  refine gw_iload_n dX8_dropConstraint_1 rfl rfl ?_
  obtain ⟨e9, v2, c1, e_c1, H⟩ := cx_i H
  refine gw_VX1 okX8_requireConstraint dX8_dropConstraint_2 kw_514 kw_516 kw_4 (hp_o (h0.1)) rfl ⟨by decide, by decide⟩ ⟨by decide, by decide⟩ (Nat.le_of_ble_eq_true rfl) (w_X8_requireConstraint (h0) e_c1 (fun z => ?_) (fun z => ?_))
  · rcases H with ⟨-, H⟩ | ⟨z2, H⟩
    rotate_left
    · exact absurd z z2
    refine gw_aload_n dX8_dropConstraint_5 rfl rfl ?_
    obtain ⟨v4, c3, e_c3, H⟩ := cl_i H
    refine gw_V0 okX8_saveState dX8_dropConstraint_6 kw_407 kw_409 kw_1 (hp_o (h0.1)) rfl ⟨by decide, by decide⟩ ⟨by decide, by decide⟩ (Nat.le_of_ble_eq_true rfl) (w_X8_saveState (h0) e_c3 ?_)
    refine gw_aload_n dX8_dropConstraint_9 rfl rfl ?_
    refine gs_getR cl8 0 dX8_dropConstraint_10 rfl kw_234 (by decide) (h0.1) rfl ?_
    refine gs_getRN cl4 0 dX8_dropConstraint_13 rfl kw_120 (by decide) (h0.2.1.1) rfl ?_
    refine gw_iload_n dX8_dropConstraint_16 rfl rfl ?_
    obtain ⟨v6, c5, e_c5, H⟩ := cl_i H
    refine gw_V1 okX2_drop dX8_dropConstraint_17 kw_531 kw_532 kw_533 (hp_o (h0.2.1.2.1.1)) rfl ⟨by decide, by decide⟩ ⟨by decide, by decide⟩ (Nat.le_of_ble_eq_true rfl) (w_X2_drop (h0.2.1.2.1) e_c5 ?_)
    refine gw_aload_n dX8_dropConstraint_20 rfl rfl ?_
    refine gs_getR cl8 0 dX8_dropConstraint_21 rfl kw_234 (by decide) (h0.1) rfl ?_
    obtain ⟨v8, c7, e_c7, H⟩ := cl_i H
    refine gw_V0 okX4_start dX8_dropConstraint_24 kw_423 kw_424 kw_425 (hp_o (h0.2.1.1)) rfl ⟨by decide, by decide⟩ ⟨by decide, by decide⟩ (Nat.le_of_ble_eq_true rfl) (w_X4_start (h0.2.1) e_c7 ?_)
    refine gw_aload_n dX8_dropConstraint_27 rfl rfl ?_
    refine gs_getR cl8 0 dX8_dropConstraint_28 rfl kw_234 (by decide) (h0.1) rfl ?_
    refine gs_getRN cl4 0 dX8_dropConstraint_31 rfl kw_120 (by decide) (h0.2.1.1) rfl ?_
    refine gs_getIN cl2 1 1 dX8_dropConstraint_34 rfl kw_81 (by decide) (h0.2.1.2.1.1) rfl rfl ?_
    cases H
    exact gw_iretX dX8_dropConstraint_37 rfl (by decide) (by decide) (hK rfl)
  · exact gw_out rfl (by decide) (by decide) (by rcases H with ⟨z2, H⟩ | ⟨z2, rfl⟩; (· exact absurd z2 z); exact hKX z)
set_option maxRecDepth 100000 in
set_option maxHeartbeats 4000000 in
theorem w_X8_begin {Φ : gwC} {hb : gwHp} {M : Nat} {sh : Nat → Option gSh} {th : Nat} {c : W0} {r : Int × W0} {K : Option Value → gwHp → Prop} (h0 : sD sh th) (H : f_X8_begin th c = some r) (hK : K (some (vI r.1)) (hp Φ hb M sh r.2)) : gw_Con Φ mX8_begin none [.ref (M + th)] (hp Φ hb M sh c) K := by
  unfold f_X8_begin at H
  refine gw_start okX8_begin (Nat.le_of_ble_eq_true rfl) ?_
  refine gw_aload_n dX8_begin_0 rfl rfl ?_
  obtain ⟨v2, c1, e_c1, H⟩ := cl_i H
  refine gw_V0 okX8_saveState dX8_begin_1 kw_407 kw_409 kw_1 (hp_o (h0.1)) rfl ⟨by decide, by decide⟩ ⟨by decide, by decide⟩ (Nat.le_of_ble_eq_true rfl) (w_X8_saveState (h0) e_c1 ?_)
  refine gw_aload_n dX8_begin_4 rfl rfl ?_
  refine gs_getR cl8 0 dX8_begin_5 rfl kw_234 (by decide) (h0.1) rfl ?_
  refine gs_getIN cl4 3 3 dX8_begin_8 rfl kw_128 (by decide) (h0.2.1.1) rfl rfl ?_
  refine gw_istore_n dX8_begin_11 rfl (by decide) ?_
  refine gw_aload_n dX8_begin_12 rfl rfl ?_
  refine gs_getR cl8 0 dX8_begin_13 rfl kw_234 (by decide) (h0.1) rfl ?_
  obtain ⟨v4, c3, e_c3, H⟩ := cl_i H
  refine gw_V0 okX4_start dX8_begin_16 kw_423 kw_424 kw_425 (hp_o (h0.2.1.1)) rfl ⟨by decide, by decide⟩ ⟨by decide, by decide⟩ (Nat.le_of_ble_eq_true rfl) (w_X4_start (h0.2.1) e_c3 ?_)
  refine gw_iload_n dX8_begin_19 rfl rfl ?_
  cases H
  exact gw_iret dX8_begin_20 rfl (by decide) (by decide) hK
set_option maxRecDepth 100000 in
set_option maxHeartbeats 4000000 in
theorem w_X8_requireRow {Φ : gwC} {hb : gwHp} {M : Nat} {sh : Nat → Option gSh} {th : Nat} {p1 : Int} {c : W0} {r : Int × Int × W0} {K : Option Value → gwHp → Prop} {KX : String → gwHp → Prop} (h0 : sD sh th) (H : f_X8_requireRow th p1 c = some r) (hK : r.1 = 0 → K none (hp Φ hb M sh r.2.2)) (hKX : ¬ r.1 = 0 → KX (xnm r.1) (hp Φ hb M sh r.2.2)) : gw_ConX Φ mX8_requireRow [.ref (M + th), vI p1] (hp Φ hb M sh c) K KX := by
  unfold f_X8_requireRow at H
  refine gw_startX okX8_requireRow (Nat.le_of_ble_eq_true rfl) ?_
  refine gw_iload_n dX8_requireRow_0 rfl rfl ?_
  obtain ⟨g, H⟩ := gd_i H
  obtain ⟨k1, e_k1, H⟩ := jn_i H
  have hJ_k1 : ∀ (u2 : Unit), k1 u2 = some r → G Φ mX8_requireRow (gw_MX Φ mX8_requireRow K KX) none 0 0 18 [] [] (hp Φ hb M sh c) := by
    intro u2 H
    subst e_k1
    cases H
    exact gw_throwW (text := "there is no such row") (by decide +kernel) gw_nms_ok kw_464 kw_32 thw_IO (by decide +kernel) dX8_requireRow_18 dX8_requireRow_21 dX8_requireRow_22 dX8_requireRow_25 dX8_requireRow_28 rfl (by decide) (by decide) (by decide) (by decide) (hKX (show ¬ (3 : Int) = 0 by decide))
  refine gw_if_ltZ (tgt := 18) dX8_requireRow_1 rfl (by decide) g (fun q => ?_) (fun q => ?_)
  · have H := bq_t q H
    exact gw_L (hJ_k1 _ H) (lvA_n)
  · have H := bq_f q H
    refine gw_iload_n dX8_requireRow_4 rfl rfl ?_
    refine gw_aload_n dX8_requireRow_5 rfl rfl ?_
    refine gs_getR cl8 0 dX8_requireRow_6 rfl kw_234 (by decide) (h0.1) rfl ?_
    refine gs_getRN cl4 1 dX8_requireRow_9 rfl kw_124 (by decide) (h0.2.1.1) rfl ?_
    refine gs_getIN cl6 0 0 dX8_requireRow_12 rfl kw_101 (by decide) (h0.2.1.2.2.1) rfl rfl ?_
    obtain ⟨g, H⟩ := gd_i H
    refine gw_icmp_ltZ (tgt := 29) dX8_requireRow_15 rfl (by decide) g.1 g.2 (fun q => ?_) (fun q => ?_)
    · have H := bq_t q H
      cases H
      exact gw_vretX dX8_requireRow_29 rfl (by decide) (by decide) (hK rfl)
    · have H := bq_f q H
      exact gw_L (hJ_k1 _ H) (lvA_n)
set_option maxRecDepth 100000 in
set_option maxHeartbeats 4000000 in
theorem w_X8_requireColumn {Φ : gwC} {hb : gwHp} {M : Nat} {sh : Nat → Option gSh} {th : Nat} {p1 : Int} {c : W0} {r : Int × Int × W0} {K : Option Value → gwHp → Prop} {KX : String → gwHp → Prop} (h0 : sD sh th) (H : f_X8_requireColumn th p1 c = some r) (hK : r.1 = 0 → K none (hp Φ hb M sh r.2.2)) (hKX : ¬ r.1 = 0 → KX (xnm r.1) (hp Φ hb M sh r.2.2)) : gw_ConX Φ mX8_requireColumn [.ref (M + th), vI p1] (hp Φ hb M sh c) K KX := by
  unfold f_X8_requireColumn at H
  refine gw_startX okX8_requireColumn (Nat.le_of_ble_eq_true rfl) ?_
  refine gw_iload_n dX8_requireColumn_0 rfl rfl ?_
  obtain ⟨g, H⟩ := gd_i H
  obtain ⟨k1, e_k1, H⟩ := jn_i H
  have hJ_k1 : ∀ (u2 : Unit), k1 u2 = some r → G Φ mX8_requireColumn (gw_MX Φ mX8_requireColumn K KX) none 0 0 18 [] [] (hp Φ hb M sh c) := by
    intro u2 H
    subst e_k1
    cases H
    exact gw_throwW (text := "there is no such column") (by decide +kernel) gw_nms_ok kw_464 kw_32 thw_IO (by decide +kernel) dX8_requireColumn_18 dX8_requireColumn_21 dX8_requireColumn_22 dX8_requireColumn_25 dX8_requireColumn_28 rfl (by decide) (by decide) (by decide) (by decide) (hKX (show ¬ (3 : Int) = 0 by decide))
  refine gw_if_ltZ (tgt := 18) dX8_requireColumn_1 rfl (by decide) g (fun q => ?_) (fun q => ?_)
  · have H := bq_t q H
    exact gw_L (hJ_k1 _ H) (lvA_n)
  · have H := bq_f q H
    refine gw_iload_n dX8_requireColumn_4 rfl rfl ?_
    refine gw_aload_n dX8_requireColumn_5 rfl rfl ?_
    refine gs_getR cl8 0 dX8_requireColumn_6 rfl kw_234 (by decide) (h0.1) rfl ?_
    refine gs_getRN cl4 1 dX8_requireColumn_9 rfl kw_124 (by decide) (h0.2.1.1) rfl ?_
    refine gs_getIN cl6 1 1 dX8_requireColumn_12 rfl kw_103 (by decide) (h0.2.1.2.2.1) rfl rfl ?_
    obtain ⟨g, H⟩ := gd_i H
    refine gw_icmp_ltZ (tgt := 29) dX8_requireColumn_15 rfl (by decide) g.1 g.2 (fun q => ?_) (fun q => ?_)
    · have H := bq_t q H
      cases H
      exact gw_vretX dX8_requireColumn_29 rfl (by decide) (by decide) (hK rfl)
    · have H := bq_f q H
      exact gw_L (hJ_k1 _ H) (lvA_n)
set_option maxRecDepth 100000 in
set_option maxHeartbeats 4000000 in
theorem w_X8_pivot {Φ : gwC} {hb : gwHp} {M : Nat} {sh : Nat → Option gSh} {th : Nat} {p1 : Int} {p2 : Int} {c : W0} {r : Int × Int × W0} {K : Option Value → gwHp → Prop} {KX : String → gwHp → Prop} (h0 : sD sh th) (H : f_X8_pivot th p1 p2 c = some r) (hK : r.1 = 0 → K (some (vI r.2.1)) (hp Φ hb M sh r.2.2)) (hKX : ¬ r.1 = 0 → KX (xnm r.1) (hp Φ hb M sh r.2.2)) : gw_ConX Φ mX8_pivot [.ref (M + th), vI p1, vI p2] (hp Φ hb M sh c) K KX := by
  unfold f_X8_pivot at H
  refine gw_startX okX8_pivot (Nat.le_of_ble_eq_true rfl) ?_
  refine gw_aload_n dX8_pivot_0 rfl rfl ?_
  refine gw_iload_n dX8_pivot_1 rfl rfl ?_
  obtain ⟨e9, v2, c1, e_c1, H⟩ := cx_i H
  refine gw_VX1 okX8_requireRow dX8_pivot_2 kw_539 kw_541 kw_5 (hp_o (h0.1)) rfl ⟨by decide, by decide⟩ ⟨by decide, by decide⟩ (Nat.le_of_ble_eq_true rfl) (w_X8_requireRow (h0) e_c1 (fun z => ?_) (fun z => ?_))
  · rcases H with ⟨-, H⟩ | ⟨z2, H⟩
    rotate_left
    · exact absurd z z2
    refine gw_aload_n dX8_pivot_5 rfl rfl ?_
    refine gw_iload_n dX8_pivot_6 rfl rfl ?_
    obtain ⟨e9, v4, c3, e_c3, H⟩ := cx_i H
    refine gw_VX1 okX8_requireColumn dX8_pivot_7 kw_544 kw_546 kw_6 (hp_o (h0.1)) rfl ⟨by decide, by decide⟩ ⟨by decide, by decide⟩ (Nat.le_of_ble_eq_true rfl) (w_X8_requireColumn (h0) e_c3 (fun z => ?_) (fun z => ?_))
    · rcases H with ⟨-, H⟩ | ⟨z2, H⟩
      rotate_left
      · exact absurd z z2
      refine gw_aload_n dX8_pivot_10 rfl rfl ?_
      refine gs_getR cl8 0 dX8_pivot_11 rfl kw_234 (by decide) (h0.1) rfl ?_
      refine gs_getRN cl4 1 dX8_pivot_14 rfl kw_124 (by decide) (h0.2.1.1) rfl ?_
      refine gw_iload_n dX8_pivot_17 rfl rfl ?_
      refine gw_iload_n dX8_pivot_18 rfl rfl ?_
      obtain ⟨v5, e_v5, H⟩ := cv_i H
      refine gw_V2 okX6_obstacle dX8_pivot_19 kw_549 kw_550 kw_551 (hp_o (h0.2.1.2.2.1)) rfl ⟨by decide, by decide⟩ ⟨by decide, by decide⟩ (Nat.le_of_ble_eq_true rfl) (w_X6_obstacle (h0.2.1.2.2) e_v5 ?_)
      obtain ⟨g, H⟩ := gd_i H
      refine gw_if_eqZ (tgt := 35) dX8_pivot_22 rfl (by decide) g (fun q => ?_) (fun q => ?_)
      · have H := bq_t q H
        refine gw_aload_n dX8_pivot_35 rfl rfl ?_
        obtain ⟨v7, c6, e_c6, H⟩ := cl_i H
        refine gw_V0 okX8_saveState dX8_pivot_36 kw_407 kw_409 kw_1 (hp_o (h0.1)) rfl ⟨by decide, by decide⟩ ⟨by decide, by decide⟩ (Nat.le_of_ble_eq_true rfl) (w_X8_saveState (h0) e_c6 ?_)
        refine gw_aload_n dX8_pivot_39 rfl rfl ?_
        refine gs_getR cl8 0 dX8_pivot_40 rfl kw_234 (by decide) (h0.1) rfl ?_
        refine gs_getRN cl4 1 dX8_pivot_43 rfl kw_124 (by decide) (h0.2.1.1) rfl ?_
        refine gw_iload_n dX8_pivot_46 rfl rfl ?_
        obtain ⟨v8, e_v8, H⟩ := cv_i H
        refine gw_V1 okX6_namedBy dX8_pivot_47 kw_579 kw_558 kw_559 (hp_o (h0.2.1.2.2.1)) rfl ⟨by decide, by decide⟩ ⟨by decide, by decide⟩ (Nat.le_of_ble_eq_true rfl) (w_X6_namedBy (h0.2.1.2.2) e_v8 ?_)
        refine gw_istore_n dX8_pivot_50 rfl (by decide) ?_
        refine gw_aload_n dX8_pivot_51 rfl rfl ?_
        refine gs_getR cl8 0 dX8_pivot_52 rfl kw_234 (by decide) (h0.1) rfl ?_
        refine gw_iload_n dX8_pivot_55 rfl rfl ?_
        refine gw_iload_n dX8_pivot_56 rfl rfl ?_
        obtain ⟨v10, c9, e_c9, H⟩ := cl_i H
        refine gw_V2 okX4_turn dX8_pivot_57 kw_580 kw_581 kw_582 (hp_o (h0.2.1.1)) rfl ⟨by decide, by decide⟩ ⟨by decide, by decide⟩ (Nat.le_of_ble_eq_true rfl) (w_X4_turn (h0.2.1) e_c9 ?_)
        refine gw_iload_n dX8_pivot_60 rfl rfl ?_
        cases H
        exact gw_iretX dX8_pivot_61 rfl (by decide) (by decide) (hK rfl)
      · have H := bq_f q H
        cases H
        exact gw_throw (text := "this pivot is not possible") (by decide +kernel) gw_nms_ok kw_271 kw_33 thw_IS (by decide +kernel) dX8_pivot_25 dX8_pivot_28 dX8_pivot_29 dX8_pivot_31 dX8_pivot_34 rfl (by decide) (by decide) (by decide) (by decide) (hKX (show ¬ (2 : Int) = 0 by decide))
    · exact gw_out rfl (by decide) (by decide) (by rcases H with ⟨z2, H⟩ | ⟨z2, rfl⟩; (· exact absurd z2 z); exact hKX z)
  · exact gw_out rfl (by decide) (by decide) (by rcases H with ⟨z2, H⟩ | ⟨z2, rfl⟩; (· exact absurd z2 z); exact hKX z)
set_option maxRecDepth 100000 in
set_option maxHeartbeats 4000000 in
theorem w_X8_requireOpen {Φ : gwC} {hb : gwHp} {M : Nat} {sh : Nat → Option gSh} {th : Nat} {c : W0} {r : Int × Int × W0} {K : Option Value → gwHp → Prop} {KX : String → gwHp → Prop} (h0 : sD sh th) (H : f_X8_requireOpen th c = some r) (hK : r.1 = 0 → K none (hp Φ hb M sh r.2.2)) (hKX : ¬ r.1 = 0 → KX (xnm r.1) (hp Φ hb M sh r.2.2)) : gw_ConX Φ mX8_requireOpen [.ref (M + th)] (hp Φ hb M sh c) K KX := by
  unfold f_X8_requireOpen at H
  refine gw_startX okX8_requireOpen (Nat.le_of_ble_eq_true rfl) ?_
  refine gw_aload_n dX8_requireOpen_0 rfl rfl ?_
  refine gs_getR cl8 0 dX8_requireOpen_1 rfl kw_234 (by decide) (h0.1) rfl ?_
  refine gs_getRN cl4 1 dX8_requireOpen_4 rfl kw_124 (by decide) (h0.2.1.1) rfl ?_
  obtain ⟨v1, e_v1, H⟩ := cv_i H
  refine gw_V0 okX6_isOpen dX8_requireOpen_7 kw_603 kw_604 kw_605 (hp_o (h0.2.1.2.2.1)) rfl ⟨by decide, by decide⟩ ⟨by decide, by decide⟩ (Nat.le_of_ble_eq_true rfl) (w_X6_isOpen (h0.2.1.2.2) e_v1 ?_)
  obtain ⟨g, H⟩ := gd_i H
  refine gw_if_neZ (tgt := 24) dX8_requireOpen_10 rfl (by decide) g (fun q => ?_) (fun q => ?_)
  · have H := bq_f q H
    cases H
    exact gw_vretX dX8_requireOpen_24 rfl (by decide) (by decide) (hK rfl)
  · have H := bq_t q H
    cases H
    exact gw_throwW (text := "the basis is optimal or has a ray") (by decide +kernel) gw_nms_ok kw_271 kw_33 thw_IS (by decide +kernel) dX8_requireOpen_13 dX8_requireOpen_16 dX8_requireOpen_17 dX8_requireOpen_20 dX8_requireOpen_23 rfl (by decide) (by decide) (by decide) (by decide) (hKX (show ¬ (2 : Int) = 0 by decide))
set_option maxRecDepth 100000 in
set_option maxHeartbeats 4000000 in
theorem w_X8_step {Φ : gwC} {hb : gwHp} {M : Nat} {sh : Nat → Option gSh} {th : Nat} {c : W0} {r : Int × Int × W0} {K : Option Value → gwHp → Prop} {KX : String → gwHp → Prop} (h0 : sD sh th) (H : f_X8_step th c = some r) (hK : r.1 = 0 → K (some (vI r.2.1)) (hp Φ hb M sh r.2.2)) (hKX : ¬ r.1 = 0 → KX (xnm r.1) (hp Φ hb M sh r.2.2)) : gw_ConX Φ mX8_step [.ref (M + th)] (hp Φ hb M sh c) K KX := by
  unfold f_X8_step at H
  refine gw_startX okX8_step (Nat.le_of_ble_eq_true rfl) ?_
  refine gw_aload_n dX8_step_0 rfl rfl ?_
  obtain ⟨e9, v2, c1, e_c1, H⟩ := cx_i H
  refine gw_VX0 okX8_requireOpen dX8_step_1 kw_599 kw_601 kw_7 (hp_o (h0.1)) rfl ⟨by decide, by decide⟩ ⟨by decide, by decide⟩ (Nat.le_of_ble_eq_true rfl) (w_X8_requireOpen (h0) e_c1 (fun z => ?_) (fun z => ?_))
  · rcases H with ⟨-, H⟩ | ⟨z2, H⟩
    rotate_left
    · exact absurd z z2
    refine gw_aload_n dX8_step_4 rfl rfl ?_
    obtain ⟨v4, c3, e_c3, H⟩ := cl_i H
    refine gw_V0 okX8_saveState dX8_step_5 kw_407 kw_409 kw_1 (hp_o (h0.1)) rfl ⟨by decide, by decide⟩ ⟨by decide, by decide⟩ (Nat.le_of_ble_eq_true rfl) (w_X8_saveState (h0) e_c3 ?_)
    refine gw_aload_n dX8_step_8 rfl rfl ?_
    refine gs_getR cl8 0 dX8_step_9 rfl kw_234 (by decide) (h0.1) rfl ?_
    obtain ⟨v5, e_v5, H⟩ := cv_i H
    refine gw_V0 okX4_chosenColumn dX8_step_12 kw_616 kw_617 kw_618 (hp_o (h0.2.1.1)) rfl ⟨by decide, by decide⟩ ⟨by decide, by decide⟩ (Nat.le_of_ble_eq_true rfl) (w_X4_chosenColumn (h0.2.1) e_v5 ?_)
    refine gw_istore_n dX8_step_15 rfl (by decide) ?_
    refine gw_aload_n dX8_step_16 rfl rfl ?_
    refine gs_getR cl8 0 dX8_step_17 rfl kw_234 (by decide) (h0.1) rfl ?_
    refine gw_aload_n dX8_step_20 rfl rfl ?_
    refine gs_getR cl8 0 dX8_step_21 rfl kw_234 (by decide) (h0.1) rfl ?_
    refine gs_getRN cl4 1 dX8_step_24 rfl kw_124 (by decide) (h0.2.1.1) rfl ?_
    refine gw_iload_n dX8_step_27 rfl rfl ?_
    obtain ⟨v6, e_v6, H⟩ := cv_i H
    refine gw_V1 okX6_leastRow dX8_step_28 kw_628 kw_571 kw_572 (hp_o (h0.2.1.2.2.1)) rfl ⟨by decide, by decide⟩ ⟨by decide, by decide⟩ (Nat.le_of_ble_eq_true rfl) (w_X6_leastRow (h0.2.1.2.2) e_v6 ?_)
    refine gw_iload_n dX8_step_31 rfl rfl ?_
    obtain ⟨v8, c7, e_c7, H⟩ := cl_i H
    refine gw_V2 okX4_turn dX8_step_32 kw_580 kw_581 kw_582 (hp_o (h0.2.1.1)) rfl ⟨by decide, by decide⟩ ⟨by decide, by decide⟩ (Nat.le_of_ble_eq_true rfl) (w_X4_turn (h0.2.1) e_c7 ?_)
    refine gw_iload_n dX8_step_35 rfl rfl ?_
    cases H
    exact gw_iretX dX8_step_36 rfl (by decide) (by decide) (hK rfl)
  · exact gw_out rfl (by decide) (by decide) (by rcases H with ⟨z2, H⟩ | ⟨z2, rfl⟩; (· exact absurd z2 z); exact hKX z)
set_option maxRecDepth 100000 in
set_option maxHeartbeats 4000000 in
theorem w_X8_solve {Φ : gwC} {hb : gwHp} {M : Nat} {sh : Nat → Option gSh} {th : Nat} {c : W0} {r : Int × W0} {K : Option Value → gwHp → Prop} (h0 : sD sh th) (H : f_X8_solve th c = some r) (hK : K (some (vI r.1)) (hp Φ hb M sh r.2)) : gw_Con Φ mX8_solve none [.ref (M + th)] (hp Φ hb M sh c) K := by
  unfold f_X8_solve at H
  refine gw_start okX8_solve (Nat.le_of_ble_eq_true rfl) ?_
  refine gw_aload_n dX8_solve_0 rfl rfl ?_
  obtain ⟨v2, c1, e_c1, H⟩ := cl_i H
  refine gw_V0 okX8_saveState dX8_solve_1 kw_407 kw_409 kw_1 (hp_o (h0.1)) rfl ⟨by decide, by decide⟩ ⟨by decide, by decide⟩ (Nat.le_of_ble_eq_true rfl) (w_X8_saveState (h0) e_c1 ?_)
  refine gw_aload_n dX8_solve_4 rfl rfl ?_
  refine gs_getR cl8 0 dX8_solve_5 rfl kw_234 (by decide) (h0.1) rfl ?_
  obtain ⟨v3, c4, e_c4, H⟩ := cl_i H
  refine gw_V0 okX4_run dX8_solve_8 kw_633 kw_634 kw_635 (hp_o (h0.2.1.1)) rfl ⟨by decide, by decide⟩ ⟨by decide, by decide⟩ (Nat.le_of_ble_eq_true rfl) (w_X4_run (h0.2.1) e_c4 ?_)
  cases H
  exact gw_iret dX8_solve_11 rfl (by decide) (by decide) hK
set_option maxRecDepth 100000 in
set_option maxHeartbeats 4000000 in
theorem w_X8_setRule {Φ : gwC} {hb : gwHp} {M : Nat} {sh : Nat → Option gSh} {th : Nat} {p1 : Int} {c : W0} {r : Int × Int × W0} {K : Option Value → gwHp → Prop} {KX : String → gwHp → Prop} (h0 : sD sh th) (H : f_X8_setRule th p1 c = some r) (hK : r.1 = 0 → K (some (vI r.2.1)) (hp Φ hb M sh r.2.2)) (hKX : ¬ r.1 = 0 → KX (xnm r.1) (hp Φ hb M sh r.2.2)) : gw_ConX Φ mX8_setRule [.ref (M + th), vI p1] (hp Φ hb M sh c) K KX := by
  unfold f_X8_setRule at H
  refine gw_startX okX8_setRule (Nat.le_of_ble_eq_true rfl) ?_
  refine gw_iload_n dX8_setRule_0 rfl rfl ?_
  obtain ⟨g, H⟩ := gd_i H
  obtain ⟨k1, e_k1, H⟩ := jn_i H
  have hJ_k1 : ∀ (u2 : Unit), k1 u2 = some r → G Φ mX8_setRule (gw_MX Φ mX8_setRule K KX) none 0 0 9 [] [] (hp Φ hb M sh c) := by
    intro u2 H
    subst e_k1
    cases H
    exact gw_throw (text := "a rule is 0 to 2") (by decide +kernel) gw_nms_ok kw_391 kw_30 thw_IA (by decide +kernel) dX8_setRule_9 dX8_setRule_12 dX8_setRule_13 dX8_setRule_15 dX8_setRule_18 rfl (by decide) (by decide) (by decide) (by decide) (hKX (show ¬ (1 : Int) = 0 by decide))
  refine gw_if_ltZ (tgt := 9) dX8_setRule_1 rfl (by decide) g (fun q => ?_) (fun q => ?_)
  · have H := bq_t q H
    exact gw_L (hJ_k1 _ H) (lvA_n)
  · have H := bq_f q H
    refine gw_iload_n dX8_setRule_4 rfl rfl ?_
    refine gw_iconstZ dX8_setRule_5 rfl ?_
    obtain ⟨g, H⟩ := gd_i H
    refine gw_icmp_leZ (tgt := 19) dX8_setRule_6 rfl (by decide) g (by decide) (fun q => ?_) (fun q => ?_)
    · have H := bq_t q H
      refine gw_aload_n dX8_setRule_19 rfl rfl ?_
      obtain ⟨v4, c3, e_c3, H⟩ := cl_i H
      refine gw_V0 okX8_saveState dX8_setRule_20 kw_407 kw_409 kw_1 (hp_o (h0.1)) rfl ⟨by decide, by decide⟩ ⟨by decide, by decide⟩ (Nat.le_of_ble_eq_true rfl) (w_X8_saveState (h0) e_c3 ?_)
      refine gw_aload_n dX8_setRule_23 rfl rfl ?_
      refine gs_getR cl8 0 dX8_setRule_24 rfl kw_234 (by decide) (h0.1) rfl ?_
      refine gs_getIN cl4 2 2 dX8_setRule_27 rfl kw_126 (by decide) (h0.2.1.1) rfl rfl ?_
      refine gw_istore_n dX8_setRule_30 rfl (by decide) ?_
      refine gw_aload_n dX8_setRule_31 rfl rfl ?_
      refine gs_getR cl8 0 dX8_setRule_32 rfl kw_234 (by decide) (h0.1) rfl ?_
      refine gw_iload_n dX8_setRule_35 rfl rfl ?_
      obtain ⟨c5, e_c5, H⟩ := sto_i H
      refine gs_putINE cl4 2 2 dX8_setRule_36 rfl kw_126 (by decide) rfl rfl (h0.2.1.1) rfl rfl e_c5 ?_
      refine gw_iload_n dX8_setRule_39 rfl rfl ?_
      cases H
      exact gw_iretX dX8_setRule_40 rfl (by decide) (by decide) (hK rfl)
    · have H := bq_f q H
      exact gw_L (hJ_k1 _ H) (lvA_n)
set_option maxRecDepth 100000 in
set_option maxHeartbeats 4000000 in
theorem w_X8_undo {Φ : gwC} {hb : gwHp} {M : Nat} {sh : Nat → Option gSh} {th : Nat} {c : W0} {r : Int × Int × W0} {K : Option Value → gwHp → Prop} {KX : String → gwHp → Prop} (h0 : sD sh th) (H : f_X8_undo th c = some r) (hK : r.1 = 0 → K (some (vI r.2.1)) (hp Φ hb M sh r.2.2)) (hKX : ¬ r.1 = 0 → KX (xnm r.1) (hp Φ hb M sh r.2.2)) : gw_ConX Φ mX8_undo [.ref (M + th)] (hp Φ hb M sh c) K KX := by
  unfold f_X8_undo at H
  refine gw_startX okX8_undo (Nat.le_of_ble_eq_true rfl) ?_
  refine gw_aload_n dX8_undo_0 rfl rfl ?_
  refine gs_getI cl8 10 10 dX8_undo_1 rfl kw_243 (by decide) (h0.1) rfl rfl ?_
  refine gw_iconstZ dX8_undo_4 rfl ?_
  obtain ⟨g, H⟩ := gd_i H
  obtain ⟨k1, e_k1, H⟩ := jn_i H
  have hJ_k1 : ∀ (u2 : Unit), k1 u2 = some r → G Φ mX8_undo (gw_MX Φ mX8_undo K KX) none 0 0 20 [] [] (hp Φ hb M sh c) := by
    intro u2 H
    subst e_k1
    cases H
    exact gw_throw (text := "there is no saved state") (by decide +kernel) gw_nms_ok kw_271 kw_33 thw_IS (by decide +kernel) dX8_undo_20 dX8_undo_23 dX8_undo_24 dX8_undo_26 dX8_undo_29 rfl (by decide) (by decide) (by decide) (by decide) (hKX (show ¬ (2 : Int) = 0 by decide))
  refine gw_icmp_ltZ (tgt := 20) dX8_undo_5 rfl (by decide) g (by decide) (fun q => ?_) (fun q => ?_)
  · have H := bq_t q H
    exact gw_L (hJ_k1 _ H) (lvA_n)
  · have H := bq_f q H
    refine gw_aload_n dX8_undo_8 rfl rfl ?_
    refine gs_getI cl8 10 10 dX8_undo_9 rfl kw_243 (by decide) (h0.1) rfl rfl ?_
    refine gw_aload_n dX8_undo_12 rfl rfl ?_
    refine gs_getR cl8 3 dX8_undo_13 rfl kw_237 (by decide) (h0.1) rfl ?_
    refine gs_alenR dX8_undo_16 rfl (h0.2.2.2.2.1) ?_
    obtain ⟨g, H⟩ := gd_i H
    refine gw_icmp_leZ (tgt := 30) dX8_undo_17 rfl (by decide) g (by decide) (fun q => ?_) (fun q => ?_)
    · have H := bq_t q H
      refine gw_aload_n dX8_undo_30 rfl rfl ?_
      refine gw_dup dX8_undo_31 rfl rfl ?_
      refine gs_getI cl8 10 10 dX8_undo_32 rfl kw_243 (by decide) (h0.1) rfl rfl ?_
      refine gw_iconstZ dX8_undo_35 rfl ?_
      refine gw_isubZ dX8_undo_36 rfl ?_
      obtain ⟨c3, e_c3, H⟩ := sto_i H
      refine gs_putIE cl8 10 10 dX8_undo_37 rfl kw_243 (by decide) rfl rfl (h0.1) rfl rfl e_c3 ?_
      refine gw_aload_n dX8_undo_40 rfl rfl ?_
      refine gs_getR cl8 0 dX8_undo_41 rfl kw_234 (by decide) (h0.1) rfl ?_
      refine gw_aload_n dX8_undo_44 rfl rfl ?_
      refine gs_getR cl8 3 dX8_undo_45 rfl kw_237 (by decide) (h0.1) rfl ?_
      refine gw_aload_n dX8_undo_48 rfl rfl ?_
      refine gs_getI cl8 10 10 dX8_undo_49 rfl kw_243 (by decide) (h0.1) rfl rfl ?_
      obtain ⟨g, H⟩ := gd_i H
      refine gs_aaldZ dX8_undo_52 rfl (h0.2.2.2.2.1) g (by decide) ?_
      obtain ⟨hz4, H⟩ := gd_i H
      have hz4 := stP_s h0 hz4
      obtain ⟨v6, c5, e_c5, H⟩ := cl_i H
      refine gw_V1 okX4_copy dX8_undo_53 kw_339 kw_340 kw_341 (hp_o (h0.2.1.1)) rfl ⟨by decide, by decide⟩ ⟨by decide, by decide⟩ (Nat.le_of_ble_eq_true rfl) (w_X4_copy (h0.2.1) (hz4) e_c5 ?_)
      refine gw_aload_n dX8_undo_56 rfl rfl ?_
      refine gs_getI cl8 10 10 dX8_undo_57 rfl kw_243 (by decide) (h0.1) rfl rfl ?_
      cases H
      exact gw_iretX dX8_undo_60 rfl (by decide) (by decide) (hK rfl)
    · have H := bq_f q H
      exact gw_L (hJ_k1 _ H) (lvA_n)
set_option maxRecDepth 100000 in
set_option maxHeartbeats 4000000 in
theorem w_X8_savedStates {Φ : gwC} {hb : gwHp} {M : Nat} {sh : Nat → Option gSh} {th : Nat} {c : W0} {r : Int} {K : Option Value → gwHp → Prop} (h0 : sD sh th) (H : f_X8_savedStates th c = some r) (hK : K (some (vI r)) (hp Φ hb M sh c)) : gw_Con Φ mX8_savedStates none [.ref (M + th)] (hp Φ hb M sh c) K := by
  unfold f_X8_savedStates at H
  refine gw_start okX8_savedStates (Nat.le_of_ble_eq_true rfl) ?_
  refine gw_aload_n dX8_savedStates_0 rfl rfl ?_
  refine gs_getI cl8 10 10 dX8_savedStates_1 rfl kw_243 (by decide) (h0.1) rfl rfl ?_
  cases H
  exact gw_iret dX8_savedStates_4 rfl (by decide) (by decide) hK
set_option maxRecDepth 100000 in
set_option maxHeartbeats 4000000 in
theorem w_X8_variables {Φ : gwC} {hb : gwHp} {M : Nat} {sh : Nat → Option gSh} {th : Nat} {c : W0} {r : Int} {K : Option Value → gwHp → Prop} (h0 : sD sh th) (H : f_X8_variables th c = some r) (hK : K (some (vI r)) (hp Φ hb M sh c)) : gw_Con Φ mX8_variables none [.ref (M + th)] (hp Φ hb M sh c) K := by
  unfold f_X8_variables at H
  refine gw_start okX8_variables (Nat.le_of_ble_eq_true rfl) ?_
  refine gw_aload_n dX8_variables_0 rfl rfl ?_
  refine gs_getR cl8 0 dX8_variables_1 rfl kw_234 (by decide) (h0.1) rfl ?_
  refine gs_getRN cl4 0 dX8_variables_4 rfl kw_120 (by decide) (h0.2.1.1) rfl ?_
  refine gs_getIN cl2 0 0 dX8_variables_7 rfl kw_75 (by decide) (h0.2.1.2.1.1) rfl rfl ?_
  cases H
  exact gw_iret dX8_variables_10 rfl (by decide) (by decide) hK
set_option maxRecDepth 100000 in
set_option maxHeartbeats 4000000 in
theorem w_X8_constraints {Φ : gwC} {hb : gwHp} {M : Nat} {sh : Nat → Option gSh} {th : Nat} {c : W0} {r : Int} {K : Option Value → gwHp → Prop} (h0 : sD sh th) (H : f_X8_constraints th c = some r) (hK : K (some (vI r)) (hp Φ hb M sh c)) : gw_Con Φ mX8_constraints none [.ref (M + th)] (hp Φ hb M sh c) K := by
  unfold f_X8_constraints at H
  refine gw_start okX8_constraints (Nat.le_of_ble_eq_true rfl) ?_
  refine gw_aload_n dX8_constraints_0 rfl rfl ?_
  refine gs_getR cl8 0 dX8_constraints_1 rfl kw_234 (by decide) (h0.1) rfl ?_
  refine gs_getRN cl4 0 dX8_constraints_4 rfl kw_120 (by decide) (h0.2.1.1) rfl ?_
  refine gs_getIN cl2 1 1 dX8_constraints_7 rfl kw_81 (by decide) (h0.2.1.2.1.1) rfl rfl ?_
  cases H
  exact gw_iret dX8_constraints_10 rfl (by decide) (by decide) hK
set_option maxRecDepth 100000 in
set_option maxHeartbeats 4000000 in
theorem w_X8_profitOf {Φ : gwC} {hb : gwHp} {M : Nat} {sh : Nat → Option gSh} {th : Nat} {p1 : Int} {c : W0} {r : Int × Int × W0} {K : Option Value → gwHp → Prop} {KX : String → gwHp → Prop} (h0 : sD sh th) (H : f_X8_profitOf th p1 c = some r) (hK : r.1 = 0 → K (some (vI r.2.1)) (hp Φ hb M sh r.2.2)) (hKX : ¬ r.1 = 0 → KX (xnm r.1) (hp Φ hb M sh r.2.2)) : gw_ConX Φ mX8_profitOf [.ref (M + th), vI p1] (hp Φ hb M sh c) K KX := by
  unfold f_X8_profitOf at H
  refine gw_startX okX8_profitOf (Nat.le_of_ble_eq_true rfl) ?_
  refine gw_aload_n dX8_profitOf_0 rfl rfl ?_
  refine gw_iload_n dX8_profitOf_1 rfl rfl ?_
  obtain ⟨e9, v2, c1, e_c1, H⟩ := cx_i H
  refine gw_VX1 okX8_requireVariable dX8_profitOf_2 kw_460 kw_462 kw_3 (hp_o (h0.1)) rfl ⟨by decide, by decide⟩ ⟨by decide, by decide⟩ (Nat.le_of_ble_eq_true rfl) (w_X8_requireVariable (h0) e_c1 (fun z => ?_) (fun z => ?_))
  · rcases H with ⟨-, H⟩ | ⟨z2, H⟩
    rotate_left
    · exact absurd z z2
    refine gw_aload_n dX8_profitOf_5 rfl rfl ?_
    refine gs_getR cl8 0 dX8_profitOf_6 rfl kw_234 (by decide) (h0.1) rfl ?_
    refine gs_getRN cl4 0 dX8_profitOf_9 rfl kw_120 (by decide) (h0.2.1.1) rfl ?_
    refine gw_iload_n dX8_profitOf_12 rfl rfl ?_
    obtain ⟨v3, e_v3, H⟩ := cv_i H
    refine gw_V1 okX2_profit dX8_profitOf_13 kw_484 kw_453 kw_454 (hp_o (h0.2.1.2.1.1)) rfl ⟨by decide, by decide⟩ ⟨by decide, by decide⟩ (Nat.le_of_ble_eq_true rfl) (w_X2_profit (h0.2.1.2.1) e_v3 ?_)
    cases H
    exact gw_iretX dX8_profitOf_16 rfl (by decide) (by decide) (hK rfl)
  · exact gw_out rfl (by decide) (by decide) (by rcases H with ⟨z2, H⟩ | ⟨z2, rfl⟩; (· exact absurd z2 z); exact hKX z)
set_option maxRecDepth 100000 in
set_option maxHeartbeats 4000000 in
theorem w_X8_coefficientOf {Φ : gwC} {hb : gwHp} {M : Nat} {sh : Nat → Option gSh} {th : Nat} {p1 : Int} {p2 : Int} {c : W0} {r : Int × Int × W0} {K : Option Value → gwHp → Prop} {KX : String → gwHp → Prop} (h0 : sD sh th) (H : f_X8_coefficientOf th p1 p2 c = some r) (hK : r.1 = 0 → K (some (vI r.2.1)) (hp Φ hb M sh r.2.2)) (hKX : ¬ r.1 = 0 → KX (xnm r.1) (hp Φ hb M sh r.2.2)) : gw_ConX Φ mX8_coefficientOf [.ref (M + th), vI p1, vI p2] (hp Φ hb M sh c) K KX := by
  unfold f_X8_coefficientOf at H
  refine gw_startX okX8_coefficientOf (Nat.le_of_ble_eq_true rfl) ?_
  refine gw_aload_n dX8_coefficientOf_0 rfl rfl ?_
  refine gw_iload_n dX8_coefficientOf_1 rfl rfl ?_
  obtain ⟨e9, v2, c1, e_c1, H⟩ := cx_i H
  refine gw_VX1 okX8_requireConstraint dX8_coefficientOf_2 kw_514 kw_516 kw_4 (hp_o (h0.1)) rfl ⟨by decide, by decide⟩ ⟨by decide, by decide⟩ (Nat.le_of_ble_eq_true rfl) (w_X8_requireConstraint (h0) e_c1 (fun z => ?_) (fun z => ?_))
  · rcases H with ⟨-, H⟩ | ⟨z2, H⟩
    rotate_left
    · exact absurd z z2
    refine gw_aload_n dX8_coefficientOf_5 rfl rfl ?_
    refine gw_iload_n dX8_coefficientOf_6 rfl rfl ?_
    obtain ⟨e9, v4, c3, e_c3, H⟩ := cx_i H
    refine gw_VX1 okX8_requireVariable dX8_coefficientOf_7 kw_460 kw_462 kw_3 (hp_o (h0.1)) rfl ⟨by decide, by decide⟩ ⟨by decide, by decide⟩ (Nat.le_of_ble_eq_true rfl) (w_X8_requireVariable (h0) e_c3 (fun z => ?_) (fun z => ?_))
    · rcases H with ⟨-, H⟩ | ⟨z2, H⟩
      rotate_left
      · exact absurd z z2
      refine gw_aload_n dX8_coefficientOf_10 rfl rfl ?_
      refine gs_getR cl8 0 dX8_coefficientOf_11 rfl kw_234 (by decide) (h0.1) rfl ?_
      refine gs_getRN cl4 0 dX8_coefficientOf_14 rfl kw_120 (by decide) (h0.2.1.1) rfl ?_
      refine gw_iload_n dX8_coefficientOf_17 rfl rfl ?_
      refine gw_iload_n dX8_coefficientOf_18 rfl rfl ?_
      obtain ⟨v5, e_v5, H⟩ := cv_i H
      refine gw_V2 okX2_coefficient dX8_coefficientOf_19 kw_519 kw_437 kw_438 (hp_o (h0.2.1.2.1.1)) rfl ⟨by decide, by decide⟩ ⟨by decide, by decide⟩ (Nat.le_of_ble_eq_true rfl) (w_X2_coefficient (h0.2.1.2.1) e_v5 ?_)
      cases H
      exact gw_iretX dX8_coefficientOf_22 rfl (by decide) (by decide) (hK rfl)
    · exact gw_out rfl (by decide) (by decide) (by rcases H with ⟨z2, H⟩ | ⟨z2, rfl⟩; (· exact absurd z2 z); exact hKX z)
  · exact gw_out rfl (by decide) (by decide) (by rcases H with ⟨z2, H⟩ | ⟨z2, rfl⟩; (· exact absurd z2 z); exact hKX z)
set_option maxRecDepth 100000 in
set_option maxHeartbeats 4000000 in
theorem w_X8_boundOf {Φ : gwC} {hb : gwHp} {M : Nat} {sh : Nat → Option gSh} {th : Nat} {p1 : Int} {c : W0} {r : Int × Int × W0} {K : Option Value → gwHp → Prop} {KX : String → gwHp → Prop} (h0 : sD sh th) (H : f_X8_boundOf th p1 c = some r) (hK : r.1 = 0 → K (some (vI r.2.1)) (hp Φ hb M sh r.2.2)) (hKX : ¬ r.1 = 0 → KX (xnm r.1) (hp Φ hb M sh r.2.2)) : gw_ConX Φ mX8_boundOf [.ref (M + th), vI p1] (hp Φ hb M sh c) K KX := by
  unfold f_X8_boundOf at H
  refine gw_startX okX8_boundOf (Nat.le_of_ble_eq_true rfl) ?_
  refine gw_aload_n dX8_boundOf_0 rfl rfl ?_
  refine gw_iload_n dX8_boundOf_1 rfl rfl ?_
  obtain ⟨e9, v2, c1, e_c1, H⟩ := cx_i H
  refine gw_VX1 okX8_requireConstraint dX8_boundOf_2 kw_514 kw_516 kw_4 (hp_o (h0.1)) rfl ⟨by decide, by decide⟩ ⟨by decide, by decide⟩ (Nat.le_of_ble_eq_true rfl) (w_X8_requireConstraint (h0) e_c1 (fun z => ?_) (fun z => ?_))
  · rcases H with ⟨-, H⟩ | ⟨z2, H⟩
    rotate_left
    · exact absurd z z2
    refine gw_aload_n dX8_boundOf_5 rfl rfl ?_
    refine gs_getR cl8 0 dX8_boundOf_6 rfl kw_234 (by decide) (h0.1) rfl ?_
    refine gs_getRN cl4 0 dX8_boundOf_9 rfl kw_120 (by decide) (h0.2.1.1) rfl ?_
    refine gw_iload_n dX8_boundOf_12 rfl rfl ?_
    obtain ⟨v3, e_v3, H⟩ := cv_i H
    refine gw_V1 okX2_bound dX8_boundOf_13 kw_525 kw_445 kw_446 (hp_o (h0.2.1.2.1.1)) rfl ⟨by decide, by decide⟩ ⟨by decide, by decide⟩ (Nat.le_of_ble_eq_true rfl) (w_X2_bound (h0.2.1.2.1) e_v3 ?_)
    cases H
    exact gw_iretX dX8_boundOf_16 rfl (by decide) (by decide) (hK rfl)
  · exact gw_out rfl (by decide) (by decide) (by rcases H with ⟨z2, H⟩ | ⟨z2, rfl⟩; (· exact absurd z2 z); exact hKX z)
set_option maxRecDepth 100000 in
set_option maxHeartbeats 4000000 in
theorem w_X8_rule {Φ : gwC} {hb : gwHp} {M : Nat} {sh : Nat → Option gSh} {th : Nat} {c : W0} {r : Int} {K : Option Value → gwHp → Prop} (h0 : sD sh th) (H : f_X8_rule th c = some r) (hK : K (some (vI r)) (hp Φ hb M sh c)) : gw_Con Φ mX8_rule none [.ref (M + th)] (hp Φ hb M sh c) K := by
  unfold f_X8_rule at H
  refine gw_start okX8_rule (Nat.le_of_ble_eq_true rfl) ?_
  refine gw_aload_n dX8_rule_0 rfl rfl ?_
  refine gs_getR cl8 0 dX8_rule_1 rfl kw_234 (by decide) (h0.1) rfl ?_
  refine gs_getIN cl4 2 2 dX8_rule_4 rfl kw_126 (by decide) (h0.2.1.1) rfl rfl ?_
  cases H
  exact gw_iret dX8_rule_7 rfl (by decide) (by decide) hK
set_option maxRecDepth 100000 in
set_option maxHeartbeats 4000000 in
theorem w_X8_columnOf {Φ : gwC} {hb : gwHp} {M : Nat} {sh : Nat → Option gSh} {th : Nat} {p1 : Int} {c : W0} {r : Int × Int × W0} {K : Option Value → gwHp → Prop} {KX : String → gwHp → Prop} (h0 : sD sh th) (H : f_X8_columnOf th p1 c = some r) (hK : r.1 = 0 → K (some (vI r.2.1)) (hp Φ hb M sh r.2.2)) (hKX : ¬ r.1 = 0 → KX (xnm r.1) (hp Φ hb M sh r.2.2)) : gw_ConX Φ mX8_columnOf [.ref (M + th), vI p1] (hp Φ hb M sh c) K KX := by
  unfold f_X8_columnOf at H
  refine gw_startX okX8_columnOf (Nat.le_of_ble_eq_true rfl) ?_
  refine gw_aload_n dX8_columnOf_0 rfl rfl ?_
  refine gw_iload_n dX8_columnOf_1 rfl rfl ?_
  obtain ⟨e9, v2, c1, e_c1, H⟩ := cx_i H
  refine gw_VX1 okX8_requireRow dX8_columnOf_2 kw_539 kw_541 kw_5 (hp_o (h0.1)) rfl ⟨by decide, by decide⟩ ⟨by decide, by decide⟩ (Nat.le_of_ble_eq_true rfl) (w_X8_requireRow (h0) e_c1 (fun z => ?_) (fun z => ?_))
  · rcases H with ⟨-, H⟩ | ⟨z2, H⟩
    rotate_left
    · exact absurd z z2
    refine gw_aload_n dX8_columnOf_5 rfl rfl ?_
    refine gs_getR cl8 0 dX8_columnOf_6 rfl kw_234 (by decide) (h0.1) rfl ?_
    refine gs_getRN cl4 1 dX8_columnOf_9 rfl kw_124 (by decide) (h0.2.1.1) rfl ?_
    refine gw_iload_n dX8_columnOf_12 rfl rfl ?_
    obtain ⟨v3, e_v3, H⟩ := cv_i H
    refine gw_V1 okX6_namedBy dX8_columnOf_13 kw_579 kw_558 kw_559 (hp_o (h0.2.1.2.2.1)) rfl ⟨by decide, by decide⟩ ⟨by decide, by decide⟩ (Nat.le_of_ble_eq_true rfl) (w_X6_namedBy (h0.2.1.2.2) e_v3 ?_)
    cases H
    exact gw_iretX dX8_columnOf_16 rfl (by decide) (by decide) (hK rfl)
  · exact gw_out rfl (by decide) (by decide) (by rcases H with ⟨z2, H⟩ | ⟨z2, rfl⟩; (· exact absurd z2 z); exact hKX z)
set_option maxRecDepth 100000 in
set_option maxHeartbeats 4000000 in
theorem w_X8_isNamed {Φ : gwC} {hb : gwHp} {M : Nat} {sh : Nat → Option gSh} {th : Nat} {p1 : Int} {c : W0} {r : Int × Int × W0} {K : Option Value → gwHp → Prop} {KX : String → gwHp → Prop} (h0 : sD sh th) (H : f_X8_isNamed th p1 c = some r) (hK : r.1 = 0 → K (some (vI r.2.1)) (hp Φ hb M sh r.2.2)) (hKX : ¬ r.1 = 0 → KX (xnm r.1) (hp Φ hb M sh r.2.2)) : gw_ConX Φ mX8_isNamed [.ref (M + th), vI p1] (hp Φ hb M sh c) K KX := by
  unfold f_X8_isNamed at H
  refine gw_startX okX8_isNamed (Nat.le_of_ble_eq_true rfl) ?_
  refine gw_aload_n dX8_isNamed_0 rfl rfl ?_
  refine gw_iload_n dX8_isNamed_1 rfl rfl ?_
  obtain ⟨e9, v2, c1, e_c1, H⟩ := cx_i H
  refine gw_VX1 okX8_requireColumn dX8_isNamed_2 kw_544 kw_546 kw_6 (hp_o (h0.1)) rfl ⟨by decide, by decide⟩ ⟨by decide, by decide⟩ (Nat.le_of_ble_eq_true rfl) (w_X8_requireColumn (h0) e_c1 (fun z => ?_) (fun z => ?_))
  · rcases H with ⟨-, H⟩ | ⟨z2, H⟩
    rotate_left
    · exact absurd z z2
    refine gw_aload_n dX8_isNamed_5 rfl rfl ?_
    refine gs_getR cl8 0 dX8_isNamed_6 rfl kw_234 (by decide) (h0.1) rfl ?_
    refine gs_getRN cl4 1 dX8_isNamed_9 rfl kw_124 (by decide) (h0.2.1.1) rfl ?_
    refine gw_iload_n dX8_isNamed_12 rfl rfl ?_
    obtain ⟨v3, e_v3, H⟩ := cv_i H
    refine gw_V1 okX6_rowNaming dX8_isNamed_13 kw_757 kw_554 kw_555 (hp_o (h0.2.1.2.2.1)) rfl ⟨by decide, by decide⟩ ⟨by decide, by decide⟩ (Nat.le_of_ble_eq_true rfl) (w_X6_rowNaming (h0.2.1.2.2) e_v3 ?_)
    obtain ⟨g, H⟩ := gd_i H
    refine gw_if_ltZ (tgt := 23) dX8_isNamed_16 rfl (by decide) g (fun q => ?_) (fun q => ?_)
    · have H := bq_t q H
      refine gw_iconstZ dX8_isNamed_23 rfl ?_
      cases H
      exact gw_zretX rfl dX8_isNamed_24 rfl (by decide) (by decide) (hK rfl)
    · have H := bq_f q H
      refine gw_iconstZ dX8_isNamed_19 rfl ?_
      refine gw_goto (tgt := 24) dX8_isNamed_20 (by decide) ?_
      cases H
      exact gw_zretX rfl dX8_isNamed_24 rfl (by decide) (by decide) (hK rfl)
  · exact gw_out rfl (by decide) (by decide) (by rcases H with ⟨z2, H⟩ | ⟨z2, rfl⟩; (· exact absurd z2 z); exact hKX z)
set_option maxRecDepth 100000 in
set_option maxHeartbeats 4000000 in
theorem w_X8_isOptimal {Φ : gwC} {hb : gwHp} {M : Nat} {sh : Nat → Option gSh} {th : Nat} {c : W0} {r : Int} {K : Option Value → gwHp → Prop} (h0 : sD sh th) (H : f_X8_isOptimal th c = some r) (hK : K (some (vI r)) (hp Φ hb M sh c)) : gw_Con Φ mX8_isOptimal none [.ref (M + th)] (hp Φ hb M sh c) K := by
  unfold f_X8_isOptimal at H
  refine gw_start okX8_isOptimal (Nat.le_of_ble_eq_true rfl) ?_
  refine gw_aload_n dX8_isOptimal_0 rfl rfl ?_
  refine gs_getR cl8 0 dX8_isOptimal_1 rfl kw_234 (by decide) (h0.1) rfl ?_
  refine gs_getRN cl4 1 dX8_isOptimal_4 rfl kw_124 (by decide) (h0.2.1.1) rfl ?_
  obtain ⟨v1, e_v1, H⟩ := cv_i H
  refine gw_V0 okX6_isBest dX8_isOptimal_7 kw_813 kw_608 kw_609 (hp_o (h0.2.1.2.2.1)) rfl ⟨by decide, by decide⟩ ⟨by decide, by decide⟩ (Nat.le_of_ble_eq_true rfl) (w_X6_isBest (h0.2.1.2.2) e_v1 ?_)
  obtain ⟨g, H⟩ := gd_i H
  cases H
  exact gw_zret (gs_nz g) dX8_isOptimal_10 rfl (by decide) (by decide) hK
set_option maxRecDepth 100000 in
set_option maxHeartbeats 4000000 in
theorem w_X8_hasRay {Φ : gwC} {hb : gwHp} {M : Nat} {sh : Nat → Option gSh} {th : Nat} {c : W0} {r : Int} {K : Option Value → gwHp → Prop} (h0 : sD sh th) (H : f_X8_hasRay th c = some r) (hK : K (some (vI r)) (hp Φ hb M sh c)) : gw_Con Φ mX8_hasRay none [.ref (M + th)] (hp Φ hb M sh c) K := by
  unfold f_X8_hasRay at H
  refine gw_start okX8_hasRay (Nat.le_of_ble_eq_true rfl) ?_
  refine gw_aload_n dX8_hasRay_0 rfl rfl ?_
  refine gs_getR cl8 0 dX8_hasRay_1 rfl kw_234 (by decide) (h0.1) rfl ?_
  refine gs_getRN cl4 1 dX8_hasRay_4 rfl kw_124 (by decide) (h0.2.1.1) rfl ?_
  obtain ⟨v1, e_v1, H⟩ := cv_i H
  refine gw_V0 okX6_openColumn dX8_hasRay_7 kw_818 kw_612 kw_613 (hp_o (h0.2.1.2.2.1)) rfl ⟨by decide, by decide⟩ ⟨by decide, by decide⟩ (Nat.le_of_ble_eq_true rfl) (w_X6_openColumn (h0.2.1.2.2) e_v1 ?_)
  obtain ⟨g, H⟩ := gd_i H
  refine gw_if_ltZ (tgt := 17) dX8_hasRay_10 rfl (by decide) g (fun q => ?_) (fun q => ?_)
  · have H := bq_t q H
    refine gw_iconstZ dX8_hasRay_17 rfl ?_
    cases H
    exact gw_zret rfl dX8_hasRay_18 rfl (by decide) (by decide) hK
  · have H := bq_f q H
    refine gw_iconstZ dX8_hasRay_13 rfl ?_
    refine gw_goto (tgt := 18) dX8_hasRay_14 (by decide) ?_
    cases H
    exact gw_zret rfl dX8_hasRay_18 rfl (by decide) (by decide) hK
set_option maxRecDepth 100000 in
set_option maxHeartbeats 4000000 in
theorem w_X8_pivots {Φ : gwC} {hb : gwHp} {M : Nat} {sh : Nat → Option gSh} {th : Nat} {c : W0} {r : Int} {K : Option Value → gwHp → Prop} (h0 : sD sh th) (H : f_X8_pivots th c = some r) (hK : K (some (vI r)) (hp Φ hb M sh c)) : gw_Con Φ mX8_pivots none [.ref (M + th)] (hp Φ hb M sh c) K := by
  unfold f_X8_pivots at H
  refine gw_start okX8_pivots (Nat.le_of_ble_eq_true rfl) ?_
  refine gw_aload_n dX8_pivots_0 rfl rfl ?_
  refine gs_getR cl8 0 dX8_pivots_1 rfl kw_234 (by decide) (h0.1) rfl ?_
  refine gs_getIN cl4 3 3 dX8_pivots_4 rfl kw_128 (by decide) (h0.2.1.1) rfl rfl ?_
  cases H
  exact gw_iret dX8_pivots_7 rfl (by decide) (by decide) hK
end FW
