section FW
set_option maxRecDepth 100000 in
set_option maxHeartbeats 4000000 in
theorem w_X8_solvedNumerator {Φ : gwC} {hb : gwHp} {M : Nat} {sh : Nat → Option gSh} {th : Nat} {p1 : Int} {p2 : Int} {c : W0} {r : Int × Int × W0} {K : Option Value → gwHp → Prop} {KX : String → gwHp → Prop} (h0 : sD sh th) (H : f_X8_solvedNumerator th p1 p2 c = some r) (hK : r.1 = 0 → K (some (vL r.2.1)) (hp Φ hb M sh r.2.2)) (hKX : ¬ r.1 = 0 → KX (xnm r.1) (hp Φ hb M sh r.2.2)) : gw_ConX Φ mX8_solvedNumerator [.ref (M + th), vI p1, vI p2] (hp Φ hb M sh c) K KX := by
  unfold f_X8_solvedNumerator at H
  refine gw_startX okX8_solvedNumerator (Nat.le_of_ble_eq_true rfl) ?_
  refine gw_aload_n dX8_solvedNumerator_0 rfl rfl ?_
  refine gw_iload_n dX8_solvedNumerator_1 rfl rfl ?_
  refine gw_iload_n dX8_solvedNumerator_2 rfl rfl ?_
  obtain ⟨e9, v2, c1, e_c1, H⟩ := cx_i H
  refine gw_VX2 okX8_tryBound dX8_solvedNumerator_3 kw_1301 kw_1303 kw_32 (hp_o (h0.1)) rfl ⟨by decide, by decide⟩ ⟨by decide, by decide⟩ (Nat.le_of_ble_eq_true rfl) (w_X8_tryBound (h0) e_c1 (fun z => ?_) (fun z => ?_))
  · rcases H with ⟨-, H⟩ | ⟨z2, H⟩
    rotate_left
    · exact absurd z z2
    refine gw_aload_n dX8_solvedNumerator_6 rfl rfl ?_
    refine gs_getR cl8 1 dX8_solvedNumerator_7 rfl kw_329 (by decide) (h0.1) rfl ?_
    refine gs_getRN cl4 1 dX8_solvedNumerator_10 rfl kw_212 (by decide) (h0.2.2.1.1) rfl ?_
    obtain ⟨v3, e_v3, H⟩ := cv_i H
    refine gw_V0 okX6_worth dX8_solvedNumerator_13 kw_610 kw_611 kw_612 (hp_o (h0.2.2.1.2.2.1)) rfl ⟨by decide, by decide⟩ ⟨by decide, by decide⟩ (Nat.le_of_ble_eq_true rfl) (w_X6_worth (h0.2.2.1.2.2) e_v3 ?_)
    refine gw_aload_n dX8_solvedNumerator_16 rfl rfl ?_
    refine gs_getR cl8 1 dX8_solvedNumerator_17 rfl kw_329 (by decide) (h0.1) rfl ?_
    refine gs_getRN cl4 1 dX8_solvedNumerator_20 rfl kw_212 (by decide) (h0.2.2.1.1) rfl ?_
    refine gs_getLN cl6 2 2 dX8_solvedNumerator_23 rfl kw_193 (by decide) (h0.2.2.1.2.2.1) rfl rfl ?_
    obtain ⟨v4, e_v4, H⟩ := cv_i H
    refine gw_S2 okX8_lowNumerator dX8_solvedNumerator_26 kw_614 kw_615 ⟨by decide, by decide⟩ ⟨by decide, by decide⟩ (Nat.le_of_ble_eq_true rfl) (w_X8_lowNumerator  e_v4 ?_)
    cases H
    exact gw_lretX dX8_solvedNumerator_29 rfl (by decide) (by decide) (hK rfl)
  · exact gw_out rfl (by decide) (by decide) (by rcases H with ⟨z2, H⟩ | ⟨z2, rfl⟩; (· exact absurd z2 z); exact hKX z)
set_option maxRecDepth 100000 in
set_option maxHeartbeats 4000000 in
theorem w_X8_solvedDenominator {Φ : gwC} {hb : gwHp} {M : Nat} {sh : Nat → Option gSh} {th : Nat} {p1 : Int} {p2 : Int} {c : W0} {r : Int × Int × W0} {K : Option Value → gwHp → Prop} {KX : String → gwHp → Prop} (h0 : sD sh th) (H : f_X8_solvedDenominator th p1 p2 c = some r) (hK : r.1 = 0 → K (some (vL r.2.1)) (hp Φ hb M sh r.2.2)) (hKX : ¬ r.1 = 0 → KX (xnm r.1) (hp Φ hb M sh r.2.2)) : gw_ConX Φ mX8_solvedDenominator [.ref (M + th), vI p1, vI p2] (hp Φ hb M sh c) K KX := by
  unfold f_X8_solvedDenominator at H
  refine gw_startX okX8_solvedDenominator (Nat.le_of_ble_eq_true rfl) ?_
  refine gw_aload_n dX8_solvedDenominator_0 rfl rfl ?_
  refine gw_iload_n dX8_solvedDenominator_1 rfl rfl ?_
  refine gw_iload_n dX8_solvedDenominator_2 rfl rfl ?_
  obtain ⟨e9, v2, c1, e_c1, H⟩ := cx_i H
  refine gw_VX2 okX8_tryBound dX8_solvedDenominator_3 kw_1301 kw_1303 kw_32 (hp_o (h0.1)) rfl ⟨by decide, by decide⟩ ⟨by decide, by decide⟩ (Nat.le_of_ble_eq_true rfl) (w_X8_tryBound (h0) e_c1 (fun z => ?_) (fun z => ?_))
  · rcases H with ⟨-, H⟩ | ⟨z2, H⟩
    rotate_left
    · exact absurd z z2
    refine gw_aload_n dX8_solvedDenominator_6 rfl rfl ?_
    refine gs_getR cl8 1 dX8_solvedDenominator_7 rfl kw_329 (by decide) (h0.1) rfl ?_
    refine gs_getRN cl4 1 dX8_solvedDenominator_10 rfl kw_212 (by decide) (h0.2.2.1.1) rfl ?_
    obtain ⟨v3, e_v3, H⟩ := cv_i H
    refine gw_V0 okX6_worth dX8_solvedDenominator_13 kw_610 kw_611 kw_612 (hp_o (h0.2.2.1.2.2.1)) rfl ⟨by decide, by decide⟩ ⟨by decide, by decide⟩ (Nat.le_of_ble_eq_true rfl) (w_X6_worth (h0.2.2.1.2.2) e_v3 ?_)
    refine gw_aload_n dX8_solvedDenominator_16 rfl rfl ?_
    refine gs_getR cl8 1 dX8_solvedDenominator_17 rfl kw_329 (by decide) (h0.1) rfl ?_
    refine gs_getRN cl4 1 dX8_solvedDenominator_20 rfl kw_212 (by decide) (h0.2.2.1.1) rfl ?_
    refine gs_getLN cl6 2 2 dX8_solvedDenominator_23 rfl kw_193 (by decide) (h0.2.2.1.2.2.1) rfl rfl ?_
    obtain ⟨v4, e_v4, H⟩ := cv_i H
    refine gw_S2 okX8_lowDenominator dX8_solvedDenominator_26 kw_627 kw_628 ⟨by decide, by decide⟩ ⟨by decide, by decide⟩ (Nat.le_of_ble_eq_true rfl) (w_X8_lowDenominator  e_v4 ?_)
    cases H
    exact gw_lretX dX8_solvedDenominator_29 rfl (by decide) (by decide) (hK rfl)
  · exact gw_out rfl (by decide) (by decide) (by rcases H with ⟨z2, H⟩ | ⟨z2, rfl⟩; (· exact absurd z2 z); exact hKX z)
set_option maxRecDepth 100000 in
set_option maxHeartbeats 4000000 in
theorem w_X8_mix {Φ : gwC} {hb : gwHp} {M : Nat} {sh : Nat → Option gSh} {p1 : Int} {p2 : Int} {c : W0} {r : Int} {K : Option Value → gwHp → Prop}  (H : f_X8_mix p1 p2 = some r) (hK : K (some (vL r)) (hp Φ hb M sh c)) : gw_Con Φ mX8_mix none [vL p1, vL p2] (hp Φ hb M sh c) K := by
  unfold f_X8_mix at H
  refine gw_start okX8_mix (Nat.le_of_ble_eq_true rfl) ?_
  refine gw_ldc2Z (z := 31) dX8_mix_0 rfl kw_745 (by decide) ?_
  refine gw_lload_n dX8_mix_3 rfl rfl ?_
  refine gw_lmulZ dX8_mix_4 rfl ?_
  refine gw_lload_n dX8_mix_5 rfl rfl ?_
  refine gw_laddZ dX8_mix_6 rfl ?_
  cases H
  exact gw_lret dX8_mix_7 rfl (by decide) (by decide) hK
set_option maxRecDepth 100000 in
set_option maxHeartbeats 4000000 in
theorem w_X8_mixTruth {Φ : gwC} {hb : gwHp} {M : Nat} {sh : Nat → Option gSh} {p1 : Int} {p2 : Int} {c : W0} {r : Int} {K : Option Value → gwHp → Prop}  (H : f_X8_mixTruth p1 p2 = some r) (hK : K (some (vL r)) (hp Φ hb M sh c)) : gw_Con Φ mX8_mixTruth none [vL p1, vI p2] (hp Φ hb M sh c) K := by
  unfold f_X8_mixTruth at H
  refine gw_start okX8_mixTruth (Nat.le_of_ble_eq_true rfl) ?_
  refine gw_lload_n dX8_mixTruth_0 rfl rfl ?_
  refine gw_iload_n dX8_mixTruth_1 rfl rfl ?_
  obtain ⟨g, H⟩ := gd_i H
  refine gw_if_eqZ (tgt := 9) dX8_mixTruth_2 rfl (by decide) g (fun q => ?_) (fun q => ?_)
  · have H := bq_t q H
    refine gw_lconst0Z dX8_mixTruth_9 rfl ?_
    obtain ⟨v1, e_v1, H⟩ := cv_i H
    refine gw_S2 okX8_mix dX8_mixTruth_10 kw_742 kw_743 ⟨by decide, by decide⟩ ⟨by decide, by decide⟩ (Nat.le_of_ble_eq_true rfl) (w_X8_mix  e_v1 ?_)
    cases H
    exact gw_lret dX8_mixTruth_13 rfl (by decide) (by decide) hK
  · have H := bq_f q H
    refine gw_lconst1Z dX8_mixTruth_5 rfl ?_
    refine gw_goto (tgt := 10) dX8_mixTruth_6 (by decide) ?_
    obtain ⟨v2, e_v2, H⟩ := cv_i H
    refine gw_S2 okX8_mix dX8_mixTruth_10 kw_742 kw_743 ⟨by decide, by decide⟩ ⟨by decide, by decide⟩ (Nat.le_of_ble_eq_true rfl) (w_X8_mix  e_v2 ?_)
    cases H
    exact gw_lret dX8_mixTruth_13 rfl (by decide) (by decide) hK
set_option maxRecDepth 100000 in
set_option maxHeartbeats 4000000 in
theorem w_X8_mixCounts {Φ : gwC} {hb : gwHp} {M : Nat} {sh : Nat → Option gSh} {th : Nat} {p1 : Int} {c : W0} {r : Int} {K : Option Value → gwHp → Prop} (h0 : sD sh th) (H : f_X8_mixCounts th p1 c = some r) (hK : K (some (vL r)) (hp Φ hb M sh c)) : gw_Con Φ mX8_mixCounts none [.ref (M + th), vL p1] (hp Φ hb M sh c) K := by
  unfold f_X8_mixCounts at H
  refine gw_start okX8_mixCounts (Nat.le_of_ble_eq_true rfl) ?_
  refine gw_lload_n dX8_mixCounts_0 rfl rfl ?_
  refine gw_aload_n dX8_mixCounts_1 rfl rfl ?_
  refine gs_getR cl8 0 dX8_mixCounts_2 rfl kw_328 (by decide) (h0.1) rfl ?_
  refine gs_getRN cl4 0 dX8_mixCounts_5 rfl kw_208 (by decide) (h0.2.1.1) rfl ?_
  refine gs_getIN cl2 0 0 dX8_mixCounts_8 rfl kw_159 (by decide) (h0.2.1.2.1.1) rfl rfl ?_
  obtain ⟨g, H⟩ := gd_i H
  refine gw_i2lZ dX8_mixCounts_11 rfl g ?_
  obtain ⟨v1, e_v1, H⟩ := cv_i H
  refine gw_S2 okX8_mix dX8_mixCounts_12 kw_742 kw_743 ⟨by decide, by decide⟩ ⟨by decide, by decide⟩ (Nat.le_of_ble_eq_true rfl) (w_X8_mix  e_v1 ?_)
  refine gw_lstore_n dX8_mixCounts_15 rfl (by decide) ?_
  refine gw_lload_n dX8_mixCounts_16 rfl rfl ?_
  refine gw_aload_n dX8_mixCounts_17 rfl rfl ?_
  refine gs_getR cl8 0 dX8_mixCounts_18 rfl kw_328 (by decide) (h0.1) rfl ?_
  refine gs_getRN cl4 0 dX8_mixCounts_21 rfl kw_208 (by decide) (h0.2.1.1) rfl ?_
  refine gs_getIN cl2 1 1 dX8_mixCounts_24 rfl kw_167 (by decide) (h0.2.1.2.1.1) rfl rfl ?_
  obtain ⟨g, H⟩ := gd_i H
  refine gw_i2lZ dX8_mixCounts_27 rfl g ?_
  obtain ⟨v2, e_v2, H⟩ := cv_i H
  refine gw_S2 okX8_mix dX8_mixCounts_28 kw_742 kw_743 ⟨by decide, by decide⟩ ⟨by decide, by decide⟩ (Nat.le_of_ble_eq_true rfl) (w_X8_mix  e_v2 ?_)
  refine gw_lstore_n dX8_mixCounts_31 rfl (by decide) ?_
  refine gw_lload_n dX8_mixCounts_32 rfl rfl ?_
  refine gw_aload_n dX8_mixCounts_33 rfl rfl ?_
  refine gs_getR cl8 0 dX8_mixCounts_34 rfl kw_328 (by decide) (h0.1) rfl ?_
  refine gs_getIN cl4 2 2 dX8_mixCounts_37 rfl kw_214 (by decide) (h0.2.1.1) rfl rfl ?_
  obtain ⟨g, H⟩ := gd_i H
  refine gw_i2lZ dX8_mixCounts_40 rfl g ?_
  obtain ⟨v3, e_v3, H⟩ := cv_i H
  refine gw_S2 okX8_mix dX8_mixCounts_41 kw_742 kw_743 ⟨by decide, by decide⟩ ⟨by decide, by decide⟩ (Nat.le_of_ble_eq_true rfl) (w_X8_mix  e_v3 ?_)
  refine gw_lstore_n dX8_mixCounts_44 rfl (by decide) ?_
  refine gw_lload_n dX8_mixCounts_45 rfl rfl ?_
  refine gw_aload_n dX8_mixCounts_46 rfl rfl ?_
  obtain ⟨v4, e_v4, H⟩ := cv_i H
  refine gw_V0 okX8_isOptimal dX8_mixCounts_47 kw_746 kw_585 kw_586 (hp_o (h0.1)) rfl ⟨by decide, by decide⟩ ⟨by decide, by decide⟩ (Nat.le_of_ble_eq_true rfl) (w_X8_isOptimal (h0) e_v4 ?_)
  obtain ⟨v5, e_v5, H⟩ := cv_i H
  refine gw_S2 okX8_mixTruth dX8_mixCounts_50 kw_747 kw_748 ⟨by decide, by decide⟩ ⟨by decide, by decide⟩ (Nat.le_of_ble_eq_true rfl) (w_X8_mixTruth  e_v5 ?_)
  refine gw_lstore_n dX8_mixCounts_53 rfl (by decide) ?_
  refine gw_lload_n dX8_mixCounts_54 rfl rfl ?_
  refine gw_aload_n dX8_mixCounts_55 rfl rfl ?_
  obtain ⟨v6, e_v6, H⟩ := cv_i H
  refine gw_V0 okX8_hasRay dX8_mixCounts_56 kw_750 kw_590 kw_591 (hp_o (h0.1)) rfl ⟨by decide, by decide⟩ ⟨by decide, by decide⟩ (Nat.le_of_ble_eq_true rfl) (w_X8_hasRay (h0) e_v6 ?_)
  obtain ⟨v7, e_v7, H⟩ := cv_i H
  refine gw_S2 okX8_mixTruth dX8_mixCounts_59 kw_747 kw_748 ⟨by decide, by decide⟩ ⟨by decide, by decide⟩ (Nat.le_of_ble_eq_true rfl) (w_X8_mixTruth  e_v7 ?_)
  refine gw_lstore_n dX8_mixCounts_62 rfl (by decide) ?_
  refine gw_lload_n dX8_mixCounts_63 rfl rfl ?_
  refine gw_aload_n dX8_mixCounts_64 rfl rfl ?_
  refine gs_getR cl8 0 dX8_mixCounts_65 rfl kw_328 (by decide) (h0.1) rfl ?_
  refine gs_getIN cl4 3 3 dX8_mixCounts_68 rfl kw_216 (by decide) (h0.2.1.1) rfl rfl ?_
  obtain ⟨g, H⟩ := gd_i H
  refine gw_i2lZ dX8_mixCounts_71 rfl g ?_
  obtain ⟨v8, e_v8, H⟩ := cv_i H
  refine gw_S2 okX8_mix dX8_mixCounts_72 kw_742 kw_743 ⟨by decide, by decide⟩ ⟨by decide, by decide⟩ (Nat.le_of_ble_eq_true rfl) (w_X8_mix  e_v8 ?_)
  refine gw_lstore_n dX8_mixCounts_75 rfl (by decide) ?_
  refine gw_lload_n dX8_mixCounts_76 rfl rfl ?_
  refine gw_aload_n dX8_mixCounts_77 rfl rfl ?_
  refine gs_getR cl8 0 dX8_mixCounts_78 rfl kw_328 (by decide) (h0.1) rfl ?_
  refine gs_getIN cl4 4 4 dX8_mixCounts_81 rfl kw_218 (by decide) (h0.2.1.1) rfl rfl ?_
  obtain ⟨g, H⟩ := gd_i H
  refine gw_i2lZ dX8_mixCounts_84 rfl g ?_
  obtain ⟨v9, e_v9, H⟩ := cv_i H
  refine gw_S2 okX8_mix dX8_mixCounts_85 kw_742 kw_743 ⟨by decide, by decide⟩ ⟨by decide, by decide⟩ (Nat.le_of_ble_eq_true rfl) (w_X8_mix  e_v9 ?_)
  refine gw_lstore_n dX8_mixCounts_88 rfl (by decide) ?_
  refine gw_lload_n dX8_mixCounts_89 rfl rfl ?_
  refine gw_aload_n dX8_mixCounts_90 rfl rfl ?_
  refine gs_getR cl8 0 dX8_mixCounts_91 rfl kw_328 (by decide) (h0.1) rfl ?_
  refine gs_getIN cl4 5 5 dX8_mixCounts_94 rfl kw_220 (by decide) (h0.2.1.1) rfl rfl ?_
  obtain ⟨g, H⟩ := gd_i H
  refine gw_i2lZ dX8_mixCounts_97 rfl g ?_
  obtain ⟨v10, e_v10, H⟩ := cv_i H
  refine gw_S2 okX8_mix dX8_mixCounts_98 kw_742 kw_743 ⟨by decide, by decide⟩ ⟨by decide, by decide⟩ (Nat.le_of_ble_eq_true rfl) (w_X8_mix  e_v10 ?_)
  cases H
  exact gw_lret dX8_mixCounts_101 rfl (by decide) (by decide) hK
set_option maxRecDepth 100000 in
set_option maxHeartbeats 4000000 in
theorem w_X8_mixFraction {Φ : gwC} {hb : gwHp} {M : Nat} {sh : Nat → Option gSh} {p1 : Int} {p2 : Int} {p3 : Int} {c : W0} {r : Int} {K : Option Value → gwHp → Prop}  (H : f_X8_mixFraction p1 p2 p3 = some r) (hK : K (some (vL r)) (hp Φ hb M sh c)) : gw_Con Φ mX8_mixFraction none [vL p1, vL p2, vL p3] (hp Φ hb M sh c) K := by
  unfold f_X8_mixFraction at H
  refine gw_start okX8_mixFraction (Nat.le_of_ble_eq_true rfl) ?_
  refine gw_lload_n dX8_mixFraction_0 rfl rfl ?_
  refine gw_lload_n dX8_mixFraction_1 rfl rfl ?_
  refine gw_lload dX8_mixFraction_2 rfl rfl ?_
  obtain ⟨v1, e_v1, H⟩ := cv_i H
  refine gw_S2 okX8_lowNumerator dX8_mixFraction_4 kw_614 kw_615 ⟨by decide, by decide⟩ ⟨by decide, by decide⟩ (Nat.le_of_ble_eq_true rfl) (w_X8_lowNumerator  e_v1 ?_)
  obtain ⟨v2, e_v2, H⟩ := cv_i H
  refine gw_S2 okX8_mix dX8_mixFraction_7 kw_742 kw_743 ⟨by decide, by decide⟩ ⟨by decide, by decide⟩ (Nat.le_of_ble_eq_true rfl) (w_X8_mix  e_v2 ?_)
  refine gw_lstore dX8_mixFraction_10 rfl (by decide) ?_
  refine gw_lload dX8_mixFraction_12 rfl rfl ?_
  refine gw_lload_n dX8_mixFraction_14 rfl rfl ?_
  refine gw_lload dX8_mixFraction_15 rfl rfl ?_
  obtain ⟨v3, e_v3, H⟩ := cv_i H
  refine gw_S2 okX8_lowDenominator dX8_mixFraction_17 kw_627 kw_628 ⟨by decide, by decide⟩ ⟨by decide, by decide⟩ (Nat.le_of_ble_eq_true rfl) (w_X8_lowDenominator  e_v3 ?_)
  obtain ⟨v4, e_v4, H⟩ := cv_i H
  refine gw_S2 okX8_mix dX8_mixFraction_20 kw_742 kw_743 ⟨by decide, by decide⟩ ⟨by decide, by decide⟩ (Nat.le_of_ble_eq_true rfl) (w_X8_mix  e_v4 ?_)
  cases H
  exact gw_lret dX8_mixFraction_23 rfl (by decide) (by decide) hK
set_option maxRecDepth 100000 in
set_option maxHeartbeats 4000000 in
theorem w_X8_mixValues {Φ : gwC} {hb : gwHp} {M : Nat} {sh : Nat → Option gSh} {th : Nat} {p1 : Int} {c : W0} {r : Int × W0} {K : Option Value → gwHp → Prop} (h0 : sD sh th) (H : f_X8_mixValues th p1 c = some r) (hK : K (some (vL r.1)) (hp Φ hb M sh r.2)) : gw_Con Φ mX8_mixValues none [.ref (M + th), vL p1] (hp Φ hb M sh c) K := by
  unfold f_X8_mixValues at H
  refine gw_start okX8_mixValues (Nat.le_of_ble_eq_true rfl) ?_
  refine gw_lload_n dX8_mixValues_0 rfl rfl ?_
  refine gw_aload_n dX8_mixValues_1 rfl rfl ?_
  refine gs_getR cl8 0 dX8_mixValues_2 rfl kw_328 (by decide) (h0.1) rfl ?_
  refine gs_getRN cl4 1 dX8_mixValues_5 rfl kw_212 (by decide) (h0.2.1.1) rfl ?_
  obtain ⟨v1, e_v1, H⟩ := cv_i H
  refine gw_V0 okX6_worth dX8_mixValues_8 kw_610 kw_611 kw_612 (hp_o (h0.2.1.2.2.1)) rfl ⟨by decide, by decide⟩ ⟨by decide, by decide⟩ (Nat.le_of_ble_eq_true rfl) (w_X6_worth (h0.2.1.2.2) e_v1 ?_)
  refine gw_aload_n dX8_mixValues_11 rfl rfl ?_
  refine gs_getR cl8 0 dX8_mixValues_12 rfl kw_328 (by decide) (h0.1) rfl ?_
  refine gs_getRN cl4 1 dX8_mixValues_15 rfl kw_212 (by decide) (h0.2.1.1) rfl ?_
  refine gs_getLN cl6 2 2 dX8_mixValues_18 rfl kw_193 (by decide) (h0.2.1.2.2.1) rfl rfl ?_
  obtain ⟨v2, e_v2, H⟩ := cv_i H
  refine gw_S3 okX8_mixFraction dX8_mixValues_21 kw_755 kw_756 ⟨by decide, by decide⟩ ⟨by decide, by decide⟩ (Nat.le_of_ble_eq_true rfl) (w_X8_mixFraction  e_v2 ?_)
  refine gw_lstore_n dX8_mixValues_24 rfl (by decide) ?_
  refine gw_lload_n dX8_mixValues_25 rfl rfl ?_
  refine gw_aload_n dX8_mixValues_26 rfl rfl ?_
  refine gs_getR cl8 0 dX8_mixValues_27 rfl kw_328 (by decide) (h0.1) rfl ?_
  obtain ⟨v3, e_v3, H⟩ := cv_i H
  refine gw_V0 okX4_dualWorth dX8_mixValues_30 kw_640 kw_641 kw_642 (hp_o (h0.2.1.1)) rfl ⟨by decide, by decide⟩ ⟨by decide, by decide⟩ (Nat.le_of_ble_eq_true rfl) (w_X4_dualWorth (h0.2.1) e_v3 ?_)
  refine gw_aload_n dX8_mixValues_33 rfl rfl ?_
  refine gs_getR cl8 0 dX8_mixValues_34 rfl kw_328 (by decide) (h0.1) rfl ?_
  refine gs_getRN cl4 1 dX8_mixValues_37 rfl kw_212 (by decide) (h0.2.1.1) rfl ?_
  refine gs_getLN cl6 2 2 dX8_mixValues_40 rfl kw_193 (by decide) (h0.2.1.2.2.1) rfl rfl ?_
  obtain ⟨v4, e_v4, H⟩ := cv_i H
  refine gw_S3 okX8_mixFraction dX8_mixValues_43 kw_755 kw_756 ⟨by decide, by decide⟩ ⟨by decide, by decide⟩ (Nat.le_of_ble_eq_true rfl) (w_X8_mixFraction  e_v4 ?_)
  refine gw_lstore_n dX8_mixValues_46 rfl (by decide) ?_
  refine gw_aload_n dX8_mixValues_47 rfl rfl ?_
  refine gs_getR cl8 8 dX8_mixValues_48 rfl kw_336 (by decide) (h0.1) rfl ?_
  refine gw_aload_n dX8_mixValues_51 rfl rfl ?_
  refine gs_getR cl8 0 dX8_mixValues_52 rfl kw_328 (by decide) (h0.1) rfl ?_
  refine gs_getRN cl4 0 dX8_mixValues_55 rfl kw_208 (by decide) (h0.2.1.1) rfl ?_
  obtain ⟨v6, c5, e_c5, H⟩ := cl_i H
  refine gw_V1 okX5_look dX8_mixValues_58 kw_658 kw_659 kw_660 (hp_o (h0.2.2.2.2.2.2.2.2.2.1.1)) rfl ⟨by decide, by decide⟩ ⟨by decide, by decide⟩ (Nat.le_of_ble_eq_true rfl) (w_X5_look (h0.2.2.2.2.2.2.2.2.2.1) (h0.2.1.2.1) e_c5 ?_)
  refine gw_lload_n dX8_mixValues_61 rfl rfl ?_
  refine gw_aload_n dX8_mixValues_62 rfl rfl ?_
  refine gs_getR cl8 8 dX8_mixValues_63 rfl kw_336 (by decide) (h0.1) rfl ?_
  refine gs_getIN cl5 2 2 dX8_mixValues_66 rfl kw_308 (by decide) (h0.2.2.2.2.2.2.2.2.2.1.1) rfl rfl ?_
  obtain ⟨g, H⟩ := gd_i H
  refine gw_i2lZ dX8_mixValues_69 rfl g ?_
  obtain ⟨v7, e_v7, H⟩ := cv_i H
  refine gw_S2 okX8_mix dX8_mixValues_70 kw_742 kw_743 ⟨by decide, by decide⟩ ⟨by decide, by decide⟩ (Nat.le_of_ble_eq_true rfl) (w_X8_mix  e_v7 ?_)
  refine gw_lstore_n dX8_mixValues_73 rfl (by decide) ?_
  refine gw_lload_n dX8_mixValues_74 rfl rfl ?_
  refine gw_aload_n dX8_mixValues_75 rfl rfl ?_
  refine gs_getR cl8 8 dX8_mixValues_76 rfl kw_336 (by decide) (h0.1) rfl ?_
  refine gs_getIN cl5 3 3 dX8_mixValues_79 rfl kw_310 (by decide) (h0.2.2.2.2.2.2.2.2.2.1.1) rfl rfl ?_
  obtain ⟨g, H⟩ := gd_i H
  refine gw_i2lZ dX8_mixValues_82 rfl g ?_
  obtain ⟨v8, e_v8, H⟩ := cv_i H
  refine gw_S2 okX8_mix dX8_mixValues_83 kw_742 kw_743 ⟨by decide, by decide⟩ ⟨by decide, by decide⟩ (Nat.le_of_ble_eq_true rfl) (w_X8_mix  e_v8 ?_)
  refine gw_lstore_n dX8_mixValues_86 rfl (by decide) ?_
  refine gw_lload_n dX8_mixValues_87 rfl rfl ?_
  refine gw_aload_n dX8_mixValues_88 rfl rfl ?_
  refine gs_getR cl8 8 dX8_mixValues_89 rfl kw_336 (by decide) (h0.1) rfl ?_
  refine gs_getLN cl5 4 4 dX8_mixValues_92 rfl kw_312 (by decide) (h0.2.2.2.2.2.2.2.2.2.1.1) rfl rfl ?_
  obtain ⟨v9, e_v9, H⟩ := cv_i H
  refine gw_S2 okX8_mix dX8_mixValues_95 kw_742 kw_743 ⟨by decide, by decide⟩ ⟨by decide, by decide⟩ (Nat.le_of_ble_eq_true rfl) (w_X8_mix  e_v9 ?_)
  refine gw_lstore_n dX8_mixValues_98 rfl (by decide) ?_
  refine gw_lload_n dX8_mixValues_99 rfl rfl ?_
  refine gw_aload_n dX8_mixValues_100 rfl rfl ?_
  refine gs_getR cl8 8 dX8_mixValues_101 rfl kw_336 (by decide) (h0.1) rfl ?_
  refine gs_getLN cl5 5 5 dX8_mixValues_104 rfl kw_314 (by decide) (h0.2.2.2.2.2.2.2.2.2.1.1) rfl rfl ?_
  obtain ⟨v10, e_v10, H⟩ := cv_i H
  refine gw_S2 okX8_mix dX8_mixValues_107 kw_742 kw_743 ⟨by decide, by decide⟩ ⟨by decide, by decide⟩ (Nat.le_of_ble_eq_true rfl) (w_X8_mix  e_v10 ?_)
  cases H
  exact gw_lret dX8_mixValues_110 rfl (by decide) (by decide) hK
set_option maxRecDepth 100000 in
set_option maxHeartbeats 4000000 in
theorem l_X8_mixProblem_5 {Φ : gwC} {hb : gwHp} {M : Nat} {sh : Nat → Option gSh} {th : Nat} {c : W0} {κ : Int → Option (Int × W0)} {r : Int × W0} {K : Option Value → gwHp → Prop} (h0 : sD sh th) (hK : K (some (vL r.1)) (hp Φ hb M sh r.2)) (hκ : ∀ (x3 : Int), κ x3 = some r → G Φ mX8_mixProblem (gw_M Φ mX8_mixProblem K) none 0 0 44 [(0, .ref (M + th)), (3, vL x3)] [] (hp Φ hb M sh c)) : ∀ (n : Nat) (l3 : Int) (l5 : Int), f_X8_mixProblem_5 th c κ n l3 l5 = some r → G Φ mX8_mixProblem (gw_M Φ mX8_mixProblem K) none 0 0 5 [(0, .ref (M + th)), (3, vL l3), (5, vI l5)] [] (hp Φ hb M sh c) := by
  intro n
  induction n with
  | zero => intro l3 l5 H; cases H
  | succ n ih =>
    intro l3 l5 H
    have H : b_X8_mixProblem_5 th c κ (f_X8_mixProblem_5 th c κ n) l3 l5 = some r := H
    unfold b_X8_mixProblem_5 at H
    refine gw_iload dX8_mixProblem_5 rfl rfl ?_
    refine gw_aload_n dX8_mixProblem_7 rfl rfl ?_
    refine gs_getR cl8 0 dX8_mixProblem_8 rfl kw_328 (by decide) (h0.1) rfl ?_
    refine gs_getRN cl4 0 dX8_mixProblem_11 rfl kw_208 (by decide) (h0.2.1.1) rfl ?_
    refine gs_getIN cl2 0 0 dX8_mixProblem_14 rfl kw_159 (by decide) (h0.2.1.2.1.1) rfl rfl ?_
    obtain ⟨g, H⟩ := gd_i H
    refine gw_icmp_geZ (tgt := 44) dX8_mixProblem_17 rfl (by decide) g.1 g.2 (fun q => ?_) (fun q => ?_)
    · have H := bq_t q H
      exact gw_L (hκ _ H) ((lvA_c rfl (lvA_c rfl lvA_n)))
    · have H := bq_f q H
      refine gw_lload_n dX8_mixProblem_20 rfl rfl ?_
      refine gw_aload_n dX8_mixProblem_21 rfl rfl ?_
      refine gs_getR cl8 0 dX8_mixProblem_22 rfl kw_328 (by decide) (h0.1) rfl ?_
      refine gs_getRN cl4 0 dX8_mixProblem_25 rfl kw_208 (by decide) (h0.2.1.1) rfl ?_
      refine gw_iload dX8_mixProblem_28 rfl rfl ?_
      obtain ⟨v1, e_v1, H⟩ := cv_i H
      refine gw_V1 okX2_profit dX8_mixProblem_30 kw_763 kw_427 kw_428 (hp_o (h0.2.1.2.1.1)) rfl ⟨by decide, by decide⟩ ⟨by decide, by decide⟩ (Nat.le_of_ble_eq_true rfl) (w_X2_profit (h0.2.1.2.1) e_v1 ?_)
      obtain ⟨g, H⟩ := gd_i H
      refine gw_i2lZ dX8_mixProblem_33 rfl g ?_
      obtain ⟨v2, e_v2, H⟩ := cv_i H
      refine gw_S2 okX8_mix dX8_mixProblem_34 kw_742 kw_743 ⟨by decide, by decide⟩ ⟨by decide, by decide⟩ (Nat.le_of_ble_eq_true rfl) (w_X8_mix  e_v2 ?_)
      refine gw_lstore_n dX8_mixProblem_37 rfl (by decide) ?_
      refine gw_iincZ dX8_mixProblem_38 rfl rfl (by decide) ?_
      refine gw_goto (tgt := 5) dX8_mixProblem_41 (by decide) ?_
      exact gw_L (ih _ _ H) ((lvA_c rfl (lvA_c rfl (lvA_c rfl lvA_n))))
set_option maxRecDepth 100000 in
set_option maxHeartbeats 4000000 in
theorem l_X8_mixProblem_77 {cells slots : Nat} {Φ : gwC} {hb : gwHp} {M : Nat} {sh : Nat → Option gSh} {th : Nat} {l5 : Int} {c : W0} {κ : Int → Option (Int × W0)} {r : Int × W0} {K : Option Value → gwHp → Prop} (h0 : sD sh th) (hcl : cells ≤ 8) (hsl : slots ≤ 48) (hK : K (some (vL r.1)) (hp Φ hb M sh r.2)) (hκ : ∀ (x3 : Int), κ x3 = some r → G Φ mX8_mixProblem (gw_M Φ mX8_mixProblem K) none cells slots 118 [(0, .ref (M + th)), (3, vL x3), (5, vI l5)] [] (hp Φ hb M sh c)) : ∀ (n : Nat) (l3 : Int) (l6 : Int), f_X8_mixProblem_77 th l5 c κ n l3 l6 = some r → G Φ mX8_mixProblem (gw_M Φ mX8_mixProblem K) none cells slots 77 [(0, .ref (M + th)), (3, vL l3), (5, vI l5), (6, vI l6)] [] (hp Φ hb M sh c) := by
  intro n
  induction n with
  | zero => intro l3 l6 H; cases H
  | succ n ih =>
    intro l3 l6 H
    have H : b_X8_mixProblem_77 th l5 c κ (f_X8_mixProblem_77 th l5 c κ n) l3 l6 = some r := H
    unfold b_X8_mixProblem_77 at H
    refine gw_iload dX8_mixProblem_77 rfl rfl ?_
    refine gw_aload_n dX8_mixProblem_79 rfl rfl ?_
    refine gs_getR cl8 0 dX8_mixProblem_80 rfl kw_328 (by decide) (h0.1) rfl ?_
    refine gs_getRN cl4 0 dX8_mixProblem_83 rfl kw_208 (by decide) (h0.2.1.1) rfl ?_
    refine gs_getIN cl2 0 0 dX8_mixProblem_86 rfl kw_159 (by decide) (h0.2.1.2.1.1) rfl rfl ?_
    obtain ⟨g, H⟩ := gd_i H
    refine gw_icmp_geZ (tgt := 118) dX8_mixProblem_89 rfl (by decide) g.1 g.2 (fun q => ?_) (fun q => ?_)
    · have H := bq_t q H
      exact gw_L (hκ _ H) ((lvA_c rfl (lvA_c rfl (lvA_c rfl lvA_n))))
    · have H := bq_f q H
      refine gw_lload_n dX8_mixProblem_92 rfl rfl ?_
      refine gw_aload_n dX8_mixProblem_93 rfl rfl ?_
      refine gs_getR cl8 0 dX8_mixProblem_94 rfl kw_328 (by decide) (h0.1) rfl ?_
      refine gs_getRN cl4 0 dX8_mixProblem_97 rfl kw_208 (by decide) (h0.2.1.1) rfl ?_
      refine gw_iload dX8_mixProblem_100 rfl rfl ?_
      refine gw_iload dX8_mixProblem_102 rfl rfl ?_
      obtain ⟨v1, e_v1, H⟩ := cv_i H
      refine gw_V2 okX2_coefficient dX8_mixProblem_104 kw_773 kw_411 kw_412 (hp_o (h0.2.1.2.1.1)) rfl ⟨by decide, by decide⟩ ⟨by show cells + 0 ≤ 8; omega, by show slots + 0 ≤ 48; omega⟩ (Nat.le_of_ble_eq_true rfl) (w_X2_coefficient (h0.2.1.2.1) e_v1 ?_)
      obtain ⟨g, H⟩ := gd_i H
      refine gw_i2lZ dX8_mixProblem_107 rfl g ?_
      obtain ⟨v2, e_v2, H⟩ := cv_i H
      refine gw_S2 okX8_mix dX8_mixProblem_108 kw_742 kw_743 ⟨by decide, by decide⟩ ⟨by show cells + 0 + 0 ≤ 8; omega, by show slots + 0 + 0 ≤ 48; omega⟩ (Nat.le_of_ble_eq_true rfl) (w_X8_mix  e_v2 ?_)
      refine gw_lstore_n dX8_mixProblem_111 rfl (by decide) ?_
      refine gw_iincZ dX8_mixProblem_112 rfl rfl (by decide) ?_
      refine gw_goto (tgt := 77) dX8_mixProblem_115 (by decide) ?_
      exact gw_L (ih _ _ H) ((lvA_c rfl (lvA_c rfl (lvA_c rfl (lvA_c rfl lvA_n)))))
theorem n_X8_mixProblem_77 {th : Nat} {l5 : Int} {c : W0} {κ : Int → Option (Int × W0)} {r : Int × W0} (hκ : ∀ v, κ v = some r → False) : ∀ (n : Nat) (l3 : Int) (l6 : Int), f_X8_mixProblem_77 th l5 c κ n l3 l6 = some r → False := by
  intro n
  induction n with
  | zero => intro l3 l6 H; cases H
  | succ n ih =>
    intro l3 l6 H
    have H : b_X8_mixProblem_77 th l5 c κ (f_X8_mixProblem_77 th l5 c κ n) l3 l6 = some r := H
    unfold b_X8_mixProblem_77 at H
    obtain ⟨_, H⟩ := gd_i H
    by_cases q : (c (th + 2) 0) ≤ l6
    · exact hκ _ (bq_t q H)
    · have H := bq_f q H
      obtain ⟨_, _, H⟩ := cv_i H
      obtain ⟨_, H⟩ := gd_i H
      obtain ⟨_, _, H⟩ := cv_i H
      exact ih _ _ H
set_option maxRecDepth 100000 in
set_option maxHeartbeats 4000000 in
theorem l_X8_mixProblem_59 {n0 : Nat} {Φ : gwC} {hb : gwHp} {M : Nat} {sh : Nat → Option gSh} {th : Nat} {κ : Int → W0 → Option (Int × W0)} {r : Int × W0} {K : Option Value → gwHp → Prop} (h0 : sD sh th) (hK : K (some (vL r.1)) (hp Φ hb M sh r.2)) (hκ : ∀ (x3 : Int) (c : W0), κ x3 c = some r → G Φ mX8_mixProblem (gw_M Φ mX8_mixProblem K) none 8 48 211 [(3, vL x3)] [] (hp Φ hb M sh c)) (hn : n0 = 5) : ∀ (n : Nat), n ≤ 4 → ∀ (l3 : Int) (l5 : Int) (c : W0), f_X8_mixProblem_59 th κ (n + 1) l3 l5 c = some r → G Φ mX8_mixProblem (gw_M Φ mX8_mixProblem K) none (8 - 2 * n) (48 - 12 * n) 59 [(0, .ref (M + th)), (3, vL l3), (5, vI l5)] [] (hp Φ hb M sh c) := by
  intro n
  induction n with
  | zero =>
    intro _ l3 l5 c H
    have H : b_X8_mixProblem_59 th κ (f_X8_mixProblem_59 th κ 0) l3 l5 c = some r := H
    unfold b_X8_mixProblem_59 at H
    refine gw_iload dX8_mixProblem_59 rfl rfl ?_
    refine gw_aload_n dX8_mixProblem_61 rfl rfl ?_
    refine gs_getR cl8 0 dX8_mixProblem_62 rfl kw_328 (by decide) (h0.1) rfl ?_
    refine gs_getRN cl4 0 dX8_mixProblem_65 rfl kw_208 (by decide) (h0.2.1.1) rfl ?_
    refine gs_getIN cl2 1 1 dX8_mixProblem_68 rfl kw_167 (by decide) (h0.2.1.2.1.1) rfl rfl ?_
    obtain ⟨g, H⟩ := gd_i H
    refine gw_icmp_geZ (tgt := 211) dX8_mixProblem_71 rfl (by decide) g.1 g.2 (fun q => ?_) (fun q => ?_)
    · have H := bq_t q H
      refine gw_W9 (k := 8) (n := 48) (by omega) (by omega) ?_
      exact gw_L (hκ _ _ H) ((lvA_c rfl lvA_n))
    · have H := bq_f q H
      exfalso
      refine n_X8_mixProblem_77 (fun v1 H => ?_) LF _ _ H
      obtain ⟨_, _, H⟩ := cv_i H
      obtain ⟨_, H⟩ := gd_i H
      obtain ⟨_, _, H⟩ := cv_i H
      obtain ⟨_, _, H⟩ := cv_i H
      obtain ⟨_, _, H⟩ := cv_i H
      obtain ⟨_, _, H⟩ := cv_i H
      obtain ⟨_, _, H⟩ := cv_i H
      obtain ⟨_, _, _, H⟩ := cn_i H
      obtain ⟨_, H⟩ := gd_i H
      obtain ⟨_, _, H⟩ := cv_i H
      obtain ⟨_, _, _, H⟩ := cn_i H
      obtain ⟨_, H⟩ := gd_i H
      obtain ⟨_, _, H⟩ := cv_i H
      cases H
  | succ n ih =>
    intro hn4 l3 l5 c H
    have H : b_X8_mixProblem_59 th κ (f_X8_mixProblem_59 th κ (n + 1)) l3 l5 c = some r := H
    unfold b_X8_mixProblem_59 at H
    refine gw_iload dX8_mixProblem_59 rfl rfl ?_
    refine gw_aload_n dX8_mixProblem_61 rfl rfl ?_
    refine gs_getR cl8 0 dX8_mixProblem_62 rfl kw_328 (by decide) (h0.1) rfl ?_
    refine gs_getRN cl4 0 dX8_mixProblem_65 rfl kw_208 (by decide) (h0.2.1.1) rfl ?_
    refine gs_getIN cl2 1 1 dX8_mixProblem_68 rfl kw_167 (by decide) (h0.2.1.2.1.1) rfl rfl ?_
    obtain ⟨g, H⟩ := gd_i H
    refine gw_icmp_geZ (tgt := 211) dX8_mixProblem_71 rfl (by decide) g.1 g.2 (fun q => ?_) (fun q => ?_)
    · have H := bq_t q H
      refine gw_W9 (k := 8) (n := 48) (by omega) (by omega) ?_
      exact gw_L (hκ _ _ H) ((lvA_c rfl lvA_n))
    · have H := bq_f q H
      refine gw_iconstZ dX8_mixProblem_74 rfl ?_
      refine gw_istore dX8_mixProblem_75 rfl (by decide) ?_
      refine gw_L (l_X8_mixProblem_77 h0 (by omega) (by omega) hK (fun v1 H => ?_) LF _ _ H) ((lvA_c rfl (lvA_c rfl (lvA_c rfl (lvA_c rfl lvA_n)))))
      refine gw_lload_n dX8_mixProblem_118 rfl rfl ?_
      refine gw_aload_n dX8_mixProblem_119 rfl rfl ?_
      refine gs_getR cl8 0 dX8_mixProblem_120 rfl kw_328 (by decide) (h0.1) rfl ?_
      refine gs_getRN cl4 0 dX8_mixProblem_123 rfl kw_208 (by decide) (h0.2.1.1) rfl ?_
      refine gw_iload dX8_mixProblem_126 rfl rfl ?_
      obtain ⟨v2, e_v2, H⟩ := cv_i H
      refine gw_V1 okX2_bound dX8_mixProblem_128 kw_774 kw_419 kw_420 (hp_o (h0.2.1.2.1.1)) rfl ⟨by decide, by decide⟩ ⟨by show 8 - 2 * (n + 1) + 0 ≤ 8; omega, by show 48 - 12 * (n + 1) + 0 ≤ 48; omega⟩ (Nat.le_of_ble_eq_true rfl) (w_X2_bound (h0.2.1.2.1) e_v2 ?_)
      obtain ⟨g, H⟩ := gd_i H
      refine gw_i2lZ dX8_mixProblem_131 rfl g ?_
      obtain ⟨v3, e_v3, H⟩ := cv_i H
      refine gw_S2 okX8_mix dX8_mixProblem_132 kw_742 kw_743 ⟨by decide, by decide⟩ ⟨by show 8 - 2 * (n + 1) + 0 + 0 ≤ 8; omega, by show 48 - 12 * (n + 1) + 0 + 0 ≤ 48; omega⟩ (Nat.le_of_ble_eq_true rfl) (w_X8_mix  e_v3 ?_)
      refine gw_lstore_n dX8_mixProblem_135 rfl (by decide) ?_
      refine gw_lload_n dX8_mixProblem_136 rfl rfl ?_
      refine gw_aload_n dX8_mixProblem_137 rfl rfl ?_
      refine gs_getR cl8 0 dX8_mixProblem_138 rfl kw_328 (by decide) (h0.1) rfl ?_
      refine gw_iload dX8_mixProblem_141 rfl rfl ?_
      obtain ⟨v4, e_v4, H⟩ := cv_i H
      refine gw_V1 okX4_dual dX8_mixProblem_143 kw_775 kw_645 kw_646 (hp_o (h0.2.1.1)) rfl ⟨by decide, by decide⟩ ⟨by show 8 - 2 * (n + 1) + 0 + 0 + 0 ≤ 8; omega, by show 48 - 12 * (n + 1) + 0 + 0 + 0 ≤ 48; omega⟩ (Nat.le_of_ble_eq_true rfl) (w_X4_dual (h0.2.1) e_v4 ?_)
      refine gw_aload_n dX8_mixProblem_146 rfl rfl ?_
      refine gs_getR cl8 0 dX8_mixProblem_147 rfl kw_328 (by decide) (h0.1) rfl ?_
      refine gs_getRN cl4 1 dX8_mixProblem_150 rfl kw_212 (by decide) (h0.2.1.1) rfl ?_
      refine gs_getLN cl6 2 2 dX8_mixProblem_153 rfl kw_193 (by decide) (h0.2.1.2.2.1) rfl rfl ?_
      obtain ⟨v5, e_v5, H⟩ := cv_i H
      refine gw_S3 okX8_mixFraction dX8_mixProblem_156 kw_755 kw_756 ⟨by decide, by decide⟩ ⟨by show 8 - 2 * (n + 1) + 0 + 0 + 0 + 0 ≤ 8; omega, by show 48 - 12 * (n + 1) + 0 + 0 + 0 + 0 ≤ 48; omega⟩ (Nat.le_of_ble_eq_true rfl) (w_X8_mixFraction  e_v5 ?_)
      refine gw_lstore_n dX8_mixProblem_159 rfl (by decide) ?_
      refine gw_lload_n dX8_mixProblem_160 rfl rfl ?_
      refine gw_aload_n dX8_mixProblem_161 rfl rfl ?_
      refine gs_getR cl8 7 dX8_mixProblem_162 rfl kw_335 (by decide) (h0.1) rfl ?_
      refine gw_iload dX8_mixProblem_165 rfl rfl ?_
      obtain ⟨v6, e_v6, H⟩ := cv_i H
      refine gw_V1 okX0_unknown dX8_mixProblem_167 kw_776 kw_697 kw_698 (hp_o (h0.2.2.2.2.2.2.2.2.1.1)) rfl ⟨by decide, by decide⟩ ⟨by show 8 - 2 * (n + 1) + 0 + 0 + 0 + 0 + 0 ≤ 8; omega, by show 48 - 12 * (n + 1) + 0 + 0 + 0 + 0 + 0 ≤ 48; omega⟩ (Nat.le_of_ble_eq_true rfl) (w_X0_unknown (h0.2.2.2.2.2.2.2.2.1) e_v6 ?_)
      refine gw_aload_n dX8_mixProblem_170 rfl rfl ?_
      refine gs_getR cl8 7 dX8_mixProblem_171 rfl kw_335 (by decide) (h0.1) rfl ?_
      refine gs_getLN cl0 1 1 dX8_mixProblem_174 rfl kw_286 (by decide) (h0.2.2.2.2.2.2.2.2.1.1) rfl rfl ?_
      obtain ⟨v7, e_v7, H⟩ := cv_i H
      refine gw_S3 okX8_mixFraction dX8_mixProblem_177 kw_755 kw_756 ⟨by decide, by decide⟩ ⟨by show 8 - 2 * (n + 1) + 0 + 0 + 0 + 0 + 0 + 0 ≤ 8; omega, by show 48 - 12 * (n + 1) + 0 + 0 + 0 + 0 + 0 + 0 ≤ 48; omega⟩ (Nat.le_of_ble_eq_true rfl) (w_X8_mixFraction  e_v7 ?_)
      refine gw_lstore_n dX8_mixProblem_180 rfl (by decide) ?_
      refine gw_lload_n dX8_mixProblem_181 rfl rfl ?_
      refine gw_aload_n dX8_mixProblem_182 rfl rfl ?_
      refine gw_iload dX8_mixProblem_183 rfl rfl ?_
      obtain ⟨v8, c9, e_c9, H⟩ := cn_i H
      refine gw_VX1 okX8_leastBound dX8_mixProblem_185 kw_777 kw_778 kw_779 (hp_o (h0.1)) rfl ⟨by decide, by decide⟩ ⟨by show 8 - 2 * (n + 1) + 0 + 0 + 0 + 0 + 0 + 0 + 1 ≤ 8; omega, by show 48 - 12 * (n + 1) + 0 + 0 + 0 + 0 + 0 + 0 + 6 ≤ 48; omega⟩ (Nat.le_of_ble_eq_true rfl) (w_X8_leastBound (h0) e_c9 (fun _ => ?_) (fun z => absurd rfl z))
      obtain ⟨g, H⟩ := gd_i H
      refine gw_i2lZ dX8_mixProblem_188 rfl g ?_
      obtain ⟨v10, e_v10, H⟩ := cv_i H
      refine gw_S2 okX8_mix dX8_mixProblem_189 kw_742 kw_743 ⟨by decide, by decide⟩ ⟨by show 8 - 2 * (n + 1) + 0 + 0 + 0 + 0 + 0 + 0 + 1 + 0 ≤ 8; omega, by show 48 - 12 * (n + 1) + 0 + 0 + 0 + 0 + 0 + 0 + 6 + 0 ≤ 48; omega⟩ (Nat.le_of_ble_eq_true rfl) (w_X8_mix  e_v10 ?_)
      refine gw_lstore_n dX8_mixProblem_192 rfl (by decide) ?_
      refine gw_lload_n dX8_mixProblem_193 rfl rfl ?_
      refine gw_aload_n dX8_mixProblem_194 rfl rfl ?_
      refine gw_iload dX8_mixProblem_195 rfl rfl ?_
      obtain ⟨v11, c12, e_c12, H⟩ := cn_i H
      refine gw_VX1 okX8_greatestBound dX8_mixProblem_197 kw_866 kw_867 kw_868 (hp_o (h0.1)) rfl ⟨by decide, by decide⟩ ⟨by show 8 - 2 * (n + 1) + 0 + 0 + 0 + 0 + 0 + 0 + 1 + 0 + 1 ≤ 8; omega, by show 48 - 12 * (n + 1) + 0 + 0 + 0 + 0 + 0 + 0 + 6 + 0 + 6 ≤ 48; omega⟩ (Nat.le_of_ble_eq_true rfl) (w_X8_greatestBound (h0) e_c12 (fun _ => ?_) (fun z => absurd rfl z))
      obtain ⟨g, H⟩ := gd_i H
      refine gw_i2lZ dX8_mixProblem_200 rfl g ?_
      obtain ⟨v13, e_v13, H⟩ := cv_i H
      refine gw_S2 okX8_mix dX8_mixProblem_201 kw_742 kw_743 ⟨by decide, by decide⟩ ⟨by show 8 - 2 * (n + 1) + 0 + 0 + 0 + 0 + 0 + 0 + 1 + 0 + 1 + 0 ≤ 8; omega, by show 48 - 12 * (n + 1) + 0 + 0 + 0 + 0 + 0 + 0 + 6 + 0 + 6 + 0 ≤ 48; omega⟩ (Nat.le_of_ble_eq_true rfl) (w_X8_mix  e_v13 ?_)
      refine gw_lstore_n dX8_mixProblem_204 rfl (by decide) ?_
      refine gw_iincZ dX8_mixProblem_205 rfl rfl (by decide) ?_
      refine gw_goto (tgt := 59) dX8_mixProblem_208 (by decide) ?_
      refine gw_W9 (k := 8 - 2 * n) (n := 48 - 12 * n) (by show 8 - 2 * (n + 1) + 0 + 0 + 0 + 0 + 0 + 0 + 1 + 0 + 1 + 0 ≤ 8 - 2 * n; omega) (by show 48 - 12 * (n + 1) + 0 + 0 + 0 + 0 + 0 + 0 + 6 + 0 + 6 + 0 ≤ 48 - 12 * n; omega) ?_
      exact gw_L (ih (by omega) _ _ _ H) ((lvA_c rfl (lvA_c rfl (lvA_c rfl lvA_n))))
set_option maxRecDepth 100000 in
set_option maxHeartbeats 4000000 in
theorem w_X8_mixProblem {Φ : gwC} {hb : gwHp} {M : Nat} {sh : Nat → Option gSh} {th : Nat} {p1 : Int} {c : W0} {r : Int × W0} {K : Option Value → gwHp → Prop} (h0 : sD sh th) (H : f_X8_mixProblem th p1 c = some r) (hK : K (some (vL r.1)) (hp Φ hb M sh r.2)) : gw_Con Φ mX8_mixProblem none [.ref (M + th), vL p1] (hp Φ hb M sh c) K := by
  unfold f_X8_mixProblem at H
  refine gw_start okX8_mixProblem (Nat.le_of_ble_eq_true rfl) ?_
  refine gw_lload_n dX8_mixProblem_0 rfl rfl ?_
  refine gw_lstore_n dX8_mixProblem_1 rfl (by decide) ?_
  refine gw_iconstZ dX8_mixProblem_2 rfl ?_
  refine gw_istore dX8_mixProblem_3 rfl (by decide) ?_
  refine gw_L (l_X8_mixProblem_5 h0 hK (fun v1 H => ?_) LF _ _ H) ((lvA_c rfl (lvA_c rfl (lvA_c rfl lvA_n))))
  refine gw_aload_n dX8_mixProblem_44 rfl rfl ?_
  refine gs_getR cl8 7 dX8_mixProblem_45 rfl kw_335 (by decide) (h0.1) rfl ?_
  refine gw_aload_n dX8_mixProblem_48 rfl rfl ?_
  refine gs_getR cl8 0 dX8_mixProblem_49 rfl kw_328 (by decide) (h0.1) rfl ?_
  obtain ⟨v2, c3, e_c3, H⟩ := cl_i H
  refine gw_V1 okX0_solveDuals dX8_mixProblem_52 kw_764 kw_765 kw_766 (hp_o (h0.2.2.2.2.2.2.2.2.1.1)) rfl ⟨by decide, by decide⟩ ⟨by decide, by decide⟩ (Nat.le_of_ble_eq_true rfl) (w_X0_solveDuals (h0.2.2.2.2.2.2.2.2.1) (h0.2.1) e_c3 ?_)
  refine gw_pop dX8_mixProblem_55 rfl rfl ?_
  refine gw_iconstZ dX8_mixProblem_56 rfl ?_
  refine gw_istore dX8_mixProblem_57 rfl (by decide) ?_
  refine gw_L (l_X8_mixProblem_59 h0 hK (fun v4 c5 H => ?_) rfl 4 (by decide) _ _ _ H) ((lvA_c rfl (lvA_c rfl (lvA_c rfl lvA_n))))
  refine gw_lload_n dX8_mixProblem_211 rfl rfl ?_
  cases H
  exact gw_lret dX8_mixProblem_212 rfl (by decide) (by decide) hK
set_option maxRecDepth 100000 in
set_option maxHeartbeats 4000000 in
theorem l_X8_mixColumns_5 {Φ : gwC} {hb : gwHp} {M : Nat} {sh : Nat → Option gSh} {th : Nat} {c : W0} {κ : Int → Option Int} {r : Int} {K : Option Value → gwHp → Prop} (h0 : sD sh th) (hK : K (some (vL r)) (hp Φ hb M sh c)) (hκ : ∀ (x3 : Int), κ x3 = some r → G Φ mX8_mixColumns (gw_M Φ mX8_mixColumns K) none 0 0 105 [(3, vL x3)] [] (hp Φ hb M sh c)) : ∀ (n : Nat) (l3 : Int) (l5 : Int), f_X8_mixColumns_5 th c κ n l3 l5 = some r → G Φ mX8_mixColumns (gw_M Φ mX8_mixColumns K) none 0 0 5 [(0, .ref (M + th)), (3, vL l3), (5, vI l5)] [] (hp Φ hb M sh c) := by
  intro n
  induction n with
  | zero => intro l3 l5 H; cases H
  | succ n ih =>
    intro l3 l5 H
    have H : b_X8_mixColumns_5 th c κ (f_X8_mixColumns_5 th c κ n) l3 l5 = some r := H
    unfold b_X8_mixColumns_5 at H
    refine gw_iload dX8_mixColumns_5 rfl rfl ?_
    refine gw_aload_n dX8_mixColumns_7 rfl rfl ?_
    refine gs_getR cl8 0 dX8_mixColumns_8 rfl kw_328 (by decide) (h0.1) rfl ?_
    refine gs_getRN cl4 1 dX8_mixColumns_11 rfl kw_212 (by decide) (h0.2.1.1) rfl ?_
    refine gs_getIN cl6 1 1 dX8_mixColumns_14 rfl kw_191 (by decide) (h0.2.1.2.2.1) rfl rfl ?_
    obtain ⟨g, H⟩ := gd_i H
    refine gw_icmp_geZ (tgt := 105) dX8_mixColumns_17 rfl (by decide) g.1 g.2 (fun q => ?_) (fun q => ?_)
    · have H := bq_t q H
      exact gw_L (hκ _ H) ((lvA_c rfl lvA_n))
    · have H := bq_f q H
      refine gw_lload_n dX8_mixColumns_20 rfl rfl ?_
      refine gw_aload_n dX8_mixColumns_21 rfl rfl ?_
      refine gs_getR cl8 0 dX8_mixColumns_22 rfl kw_328 (by decide) (h0.1) rfl ?_
      refine gs_getRN cl4 1 dX8_mixColumns_25 rfl kw_212 (by decide) (h0.2.1.1) rfl ?_
      refine gw_iload dX8_mixColumns_28 rfl rfl ?_
      obtain ⟨v1, e_v1, H⟩ := cv_i H
      refine gw_V1 okX6_rowNaming dX8_mixColumns_30 kw_879 kw_880 kw_881 (hp_o (h0.2.1.2.2.1)) rfl ⟨by decide, by decide⟩ ⟨by decide, by decide⟩ (Nat.le_of_ble_eq_true rfl) (w_X6_rowNaming (h0.2.1.2.2) e_v1 ?_)
      obtain ⟨g, H⟩ := gd_i H
      obtain ⟨k2, e_k2, H⟩ := jn_i H
      have hJ : ∀ (v3 : Int), k2 v3 = some r → G Φ mX8_mixColumns (gw_M Φ mX8_mixColumns K) none 0 0 41 [(0, .ref (M + th)), (5, vI l5)] [vI v3, vL l3] (hp Φ hb M sh c) := by
        intro v3 H
        subst e_k2
        obtain ⟨v4, e_v4, H⟩ := cv_i H
        refine gw_S2 okX8_mixTruth dX8_mixColumns_41 kw_747 kw_748 ⟨by decide, by decide⟩ ⟨by decide, by decide⟩ (Nat.le_of_ble_eq_true rfl) (w_X8_mixTruth  e_v4 ?_)
        refine gw_lstore_n dX8_mixColumns_44 rfl (by decide) ?_
        refine gw_lload_n dX8_mixColumns_45 rfl rfl ?_
        refine gw_aload_n dX8_mixColumns_46 rfl rfl ?_
        refine gs_getR cl8 0 dX8_mixColumns_47 rfl kw_328 (by decide) (h0.1) rfl ?_
        refine gs_getRN cl4 1 dX8_mixColumns_50 rfl kw_212 (by decide) (h0.2.1.1) rfl ?_
        refine gw_iload dX8_mixColumns_53 rfl rfl ?_
        obtain ⟨v5, e_v5, H⟩ := cv_i H
        refine gw_V1 okX6_reduced dX8_mixColumns_55 kw_884 kw_447 kw_448 (hp_o (h0.2.1.2.2.1)) rfl ⟨by decide, by decide⟩ ⟨by decide, by decide⟩ (Nat.le_of_ble_eq_true rfl) (w_X6_reduced (h0.2.1.2.2) e_v5 ?_)
        refine gw_aload_n dX8_mixColumns_58 rfl rfl ?_
        refine gs_getR cl8 0 dX8_mixColumns_59 rfl kw_328 (by decide) (h0.1) rfl ?_
        refine gs_getRN cl4 1 dX8_mixColumns_62 rfl kw_212 (by decide) (h0.2.1.1) rfl ?_
        refine gs_getLN cl6 2 2 dX8_mixColumns_65 rfl kw_193 (by decide) (h0.2.1.2.2.1) rfl rfl ?_
        obtain ⟨v6, e_v6, H⟩ := cv_i H
        refine gw_S3 okX8_mixFraction dX8_mixColumns_68 kw_755 kw_756 ⟨by decide, by decide⟩ ⟨by decide, by decide⟩ (Nat.le_of_ble_eq_true rfl) (w_X8_mixFraction  e_v6 ?_)
        refine gw_lstore_n dX8_mixColumns_71 rfl (by decide) ?_
        refine gw_lload_n dX8_mixColumns_72 rfl rfl ?_
        refine gw_aload_n dX8_mixColumns_73 rfl rfl ?_
        refine gs_getR cl8 0 dX8_mixColumns_74 rfl kw_328 (by decide) (h0.1) rfl ?_
        refine gs_getRN cl4 1 dX8_mixColumns_77 rfl kw_212 (by decide) (h0.2.1.1) rfl ?_
        refine gw_iload dX8_mixColumns_80 rfl rfl ?_
        obtain ⟨v7, e_v7, H⟩ := cv_i H
        refine gw_V1 okX6_given dX8_mixColumns_82 kw_885 kw_886 kw_887 (hp_o (h0.2.1.2.2.1)) rfl ⟨by decide, by decide⟩ ⟨by decide, by decide⟩ (Nat.le_of_ble_eq_true rfl) (w_X6_given (h0.2.1.2.2) e_v7 ?_)
        refine gw_aload_n dX8_mixColumns_85 rfl rfl ?_
        refine gs_getR cl8 0 dX8_mixColumns_86 rfl kw_328 (by decide) (h0.1) rfl ?_
        refine gs_getRN cl4 1 dX8_mixColumns_89 rfl kw_212 (by decide) (h0.2.1.1) rfl ?_
        refine gs_getLN cl6 2 2 dX8_mixColumns_92 rfl kw_193 (by decide) (h0.2.1.2.2.1) rfl rfl ?_
        obtain ⟨v8, e_v8, H⟩ := cv_i H
        refine gw_S3 okX8_mixFraction dX8_mixColumns_95 kw_755 kw_756 ⟨by decide, by decide⟩ ⟨by decide, by decide⟩ (Nat.le_of_ble_eq_true rfl) (w_X8_mixFraction  e_v8 ?_)
        refine gw_lstore_n dX8_mixColumns_98 rfl (by decide) ?_
        refine gw_iincZ dX8_mixColumns_99 rfl rfl (by decide) ?_
        refine gw_goto (tgt := 5) dX8_mixColumns_102 (by decide) ?_
        exact gw_L (ih _ _ H) ((lvA_c rfl (lvA_c rfl (lvA_c rfl lvA_n))))
      refine gw_if_ltZ (tgt := 40) dX8_mixColumns_33 rfl (by decide) g (fun q => ?_) (fun q => ?_)
      · have H := bq_t q H
        refine gw_iconstZ dX8_mixColumns_40 rfl ?_
        exact gw_L (hJ _ H) ((lvA_c rfl (lvA_c rfl lvA_n)))
      · have H := bq_f q H
        refine gw_iconstZ dX8_mixColumns_36 rfl ?_
        refine gw_goto (tgt := 41) dX8_mixColumns_37 (by decide) ?_
        exact gw_L (hJ _ H) ((lvA_c rfl (lvA_c rfl lvA_n)))
set_option maxRecDepth 100000 in
set_option maxHeartbeats 4000000 in
theorem w_X8_mixColumns {Φ : gwC} {hb : gwHp} {M : Nat} {sh : Nat → Option gSh} {th : Nat} {p1 : Int} {c : W0} {r : Int} {K : Option Value → gwHp → Prop} (h0 : sD sh th) (H : f_X8_mixColumns th p1 c = some r) (hK : K (some (vL r)) (hp Φ hb M sh c)) : gw_Con Φ mX8_mixColumns none [.ref (M + th), vL p1] (hp Φ hb M sh c) K := by
  unfold f_X8_mixColumns at H
  refine gw_start okX8_mixColumns (Nat.le_of_ble_eq_true rfl) ?_
  refine gw_lload_n dX8_mixColumns_0 rfl rfl ?_
  refine gw_lstore_n dX8_mixColumns_1 rfl (by decide) ?_
  refine gw_iconstZ dX8_mixColumns_2 rfl ?_
  refine gw_istore dX8_mixColumns_3 rfl (by decide) ?_
  refine gw_L (l_X8_mixColumns_5 h0 hK (fun v1 H => ?_) LF _ _ H) ((lvA_c rfl (lvA_c rfl (lvA_c rfl lvA_n))))
  refine gw_lload_n dX8_mixColumns_105 rfl rfl ?_
  cases H
  exact gw_lret dX8_mixColumns_106 rfl (by decide) (by decide) hK
set_option maxRecDepth 100000 in
set_option maxHeartbeats 4000000 in
theorem l_X8_mixRows_41 {Φ : gwC} {hb : gwHp} {M : Nat} {sh : Nat → Option gSh} {th : Nat} {l5 : Int} {c : W0} {κ : Int → Option Int} {r : Int} {K : Option Value → gwHp → Prop} (h0 : sD sh th) (hK : K (some (vL r)) (hp Φ hb M sh c)) (hκ : ∀ (x3 : Int), κ x3 = some r → G Φ mX8_mixRows (gw_M Φ mX8_mixRows K) none 0 0 91 [(0, .ref (M + th)), (3, vL x3), (5, vI l5)] [] (hp Φ hb M sh c)) : ∀ (n : Nat) (l3 : Int) (l6 : Int), f_X8_mixRows_41 th l5 c κ n l3 l6 = some r → G Φ mX8_mixRows (gw_M Φ mX8_mixRows K) none 0 0 41 [(0, .ref (M + th)), (3, vL l3), (5, vI l5), (6, vI l6)] [] (hp Φ hb M sh c) := by
  intro n
  induction n with
  | zero => intro l3 l6 H; cases H
  | succ n ih =>
    intro l3 l6 H
    have H : b_X8_mixRows_41 th l5 c κ (f_X8_mixRows_41 th l5 c κ n) l3 l6 = some r := H
    unfold b_X8_mixRows_41 at H
    refine gw_iload dX8_mixRows_41 rfl rfl ?_
    refine gw_aload_n dX8_mixRows_43 rfl rfl ?_
    refine gs_getR cl8 0 dX8_mixRows_44 rfl kw_328 (by decide) (h0.1) rfl ?_
    refine gs_getRN cl4 1 dX8_mixRows_47 rfl kw_212 (by decide) (h0.2.1.1) rfl ?_
    refine gs_getIN cl6 1 1 dX8_mixRows_50 rfl kw_191 (by decide) (h0.2.1.2.2.1) rfl rfl ?_
    obtain ⟨g, H⟩ := gd_i H
    refine gw_icmp_geZ (tgt := 91) dX8_mixRows_53 rfl (by decide) g.1 g.2 (fun q => ?_) (fun q => ?_)
    · have H := bq_t q H
      exact gw_L (hκ _ H) ((lvA_c rfl (lvA_c rfl (lvA_c rfl lvA_n))))
    · have H := bq_f q H
      refine gw_lload_n dX8_mixRows_56 rfl rfl ?_
      refine gw_aload_n dX8_mixRows_57 rfl rfl ?_
      refine gs_getR cl8 0 dX8_mixRows_58 rfl kw_328 (by decide) (h0.1) rfl ?_
      refine gs_getRN cl4 1 dX8_mixRows_61 rfl kw_212 (by decide) (h0.2.1.1) rfl ?_
      refine gw_iload dX8_mixRows_64 rfl rfl ?_
      refine gw_iload dX8_mixRows_66 rfl rfl ?_
      obtain ⟨v1, e_v1, H⟩ := cv_i H
      refine gw_V2 okX6_entry dX8_mixRows_68 kw_895 kw_472 kw_473 (hp_o (h0.2.1.2.2.1)) rfl ⟨by decide, by decide⟩ ⟨by decide, by decide⟩ (Nat.le_of_ble_eq_true rfl) (w_X6_entry (h0.2.1.2.2) e_v1 ?_)
      refine gw_aload_n dX8_mixRows_71 rfl rfl ?_
      refine gs_getR cl8 0 dX8_mixRows_72 rfl kw_328 (by decide) (h0.1) rfl ?_
      refine gs_getRN cl4 1 dX8_mixRows_75 rfl kw_212 (by decide) (h0.2.1.1) rfl ?_
      refine gs_getLN cl6 2 2 dX8_mixRows_78 rfl kw_193 (by decide) (h0.2.1.2.2.1) rfl rfl ?_
      obtain ⟨v2, e_v2, H⟩ := cv_i H
      refine gw_S3 okX8_mixFraction dX8_mixRows_81 kw_755 kw_756 ⟨by decide, by decide⟩ ⟨by decide, by decide⟩ (Nat.le_of_ble_eq_true rfl) (w_X8_mixFraction  e_v2 ?_)
      refine gw_lstore_n dX8_mixRows_84 rfl (by decide) ?_
      refine gw_iincZ dX8_mixRows_85 rfl rfl (by decide) ?_
      refine gw_goto (tgt := 41) dX8_mixRows_88 (by decide) ?_
      exact gw_L (ih _ _ H) ((lvA_c rfl (lvA_c rfl (lvA_c rfl (lvA_c rfl lvA_n)))))
set_option maxRecDepth 100000 in
set_option maxHeartbeats 4000000 in
theorem l_X8_mixRows_5 {Φ : gwC} {hb : gwHp} {M : Nat} {sh : Nat → Option gSh} {th : Nat} {c : W0} {κ : Int → Option Int} {r : Int} {K : Option Value → gwHp → Prop} (h0 : sD sh th) (hK : K (some (vL r)) (hp Φ hb M sh c)) (hκ : ∀ (x3 : Int), κ x3 = some r → G Φ mX8_mixRows (gw_M Φ mX8_mixRows K) none 0 0 97 [(3, vL x3)] [] (hp Φ hb M sh c)) : ∀ (n : Nat) (l3 : Int) (l5 : Int), f_X8_mixRows_5 th c κ n l3 l5 = some r → G Φ mX8_mixRows (gw_M Φ mX8_mixRows K) none 0 0 5 [(0, .ref (M + th)), (3, vL l3), (5, vI l5)] [] (hp Φ hb M sh c) := by
  intro n
  induction n with
  | zero => intro l3 l5 H; cases H
  | succ n ih =>
    intro l3 l5 H
    have H : b_X8_mixRows_5 th c κ (f_X8_mixRows_5 th c κ n) l3 l5 = some r := H
    unfold b_X8_mixRows_5 at H
    refine gw_iload dX8_mixRows_5 rfl rfl ?_
    refine gw_aload_n dX8_mixRows_7 rfl rfl ?_
    refine gs_getR cl8 0 dX8_mixRows_8 rfl kw_328 (by decide) (h0.1) rfl ?_
    refine gs_getRN cl4 1 dX8_mixRows_11 rfl kw_212 (by decide) (h0.2.1.1) rfl ?_
    refine gs_getIN cl6 0 0 dX8_mixRows_14 rfl kw_189 (by decide) (h0.2.1.2.2.1) rfl rfl ?_
    obtain ⟨g, H⟩ := gd_i H
    refine gw_icmp_geZ (tgt := 97) dX8_mixRows_17 rfl (by decide) g.1 g.2 (fun q => ?_) (fun q => ?_)
    · have H := bq_t q H
      exact gw_L (hκ _ H) ((lvA_c rfl lvA_n))
    · have H := bq_f q H
      refine gw_lload_n dX8_mixRows_20 rfl rfl ?_
      refine gw_aload_n dX8_mixRows_21 rfl rfl ?_
      refine gs_getR cl8 0 dX8_mixRows_22 rfl kw_328 (by decide) (h0.1) rfl ?_
      refine gs_getRN cl4 1 dX8_mixRows_25 rfl kw_212 (by decide) (h0.2.1.1) rfl ?_
      refine gw_iload dX8_mixRows_28 rfl rfl ?_
      obtain ⟨v1, e_v1, H⟩ := cv_i H
      refine gw_V1 okX6_namedBy dX8_mixRows_30 kw_894 kw_769 kw_770 (hp_o (h0.2.1.2.2.1)) rfl ⟨by decide, by decide⟩ ⟨by decide, by decide⟩ (Nat.le_of_ble_eq_true rfl) (w_X6_namedBy (h0.2.1.2.2) e_v1 ?_)
      obtain ⟨g, H⟩ := gd_i H
      refine gw_i2lZ dX8_mixRows_33 rfl g ?_
      obtain ⟨v2, e_v2, H⟩ := cv_i H
      refine gw_S2 okX8_mix dX8_mixRows_34 kw_742 kw_743 ⟨by decide, by decide⟩ ⟨by decide, by decide⟩ (Nat.le_of_ble_eq_true rfl) (w_X8_mix  e_v2 ?_)
      refine gw_lstore_n dX8_mixRows_37 rfl (by decide) ?_
      refine gw_iconstZ dX8_mixRows_38 rfl ?_
      refine gw_istore dX8_mixRows_39 rfl (by decide) ?_
      refine gw_L (l_X8_mixRows_41 h0 hK (fun v3 H => ?_) LF _ _ H) ((lvA_c rfl (lvA_c rfl (lvA_c rfl (lvA_c rfl lvA_n)))))
      refine gw_iincZ dX8_mixRows_91 rfl rfl (by decide) ?_
      refine gw_goto (tgt := 5) dX8_mixRows_94 (by decide) ?_
      exact gw_L (ih _ _ H) ((lvA_c rfl (lvA_c rfl (lvA_c rfl lvA_n))))
set_option maxRecDepth 100000 in
set_option maxHeartbeats 4000000 in
theorem w_X8_mixRows {Φ : gwC} {hb : gwHp} {M : Nat} {sh : Nat → Option gSh} {th : Nat} {p1 : Int} {c : W0} {r : Int} {K : Option Value → gwHp → Prop} (h0 : sD sh th) (H : f_X8_mixRows th p1 c = some r) (hK : K (some (vL r)) (hp Φ hb M sh c)) : gw_Con Φ mX8_mixRows none [.ref (M + th), vL p1] (hp Φ hb M sh c) K := by
  unfold f_X8_mixRows at H
  refine gw_start okX8_mixRows (Nat.le_of_ble_eq_true rfl) ?_
  refine gw_lload_n dX8_mixRows_0 rfl rfl ?_
  refine gw_lstore_n dX8_mixRows_1 rfl (by decide) ?_
  refine gw_iconstZ dX8_mixRows_2 rfl ?_
  refine gw_istore dX8_mixRows_3 rfl (by decide) ?_
  refine gw_L (l_X8_mixRows_5 h0 hK (fun v1 H => ?_) LF _ _ H) ((lvA_c rfl (lvA_c rfl (lvA_c rfl lvA_n))))
  refine gw_lload_n dX8_mixRows_97 rfl rfl ?_
  cases H
  exact gw_lret dX8_mixRows_98 rfl (by decide) (by decide) hK
set_option maxRecDepth 100000 in
set_option maxHeartbeats 4000000 in
theorem w_X8_mixNext {Φ : gwC} {hb : gwHp} {M : Nat} {sh : Nat → Option gSh} {th : Nat} {p1 : Int} {c : W0} {r : Int} {K : Option Value → gwHp → Prop} (h0 : sD sh th) (H : f_X8_mixNext th p1 c = some r) (hK : K (some (vL r)) (hp Φ hb M sh c)) : gw_Con Φ mX8_mixNext none [.ref (M + th), vL p1] (hp Φ hb M sh c) K := by
  unfold f_X8_mixNext at H
  refine gw_start okX8_mixNext (Nat.le_of_ble_eq_true rfl) ?_
  refine gw_aload_n dX8_mixNext_0 rfl rfl ?_
  obtain ⟨v1, e_v1, H⟩ := cv_i H
  refine gw_V0 okX8_hasRay dX8_mixNext_1 kw_750 kw_590 kw_591 (hp_o (h0.1)) rfl ⟨by decide, by decide⟩ ⟨by decide, by decide⟩ (Nat.le_of_ble_eq_true rfl) (w_X8_hasRay (h0) e_v1 ?_)
  obtain ⟨g, H⟩ := gd_i H
  refine gw_if_eqZ (tgt := 23) dX8_mixNext_4 rfl (by decide) g (fun q => ?_) (fun q => ?_)
  · have H := bq_t q H
    refine gw_aload_n dX8_mixNext_23 rfl rfl ?_
    obtain ⟨v2, e_v2, H⟩ := cv_i H
    refine gw_V0 okX8_isOptimal dX8_mixNext_24 kw_746 kw_585 kw_586 (hp_o (h0.1)) rfl ⟨by decide, by decide⟩ ⟨by decide, by decide⟩ (Nat.le_of_ble_eq_true rfl) (w_X8_isOptimal (h0) e_v2 ?_)
    obtain ⟨g, H⟩ := gd_i H
    refine gw_if_eqZ (tgt := 32) dX8_mixNext_27 rfl (by decide) g (fun q => ?_) (fun q => ?_)
    · have H := bq_t q H
      refine gw_aload_n dX8_mixNext_32 rfl rfl ?_
      refine gs_getR cl8 0 dX8_mixNext_33 rfl kw_328 (by decide) (h0.1) rfl ?_
      obtain ⟨v3, e_v3, H⟩ := cv_i H
      refine gw_V0 okX4_chosenColumn dX8_mixNext_36 kw_900 kw_901 kw_902 (hp_o (h0.2.1.1)) rfl ⟨by decide, by decide⟩ ⟨by decide, by decide⟩ (Nat.le_of_ble_eq_true rfl) (w_X4_chosenColumn (h0.2.1) e_v3 ?_)
      refine gw_istore_n dX8_mixNext_39 rfl (by decide) ?_
      refine gw_lload_n dX8_mixNext_40 rfl rfl ?_
      refine gw_iload_n dX8_mixNext_41 rfl rfl ?_
      obtain ⟨g, H⟩ := gd_i H
      refine gw_i2lZ dX8_mixNext_42 rfl g ?_
      obtain ⟨v4, e_v4, H⟩ := cv_i H
      refine gw_S2 okX8_mix dX8_mixNext_43 kw_742 kw_743 ⟨by decide, by decide⟩ ⟨by decide, by decide⟩ (Nat.le_of_ble_eq_true rfl) (w_X8_mix  e_v4 ?_)
      refine gw_aload_n dX8_mixNext_46 rfl rfl ?_
      refine gs_getR cl8 0 dX8_mixNext_47 rfl kw_328 (by decide) (h0.1) rfl ?_
      refine gs_getRN cl4 1 dX8_mixNext_50 rfl kw_212 (by decide) (h0.2.1.1) rfl ?_
      refine gw_iload_n dX8_mixNext_53 rfl rfl ?_
      obtain ⟨v5, e_v5, H⟩ := cv_i H
      refine gw_V1 okX6_leastRow dX8_mixNext_54 kw_904 kw_456 kw_457 (hp_o (h0.2.1.2.2.1)) rfl ⟨by decide, by decide⟩ ⟨by decide, by decide⟩ (Nat.le_of_ble_eq_true rfl) (w_X6_leastRow (h0.2.1.2.2) e_v5 ?_)
      obtain ⟨g, H⟩ := gd_i H
      refine gw_i2lZ dX8_mixNext_57 rfl g ?_
      obtain ⟨v6, e_v6, H⟩ := cv_i H
      refine gw_S2 okX8_mix dX8_mixNext_58 kw_742 kw_743 ⟨by decide, by decide⟩ ⟨by decide, by decide⟩ (Nat.le_of_ble_eq_true rfl) (w_X8_mix  e_v6 ?_)
      cases H
      exact gw_lret dX8_mixNext_61 rfl (by decide) (by decide) hK
    · have H := bq_f q H
      refine gw_lload_n dX8_mixNext_30 rfl rfl ?_
      cases H
      exact gw_lret dX8_mixNext_31 rfl (by decide) (by decide) hK
  · have H := bq_f q H
    refine gw_lload_n dX8_mixNext_7 rfl rfl ?_
    refine gw_aload_n dX8_mixNext_8 rfl rfl ?_
    refine gs_getR cl8 0 dX8_mixNext_9 rfl kw_328 (by decide) (h0.1) rfl ?_
    refine gs_getRN cl4 1 dX8_mixNext_12 rfl kw_212 (by decide) (h0.2.1.1) rfl ?_
    obtain ⟨v7, e_v7, H⟩ := cv_i H
    refine gw_V0 okX6_openColumn dX8_mixNext_15 kw_593 kw_452 kw_453 (hp_o (h0.2.1.2.2.1)) rfl ⟨by decide, by decide⟩ ⟨by decide, by decide⟩ (Nat.le_of_ble_eq_true rfl) (w_X6_openColumn (h0.2.1.2.2) e_v7 ?_)
    obtain ⟨g, H⟩ := gd_i H
    refine gw_i2lZ dX8_mixNext_18 rfl g ?_
    obtain ⟨v8, e_v8, H⟩ := cv_i H
    refine gw_S2 okX8_mix dX8_mixNext_19 kw_742 kw_743 ⟨by decide, by decide⟩ ⟨by decide, by decide⟩ (Nat.le_of_ble_eq_true rfl) (w_X8_mix  e_v8 ?_)
    cases H
    exact gw_lret dX8_mixNext_22 rfl (by decide) (by decide) hK
set_option maxRecDepth 100000 in
set_option maxHeartbeats 4000000 in
theorem l_X8_bitsOf_18 {Φ : gwC} {hb : gwHp} {M : Nat} {sh : Nat → Option gSh} {c : W0} {κ : UInt64 → Int → Option Int} {r : Int} {K : Option Value → gwHp → Prop}  (hK : K (some (vL r)) (hp Φ hb M sh c)) (hκ : ∀ (x2 : UInt64) (x4 : Int), κ x2 x4 = some r → G Φ mX8_bitsOf (gw_M Φ mX8_bitsOf K) none 0 0 51 [(2, .double x2), (4, vL x4)] [] (hp Φ hb M sh c)) : ∀ (n : Nat) (l2 : UInt64) (l4 : Int) (l6 : Int), f_X8_bitsOf_18  κ n l2 l4 l6 = some r → G Φ mX8_bitsOf (gw_M Φ mX8_bitsOf K) none 0 0 18 [(2, .double l2), (4, vL l4), (6, vI l6)] [] (hp Φ hb M sh c) := by
  intro n
  induction n with
  | zero => intro l2 l4 l6 H; cases H
  | succ n ih =>
    intro l2 l4 l6 H
    have H : b_X8_bitsOf_18  κ (f_X8_bitsOf_18  κ n) l2 l4 l6 = some r := H
    unfold b_X8_bitsOf_18 at H
    refine gw_iload dX8_bitsOf_18 rfl rfl ?_
    refine gw_bipushZ dX8_bitsOf_20 rfl (by decide) ?_
    obtain ⟨g, H⟩ := gd_i H
    refine gw_icmp_geZ (tgt := 51) dX8_bitsOf_22 rfl (by decide) g (by decide) (fun q => ?_) (fun q => ?_)
    · have H := bq_t q H
      exact gw_L (hκ _ _ H) ((lvA_c rfl (lvA_c rfl lvA_n)))
    · have H := bq_f q H
      refine gw_dload_n dX8_bitsOf_25 rfl rfl ?_
      refine gw_ldc2d dX8_bitsOf_26 rfl kw_910 ?_
      refine gw_dcmp dX8_bitsOf_29 rfl ?_
      refine gw_dif_lt (tgt := 51) dX8_bitsOf_30 rfl (by decide) (fun q => ?_) (fun q => ?_)
      · have H := bq_t q H
        exact gw_L (hκ _ _ H) ((lvA_c rfl (lvA_c rfl lvA_n)))
      · have H := bq_f q H
        refine gw_dload_n dX8_bitsOf_33 rfl rfl ?_
        refine gw_ldc2d dX8_bitsOf_34 rfl kw_910 ?_
        obtain ⟨g, H⟩ := gd_i H
        refine gw_ddiv dX8_bitsOf_37 rfl g ?_
        refine gw_dstore_n dX8_bitsOf_38 rfl (by decide) ?_
        refine gw_lload dX8_bitsOf_39 rfl rfl ?_
        refine gw_lconst1Z dX8_bitsOf_41 rfl ?_
        refine gw_laddZ dX8_bitsOf_42 rfl ?_
        refine gw_lstore dX8_bitsOf_43 rfl (by decide) ?_
        refine gw_iincZ dX8_bitsOf_45 rfl rfl (by decide) ?_
        refine gw_goto (tgt := 18) dX8_bitsOf_48 (by decide) ?_
        exact gw_L (ih _ _ _ H) ((lvA_c rfl (lvA_c rfl (lvA_c rfl lvA_n))))
set_option maxRecDepth 100000 in
set_option maxHeartbeats 4000000 in
theorem l_X8_bitsOf_54 {Φ : gwC} {hb : gwHp} {M : Nat} {sh : Nat → Option gSh} {c : W0} {κ : UInt64 → Int → Option Int} {r : Int} {K : Option Value → gwHp → Prop}  (hK : K (some (vL r)) (hp Φ hb M sh c)) (hκ : ∀ (x2 : UInt64) (x4 : Int), κ x2 x4 = some r → G Φ mX8_bitsOf (gw_M Φ mX8_bitsOf K) none 0 0 85 [(2, .double x2), (4, vL x4)] [] (hp Φ hb M sh c)) : ∀ (n : Nat) (l2 : UInt64) (l4 : Int) (l6 : Int), f_X8_bitsOf_54  κ n l2 l4 l6 = some r → G Φ mX8_bitsOf (gw_M Φ mX8_bitsOf K) none 0 0 54 [(2, .double l2), (4, vL l4), (6, vI l6)] [] (hp Φ hb M sh c) := by
  intro n
  induction n with
  | zero => intro l2 l4 l6 H; cases H
  | succ n ih =>
    intro l2 l4 l6 H
    have H : b_X8_bitsOf_54  κ (f_X8_bitsOf_54  κ n) l2 l4 l6 = some r := H
    unfold b_X8_bitsOf_54 at H
    refine gw_iload dX8_bitsOf_54 rfl rfl ?_
    refine gw_bipushZ dX8_bitsOf_56 rfl (by decide) ?_
    obtain ⟨g, H⟩ := gd_i H
    refine gw_icmp_geZ (tgt := 85) dX8_bitsOf_58 rfl (by decide) g (by decide) (fun q => ?_) (fun q => ?_)
    · have H := bq_t q H
      exact gw_L (hκ _ _ H) ((lvA_c rfl (lvA_c rfl lvA_n)))
    · have H := bq_f q H
      refine gw_dload_n dX8_bitsOf_61 rfl rfl ?_
      refine gw_dconst1 dX8_bitsOf_62 rfl ?_
      refine gw_dcmp dX8_bitsOf_63 rfl ?_
      refine gw_dif_ge (tgt := 85) dX8_bitsOf_64 rfl (by decide) (fun q => ?_) (fun q => ?_)
      · have H := bq_f q H
        exact gw_L (hκ _ _ H) ((lvA_c rfl (lvA_c rfl lvA_n)))
      · have H := bq_t q H
        refine gw_dload_n dX8_bitsOf_67 rfl rfl ?_
        refine gw_ldc2d dX8_bitsOf_68 rfl kw_910 ?_
        obtain ⟨g, H⟩ := gd_i H
        refine gw_dmul dX8_bitsOf_71 rfl g ?_
        refine gw_dstore_n dX8_bitsOf_72 rfl (by decide) ?_
        refine gw_lload dX8_bitsOf_73 rfl rfl ?_
        refine gw_lconst1Z dX8_bitsOf_75 rfl ?_
        refine gw_lsubZ dX8_bitsOf_76 rfl ?_
        refine gw_lstore dX8_bitsOf_77 rfl (by decide) ?_
        refine gw_iincZ dX8_bitsOf_79 rfl rfl (by decide) ?_
        refine gw_goto (tgt := 54) dX8_bitsOf_82 (by decide) ?_
        exact gw_L (ih _ _ _ H) ((lvA_c rfl (lvA_c rfl (lvA_c rfl lvA_n))))
set_option maxRecDepth 100000 in
set_option maxHeartbeats 4000000 in
theorem w_X8_bitsOf {Φ : gwC} {hb : gwHp} {M : Nat} {sh : Nat → Option gSh} {p1 : UInt64} {c : W0} {r : Int} {K : Option Value → gwHp → Prop}  (H : f_X8_bitsOf p1 = some r) (hK : K (some (vL r)) (hp Φ hb M sh c)) : gw_Con Φ mX8_bitsOf none [.double p1] (hp Φ hb M sh c) K := by
  unfold f_X8_bitsOf at H
  refine gw_start okX8_bitsOf (Nat.le_of_ble_eq_true rfl) ?_
  refine gw_dload_n dX8_bitsOf_0 rfl rfl ?_
  refine gw_dconst0 dX8_bitsOf_1 rfl ?_
  refine gw_dcmp dX8_bitsOf_2 rfl ?_
  refine gw_dif_gt (tgt := 8) dX8_bitsOf_3 rfl (by decide) (fun q => ?_) (fun q => ?_)
  · have H := bq_t q H
    refine gw_dload_n dX8_bitsOf_8 rfl rfl ?_
    refine gw_dstore_n dX8_bitsOf_9 rfl (by decide) ?_
    refine gw_ldc2Z (z := 1023) dX8_bitsOf_10 rfl kw_909 (by decide) ?_
    refine gw_lstore dX8_bitsOf_13 rfl (by decide) ?_
    refine gw_iconstZ dX8_bitsOf_15 rfl ?_
    refine gw_istore dX8_bitsOf_16 rfl (by decide) ?_
    refine gw_L (l_X8_bitsOf_18  hK (fun v1 v2 H => ?_) LF _ _ _ H) ((lvA_c rfl (lvA_c rfl (lvA_c rfl lvA_n))))
    refine gw_iconstZ dX8_bitsOf_51 rfl ?_
    refine gw_istore dX8_bitsOf_52 rfl (by decide) ?_
    refine gw_L (l_X8_bitsOf_54  hK (fun v3 v4 H => ?_) LF _ _ _ H) ((lvA_c rfl (lvA_c rfl (lvA_c rfl lvA_n))))
    refine gw_lload dX8_bitsOf_85 rfl rfl ?_
    refine gw_bipushZ dX8_bitsOf_87 rfl (by decide) ?_
    refine gw_lshlZ dX8_bitsOf_89 rfl ?_
    refine gw_dload_n dX8_bitsOf_90 rfl rfl ?_
    refine gw_dconst1 dX8_bitsOf_91 rfl ?_
    obtain ⟨g, H⟩ := gd_i H
    refine gw_dsub dX8_bitsOf_92 rfl g ?_
    refine gw_ldc2d dX8_bitsOf_93 rfl kw_911 ?_
    obtain ⟨g, H⟩ := gd_i H
    refine gw_dmul dX8_bitsOf_96 rfl g ?_
    refine gw_d2lZ dX8_bitsOf_97 rfl ?_
    refine gw_laddZ dX8_bitsOf_98 rfl ?_
    have e9 := Option.some.inj H
    rw [← e9] at hK
    try dsimp only at hK
    exact gw_lret dX8_bitsOf_99 rfl (by decide) (by decide) hK
  · have H := bq_f q H
    refine gw_lconst0Z dX8_bitsOf_6 rfl ?_
    cases H
    exact gw_lret dX8_bitsOf_7 rfl (by decide) (by decide) hK
set_option maxRecDepth 100000 in
set_option maxHeartbeats 4000000 in
theorem l_X8_mixBuffer_16 {Φ : gwC} {hb : gwHp} {M : Nat} {sh : Nat → Option gSh} {th : Nat} {c : W0} {κ : Int → Option Int} {r : Int} {K : Option Value → gwHp → Prop} (h0 : sD sh th) (hK : K (some (vL r)) (hp Φ hb M sh c)) (hκ : ∀ (x3 : Int), κ x3 = some r → G Φ mX8_mixBuffer (gw_M Φ mX8_mixBuffer K) none 0 0 49 [(3, vL x3)] [] (hp Φ hb M sh c)) : ∀ (n : Nat) (l3 : Int) (l5 : Int), f_X8_mixBuffer_16 th c κ n l3 l5 = some r → G Φ mX8_mixBuffer (gw_M Φ mX8_mixBuffer K) none 0 0 16 [(0, .ref (M + th)), (3, vL l3), (5, vI l5)] [] (hp Φ hb M sh c) := by
  intro n
  induction n with
  | zero => intro l3 l5 H; cases H
  | succ n ih =>
    intro l3 l5 H
    have H : b_X8_mixBuffer_16 th c κ (f_X8_mixBuffer_16 th c κ n) l3 l5 = some r := H
    unfold b_X8_mixBuffer_16 at H
    refine gw_iload dX8_mixBuffer_16 rfl rfl ?_
    refine gw_aload_n dX8_mixBuffer_18 rfl rfl ?_
    refine gs_getR cl8 4 dX8_mixBuffer_19 rfl kw_332 (by decide) (h0.1) rfl ?_
    refine gs_getIN cl7 0 0 dX8_mixBuffer_22 rfl kw_245 (by decide) (h0.2.2.2.2.2.1.1) rfl rfl ?_
    obtain ⟨g, H⟩ := gd_i H
    refine gw_icmp_geZ (tgt := 49) dX8_mixBuffer_25 rfl (by decide) g.1 g.2 (fun q => ?_) (fun q => ?_)
    · have H := bq_t q H
      exact gw_L (hκ _ H) ((lvA_c rfl lvA_n))
    · have H := bq_f q H
      refine gw_lload_n dX8_mixBuffer_28 rfl rfl ?_
      refine gw_aload_n dX8_mixBuffer_29 rfl rfl ?_
      refine gs_getR cl8 4 dX8_mixBuffer_30 rfl kw_332 (by decide) (h0.1) rfl ?_
      refine gw_iload dX8_mixBuffer_33 rfl rfl ?_
      obtain ⟨v1, e_v1, H⟩ := cv_i H
      refine gw_V1 okX7_codeAt dX8_mixBuffer_35 kw_916 kw_517 kw_518 (hp_o (h0.2.2.2.2.2.1.1)) rfl ⟨by decide, by decide⟩ ⟨by decide, by decide⟩ (Nat.le_of_ble_eq_true rfl) (w_X7_codeAt (h0.2.2.2.2.2.1) e_v1 ?_)
      obtain ⟨g, H⟩ := gd_i H
      refine gw_i2lZ dX8_mixBuffer_38 rfl g ?_
      obtain ⟨v2, e_v2, H⟩ := cv_i H
      refine gw_S2 okX8_mix dX8_mixBuffer_39 kw_742 kw_743 ⟨by decide, by decide⟩ ⟨by decide, by decide⟩ (Nat.le_of_ble_eq_true rfl) (w_X8_mix  e_v2 ?_)
      refine gw_lstore_n dX8_mixBuffer_42 rfl (by decide) ?_
      refine gw_iincZ dX8_mixBuffer_43 rfl rfl (by decide) ?_
      refine gw_goto (tgt := 16) dX8_mixBuffer_46 (by decide) ?_
      exact gw_L (ih _ _ H) ((lvA_c rfl (lvA_c rfl (lvA_c rfl lvA_n))))
set_option maxRecDepth 100000 in
set_option maxHeartbeats 4000000 in
theorem w_X8_mixBuffer {Φ : gwC} {hb : gwHp} {M : Nat} {sh : Nat → Option gSh} {th : Nat} {p1 : Int} {c : W0} {r : Int} {K : Option Value → gwHp → Prop} (h0 : sD sh th) (H : f_X8_mixBuffer th p1 c = some r) (hK : K (some (vL r)) (hp Φ hb M sh c)) : gw_Con Φ mX8_mixBuffer none [.ref (M + th), vL p1] (hp Φ hb M sh c) K := by
  unfold f_X8_mixBuffer at H
  refine gw_start okX8_mixBuffer (Nat.le_of_ble_eq_true rfl) ?_
  refine gw_lload_n dX8_mixBuffer_0 rfl rfl ?_
  refine gw_aload_n dX8_mixBuffer_1 rfl rfl ?_
  refine gs_getR cl8 4 dX8_mixBuffer_2 rfl kw_332 (by decide) (h0.1) rfl ?_
  refine gs_getIN cl7 0 0 dX8_mixBuffer_5 rfl kw_245 (by decide) (h0.2.2.2.2.2.1.1) rfl rfl ?_
  obtain ⟨g, H⟩ := gd_i H
  refine gw_i2lZ dX8_mixBuffer_8 rfl g ?_
  obtain ⟨v1, e_v1, H⟩ := cv_i H
  refine gw_S2 okX8_mix dX8_mixBuffer_9 kw_742 kw_743 ⟨by decide, by decide⟩ ⟨by decide, by decide⟩ (Nat.le_of_ble_eq_true rfl) (w_X8_mix  e_v1 ?_)
  refine gw_lstore_n dX8_mixBuffer_12 rfl (by decide) ?_
  refine gw_iconstZ dX8_mixBuffer_13 rfl ?_
  refine gw_istore dX8_mixBuffer_14 rfl (by decide) ?_
  refine gw_L (l_X8_mixBuffer_16 h0 hK (fun v2 H => ?_) LF _ _ H) ((lvA_c rfl (lvA_c rfl (lvA_c rfl lvA_n))))
  refine gw_lload_n dX8_mixBuffer_49 rfl rfl ?_
  cases H
  exact gw_lret dX8_mixBuffer_50 rfl (by decide) (by decide) hK
set_option maxRecDepth 100000 in
set_option maxHeartbeats 4000000 in
theorem w_X8_digest {Φ : gwC} {hb : gwHp} {M : Nat} {sh : Nat → Option gSh} {th : Nat} {c : W0} {r : Int × W0} {K : Option Value → gwHp → Prop} (h0 : sD sh th) (H : f_X8_digest th c = some r) (hK : K (some (vL r.1)) (hp Φ hb M sh r.2)) : gw_Con Φ mX8_digest none [.ref (M + th)] (hp Φ hb M sh c) K := by
  unfold f_X8_digest at H
  refine gw_start okX8_digest (Nat.le_of_ble_eq_true rfl) ?_
  refine gw_ldc2Z (z := 4339) dX8_digest_0 rfl kw_737 (by decide) ?_
  refine gw_lstore_n dX8_digest_3 rfl (by decide) ?_
  refine gw_aload_n dX8_digest_4 rfl rfl ?_
  refine gw_lload_n dX8_digest_5 rfl rfl ?_
  obtain ⟨v1, e_v1, H⟩ := cv_i H
  refine gw_V1 okX8_mixCounts dX8_digest_6 kw_738 kw_740 kw_16 (hp_o (h0.1)) rfl ⟨by decide, by decide⟩ ⟨by decide, by decide⟩ (Nat.le_of_ble_eq_true rfl) (w_X8_mixCounts (h0) e_v1 ?_)
  refine gw_lstore_n dX8_digest_9 rfl (by decide) ?_
  refine gw_aload_n dX8_digest_10 rfl rfl ?_
  refine gw_lload_n dX8_digest_11 rfl rfl ?_
  obtain ⟨v2, c3, e_c3, H⟩ := cl_i H
  refine gw_V1 okX8_mixValues dX8_digest_12 kw_751 kw_753 kw_17 (hp_o (h0.1)) rfl ⟨by decide, by decide⟩ ⟨by decide, by decide⟩ (Nat.le_of_ble_eq_true rfl) (w_X8_mixValues (h0) e_c3 ?_)
  refine gw_lstore_n dX8_digest_15 rfl (by decide) ?_
  refine gw_lload_n dX8_digest_16 rfl rfl ?_
  refine gw_aload_n dX8_digest_17 rfl rfl ?_
  obtain ⟨v4, c5, e_c5, H⟩ := cl_i H
  refine gw_V0 okX8_pivotsLeft dX8_digest_18 kw_758 kw_730 kw_731 (hp_o (h0.1)) rfl ⟨by decide, by decide⟩ ⟨by decide, by decide⟩ (Nat.le_of_ble_eq_true rfl) (w_X8_pivotsLeft (h0) e_c5 ?_)
  obtain ⟨g, H⟩ := gd_i H
  refine gw_i2lZ dX8_digest_21 rfl g ?_
  obtain ⟨v6, e_v6, H⟩ := cv_i H
  refine gw_S2 okX8_mix dX8_digest_22 kw_742 kw_743 ⟨by decide, by decide⟩ ⟨by decide, by decide⟩ (Nat.le_of_ble_eq_true rfl) (w_X8_mix  e_v6 ?_)
  refine gw_lstore_n dX8_digest_25 rfl (by decide) ?_
  refine gw_lload_n dX8_digest_26 rfl rfl ?_
  refine gw_aload_n dX8_digest_27 rfl rfl ?_
  refine gs_getI cl8 10 10 dX8_digest_28 rfl kw_338 (by decide) (h0.1) rfl rfl ?_
  obtain ⟨g, H⟩ := gd_i H
  refine gw_i2lZ dX8_digest_31 rfl g ?_
  obtain ⟨v7, e_v7, H⟩ := cv_i H
  refine gw_S2 okX8_mix dX8_digest_32 kw_742 kw_743 ⟨by decide, by decide⟩ ⟨by decide, by decide⟩ (Nat.le_of_ble_eq_true rfl) (w_X8_mix  e_v7 ?_)
  refine gw_lstore_n dX8_digest_35 rfl (by decide) ?_
  refine gw_aload_n dX8_digest_36 rfl rfl ?_
  refine gw_lload_n dX8_digest_37 rfl rfl ?_
  obtain ⟨v8, c9, e_c9, H⟩ := cl_i H
  refine gw_V1 okX8_mixProblem dX8_digest_38 kw_759 kw_761 kw_18 (hp_o (h0.1)) rfl ⟨by decide, by decide⟩ ⟨by decide, by decide⟩ (Nat.le_of_ble_eq_true rfl) (w_X8_mixProblem (h0) e_c9 ?_)
  refine gw_lstore_n dX8_digest_41 rfl (by decide) ?_
  refine gw_aload_n dX8_digest_42 rfl rfl ?_
  refine gw_lload_n dX8_digest_43 rfl rfl ?_
  obtain ⟨v10, e_v10, H⟩ := cv_i H
  refine gw_V1 okX8_mixColumns dX8_digest_44 kw_875 kw_877 kw_21 (hp_o (h0.1)) rfl ⟨by decide, by decide⟩ ⟨by decide, by decide⟩ (Nat.le_of_ble_eq_true rfl) (w_X8_mixColumns (h0) e_v10 ?_)
  refine gw_lstore_n dX8_digest_47 rfl (by decide) ?_
  refine gw_aload_n dX8_digest_48 rfl rfl ?_
  refine gw_lload_n dX8_digest_49 rfl rfl ?_
  obtain ⟨v11, e_v11, H⟩ := cv_i H
  refine gw_V1 okX8_mixRows dX8_digest_50 kw_890 kw_892 kw_22 (hp_o (h0.1)) rfl ⟨by decide, by decide⟩ ⟨by decide, by decide⟩ (Nat.le_of_ble_eq_true rfl) (w_X8_mixRows (h0) e_v11 ?_)
  refine gw_lstore_n dX8_digest_53 rfl (by decide) ?_
  refine gw_aload_n dX8_digest_54 rfl rfl ?_
  refine gw_lload_n dX8_digest_55 rfl rfl ?_
  obtain ⟨v12, e_v12, H⟩ := cv_i H
  refine gw_V1 okX8_mixNext dX8_digest_56 kw_896 kw_898 kw_23 (hp_o (h0.1)) rfl ⟨by decide, by decide⟩ ⟨by decide, by decide⟩ (Nat.le_of_ble_eq_true rfl) (w_X8_mixNext (h0) e_v12 ?_)
  refine gw_lstore_n dX8_digest_59 rfl (by decide) ?_
  refine gw_lload_n dX8_digest_60 rfl rfl ?_
  refine gw_aload_n dX8_digest_61 rfl rfl ?_
  obtain ⟨v13, e_v13, H⟩ := cv_i H
  refine gw_V0 okX8_value dX8_digest_62 kw_905 kw_631 kw_632 (hp_o (h0.1)) rfl ⟨by decide, by decide⟩ ⟨by decide, by decide⟩ (Nat.le_of_ble_eq_true rfl) (w_X8_value (h0) e_v13 ?_)
  obtain ⟨v14, e_v14, H⟩ := cv_i H
  refine gw_S1 okX8_bitsOf dX8_digest_65 kw_906 kw_907 ⟨by decide, by decide⟩ ⟨by decide, by decide⟩ (Nat.le_of_ble_eq_true rfl) (w_X8_bitsOf  e_v14 ?_)
  obtain ⟨v15, e_v15, H⟩ := cv_i H
  refine gw_S2 okX8_mix dX8_digest_68 kw_742 kw_743 ⟨by decide, by decide⟩ ⟨by decide, by decide⟩ (Nat.le_of_ble_eq_true rfl) (w_X8_mix  e_v15 ?_)
  refine gw_lstore_n dX8_digest_71 rfl (by decide) ?_
  refine gw_aload_n dX8_digest_72 rfl rfl ?_
  refine gw_lload_n dX8_digest_73 rfl rfl ?_
  obtain ⟨v16, e_v16, H⟩ := cv_i H
  refine gw_V1 okX8_mixBuffer dX8_digest_74 kw_912 kw_914 kw_24 (hp_o (h0.1)) rfl ⟨by decide, by decide⟩ ⟨by decide, by decide⟩ (Nat.le_of_ble_eq_true rfl) (w_X8_mixBuffer (h0) e_v16 ?_)
  cases H
  exact gw_lret dX8_digest_77 rfl (by decide) (by decide) hK
set_option maxRecDepth 100000 in
set_option maxHeartbeats 4000000 in
theorem w_X9_thrown {Φ : gwC} {hb : gwHp} {M : Nat} {sh : Nat → Option gSh} {th : Nat} {c : W0} {r : Int} {K : Option Value → gwHp → Prop} (h0 : sM sh th) (H : f_X9_thrown th c = some r) (hK : K (some (vI r)) (hp Φ hb M sh c)) : gw_Con Φ mX9_thrown none [.ref (M + th)] (hp Φ hb M sh c) K := by
  unfold f_X9_thrown at H
  refine gw_start okX9_thrown (Nat.le_of_ble_eq_true rfl) ?_
  refine gw_aload_n dX9_thrown_0 rfl rfl ?_
  refine gs_getI cl9 0 0 dX9_thrown_1 rfl kw_1319 (by decide) (h0.1) rfl rfl ?_
  cases H
  exact gw_iret dX9_thrown_4 rfl (by decide) (by decide) hK
set_option maxRecDepth 100000 in
set_option maxHeartbeats 4000000 in
theorem w_X9_in {Φ : gwC} {hb : gwHp} {M : Nat} {sh : Nat → Option gSh} {p1 : Int} {p2 : Int} {p3 : Int} {c : W0} {r : Int} {K : Option Value → gwHp → Prop}  (H : f_X9_in p1 p2 p3 = some r) (hK : K (some (vI r)) (hp Φ hb M sh c)) : gw_Con Φ mX9_in none [vI p1, vI p2, vI p3] (hp Φ hb M sh c) K := by
  unfold f_X9_in at H
  refine gw_start okX9_in (Nat.le_of_ble_eq_true rfl) ?_
  refine gw_iload_n dX9_in_0 rfl rfl ?_
  refine gw_iload_n dX9_in_1 rfl rfl ?_
  obtain ⟨g, H⟩ := gd_i H
  refine gw_icmp_ltZ (tgt := 14) dX9_in_2 rfl (by decide) g.1 g.2 (fun q => ?_) (fun q => ?_)
  · have H := bq_t q H
    refine gw_iconstZ dX9_in_14 rfl ?_
    cases H
    exact gw_zret rfl dX9_in_15 rfl (by decide) (by decide) hK
  · have H := bq_f q H
    refine gw_iload_n dX9_in_5 rfl rfl ?_
    refine gw_iload_n dX9_in_6 rfl rfl ?_
    obtain ⟨g, H⟩ := gd_i H
    refine gw_icmp_gtZ (tgt := 14) dX9_in_7 rfl (by decide) g.1 g.2 (fun q => ?_) (fun q => ?_)
    · have H := bq_t q H
      refine gw_iconstZ dX9_in_14 rfl ?_
      cases H
      exact gw_zret rfl dX9_in_15 rfl (by decide) (by decide) hK
    · have H := bq_f q H
      refine gw_iconstZ dX9_in_10 rfl ?_
      refine gw_goto (tgt := 15) dX9_in_11 (by decide) ?_
      cases H
      exact gw_zret rfl dX9_in_15 rfl (by decide) (by decide) hK
set_option maxRecDepth 100000 in
set_option maxHeartbeats 4000000 in
theorem w_X9_holds {Φ : gwC} {hb : gwHp} {M : Nat} {sh : Nat → Option gSh} {th : Nat} {p1 : Int} {c : W0} {r : Int × W0} {K : Option Value → gwHp → Prop} (h0 : sM sh th) (H : f_X9_holds th p1 c = some r) (hK : K (some (vI r.1)) (hp Φ hb M sh r.2)) : gw_Con Φ mX9_holds none [.ref (M + th), vI p1] (hp Φ hb M sh c) K := by
  unfold f_X9_holds at H
  refine gw_start okX9_holds (Nat.le_of_ble_eq_true rfl) ?_
  refine gw_aload_n dX9_holds_0 rfl rfl ?_
  refine gw_iload_n dX9_holds_1 rfl rfl ?_
  obtain ⟨c1, e_c1, H⟩ := sto_i H
  refine gs_putIE cl9 0 0 dX9_holds_2 rfl kw_1319 (by decide) rfl rfl (h0.1) rfl rfl e_c1 ?_
  refine gw_iload_n dX9_holds_5 rfl rfl ?_
  obtain ⟨g, H⟩ := gd_i H
  refine gw_if_neZ (tgt := 13) dX9_holds_6 rfl (by decide) g (fun q => ?_) (fun q => ?_)
  · have H := bq_f q H
    refine gw_iconstZ dX9_holds_13 rfl ?_
    cases H
    exact gw_zret rfl dX9_holds_14 rfl (by decide) (by decide) hK
  · have H := bq_t q H
    refine gw_iconstZ dX9_holds_9 rfl ?_
    refine gw_goto (tgt := 14) dX9_holds_10 (by decide) ?_
    cases H
    exact gw_zret rfl dX9_holds_14 rfl (by decide) (by decide) hK
set_option maxRecDepth 100000 in
set_option maxHeartbeats 4000000 in
theorem w_X9_isVariable {Φ : gwC} {hb : gwHp} {M : Nat} {sh : Nat → Option gSh} {th : Nat} {p1 : Int} {c : W0} {r : Int} {K : Option Value → gwHp → Prop} (h0 : sM sh th) (H : f_X9_isVariable th p1 c = some r) (hK : K (some (vI r)) (hp Φ hb M sh c)) : gw_Con Φ mX9_isVariable none [.ref (M + th), vI p1] (hp Φ hb M sh c) K := by
  unfold f_X9_isVariable at H
  refine gw_start okX9_isVariable (Nat.le_of_ble_eq_true rfl) ?_
  refine gw_iload_n dX9_isVariable_0 rfl rfl ?_
  refine gw_iconstZ dX9_isVariable_1 rfl ?_
  refine gw_aload_n dX9_isVariable_2 rfl rfl ?_
  refine gs_getR cl9 1 dX9_isVariable_3 rfl kw_1320 (by decide) (h0.1) rfl ?_
  refine gw_iconstZ dX9_isVariable_6 rfl ?_
  refine gs_ialdZ dX9_isVariable_7 rfl (h0.2.1) (by decide) (by decide) ?_
  refine gw_iconstZ dX9_isVariable_8 rfl ?_
  refine gw_isubZ dX9_isVariable_9 rfl ?_
  obtain ⟨v1, e_v1, H⟩ := cv_i H
  refine gw_S3 okX9_in dX9_isVariable_10 kw_1413 kw_1414 ⟨by decide, by decide⟩ ⟨by decide, by decide⟩ (Nat.le_of_ble_eq_true rfl) (w_X9_in  e_v1 ?_)
  obtain ⟨g, H⟩ := gd_i H
  cases H
  exact gw_zret (gs_nz g) dX9_isVariable_13 rfl (by decide) (by decide) hK
set_option maxRecDepth 100000 in
set_option maxHeartbeats 4000000 in
theorem w_X9_isConstraint {Φ : gwC} {hb : gwHp} {M : Nat} {sh : Nat → Option gSh} {th : Nat} {p1 : Int} {c : W0} {r : Int} {K : Option Value → gwHp → Prop} (h0 : sM sh th) (H : f_X9_isConstraint th p1 c = some r) (hK : K (some (vI r)) (hp Φ hb M sh c)) : gw_Con Φ mX9_isConstraint none [.ref (M + th), vI p1] (hp Φ hb M sh c) K := by
  unfold f_X9_isConstraint at H
  refine gw_start okX9_isConstraint (Nat.le_of_ble_eq_true rfl) ?_
  refine gw_iload_n dX9_isConstraint_0 rfl rfl ?_
  refine gw_iconstZ dX9_isConstraint_1 rfl ?_
  refine gw_aload_n dX9_isConstraint_2 rfl rfl ?_
  refine gs_getR cl9 1 dX9_isConstraint_3 rfl kw_1320 (by decide) (h0.1) rfl ?_
  refine gw_iconstZ dX9_isConstraint_6 rfl ?_
  refine gs_ialdZ dX9_isConstraint_7 rfl (h0.2.1) (by decide) (by decide) ?_
  refine gw_iconstZ dX9_isConstraint_8 rfl ?_
  refine gw_isubZ dX9_isConstraint_9 rfl ?_
  obtain ⟨v1, e_v1, H⟩ := cv_i H
  refine gw_S3 okX9_in dX9_isConstraint_10 kw_1413 kw_1414 ⟨by decide, by decide⟩ ⟨by decide, by decide⟩ (Nat.le_of_ble_eq_true rfl) (w_X9_in  e_v1 ?_)
  obtain ⟨g, H⟩ := gd_i H
  cases H
  exact gw_zret (gs_nz g) dX9_isConstraint_13 rfl (by decide) (by decide) hK
set_option maxRecDepth 100000 in
set_option maxHeartbeats 4000000 in
theorem w_X9_columns {Φ : gwC} {hb : gwHp} {M : Nat} {sh : Nat → Option gSh} {th : Nat} {c : W0} {r : Int} {K : Option Value → gwHp → Prop} (h0 : sM sh th) (H : f_X9_columns th c = some r) (hK : K (some (vI r)) (hp Φ hb M sh c)) : gw_Con Φ mX9_columns none [.ref (M + th)] (hp Φ hb M sh c) K := by
  unfold f_X9_columns at H
  refine gw_start okX9_columns (Nat.le_of_ble_eq_true rfl) ?_
  refine gw_aload_n dX9_columns_0 rfl rfl ?_
  refine gs_getR cl9 1 dX9_columns_1 rfl kw_1320 (by decide) (h0.1) rfl ?_
  refine gw_iconstZ dX9_columns_4 rfl ?_
  refine gs_ialdZ dX9_columns_5 rfl (h0.2.1) (by decide) (by decide) ?_
  refine gw_aload_n dX9_columns_6 rfl rfl ?_
  refine gs_getR cl9 1 dX9_columns_7 rfl kw_1320 (by decide) (h0.1) rfl ?_
  refine gw_iconstZ dX9_columns_10 rfl ?_
  refine gs_ialdZ dX9_columns_11 rfl (h0.2.1) (by decide) (by decide) ?_
  refine gw_iaddZ dX9_columns_12 rfl ?_
  cases H
  exact gw_iret dX9_columns_13 rfl (by decide) (by decide) hK
set_option maxRecDepth 100000 in
set_option maxHeartbeats 4000000 in
theorem w_X9_isColumn {Φ : gwC} {hb : gwHp} {M : Nat} {sh : Nat → Option gSh} {th : Nat} {p1 : Int} {c : W0} {r : Int} {K : Option Value → gwHp → Prop} (h0 : sM sh th) (H : f_X9_isColumn th p1 c = some r) (hK : K (some (vI r)) (hp Φ hb M sh c)) : gw_Con Φ mX9_isColumn none [.ref (M + th), vI p1] (hp Φ hb M sh c) K := by
  unfold f_X9_isColumn at H
  refine gw_start okX9_isColumn (Nat.le_of_ble_eq_true rfl) ?_
  refine gw_iload_n dX9_isColumn_0 rfl rfl ?_
  refine gw_iconstZ dX9_isColumn_1 rfl ?_
  refine gw_aload_n dX9_isColumn_2 rfl rfl ?_
  obtain ⟨v1, e_v1, H⟩ := cv_i H
  refine gw_V0 okX9_columns dX9_isColumn_3 kw_1476 kw_1478 kw_41 (hp_o (h0.1)) rfl ⟨by decide, by decide⟩ ⟨by decide, by decide⟩ (Nat.le_of_ble_eq_true rfl) (w_X9_columns (h0) e_v1 ?_)
  refine gw_iconstZ dX9_isColumn_6 rfl ?_
  refine gw_isubZ dX9_isColumn_7 rfl ?_
  obtain ⟨v2, e_v2, H⟩ := cv_i H
  refine gw_S3 okX9_in dX9_isColumn_8 kw_1413 kw_1414 ⟨by decide, by decide⟩ ⟨by decide, by decide⟩ (Nat.le_of_ble_eq_true rfl) (w_X9_in  e_v2 ?_)
  obtain ⟨g, H⟩ := gd_i H
  cases H
  exact gw_zret (gs_nz g) dX9_isColumn_11 rfl (by decide) (by decide) hK
set_option maxRecDepth 100000 in
set_option maxHeartbeats 4000000 in
theorem l_X9_save_51 {Φ : gwC} {hb : gwHp} {M : Nat} {sh : Nat → Option gSh} {th : Nat} {κ : W0 → Option (Int × W0)} {r : Int × W0} {K : Option Value → gwHp → Prop} (h0 : sM sh th) (hK : K none (hp Φ hb M sh r.2)) (hκ : ∀ (c : W0), κ c = some r → G Φ mX9_save (gw_M Φ mX9_save K) none 0 0 83 [(0, .ref (M + th))] [] (hp Φ hb M sh c)) : ∀ (n : Nat) (l1 : Int) (c : W0), f_X9_save_51 th κ n l1 c = some r → G Φ mX9_save (gw_M Φ mX9_save K) none 0 0 51 [(0, .ref (M + th)), (1, vI l1)] [] (hp Φ hb M sh c) := by
  intro n
  induction n with
  | zero => intro l1 c H; cases H
  | succ n ih =>
    intro l1 c H
    have H : b_X9_save_51 th κ (f_X9_save_51 th κ n) l1 c = some r := H
    unfold b_X9_save_51 at H
    refine gw_iload_n dX9_save_51 rfl rfl ?_
    refine gw_bipushZ dX9_save_52 rfl (by decide) ?_
    obtain ⟨g, H⟩ := gd_i H
    refine gw_icmp_geZ (tgt := 83) dX9_save_54 rfl (by decide) g (by decide) (fun q => ?_) (fun q => ?_)
    · have H := bq_t q H
      exact gw_L (hκ _ H) ((lvA_c rfl lvA_n))
    · have H := bq_f q H
      refine gw_aload_n dX9_save_57 rfl rfl ?_
      refine gs_getR cl9 3 dX9_save_58 rfl kw_1322 (by decide) (h0.1) rfl ?_
      refine gw_bipushZ dX9_save_61 rfl (by decide) ?_
      refine gw_aload_n dX9_save_63 rfl rfl ?_
      refine gs_getI cl9 4 4 dX9_save_64 rfl kw_1323 (by decide) (h0.1) rfl rfl ?_
      refine gw_imulZ dX9_save_67 rfl ?_
      refine gw_iload_n dX9_save_68 rfl rfl ?_
      refine gw_iaddZ dX9_save_69 rfl ?_
      refine gw_aload_n dX9_save_70 rfl rfl ?_
      refine gs_getR cl9 1 dX9_save_71 rfl kw_1320 (by decide) (h0.1) rfl ?_
      refine gw_iload_n dX9_save_74 rfl rfl ?_
      obtain ⟨g, H⟩ := gd_i H
      refine gs_ialdZ dX9_save_75 rfl (h0.2.1) g (by decide) ?_
      obtain ⟨g, H⟩ := gd_i H
      obtain ⟨c1, e_c1, H⟩ := sto_i H
      refine gs_iastZE dX9_save_76 rfl (h0.2.2.2.1) g (by decide) e_c1 ?_
      refine gw_iincZ dX9_save_77 rfl rfl (by decide) ?_
      refine gw_goto (tgt := 51) dX9_save_80 (by decide) ?_
      exact gw_L (ih _ _ H) ((lvA_c rfl (lvA_c rfl lvA_n)))
set_option maxRecDepth 100000 in
set_option maxHeartbeats 4000000 in
theorem l_X9_save_11 {Φ : gwC} {hb : gwHp} {M : Nat} {sh : Nat → Option gSh} {th : Nat} {κ : W0 → Option (Int × W0)} {r : Int × W0} {K : Option Value → gwHp → Prop} (h0 : sM sh th) (hK : K none (hp Φ hb M sh r.2)) (hκ : ∀ (c : W0), κ c = some r → G Φ mX9_save (gw_M Φ mX9_save K) none 0 0 39 [(0, .ref (M + th))] [] (hp Φ hb M sh c)) : ∀ (n : Nat) (l1 : Int) (c : W0), f_X9_save_11 th κ n l1 c = some r → G Φ mX9_save (gw_M Φ mX9_save K) none 0 0 11 [(0, .ref (M + th)), (1, vI l1)] [] (hp Φ hb M sh c) := by
  intro n
  induction n with
  | zero => intro l1 c H; cases H
  | succ n ih =>
    intro l1 c H
    have H : b_X9_save_11 th κ (f_X9_save_11 th κ n) l1 c = some r := H
    unfold b_X9_save_11 at H
    refine gw_iload_n dX9_save_11 rfl rfl ?_
    refine gw_sipushZ dX9_save_12 rfl (by decide) ?_
    obtain ⟨g, H⟩ := gd_i H
    refine gw_icmp_geZ (tgt := 39) dX9_save_15 rfl (by decide) g (by decide) (fun q => ?_) (fun q => ?_)
    · have H := bq_t q H
      exact gw_L (hκ _ H) ((lvA_c rfl lvA_n))
    · have H := bq_f q H
      refine gw_aload_n dX9_save_18 rfl rfl ?_
      refine gs_getR cl9 3 dX9_save_19 rfl kw_1322 (by decide) (h0.1) rfl ?_
      refine gw_iload_n dX9_save_22 rfl rfl ?_
      refine gw_aload_n dX9_save_23 rfl rfl ?_
      refine gs_getR cl9 3 dX9_save_24 rfl kw_1322 (by decide) (h0.1) rfl ?_
      refine gw_iload_n dX9_save_27 rfl rfl ?_
      refine gw_bipushZ dX9_save_28 rfl (by decide) ?_
      refine gw_iaddZ dX9_save_30 rfl ?_
      obtain ⟨g, H⟩ := gd_i H
      refine gs_ialdZ dX9_save_31 rfl (h0.2.2.2.1) g (by decide) ?_
      obtain ⟨g, H⟩ := gd_i H
      obtain ⟨c1, e_c1, H⟩ := sto_i H
      refine gs_iastZE dX9_save_32 rfl (h0.2.2.2.1) g (by decide) e_c1 ?_
      refine gw_iincZ dX9_save_33 rfl rfl (by decide) ?_
      refine gw_goto (tgt := 11) dX9_save_36 (by decide) ?_
      exact gw_L (ih _ _ H) ((lvA_c rfl (lvA_c rfl lvA_n)))
set_option maxRecDepth 100000 in
set_option maxHeartbeats 4000000 in
theorem w_X9_save {Φ : gwC} {hb : gwHp} {M : Nat} {sh : Nat → Option gSh} {th : Nat} {c : W0} {r : Int × W0} {K : Option Value → gwHp → Prop} (h0 : sM sh th) (H : f_X9_save th c = some r) (hK : K none (hp Φ hb M sh r.2)) : gw_Con Φ mX9_save none [.ref (M + th)] (hp Φ hb M sh c) K := by
  unfold f_X9_save at H
  refine gw_start okX9_save (Nat.le_of_ble_eq_true rfl) ?_
  refine gw_aload_n dX9_save_0 rfl rfl ?_
  refine gs_getI cl9 4 4 dX9_save_1 rfl kw_1323 (by decide) (h0.1) rfl rfl ?_
  refine gw_bipushZ dX9_save_4 rfl (by decide) ?_
  obtain ⟨g, H⟩ := gd_i H
  refine gw_icmp_neZ (tgt := 49) dX9_save_6 rfl (by decide) g (by decide) (fun q => ?_) (fun q => ?_)
  · have H := bq_f q H
    refine gw_iconstZ dX9_save_49 rfl ?_
    refine gw_istore_n dX9_save_50 rfl (by decide) ?_
    refine gw_L (l_X9_save_51 h0 hK (fun c1 H => ?_) LF _ _ H) ((lvA_c rfl (lvA_c rfl lvA_n)))
    refine gw_aload_n dX9_save_83 rfl rfl ?_
    refine gw_dup dX9_save_84 rfl rfl ?_
    refine gs_getI cl9 4 4 dX9_save_85 rfl kw_1323 (by decide) (h0.1) rfl rfl ?_
    refine gw_iconstZ dX9_save_88 rfl ?_
    refine gw_iaddZ dX9_save_89 rfl ?_
    obtain ⟨c2, e_c2, H⟩ := sto_i H
    refine gs_putIE cl9 4 4 dX9_save_90 rfl kw_1323 (by decide) rfl rfl (h0.1) rfl rfl e_c2 ?_
    cases H
    exact gw_vret dX9_save_93 rfl (by decide) (by decide) hK
  · have H := bq_t q H
    refine gw_iconstZ dX9_save_9 rfl ?_
    refine gw_istore_n dX9_save_10 rfl (by decide) ?_
    refine gw_L (l_X9_save_11 h0 hK (fun c3 H => ?_) LF _ _ H) ((lvA_c rfl (lvA_c rfl lvA_n)))
    refine gw_aload_n dX9_save_39 rfl rfl ?_
    refine gw_dup dX9_save_40 rfl rfl ?_
    refine gs_getI cl9 4 4 dX9_save_41 rfl kw_1323 (by decide) (h0.1) rfl rfl ?_
    refine gw_iconstZ dX9_save_44 rfl ?_
    refine gw_isubZ dX9_save_45 rfl ?_
    obtain ⟨c4, e_c4, H⟩ := sto_i H
    refine gs_putIE cl9 4 4 dX9_save_46 rfl kw_1323 (by decide) rfl rfl (h0.1) rfl rfl e_c4 ?_
    refine gw_iconstZ dX9_save_49 rfl ?_
    refine gw_istore_n dX9_save_50 rfl (by decide) ?_
    refine gw_L (l_X9_save_51 h0 hK (fun c5 H => ?_) LF _ _ H) ((lvA_c rfl (lvA_c rfl lvA_n)))
    refine gw_aload_n dX9_save_83 rfl rfl ?_
    refine gw_dup dX9_save_84 rfl rfl ?_
    refine gs_getI cl9 4 4 dX9_save_85 rfl kw_1323 (by decide) (h0.1) rfl rfl ?_
    refine gw_iconstZ dX9_save_88 rfl ?_
    refine gw_iaddZ dX9_save_89 rfl ?_
    obtain ⟨c6, e_c6, H⟩ := sto_i H
    refine gs_putIE cl9 4 4 dX9_save_90 rfl kw_1323 (by decide) rfl rfl (h0.1) rfl rfl e_c6 ?_
    cases H
    exact gw_vret dX9_save_93 rfl (by decide) (by decide) hK
set_option maxRecDepth 100000 in
set_option maxHeartbeats 4000000 in
theorem l_X9_putAside_2 {Φ : gwC} {hb : gwHp} {M : Nat} {sh : Nat → Option gSh} {th : Nat} {κ : W0 → Option (Int × W0)} {r : Int × W0} {K : Option Value → gwHp → Prop} (h0 : sM sh th) (hK : K none (hp Φ hb M sh r.2)) (hκ : ∀ (c : W0), κ c = some r → G Φ mX9_putAside (gw_M Φ mX9_putAside K) none 0 0 26 [] [] (hp Φ hb M sh c)) : ∀ (n : Nat) (l1 : Int) (c : W0), f_X9_putAside_2 th κ n l1 c = some r → G Φ mX9_putAside (gw_M Φ mX9_putAside K) none 0 0 2 [(0, .ref (M + th)), (1, vI l1)] [] (hp Φ hb M sh c) := by
  intro n
  induction n with
  | zero => intro l1 c H; cases H
  | succ n ih =>
    intro l1 c H
    have H : b_X9_putAside_2 th κ (f_X9_putAside_2 th κ n) l1 c = some r := H
    unfold b_X9_putAside_2 at H
    refine gw_iload_n dX9_putAside_2 rfl rfl ?_
    refine gw_bipushZ dX9_putAside_3 rfl (by decide) ?_
    obtain ⟨g, H⟩ := gd_i H
    refine gw_icmp_geZ (tgt := 26) dX9_putAside_5 rfl (by decide) g (by decide) (fun q => ?_) (fun q => ?_)
    · have H := bq_t q H
      exact gw_L (hκ _ H) (lvA_n)
    · have H := bq_f q H
      refine gw_aload_n dX9_putAside_8 rfl rfl ?_
      refine gs_getR cl9 2 dX9_putAside_9 rfl kw_1321 (by decide) (h0.1) rfl ?_
      refine gw_iload_n dX9_putAside_12 rfl rfl ?_
      refine gw_aload_n dX9_putAside_13 rfl rfl ?_
      refine gs_getR cl9 1 dX9_putAside_14 rfl kw_1320 (by decide) (h0.1) rfl ?_
      refine gw_iload_n dX9_putAside_17 rfl rfl ?_
      obtain ⟨g, H⟩ := gd_i H
      refine gs_ialdZ dX9_putAside_18 rfl (h0.2.1) g (by decide) ?_
      obtain ⟨g, H⟩ := gd_i H
      obtain ⟨c1, e_c1, H⟩ := sto_i H
      refine gs_iastZE dX9_putAside_19 rfl (h0.2.2.1) g (by decide) e_c1 ?_
      refine gw_iincZ dX9_putAside_20 rfl rfl (by decide) ?_
      refine gw_goto (tgt := 2) dX9_putAside_23 (by decide) ?_
      exact gw_L (ih _ _ H) ((lvA_c rfl (lvA_c rfl lvA_n)))
set_option maxRecDepth 100000 in
set_option maxHeartbeats 4000000 in
theorem w_X9_putAside {Φ : gwC} {hb : gwHp} {M : Nat} {sh : Nat → Option gSh} {th : Nat} {c : W0} {r : Int × W0} {K : Option Value → gwHp → Prop} (h0 : sM sh th) (H : f_X9_putAside th c = some r) (hK : K none (hp Φ hb M sh r.2)) : gw_Con Φ mX9_putAside none [.ref (M + th)] (hp Φ hb M sh c) K := by
  unfold f_X9_putAside at H
  refine gw_start okX9_putAside (Nat.le_of_ble_eq_true rfl) ?_
  refine gw_iconstZ dX9_putAside_0 rfl ?_
  refine gw_istore_n dX9_putAside_1 rfl (by decide) ?_
  refine gw_L (l_X9_putAside_2 h0 hK (fun c1 H => ?_) LF _ _ H) ((lvA_c rfl (lvA_c rfl lvA_n)))
  cases H
  exact gw_vret dX9_putAside_26 rfl (by decide) (by decide) hK
set_option maxRecDepth 100000 in
set_option maxHeartbeats 4000000 in
theorem l_X9_putBack_2 {Φ : gwC} {hb : gwHp} {M : Nat} {sh : Nat → Option gSh} {th : Nat} {κ : W0 → Option (Int × W0)} {r : Int × W0} {K : Option Value → gwHp → Prop} (h0 : sM sh th) (hK : K none (hp Φ hb M sh r.2)) (hκ : ∀ (c : W0), κ c = some r → G Φ mX9_putBack (gw_M Φ mX9_putBack K) none 0 0 26 [] [] (hp Φ hb M sh c)) : ∀ (n : Nat) (l1 : Int) (c : W0), f_X9_putBack_2 th κ n l1 c = some r → G Φ mX9_putBack (gw_M Φ mX9_putBack K) none 0 0 2 [(0, .ref (M + th)), (1, vI l1)] [] (hp Φ hb M sh c) := by
  intro n
  induction n with
  | zero => intro l1 c H; cases H
  | succ n ih =>
    intro l1 c H
    have H : b_X9_putBack_2 th κ (f_X9_putBack_2 th κ n) l1 c = some r := H
    unfold b_X9_putBack_2 at H
    refine gw_iload_n dX9_putBack_2 rfl rfl ?_
    refine gw_bipushZ dX9_putBack_3 rfl (by decide) ?_
    obtain ⟨g, H⟩ := gd_i H
    refine gw_icmp_geZ (tgt := 26) dX9_putBack_5 rfl (by decide) g (by decide) (fun q => ?_) (fun q => ?_)
    · have H := bq_t q H
      exact gw_L (hκ _ H) (lvA_n)
    · have H := bq_f q H
      refine gw_aload_n dX9_putBack_8 rfl rfl ?_
      refine gs_getR cl9 1 dX9_putBack_9 rfl kw_1320 (by decide) (h0.1) rfl ?_
      refine gw_iload_n dX9_putBack_12 rfl rfl ?_
      refine gw_aload_n dX9_putBack_13 rfl rfl ?_
      refine gs_getR cl9 2 dX9_putBack_14 rfl kw_1321 (by decide) (h0.1) rfl ?_
      refine gw_iload_n dX9_putBack_17 rfl rfl ?_
      obtain ⟨g, H⟩ := gd_i H
      refine gs_ialdZ dX9_putBack_18 rfl (h0.2.2.1) g (by decide) ?_
      obtain ⟨g, H⟩ := gd_i H
      obtain ⟨c1, e_c1, H⟩ := sto_i H
      refine gs_iastZE dX9_putBack_19 rfl (h0.2.1) g (by decide) e_c1 ?_
      refine gw_iincZ dX9_putBack_20 rfl rfl (by decide) ?_
      refine gw_goto (tgt := 2) dX9_putBack_23 (by decide) ?_
      exact gw_L (ih _ _ H) ((lvA_c rfl (lvA_c rfl lvA_n)))
set_option maxRecDepth 100000 in
set_option maxHeartbeats 4000000 in
theorem w_X9_putBack {Φ : gwC} {hb : gwHp} {M : Nat} {sh : Nat → Option gSh} {th : Nat} {c : W0} {r : Int × W0} {K : Option Value → gwHp → Prop} (h0 : sM sh th) (H : f_X9_putBack th c = some r) (hK : K none (hp Φ hb M sh r.2)) : gw_Con Φ mX9_putBack none [.ref (M + th)] (hp Φ hb M sh c) K := by
  unfold f_X9_putBack at H
  refine gw_start okX9_putBack (Nat.le_of_ble_eq_true rfl) ?_
  refine gw_iconstZ dX9_putBack_0 rfl ?_
  refine gw_istore_n dX9_putBack_1 rfl (by decide) ?_
  refine gw_L (l_X9_putBack_2 h0 hK (fun c1 H => ?_) LF _ _ H) ((lvA_c rfl (lvA_c rfl lvA_n)))
  cases H
  exact gw_vret dX9_putBack_26 rfl (by decide) (by decide) hK
end FW
