section FW
set_option maxRecDepth 100000 in
set_option maxHeartbeats 4000000 in
theorem w_X8_allPivots {Φ : gwC} {hb : gwHp} {M : Nat} {sh : Nat → Option gSh} {th : Nat} {c : W0} {r : Int} {K : Option Value → gwHp → Prop} (h0 : sD sh th) (H : f_X8_allPivots th c = some r) (hK : K (some (vI r)) (hp Φ hb M sh c)) : gw_Con Φ mX8_allPivots none [.ref (M + th)] (hp Φ hb M sh c) K := by
  unfold f_X8_allPivots at H
  refine gw_start okX8_allPivots (Nat.le_of_ble_eq_true rfl) ?_
  refine gw_aload_n dX8_allPivots_0 rfl rfl ?_
  refine gs_getR cl8 0 dX8_allPivots_1 rfl kw_234 (by decide) (h0.1) rfl ?_
  refine gs_getIN cl4 4 4 dX8_allPivots_4 rfl kw_130 (by decide) (h0.2.1.1) rfl rfl ?_
  cases H
  exact gw_iret dX8_allPivots_7 rfl (by decide) (by decide) hK
set_option maxRecDepth 100000 in
set_option maxHeartbeats 4000000 in
theorem w_X8_idlePivots {Φ : gwC} {hb : gwHp} {M : Nat} {sh : Nat → Option gSh} {th : Nat} {c : W0} {r : Int} {K : Option Value → gwHp → Prop} (h0 : sD sh th) (H : f_X8_idlePivots th c = some r) (hK : K (some (vI r)) (hp Φ hb M sh c)) : gw_Con Φ mX8_idlePivots none [.ref (M + th)] (hp Φ hb M sh c) K := by
  unfold f_X8_idlePivots at H
  refine gw_start okX8_idlePivots (Nat.le_of_ble_eq_true rfl) ?_
  refine gw_aload_n dX8_idlePivots_0 rfl rfl ?_
  refine gs_getR cl8 0 dX8_idlePivots_1 rfl kw_234 (by decide) (h0.1) rfl ?_
  refine gs_getIN cl4 5 5 dX8_idlePivots_4 rfl kw_132 (by decide) (h0.2.1.1) rfl rfl ?_
  cases H
  exact gw_iret dX8_idlePivots_7 rfl (by decide) (by decide) hK
set_option maxRecDepth 100000 in
set_option maxHeartbeats 4000000 in
theorem w_X8_entryNumerator {Φ : gwC} {hb : gwHp} {M : Nat} {sh : Nat → Option gSh} {th : Nat} {p1 : Int} {p2 : Int} {c : W0} {r : Int × Int × W0} {K : Option Value → gwHp → Prop} {KX : String → gwHp → Prop} (h0 : sD sh th) (H : f_X8_entryNumerator th p1 p2 c = some r) (hK : r.1 = 0 → K (some (vL r.2.1)) (hp Φ hb M sh r.2.2)) (hKX : ¬ r.1 = 0 → KX (xnm r.1) (hp Φ hb M sh r.2.2)) : gw_ConX Φ mX8_entryNumerator [.ref (M + th), vI p1, vI p2] (hp Φ hb M sh c) K KX := by
  unfold f_X8_entryNumerator at H
  refine gw_startX okX8_entryNumerator (Nat.le_of_ble_eq_true rfl) ?_
  refine gw_aload_n dX8_entryNumerator_0 rfl rfl ?_
  refine gw_iload_n dX8_entryNumerator_1 rfl rfl ?_
  obtain ⟨e9, v2, c1, e_c1, H⟩ := cx_i H
  refine gw_VX1 okX8_requireRow dX8_entryNumerator_2 kw_539 kw_541 kw_5 (hp_o (h0.1)) rfl ⟨by decide, by decide⟩ ⟨by decide, by decide⟩ (Nat.le_of_ble_eq_true rfl) (w_X8_requireRow (h0) e_c1 (fun z => ?_) (fun z => ?_))
  · rcases H with ⟨-, H⟩ | ⟨z2, H⟩
    rotate_left
    · exact absurd z z2
    refine gw_aload_n dX8_entryNumerator_5 rfl rfl ?_
    refine gw_iload_n dX8_entryNumerator_6 rfl rfl ?_
    obtain ⟨e9, v4, c3, e_c3, H⟩ := cx_i H
    refine gw_VX1 okX8_requireColumn dX8_entryNumerator_7 kw_544 kw_546 kw_6 (hp_o (h0.1)) rfl ⟨by decide, by decide⟩ ⟨by decide, by decide⟩ (Nat.le_of_ble_eq_true rfl) (w_X8_requireColumn (h0) e_c3 (fun z => ?_) (fun z => ?_))
    · rcases H with ⟨-, H⟩ | ⟨z2, H⟩
      rotate_left
      · exact absurd z z2
      refine gw_aload_n dX8_entryNumerator_10 rfl rfl ?_
      refine gs_getR cl8 0 dX8_entryNumerator_11 rfl kw_234 (by decide) (h0.1) rfl ?_
      refine gs_getRN cl4 1 dX8_entryNumerator_14 rfl kw_124 (by decide) (h0.2.1.1) rfl ?_
      refine gw_iload_n dX8_entryNumerator_17 rfl rfl ?_
      refine gw_iload_n dX8_entryNumerator_18 rfl rfl ?_
      obtain ⟨v5, e_v5, H⟩ := cv_i H
      refine gw_V2 okX6_entry dX8_entryNumerator_19 kw_744 kw_567 kw_568 (hp_o (h0.2.1.2.2.1)) rfl ⟨by decide, by decide⟩ ⟨by decide, by decide⟩ (Nat.le_of_ble_eq_true rfl) (w_X6_entry (h0.2.1.2.2) e_v5 ?_)
      refine gw_aload_n dX8_entryNumerator_22 rfl rfl ?_
      refine gs_getR cl8 0 dX8_entryNumerator_23 rfl kw_234 (by decide) (h0.1) rfl ?_
      refine gs_getRN cl4 1 dX8_entryNumerator_26 rfl kw_124 (by decide) (h0.2.1.1) rfl ?_
      refine gs_getLN cl6 2 2 dX8_entryNumerator_29 rfl kw_105 (by decide) (h0.2.1.2.2.1) rfl rfl ?_
      obtain ⟨v6, e_v6, H⟩ := cv_i H
      refine gw_S2 okX8_lowNumerator dX8_entryNumerator_32 kw_708 kw_709 ⟨by decide, by decide⟩ ⟨by decide, by decide⟩ (Nat.le_of_ble_eq_true rfl) (w_X8_lowNumerator  e_v6 ?_)
      cases H
      exact gw_lretX dX8_entryNumerator_35 rfl (by decide) (by decide) (hK rfl)
    · exact gw_out rfl (by decide) (by decide) (by rcases H with ⟨z2, H⟩ | ⟨z2, rfl⟩; (· exact absurd z2 z); exact hKX z)
  · exact gw_out rfl (by decide) (by decide) (by rcases H with ⟨z2, H⟩ | ⟨z2, rfl⟩; (· exact absurd z2 z); exact hKX z)
set_option maxRecDepth 100000 in
set_option maxHeartbeats 4000000 in
theorem w_X8_entryDenominator {Φ : gwC} {hb : gwHp} {M : Nat} {sh : Nat → Option gSh} {th : Nat} {p1 : Int} {p2 : Int} {c : W0} {r : Int × Int × W0} {K : Option Value → gwHp → Prop} {KX : String → gwHp → Prop} (h0 : sD sh th) (H : f_X8_entryDenominator th p1 p2 c = some r) (hK : r.1 = 0 → K (some (vL r.2.1)) (hp Φ hb M sh r.2.2)) (hKX : ¬ r.1 = 0 → KX (xnm r.1) (hp Φ hb M sh r.2.2)) : gw_ConX Φ mX8_entryDenominator [.ref (M + th), vI p1, vI p2] (hp Φ hb M sh c) K KX := by
  unfold f_X8_entryDenominator at H
  refine gw_startX okX8_entryDenominator (Nat.le_of_ble_eq_true rfl) ?_
  refine gw_aload_n dX8_entryDenominator_0 rfl rfl ?_
  refine gw_iload_n dX8_entryDenominator_1 rfl rfl ?_
  obtain ⟨e9, v2, c1, e_c1, H⟩ := cx_i H
  refine gw_VX1 okX8_requireRow dX8_entryDenominator_2 kw_539 kw_541 kw_5 (hp_o (h0.1)) rfl ⟨by decide, by decide⟩ ⟨by decide, by decide⟩ (Nat.le_of_ble_eq_true rfl) (w_X8_requireRow (h0) e_c1 (fun z => ?_) (fun z => ?_))
  · rcases H with ⟨-, H⟩ | ⟨z2, H⟩
    rotate_left
    · exact absurd z z2
    refine gw_aload_n dX8_entryDenominator_5 rfl rfl ?_
    refine gw_iload_n dX8_entryDenominator_6 rfl rfl ?_
    obtain ⟨e9, v4, c3, e_c3, H⟩ := cx_i H
    refine gw_VX1 okX8_requireColumn dX8_entryDenominator_7 kw_544 kw_546 kw_6 (hp_o (h0.1)) rfl ⟨by decide, by decide⟩ ⟨by decide, by decide⟩ (Nat.le_of_ble_eq_true rfl) (w_X8_requireColumn (h0) e_c3 (fun z => ?_) (fun z => ?_))
    · rcases H with ⟨-, H⟩ | ⟨z2, H⟩
      rotate_left
      · exact absurd z z2
      refine gw_aload_n dX8_entryDenominator_10 rfl rfl ?_
      refine gs_getR cl8 0 dX8_entryDenominator_11 rfl kw_234 (by decide) (h0.1) rfl ?_
      refine gs_getRN cl4 1 dX8_entryDenominator_14 rfl kw_124 (by decide) (h0.2.1.1) rfl ?_
      refine gw_iload_n dX8_entryDenominator_17 rfl rfl ?_
      refine gw_iload_n dX8_entryDenominator_18 rfl rfl ?_
      obtain ⟨v5, e_v5, H⟩ := cv_i H
      refine gw_V2 okX6_entry dX8_entryDenominator_19 kw_744 kw_567 kw_568 (hp_o (h0.2.1.2.2.1)) rfl ⟨by decide, by decide⟩ ⟨by decide, by decide⟩ (Nat.le_of_ble_eq_true rfl) (w_X6_entry (h0.2.1.2.2) e_v5 ?_)
      refine gw_aload_n dX8_entryDenominator_22 rfl rfl ?_
      refine gs_getR cl8 0 dX8_entryDenominator_23 rfl kw_234 (by decide) (h0.1) rfl ?_
      refine gs_getRN cl4 1 dX8_entryDenominator_26 rfl kw_124 (by decide) (h0.2.1.1) rfl ?_
      refine gs_getLN cl6 2 2 dX8_entryDenominator_29 rfl kw_105 (by decide) (h0.2.1.2.2.1) rfl rfl ?_
      obtain ⟨v6, e_v6, H⟩ := cv_i H
      refine gw_S2 okX8_lowDenominator dX8_entryDenominator_32 kw_695 kw_696 ⟨by decide, by decide⟩ ⟨by decide, by decide⟩ (Nat.le_of_ble_eq_true rfl) (w_X8_lowDenominator  e_v6 ?_)
      cases H
      exact gw_lretX dX8_entryDenominator_35 rfl (by decide) (by decide) (hK rfl)
    · exact gw_out rfl (by decide) (by decide) (by rcases H with ⟨z2, H⟩ | ⟨z2, rfl⟩; (· exact absurd z2 z); exact hKX z)
  · exact gw_out rfl (by decide) (by decide) (by rcases H with ⟨z2, H⟩ | ⟨z2, rfl⟩; (· exact absurd z2 z); exact hKX z)
set_option maxRecDepth 100000 in
set_option maxHeartbeats 4000000 in
theorem w_X8_reducedNumerator {Φ : gwC} {hb : gwHp} {M : Nat} {sh : Nat → Option gSh} {th : Nat} {p1 : Int} {c : W0} {r : Int × Int × W0} {K : Option Value → gwHp → Prop} {KX : String → gwHp → Prop} (h0 : sD sh th) (H : f_X8_reducedNumerator th p1 c = some r) (hK : r.1 = 0 → K (some (vL r.2.1)) (hp Φ hb M sh r.2.2)) (hKX : ¬ r.1 = 0 → KX (xnm r.1) (hp Φ hb M sh r.2.2)) : gw_ConX Φ mX8_reducedNumerator [.ref (M + th), vI p1] (hp Φ hb M sh c) K KX := by
  unfold f_X8_reducedNumerator at H
  refine gw_startX okX8_reducedNumerator (Nat.le_of_ble_eq_true rfl) ?_
  refine gw_aload_n dX8_reducedNumerator_0 rfl rfl ?_
  refine gw_iload_n dX8_reducedNumerator_1 rfl rfl ?_
  obtain ⟨e9, v2, c1, e_c1, H⟩ := cx_i H
  refine gw_VX1 okX8_requireColumn dX8_reducedNumerator_2 kw_544 kw_546 kw_6 (hp_o (h0.1)) rfl ⟨by decide, by decide⟩ ⟨by decide, by decide⟩ (Nat.le_of_ble_eq_true rfl) (w_X8_requireColumn (h0) e_c1 (fun z => ?_) (fun z => ?_))
  · rcases H with ⟨-, H⟩ | ⟨z2, H⟩
    rotate_left
    · exact absurd z z2
    refine gw_aload_n dX8_reducedNumerator_5 rfl rfl ?_
    refine gs_getR cl8 0 dX8_reducedNumerator_6 rfl kw_234 (by decide) (h0.1) rfl ?_
    refine gs_getRN cl4 1 dX8_reducedNumerator_9 rfl kw_124 (by decide) (h0.2.1.1) rfl ?_
    refine gw_iload_n dX8_reducedNumerator_12 rfl rfl ?_
    obtain ⟨v3, e_v3, H⟩ := cv_i H
    refine gw_V1 okX6_reduced dX8_reducedNumerator_13 kw_739 kw_563 kw_564 (hp_o (h0.2.1.2.2.1)) rfl ⟨by decide, by decide⟩ ⟨by decide, by decide⟩ (Nat.le_of_ble_eq_true rfl) (w_X6_reduced (h0.2.1.2.2) e_v3 ?_)
    refine gw_aload_n dX8_reducedNumerator_16 rfl rfl ?_
    refine gs_getR cl8 0 dX8_reducedNumerator_17 rfl kw_234 (by decide) (h0.1) rfl ?_
    refine gs_getRN cl4 1 dX8_reducedNumerator_20 rfl kw_124 (by decide) (h0.2.1.1) rfl ?_
    refine gs_getLN cl6 2 2 dX8_reducedNumerator_23 rfl kw_105 (by decide) (h0.2.1.2.2.1) rfl rfl ?_
    obtain ⟨v4, e_v4, H⟩ := cv_i H
    refine gw_S2 okX8_lowNumerator dX8_reducedNumerator_26 kw_708 kw_709 ⟨by decide, by decide⟩ ⟨by decide, by decide⟩ (Nat.le_of_ble_eq_true rfl) (w_X8_lowNumerator  e_v4 ?_)
    cases H
    exact gw_lretX dX8_reducedNumerator_29 rfl (by decide) (by decide) (hK rfl)
  · exact gw_out rfl (by decide) (by decide) (by rcases H with ⟨z2, H⟩ | ⟨z2, rfl⟩; (· exact absurd z2 z); exact hKX z)
set_option maxRecDepth 100000 in
set_option maxHeartbeats 4000000 in
theorem w_X8_reducedDenominator {Φ : gwC} {hb : gwHp} {M : Nat} {sh : Nat → Option gSh} {th : Nat} {p1 : Int} {c : W0} {r : Int × Int × W0} {K : Option Value → gwHp → Prop} {KX : String → gwHp → Prop} (h0 : sD sh th) (H : f_X8_reducedDenominator th p1 c = some r) (hK : r.1 = 0 → K (some (vL r.2.1)) (hp Φ hb M sh r.2.2)) (hKX : ¬ r.1 = 0 → KX (xnm r.1) (hp Φ hb M sh r.2.2)) : gw_ConX Φ mX8_reducedDenominator [.ref (M + th), vI p1] (hp Φ hb M sh c) K KX := by
  unfold f_X8_reducedDenominator at H
  refine gw_startX okX8_reducedDenominator (Nat.le_of_ble_eq_true rfl) ?_
  refine gw_aload_n dX8_reducedDenominator_0 rfl rfl ?_
  refine gw_iload_n dX8_reducedDenominator_1 rfl rfl ?_
  obtain ⟨e9, v2, c1, e_c1, H⟩ := cx_i H
  refine gw_VX1 okX8_requireColumn dX8_reducedDenominator_2 kw_544 kw_546 kw_6 (hp_o (h0.1)) rfl ⟨by decide, by decide⟩ ⟨by decide, by decide⟩ (Nat.le_of_ble_eq_true rfl) (w_X8_requireColumn (h0) e_c1 (fun z => ?_) (fun z => ?_))
  · rcases H with ⟨-, H⟩ | ⟨z2, H⟩
    rotate_left
    · exact absurd z z2
    refine gw_aload_n dX8_reducedDenominator_5 rfl rfl ?_
    refine gs_getR cl8 0 dX8_reducedDenominator_6 rfl kw_234 (by decide) (h0.1) rfl ?_
    refine gs_getRN cl4 1 dX8_reducedDenominator_9 rfl kw_124 (by decide) (h0.2.1.1) rfl ?_
    refine gw_iload_n dX8_reducedDenominator_12 rfl rfl ?_
    obtain ⟨v3, e_v3, H⟩ := cv_i H
    refine gw_V1 okX6_reduced dX8_reducedDenominator_13 kw_739 kw_563 kw_564 (hp_o (h0.2.1.2.2.1)) rfl ⟨by decide, by decide⟩ ⟨by decide, by decide⟩ (Nat.le_of_ble_eq_true rfl) (w_X6_reduced (h0.2.1.2.2) e_v3 ?_)
    refine gw_aload_n dX8_reducedDenominator_16 rfl rfl ?_
    refine gs_getR cl8 0 dX8_reducedDenominator_17 rfl kw_234 (by decide) (h0.1) rfl ?_
    refine gs_getRN cl4 1 dX8_reducedDenominator_20 rfl kw_124 (by decide) (h0.2.1.1) rfl ?_
    refine gs_getLN cl6 2 2 dX8_reducedDenominator_23 rfl kw_105 (by decide) (h0.2.1.2.2.1) rfl rfl ?_
    obtain ⟨v4, e_v4, H⟩ := cv_i H
    refine gw_S2 okX8_lowDenominator dX8_reducedDenominator_26 kw_695 kw_696 ⟨by decide, by decide⟩ ⟨by decide, by decide⟩ (Nat.le_of_ble_eq_true rfl) (w_X8_lowDenominator  e_v4 ?_)
    cases H
    exact gw_lretX dX8_reducedDenominator_29 rfl (by decide) (by decide) (hK rfl)
  · exact gw_out rfl (by decide) (by decide) (by rcases H with ⟨z2, H⟩ | ⟨z2, rfl⟩; (· exact absurd z2 z); exact hKX z)
set_option maxRecDepth 100000 in
set_option maxHeartbeats 4000000 in
theorem w_X8_valueNumerator {Φ : gwC} {hb : gwHp} {M : Nat} {sh : Nat → Option gSh} {th : Nat} {c : W0} {r : Int} {K : Option Value → gwHp → Prop} (h0 : sD sh th) (H : f_X8_valueNumerator th c = some r) (hK : K (some (vL r)) (hp Φ hb M sh c)) : gw_Con Φ mX8_valueNumerator none [.ref (M + th)] (hp Φ hb M sh c) K := by
  unfold f_X8_valueNumerator at H
  refine gw_start okX8_valueNumerator (Nat.le_of_ble_eq_true rfl) ?_
  refine gw_aload_n dX8_valueNumerator_0 rfl rfl ?_
  refine gs_getR cl8 0 dX8_valueNumerator_1 rfl kw_234 (by decide) (h0.1) rfl ?_
  refine gs_getRN cl4 1 dX8_valueNumerator_4 rfl kw_124 (by decide) (h0.2.1.1) rfl ?_
  obtain ⟨v1, e_v1, H⟩ := cv_i H
  refine gw_V0 okX6_worth dX8_valueNumerator_7 kw_718 kw_719 kw_720 (hp_o (h0.2.1.2.2.1)) rfl ⟨by decide, by decide⟩ ⟨by decide, by decide⟩ (Nat.le_of_ble_eq_true rfl) (w_X6_worth (h0.2.1.2.2) e_v1 ?_)
  refine gw_aload_n dX8_valueNumerator_10 rfl rfl ?_
  refine gs_getR cl8 0 dX8_valueNumerator_11 rfl kw_234 (by decide) (h0.1) rfl ?_
  refine gs_getRN cl4 1 dX8_valueNumerator_14 rfl kw_124 (by decide) (h0.2.1.1) rfl ?_
  refine gs_getLN cl6 2 2 dX8_valueNumerator_17 rfl kw_105 (by decide) (h0.2.1.2.2.1) rfl rfl ?_
  obtain ⟨v2, e_v2, H⟩ := cv_i H
  refine gw_S2 okX8_lowNumerator dX8_valueNumerator_20 kw_708 kw_709 ⟨by decide, by decide⟩ ⟨by decide, by decide⟩ (Nat.le_of_ble_eq_true rfl) (w_X8_lowNumerator  e_v2 ?_)
  cases H
  exact gw_lret dX8_valueNumerator_23 rfl (by decide) (by decide) hK
set_option maxRecDepth 100000 in
set_option maxHeartbeats 4000000 in
theorem w_X8_valueDenominator {Φ : gwC} {hb : gwHp} {M : Nat} {sh : Nat → Option gSh} {th : Nat} {c : W0} {r : Int} {K : Option Value → gwHp → Prop} (h0 : sD sh th) (H : f_X8_valueDenominator th c = some r) (hK : K (some (vL r)) (hp Φ hb M sh c)) : gw_Con Φ mX8_valueDenominator none [.ref (M + th)] (hp Φ hb M sh c) K := by
  unfold f_X8_valueDenominator at H
  refine gw_start okX8_valueDenominator (Nat.le_of_ble_eq_true rfl) ?_
  refine gw_aload_n dX8_valueDenominator_0 rfl rfl ?_
  refine gs_getR cl8 0 dX8_valueDenominator_1 rfl kw_234 (by decide) (h0.1) rfl ?_
  refine gs_getRN cl4 1 dX8_valueDenominator_4 rfl kw_124 (by decide) (h0.2.1.1) rfl ?_
  obtain ⟨v1, e_v1, H⟩ := cv_i H
  refine gw_V0 okX6_worth dX8_valueDenominator_7 kw_718 kw_719 kw_720 (hp_o (h0.2.1.2.2.1)) rfl ⟨by decide, by decide⟩ ⟨by decide, by decide⟩ (Nat.le_of_ble_eq_true rfl) (w_X6_worth (h0.2.1.2.2) e_v1 ?_)
  refine gw_aload_n dX8_valueDenominator_10 rfl rfl ?_
  refine gs_getR cl8 0 dX8_valueDenominator_11 rfl kw_234 (by decide) (h0.1) rfl ?_
  refine gs_getRN cl4 1 dX8_valueDenominator_14 rfl kw_124 (by decide) (h0.2.1.1) rfl ?_
  refine gs_getLN cl6 2 2 dX8_valueDenominator_17 rfl kw_105 (by decide) (h0.2.1.2.2.1) rfl rfl ?_
  obtain ⟨v2, e_v2, H⟩ := cv_i H
  refine gw_S2 okX8_lowDenominator dX8_valueDenominator_20 kw_695 kw_696 ⟨by decide, by decide⟩ ⟨by decide, by decide⟩ (Nat.le_of_ble_eq_true rfl) (w_X8_lowDenominator  e_v2 ?_)
  cases H
  exact gw_lret dX8_valueDenominator_23 rfl (by decide) (by decide) hK
set_option maxRecDepth 100000 in
set_option maxHeartbeats 4000000 in
theorem w_X8_givenNumerator {Φ : gwC} {hb : gwHp} {M : Nat} {sh : Nat → Option gSh} {th : Nat} {p1 : Int} {c : W0} {r : Int × Int × W0} {K : Option Value → gwHp → Prop} {KX : String → gwHp → Prop} (h0 : sD sh th) (H : f_X8_givenNumerator th p1 c = some r) (hK : r.1 = 0 → K (some (vL r.2.1)) (hp Φ hb M sh r.2.2)) (hKX : ¬ r.1 = 0 → KX (xnm r.1) (hp Φ hb M sh r.2.2)) : gw_ConX Φ mX8_givenNumerator [.ref (M + th), vI p1] (hp Φ hb M sh c) K KX := by
  unfold f_X8_givenNumerator at H
  refine gw_startX okX8_givenNumerator (Nat.le_of_ble_eq_true rfl) ?_
  refine gw_aload_n dX8_givenNumerator_0 rfl rfl ?_
  refine gw_iload_n dX8_givenNumerator_1 rfl rfl ?_
  obtain ⟨e9, v2, c1, e_c1, H⟩ := cx_i H
  refine gw_VX1 okX8_requireColumn dX8_givenNumerator_2 kw_544 kw_546 kw_6 (hp_o (h0.1)) rfl ⟨by decide, by decide⟩ ⟨by decide, by decide⟩ (Nat.le_of_ble_eq_true rfl) (w_X8_requireColumn (h0) e_c1 (fun z => ?_) (fun z => ?_))
  · rcases H with ⟨-, H⟩ | ⟨z2, H⟩
    rotate_left
    · exact absurd z z2
    refine gw_aload_n dX8_givenNumerator_5 rfl rfl ?_
    refine gs_getR cl8 0 dX8_givenNumerator_6 rfl kw_234 (by decide) (h0.1) rfl ?_
    refine gs_getRN cl4 1 dX8_givenNumerator_9 rfl kw_124 (by decide) (h0.2.1.1) rfl ?_
    refine gw_iload_n dX8_givenNumerator_12 rfl rfl ?_
    obtain ⟨v3, e_v3, H⟩ := cv_i H
    refine gw_V1 okX6_given dX8_givenNumerator_13 kw_691 kw_692 kw_693 (hp_o (h0.2.1.2.2.1)) rfl ⟨by decide, by decide⟩ ⟨by decide, by decide⟩ (Nat.le_of_ble_eq_true rfl) (w_X6_given (h0.2.1.2.2) e_v3 ?_)
    refine gw_aload_n dX8_givenNumerator_16 rfl rfl ?_
    refine gs_getR cl8 0 dX8_givenNumerator_17 rfl kw_234 (by decide) (h0.1) rfl ?_
    refine gs_getRN cl4 1 dX8_givenNumerator_20 rfl kw_124 (by decide) (h0.2.1.1) rfl ?_
    refine gs_getLN cl6 2 2 dX8_givenNumerator_23 rfl kw_105 (by decide) (h0.2.1.2.2.1) rfl rfl ?_
    obtain ⟨v4, e_v4, H⟩ := cv_i H
    refine gw_S2 okX8_lowNumerator dX8_givenNumerator_26 kw_708 kw_709 ⟨by decide, by decide⟩ ⟨by decide, by decide⟩ (Nat.le_of_ble_eq_true rfl) (w_X8_lowNumerator  e_v4 ?_)
    cases H
    exact gw_lretX dX8_givenNumerator_29 rfl (by decide) (by decide) (hK rfl)
  · exact gw_out rfl (by decide) (by decide) (by rcases H with ⟨z2, H⟩ | ⟨z2, rfl⟩; (· exact absurd z2 z); exact hKX z)
set_option maxRecDepth 100000 in
set_option maxHeartbeats 4000000 in
theorem w_X8_givenDenominator {Φ : gwC} {hb : gwHp} {M : Nat} {sh : Nat → Option gSh} {th : Nat} {p1 : Int} {c : W0} {r : Int × Int × W0} {K : Option Value → gwHp → Prop} {KX : String → gwHp → Prop} (h0 : sD sh th) (H : f_X8_givenDenominator th p1 c = some r) (hK : r.1 = 0 → K (some (vL r.2.1)) (hp Φ hb M sh r.2.2)) (hKX : ¬ r.1 = 0 → KX (xnm r.1) (hp Φ hb M sh r.2.2)) : gw_ConX Φ mX8_givenDenominator [.ref (M + th), vI p1] (hp Φ hb M sh c) K KX := by
  unfold f_X8_givenDenominator at H
  refine gw_startX okX8_givenDenominator (Nat.le_of_ble_eq_true rfl) ?_
  refine gw_aload_n dX8_givenDenominator_0 rfl rfl ?_
  refine gw_iload_n dX8_givenDenominator_1 rfl rfl ?_
  obtain ⟨e9, v2, c1, e_c1, H⟩ := cx_i H
  refine gw_VX1 okX8_requireColumn dX8_givenDenominator_2 kw_544 kw_546 kw_6 (hp_o (h0.1)) rfl ⟨by decide, by decide⟩ ⟨by decide, by decide⟩ (Nat.le_of_ble_eq_true rfl) (w_X8_requireColumn (h0) e_c1 (fun z => ?_) (fun z => ?_))
  · rcases H with ⟨-, H⟩ | ⟨z2, H⟩
    rotate_left
    · exact absurd z z2
    refine gw_aload_n dX8_givenDenominator_5 rfl rfl ?_
    refine gs_getR cl8 0 dX8_givenDenominator_6 rfl kw_234 (by decide) (h0.1) rfl ?_
    refine gs_getRN cl4 1 dX8_givenDenominator_9 rfl kw_124 (by decide) (h0.2.1.1) rfl ?_
    refine gw_iload_n dX8_givenDenominator_12 rfl rfl ?_
    obtain ⟨v3, e_v3, H⟩ := cv_i H
    refine gw_V1 okX6_given dX8_givenDenominator_13 kw_691 kw_692 kw_693 (hp_o (h0.2.1.2.2.1)) rfl ⟨by decide, by decide⟩ ⟨by decide, by decide⟩ (Nat.le_of_ble_eq_true rfl) (w_X6_given (h0.2.1.2.2) e_v3 ?_)
    refine gw_aload_n dX8_givenDenominator_16 rfl rfl ?_
    refine gs_getR cl8 0 dX8_givenDenominator_17 rfl kw_234 (by decide) (h0.1) rfl ?_
    refine gs_getRN cl4 1 dX8_givenDenominator_20 rfl kw_124 (by decide) (h0.2.1.1) rfl ?_
    refine gs_getLN cl6 2 2 dX8_givenDenominator_23 rfl kw_105 (by decide) (h0.2.1.2.2.1) rfl rfl ?_
    obtain ⟨v4, e_v4, H⟩ := cv_i H
    refine gw_S2 okX8_lowDenominator dX8_givenDenominator_26 kw_695 kw_696 ⟨by decide, by decide⟩ ⟨by decide, by decide⟩ (Nat.le_of_ble_eq_true rfl) (w_X8_lowDenominator  e_v4 ?_)
    cases H
    exact gw_lretX dX8_givenDenominator_29 rfl (by decide) (by decide) (hK rfl)
  · exact gw_out rfl (by decide) (by decide) (by rcases H with ⟨z2, H⟩ | ⟨z2, rfl⟩; (· exact absurd z2 z); exact hKX z)
set_option maxRecDepth 100000 in
set_option maxHeartbeats 4000000 in
theorem w_X8_value {Φ : gwC} {hb : gwHp} {M : Nat} {sh : Nat → Option gSh} {th : Nat} {c : W0} {r : UInt64} {K : Option Value → gwHp → Prop} (h0 : sD sh th) (H : f_X8_value th c = some r) (hK : K (some (.double r)) (hp Φ hb M sh c)) : gw_Con Φ mX8_value none [.ref (M + th)] (hp Φ hb M sh c) K := by
  unfold f_X8_value at H
  refine gw_start okX8_value (Nat.le_of_ble_eq_true rfl) ?_
  refine gw_aload_n dX8_value_0 rfl rfl ?_
  obtain ⟨v1, e_v1, H⟩ := cv_i H
  refine gw_V0 okX8_valueNumerator dX8_value_1 kw_730 kw_715 kw_716 (hp_o (h0.1)) rfl ⟨by decide, by decide⟩ ⟨by decide, by decide⟩ (Nat.le_of_ble_eq_true rfl) (w_X8_valueNumerator (h0) e_v1 ?_)
  refine gw_l2d dX8_value_4 rfl ?_
  refine gw_aload_n dX8_value_5 rfl rfl ?_
  obtain ⟨v2, e_v2, H⟩ := cv_i H
  refine gw_V0 okX8_valueDenominator dX8_value_6 kw_731 kw_723 kw_724 (hp_o (h0.1)) rfl ⟨by decide, by decide⟩ ⟨by decide, by decide⟩ (Nat.le_of_ble_eq_true rfl) (w_X8_valueDenominator (h0) e_v2 ?_)
  refine gw_l2d dX8_value_9 rfl ?_
  obtain ⟨g, H⟩ := gd_i H
  refine gw_ddiv dX8_value_10 rfl g ?_
  have e9 := Option.some.inj H
  rw [← e9] at hK
  try dsimp only at hK
  exact gw_dret dX8_value_11 rfl (by decide) (by decide) hK
set_option maxRecDepth 100000 in
set_option maxHeartbeats 4000000 in
theorem w_X8_dualNumerator {Φ : gwC} {hb : gwHp} {M : Nat} {sh : Nat → Option gSh} {th : Nat} {p1 : Int} {c : W0} {r : Int × Int × W0} {K : Option Value → gwHp → Prop} {KX : String → gwHp → Prop} (h0 : sD sh th) (H : f_X8_dualNumerator th p1 c = some r) (hK : r.1 = 0 → K (some (vL r.2.1)) (hp Φ hb M sh r.2.2)) (hKX : ¬ r.1 = 0 → KX (xnm r.1) (hp Φ hb M sh r.2.2)) : gw_ConX Φ mX8_dualNumerator [.ref (M + th), vI p1] (hp Φ hb M sh c) K KX := by
  unfold f_X8_dualNumerator at H
  refine gw_startX okX8_dualNumerator (Nat.le_of_ble_eq_true rfl) ?_
  refine gw_aload_n dX8_dualNumerator_0 rfl rfl ?_
  refine gw_iload_n dX8_dualNumerator_1 rfl rfl ?_
  obtain ⟨e9, v2, c1, e_c1, H⟩ := cx_i H
  refine gw_VX1 okX8_requireConstraint dX8_dualNumerator_2 kw_514 kw_516 kw_4 (hp_o (h0.1)) rfl ⟨by decide, by decide⟩ ⟨by decide, by decide⟩ (Nat.le_of_ble_eq_true rfl) (w_X8_requireConstraint (h0) e_c1 (fun z => ?_) (fun z => ?_))
  · rcases H with ⟨-, H⟩ | ⟨z2, H⟩
    rotate_left
    · exact absurd z z2
    refine gw_aload_n dX8_dualNumerator_5 rfl rfl ?_
    refine gs_getR cl8 0 dX8_dualNumerator_6 rfl kw_234 (by decide) (h0.1) rfl ?_
    refine gw_iload_n dX8_dualNumerator_9 rfl rfl ?_
    obtain ⟨v3, e_v3, H⟩ := cv_i H
    refine gw_V1 okX4_dual dX8_dualNumerator_10 kw_762 kw_763 kw_764 (hp_o (h0.2.1.1)) rfl ⟨by decide, by decide⟩ ⟨by decide, by decide⟩ (Nat.le_of_ble_eq_true rfl) (w_X4_dual (h0.2.1) e_v3 ?_)
    refine gw_aload_n dX8_dualNumerator_13 rfl rfl ?_
    refine gs_getR cl8 0 dX8_dualNumerator_14 rfl kw_234 (by decide) (h0.1) rfl ?_
    refine gs_getRN cl4 1 dX8_dualNumerator_17 rfl kw_124 (by decide) (h0.2.1.1) rfl ?_
    refine gs_getLN cl6 2 2 dX8_dualNumerator_20 rfl kw_105 (by decide) (h0.2.1.2.2.1) rfl rfl ?_
    obtain ⟨v4, e_v4, H⟩ := cv_i H
    refine gw_S2 okX8_lowNumerator dX8_dualNumerator_23 kw_708 kw_709 ⟨by decide, by decide⟩ ⟨by decide, by decide⟩ (Nat.le_of_ble_eq_true rfl) (w_X8_lowNumerator  e_v4 ?_)
    cases H
    exact gw_lretX dX8_dualNumerator_26 rfl (by decide) (by decide) (hK rfl)
  · exact gw_out rfl (by decide) (by decide) (by rcases H with ⟨z2, H⟩ | ⟨z2, rfl⟩; (· exact absurd z2 z); exact hKX z)
set_option maxRecDepth 100000 in
set_option maxHeartbeats 4000000 in
theorem w_X8_dualDenominator {Φ : gwC} {hb : gwHp} {M : Nat} {sh : Nat → Option gSh} {th : Nat} {p1 : Int} {c : W0} {r : Int × Int × W0} {K : Option Value → gwHp → Prop} {KX : String → gwHp → Prop} (h0 : sD sh th) (H : f_X8_dualDenominator th p1 c = some r) (hK : r.1 = 0 → K (some (vL r.2.1)) (hp Φ hb M sh r.2.2)) (hKX : ¬ r.1 = 0 → KX (xnm r.1) (hp Φ hb M sh r.2.2)) : gw_ConX Φ mX8_dualDenominator [.ref (M + th), vI p1] (hp Φ hb M sh c) K KX := by
  unfold f_X8_dualDenominator at H
  refine gw_startX okX8_dualDenominator (Nat.le_of_ble_eq_true rfl) ?_
  refine gw_aload_n dX8_dualDenominator_0 rfl rfl ?_
  refine gw_iload_n dX8_dualDenominator_1 rfl rfl ?_
  obtain ⟨e9, v2, c1, e_c1, H⟩ := cx_i H
  refine gw_VX1 okX8_requireConstraint dX8_dualDenominator_2 kw_514 kw_516 kw_4 (hp_o (h0.1)) rfl ⟨by decide, by decide⟩ ⟨by decide, by decide⟩ (Nat.le_of_ble_eq_true rfl) (w_X8_requireConstraint (h0) e_c1 (fun z => ?_) (fun z => ?_))
  · rcases H with ⟨-, H⟩ | ⟨z2, H⟩
    rotate_left
    · exact absurd z z2
    refine gw_aload_n dX8_dualDenominator_5 rfl rfl ?_
    refine gs_getR cl8 0 dX8_dualDenominator_6 rfl kw_234 (by decide) (h0.1) rfl ?_
    refine gw_iload_n dX8_dualDenominator_9 rfl rfl ?_
    obtain ⟨v3, e_v3, H⟩ := cv_i H
    refine gw_V1 okX4_dual dX8_dualDenominator_10 kw_762 kw_763 kw_764 (hp_o (h0.2.1.1)) rfl ⟨by decide, by decide⟩ ⟨by decide, by decide⟩ (Nat.le_of_ble_eq_true rfl) (w_X4_dual (h0.2.1) e_v3 ?_)
    refine gw_aload_n dX8_dualDenominator_13 rfl rfl ?_
    refine gs_getR cl8 0 dX8_dualDenominator_14 rfl kw_234 (by decide) (h0.1) rfl ?_
    refine gs_getRN cl4 1 dX8_dualDenominator_17 rfl kw_124 (by decide) (h0.2.1.1) rfl ?_
    refine gs_getLN cl6 2 2 dX8_dualDenominator_20 rfl kw_105 (by decide) (h0.2.1.2.2.1) rfl rfl ?_
    obtain ⟨v4, e_v4, H⟩ := cv_i H
    refine gw_S2 okX8_lowDenominator dX8_dualDenominator_23 kw_695 kw_696 ⟨by decide, by decide⟩ ⟨by decide, by decide⟩ (Nat.le_of_ble_eq_true rfl) (w_X8_lowDenominator  e_v4 ?_)
    cases H
    exact gw_lretX dX8_dualDenominator_26 rfl (by decide) (by decide) (hK rfl)
  · exact gw_out rfl (by decide) (by decide) (by rcases H with ⟨z2, H⟩ | ⟨z2, rfl⟩; (· exact absurd z2 z); exact hKX z)
set_option maxRecDepth 100000 in
set_option maxHeartbeats 4000000 in
theorem w_X8_dualNumeratorByEquations {Φ : gwC} {hb : gwHp} {M : Nat} {sh : Nat → Option gSh} {th : Nat} {p1 : Int} {c : W0} {r : Int × Int × W0} {K : Option Value → gwHp → Prop} {KX : String → gwHp → Prop} (h0 : sD sh th) (H : f_X8_dualNumeratorByEquations th p1 c = some r) (hK : r.1 = 0 → K (some (vL r.2.1)) (hp Φ hb M sh r.2.2)) (hKX : ¬ r.1 = 0 → KX (xnm r.1) (hp Φ hb M sh r.2.2)) : gw_ConX Φ mX8_dualNumeratorByEquations [.ref (M + th), vI p1] (hp Φ hb M sh c) K KX := by
  unfold f_X8_dualNumeratorByEquations at H
  refine gw_startX okX8_dualNumeratorByEquations (Nat.le_of_ble_eq_true rfl) ?_
  refine gw_aload_n dX8_dualNumeratorByEquations_0 rfl rfl ?_
  refine gw_iload_n dX8_dualNumeratorByEquations_1 rfl rfl ?_
  obtain ⟨e9, v2, c1, e_c1, H⟩ := cx_i H
  refine gw_VX1 okX8_requireConstraint dX8_dualNumeratorByEquations_2 kw_514 kw_516 kw_4 (hp_o (h0.1)) rfl ⟨by decide, by decide⟩ ⟨by decide, by decide⟩ (Nat.le_of_ble_eq_true rfl) (w_X8_requireConstraint (h0) e_c1 (fun z => ?_) (fun z => ?_))
  · rcases H with ⟨-, H⟩ | ⟨z2, H⟩
    rotate_left
    · exact absurd z z2
    refine gw_aload_n dX8_dualNumeratorByEquations_5 rfl rfl ?_
    refine gs_getR cl8 7 dX8_dualNumeratorByEquations_6 rfl kw_241 (by decide) (h0.1) rfl ?_
    refine gw_aload_n dX8_dualNumeratorByEquations_9 rfl rfl ?_
    refine gs_getR cl8 0 dX8_dualNumeratorByEquations_10 rfl kw_234 (by decide) (h0.1) rfl ?_
    obtain ⟨v3, c4, e_c4, H⟩ := cl_i H
    refine gw_V1 okX0_solveDuals dX8_dualNumeratorByEquations_13 kw_779 kw_780 kw_781 (hp_o (h0.2.2.2.2.2.2.2.2.1.1)) rfl ⟨by decide, by decide⟩ ⟨by decide, by decide⟩ (Nat.le_of_ble_eq_true rfl) (w_X0_solveDuals (h0.2.2.2.2.2.2.2.2.1) (h0.2.1) e_c4 ?_)
    refine gw_pop dX8_dualNumeratorByEquations_16 rfl rfl ?_
    refine gw_aload_n dX8_dualNumeratorByEquations_17 rfl rfl ?_
    refine gs_getR cl8 7 dX8_dualNumeratorByEquations_18 rfl kw_241 (by decide) (h0.1) rfl ?_
    refine gw_iload_n dX8_dualNumeratorByEquations_21 rfl rfl ?_
    obtain ⟨v5, e_v5, H⟩ := cv_i H
    refine gw_V1 okX0_unknown dX8_dualNumeratorByEquations_22 kw_801 kw_802 kw_803 (hp_o (h0.2.2.2.2.2.2.2.2.1.1)) rfl ⟨by decide, by decide⟩ ⟨by decide, by decide⟩ (Nat.le_of_ble_eq_true rfl) (w_X0_unknown (h0.2.2.2.2.2.2.2.2.1) e_v5 ?_)
    refine gw_aload_n dX8_dualNumeratorByEquations_25 rfl rfl ?_
    refine gs_getR cl8 7 dX8_dualNumeratorByEquations_26 rfl kw_241 (by decide) (h0.1) rfl ?_
    refine gs_getLN cl0 1 1 dX8_dualNumeratorByEquations_29 rfl kw_192 (by decide) (h0.2.2.2.2.2.2.2.2.1.1) rfl rfl ?_
    obtain ⟨v6, e_v6, H⟩ := cv_i H
    refine gw_S2 okX8_lowNumerator dX8_dualNumeratorByEquations_32 kw_708 kw_709 ⟨by decide, by decide⟩ ⟨by decide, by decide⟩ (Nat.le_of_ble_eq_true rfl) (w_X8_lowNumerator  e_v6 ?_)
    cases H
    exact gw_lretX dX8_dualNumeratorByEquations_35 rfl (by decide) (by decide) (hK rfl)
  · exact gw_out rfl (by decide) (by decide) (by rcases H with ⟨z2, H⟩ | ⟨z2, rfl⟩; (· exact absurd z2 z); exact hKX z)
set_option maxRecDepth 100000 in
set_option maxHeartbeats 4000000 in
theorem w_X8_dualDenominatorByEquations {Φ : gwC} {hb : gwHp} {M : Nat} {sh : Nat → Option gSh} {th : Nat} {p1 : Int} {c : W0} {r : Int × Int × W0} {K : Option Value → gwHp → Prop} {KX : String → gwHp → Prop} (h0 : sD sh th) (H : f_X8_dualDenominatorByEquations th p1 c = some r) (hK : r.1 = 0 → K (some (vL r.2.1)) (hp Φ hb M sh r.2.2)) (hKX : ¬ r.1 = 0 → KX (xnm r.1) (hp Φ hb M sh r.2.2)) : gw_ConX Φ mX8_dualDenominatorByEquations [.ref (M + th), vI p1] (hp Φ hb M sh c) K KX := by
  unfold f_X8_dualDenominatorByEquations at H
  refine gw_startX okX8_dualDenominatorByEquations (Nat.le_of_ble_eq_true rfl) ?_
  refine gw_aload_n dX8_dualDenominatorByEquations_0 rfl rfl ?_
  refine gw_iload_n dX8_dualDenominatorByEquations_1 rfl rfl ?_
  obtain ⟨e9, v2, c1, e_c1, H⟩ := cx_i H
  refine gw_VX1 okX8_requireConstraint dX8_dualDenominatorByEquations_2 kw_514 kw_516 kw_4 (hp_o (h0.1)) rfl ⟨by decide, by decide⟩ ⟨by decide, by decide⟩ (Nat.le_of_ble_eq_true rfl) (w_X8_requireConstraint (h0) e_c1 (fun z => ?_) (fun z => ?_))
  · rcases H with ⟨-, H⟩ | ⟨z2, H⟩
    rotate_left
    · exact absurd z z2
    refine gw_aload_n dX8_dualDenominatorByEquations_5 rfl rfl ?_
    refine gs_getR cl8 7 dX8_dualDenominatorByEquations_6 rfl kw_241 (by decide) (h0.1) rfl ?_
    refine gw_aload_n dX8_dualDenominatorByEquations_9 rfl rfl ?_
    refine gs_getR cl8 0 dX8_dualDenominatorByEquations_10 rfl kw_234 (by decide) (h0.1) rfl ?_
    obtain ⟨v3, c4, e_c4, H⟩ := cl_i H
    refine gw_V1 okX0_solveDuals dX8_dualDenominatorByEquations_13 kw_779 kw_780 kw_781 (hp_o (h0.2.2.2.2.2.2.2.2.1.1)) rfl ⟨by decide, by decide⟩ ⟨by decide, by decide⟩ (Nat.le_of_ble_eq_true rfl) (w_X0_solveDuals (h0.2.2.2.2.2.2.2.2.1) (h0.2.1) e_c4 ?_)
    refine gw_pop dX8_dualDenominatorByEquations_16 rfl rfl ?_
    refine gw_aload_n dX8_dualDenominatorByEquations_17 rfl rfl ?_
    refine gs_getR cl8 7 dX8_dualDenominatorByEquations_18 rfl kw_241 (by decide) (h0.1) rfl ?_
    refine gw_iload_n dX8_dualDenominatorByEquations_21 rfl rfl ?_
    obtain ⟨v5, e_v5, H⟩ := cv_i H
    refine gw_V1 okX0_unknown dX8_dualDenominatorByEquations_22 kw_801 kw_802 kw_803 (hp_o (h0.2.2.2.2.2.2.2.2.1.1)) rfl ⟨by decide, by decide⟩ ⟨by decide, by decide⟩ (Nat.le_of_ble_eq_true rfl) (w_X0_unknown (h0.2.2.2.2.2.2.2.2.1) e_v5 ?_)
    refine gw_aload_n dX8_dualDenominatorByEquations_25 rfl rfl ?_
    refine gs_getR cl8 7 dX8_dualDenominatorByEquations_26 rfl kw_241 (by decide) (h0.1) rfl ?_
    refine gs_getLN cl0 1 1 dX8_dualDenominatorByEquations_29 rfl kw_192 (by decide) (h0.2.2.2.2.2.2.2.2.1.1) rfl rfl ?_
    obtain ⟨v6, e_v6, H⟩ := cv_i H
    refine gw_S2 okX8_lowDenominator dX8_dualDenominatorByEquations_32 kw_695 kw_696 ⟨by decide, by decide⟩ ⟨by decide, by decide⟩ (Nat.le_of_ble_eq_true rfl) (w_X8_lowDenominator  e_v6 ?_)
    cases H
    exact gw_lretX dX8_dualDenominatorByEquations_35 rfl (by decide) (by decide) (hK rfl)
  · exact gw_out rfl (by decide) (by decide) (by rcases H with ⟨z2, H⟩ | ⟨z2, rfl⟩; (· exact absurd z2 z); exact hKX z)
set_option maxRecDepth 100000 in
set_option maxHeartbeats 4000000 in
theorem w_X8_dualValueNumerator {Φ : gwC} {hb : gwHp} {M : Nat} {sh : Nat → Option gSh} {th : Nat} {c : W0} {r : Int} {K : Option Value → gwHp → Prop} (h0 : sD sh th) (H : f_X8_dualValueNumerator th c = some r) (hK : K (some (vL r)) (hp Φ hb M sh c)) : gw_Con Φ mX8_dualValueNumerator none [.ref (M + th)] (hp Φ hb M sh c) K := by
  unfold f_X8_dualValueNumerator at H
  refine gw_start okX8_dualValueNumerator (Nat.le_of_ble_eq_true rfl) ?_
  refine gw_aload_n dX8_dualValueNumerator_0 rfl rfl ?_
  refine gs_getR cl8 0 dX8_dualValueNumerator_1 rfl kw_234 (by decide) (h0.1) rfl ?_
  obtain ⟨v1, e_v1, H⟩ := cv_i H
  refine gw_V0 okX4_dualWorth dX8_dualValueNumerator_4 kw_823 kw_824 kw_825 (hp_o (h0.2.1.1)) rfl ⟨by decide, by decide⟩ ⟨by decide, by decide⟩ (Nat.le_of_ble_eq_true rfl) (w_X4_dualWorth (h0.2.1) e_v1 ?_)
  refine gw_aload_n dX8_dualValueNumerator_7 rfl rfl ?_
  refine gs_getR cl8 0 dX8_dualValueNumerator_8 rfl kw_234 (by decide) (h0.1) rfl ?_
  refine gs_getRN cl4 1 dX8_dualValueNumerator_11 rfl kw_124 (by decide) (h0.2.1.1) rfl ?_
  refine gs_getLN cl6 2 2 dX8_dualValueNumerator_14 rfl kw_105 (by decide) (h0.2.1.2.2.1) rfl rfl ?_
  obtain ⟨v2, e_v2, H⟩ := cv_i H
  refine gw_S2 okX8_lowNumerator dX8_dualValueNumerator_17 kw_708 kw_709 ⟨by decide, by decide⟩ ⟨by decide, by decide⟩ (Nat.le_of_ble_eq_true rfl) (w_X8_lowNumerator  e_v2 ?_)
  cases H
  exact gw_lret dX8_dualValueNumerator_20 rfl (by decide) (by decide) hK
set_option maxRecDepth 100000 in
set_option maxHeartbeats 4000000 in
theorem w_X8_dualValueDenominator {Φ : gwC} {hb : gwHp} {M : Nat} {sh : Nat → Option gSh} {th : Nat} {c : W0} {r : Int} {K : Option Value → gwHp → Prop} (h0 : sD sh th) (H : f_X8_dualValueDenominator th c = some r) (hK : K (some (vL r)) (hp Φ hb M sh c)) : gw_Con Φ mX8_dualValueDenominator none [.ref (M + th)] (hp Φ hb M sh c) K := by
  unfold f_X8_dualValueDenominator at H
  refine gw_start okX8_dualValueDenominator (Nat.le_of_ble_eq_true rfl) ?_
  refine gw_aload_n dX8_dualValueDenominator_0 rfl rfl ?_
  refine gs_getR cl8 0 dX8_dualValueDenominator_1 rfl kw_234 (by decide) (h0.1) rfl ?_
  obtain ⟨v1, e_v1, H⟩ := cv_i H
  refine gw_V0 okX4_dualWorth dX8_dualValueDenominator_4 kw_823 kw_824 kw_825 (hp_o (h0.2.1.1)) rfl ⟨by decide, by decide⟩ ⟨by decide, by decide⟩ (Nat.le_of_ble_eq_true rfl) (w_X4_dualWorth (h0.2.1) e_v1 ?_)
  refine gw_aload_n dX8_dualValueDenominator_7 rfl rfl ?_
  refine gs_getR cl8 0 dX8_dualValueDenominator_8 rfl kw_234 (by decide) (h0.1) rfl ?_
  refine gs_getRN cl4 1 dX8_dualValueDenominator_11 rfl kw_124 (by decide) (h0.2.1.1) rfl ?_
  refine gs_getLN cl6 2 2 dX8_dualValueDenominator_14 rfl kw_105 (by decide) (h0.2.1.2.2.1) rfl rfl ?_
  obtain ⟨v2, e_v2, H⟩ := cv_i H
  refine gw_S2 okX8_lowDenominator dX8_dualValueDenominator_17 kw_695 kw_696 ⟨by decide, by decide⟩ ⟨by decide, by decide⟩ (Nat.le_of_ble_eq_true rfl) (w_X8_lowDenominator  e_v2 ?_)
  cases H
  exact gw_lret dX8_dualValueDenominator_20 rfl (by decide) (by decide) hK
set_option maxRecDepth 100000 in
set_option maxHeartbeats 4000000 in
theorem w_X8_feasibleBases {Φ : gwC} {hb : gwHp} {M : Nat} {sh : Nat → Option gSh} {th : Nat} {c : W0} {r : Int × W0} {K : Option Value → gwHp → Prop} (h0 : sD sh th) (H : f_X8_feasibleBases th c = some r) (hK : K (some (vI r.1)) (hp Φ hb M sh r.2)) : gw_Con Φ mX8_feasibleBases none [.ref (M + th)] (hp Φ hb M sh c) K := by
  unfold f_X8_feasibleBases at H
  refine gw_start okX8_feasibleBases (Nat.le_of_ble_eq_true rfl) ?_
  refine gw_aload_n dX8_feasibleBases_0 rfl rfl ?_
  refine gs_getR cl8 8 dX8_feasibleBases_1 rfl kw_242 (by decide) (h0.1) rfl ?_
  refine gw_aload_n dX8_feasibleBases_4 rfl rfl ?_
  refine gs_getR cl8 0 dX8_feasibleBases_5 rfl kw_234 (by decide) (h0.1) rfl ?_
  refine gs_getRN cl4 0 dX8_feasibleBases_8 rfl kw_120 (by decide) (h0.2.1.1) rfl ?_
  obtain ⟨v2, c1, e_c1, H⟩ := cl_i H
  refine gw_V1 okX5_look dX8_feasibleBases_11 kw_840 kw_841 kw_842 (hp_o (h0.2.2.2.2.2.2.2.2.2.1.1)) rfl ⟨by decide, by decide⟩ ⟨by decide, by decide⟩ (Nat.le_of_ble_eq_true rfl) (w_X5_look (h0.2.2.2.2.2.2.2.2.2.1) (h0.2.1.2.1) e_c1 ?_)
  refine gw_aload_n dX8_feasibleBases_14 rfl rfl ?_
  refine gs_getR cl8 8 dX8_feasibleBases_15 rfl kw_242 (by decide) (h0.1) rfl ?_
  refine gs_getIN cl5 2 2 dX8_feasibleBases_18 rfl kw_214 (by decide) (h0.2.2.2.2.2.2.2.2.2.1.1) rfl rfl ?_
  cases H
  exact gw_iret dX8_feasibleBases_21 rfl (by decide) (by decide) hK
set_option maxRecDepth 100000 in
set_option maxHeartbeats 4000000 in
theorem w_X8_unlikeValues {Φ : gwC} {hb : gwHp} {M : Nat} {sh : Nat → Option gSh} {th : Nat} {c : W0} {r : Int × W0} {K : Option Value → gwHp → Prop} (h0 : sD sh th) (H : f_X8_unlikeValues th c = some r) (hK : K (some (vI r.1)) (hp Φ hb M sh r.2)) : gw_Con Φ mX8_unlikeValues none [.ref (M + th)] (hp Φ hb M sh c) K := by
  unfold f_X8_unlikeValues at H
  refine gw_start okX8_unlikeValues (Nat.le_of_ble_eq_true rfl) ?_
  refine gw_aload_n dX8_unlikeValues_0 rfl rfl ?_
  refine gs_getR cl8 8 dX8_unlikeValues_1 rfl kw_242 (by decide) (h0.1) rfl ?_
  refine gw_aload_n dX8_unlikeValues_4 rfl rfl ?_
  refine gs_getR cl8 0 dX8_unlikeValues_5 rfl kw_234 (by decide) (h0.1) rfl ?_
  refine gs_getRN cl4 0 dX8_unlikeValues_8 rfl kw_120 (by decide) (h0.2.1.1) rfl ?_
  obtain ⟨v2, c1, e_c1, H⟩ := cl_i H
  refine gw_V1 okX5_look dX8_unlikeValues_11 kw_840 kw_841 kw_842 (hp_o (h0.2.2.2.2.2.2.2.2.2.1.1)) rfl ⟨by decide, by decide⟩ ⟨by decide, by decide⟩ (Nat.le_of_ble_eq_true rfl) (w_X5_look (h0.2.2.2.2.2.2.2.2.2.1) (h0.2.1.2.1) e_c1 ?_)
  refine gw_aload_n dX8_unlikeValues_14 rfl rfl ?_
  refine gs_getR cl8 8 dX8_unlikeValues_15 rfl kw_242 (by decide) (h0.1) rfl ?_
  refine gs_getIN cl5 3 3 dX8_unlikeValues_18 rfl kw_216 (by decide) (h0.2.2.2.2.2.2.2.2.2.1.1) rfl rfl ?_
  cases H
  exact gw_iret dX8_unlikeValues_21 rfl (by decide) (by decide) hK
set_option maxRecDepth 100000 in
set_option maxHeartbeats 4000000 in
theorem w_X8_bestNumerator {Φ : gwC} {hb : gwHp} {M : Nat} {sh : Nat → Option gSh} {th : Nat} {c : W0} {r : Int × W0} {K : Option Value → gwHp → Prop} (h0 : sD sh th) (H : f_X8_bestNumerator th c = some r) (hK : K (some (vL r.1)) (hp Φ hb M sh r.2)) : gw_Con Φ mX8_bestNumerator none [.ref (M + th)] (hp Φ hb M sh c) K := by
  unfold f_X8_bestNumerator at H
  refine gw_start okX8_bestNumerator (Nat.le_of_ble_eq_true rfl) ?_
  refine gw_aload_n dX8_bestNumerator_0 rfl rfl ?_
  refine gs_getR cl8 8 dX8_bestNumerator_1 rfl kw_242 (by decide) (h0.1) rfl ?_
  refine gw_aload_n dX8_bestNumerator_4 rfl rfl ?_
  refine gs_getR cl8 0 dX8_bestNumerator_5 rfl kw_234 (by decide) (h0.1) rfl ?_
  refine gs_getRN cl4 0 dX8_bestNumerator_8 rfl kw_120 (by decide) (h0.2.1.1) rfl ?_
  obtain ⟨v2, c1, e_c1, H⟩ := cl_i H
  refine gw_V1 okX5_look dX8_bestNumerator_11 kw_840 kw_841 kw_842 (hp_o (h0.2.2.2.2.2.2.2.2.2.1.1)) rfl ⟨by decide, by decide⟩ ⟨by decide, by decide⟩ (Nat.le_of_ble_eq_true rfl) (w_X5_look (h0.2.2.2.2.2.2.2.2.2.1) (h0.2.1.2.1) e_c1 ?_)
  refine gw_aload_n dX8_bestNumerator_14 rfl rfl ?_
  refine gs_getR cl8 8 dX8_bestNumerator_15 rfl kw_242 (by decide) (h0.1) rfl ?_
  refine gs_getLN cl5 4 4 dX8_bestNumerator_18 rfl kw_218 (by decide) (h0.2.2.2.2.2.2.2.2.2.1.1) rfl rfl ?_
  cases H
  exact gw_lret dX8_bestNumerator_21 rfl (by decide) (by decide) hK
set_option maxRecDepth 100000 in
set_option maxHeartbeats 4000000 in
theorem w_X8_bestDenominator {Φ : gwC} {hb : gwHp} {M : Nat} {sh : Nat → Option gSh} {th : Nat} {c : W0} {r : Int × W0} {K : Option Value → gwHp → Prop} (h0 : sD sh th) (H : f_X8_bestDenominator th c = some r) (hK : K (some (vL r.1)) (hp Φ hb M sh r.2)) : gw_Con Φ mX8_bestDenominator none [.ref (M + th)] (hp Φ hb M sh c) K := by
  unfold f_X8_bestDenominator at H
  refine gw_start okX8_bestDenominator (Nat.le_of_ble_eq_true rfl) ?_
  refine gw_aload_n dX8_bestDenominator_0 rfl rfl ?_
  refine gs_getR cl8 8 dX8_bestDenominator_1 rfl kw_242 (by decide) (h0.1) rfl ?_
  refine gw_aload_n dX8_bestDenominator_4 rfl rfl ?_
  refine gs_getR cl8 0 dX8_bestDenominator_5 rfl kw_234 (by decide) (h0.1) rfl ?_
  refine gs_getRN cl4 0 dX8_bestDenominator_8 rfl kw_120 (by decide) (h0.2.1.1) rfl ?_
  obtain ⟨v2, c1, e_c1, H⟩ := cl_i H
  refine gw_V1 okX5_look dX8_bestDenominator_11 kw_840 kw_841 kw_842 (hp_o (h0.2.2.2.2.2.2.2.2.2.1.1)) rfl ⟨by decide, by decide⟩ ⟨by decide, by decide⟩ (Nat.le_of_ble_eq_true rfl) (w_X5_look (h0.2.2.2.2.2.2.2.2.2.1) (h0.2.1.2.1) e_c1 ?_)
  refine gw_aload_n dX8_bestDenominator_14 rfl rfl ?_
  refine gs_getR cl8 8 dX8_bestDenominator_15 rfl kw_242 (by decide) (h0.1) rfl ?_
  refine gs_getLN cl5 5 5 dX8_bestDenominator_18 rfl kw_220 (by decide) (h0.2.2.2.2.2.2.2.2.2.1.1) rfl rfl ?_
  cases H
  exact gw_lret dX8_bestDenominator_21 rfl (by decide) (by decide) hK
set_option maxRecDepth 100000 in
set_option maxHeartbeats 4000000 in
theorem w_X8_whyNoPivot {Φ : gwC} {hb : gwHp} {M : Nat} {sh : Nat → Option gSh} {th : Nat} {p1 : Int} {p2 : Int} {c : W0} {r : Int × Int × W0} {K : Option Value → gwHp → Prop} {KX : String → gwHp → Prop} (h0 : sD sh th) (H : f_X8_whyNoPivot th p1 p2 c = some r) (hK : r.1 = 0 → K (some (vI r.2.1)) (hp Φ hb M sh r.2.2)) (hKX : ¬ r.1 = 0 → KX (xnm r.1) (hp Φ hb M sh r.2.2)) : gw_ConX Φ mX8_whyNoPivot [.ref (M + th), vI p1, vI p2] (hp Φ hb M sh c) K KX := by
  unfold f_X8_whyNoPivot at H
  refine gw_startX okX8_whyNoPivot (Nat.le_of_ble_eq_true rfl) ?_
  refine gw_aload_n dX8_whyNoPivot_0 rfl rfl ?_
  refine gw_iload_n dX8_whyNoPivot_1 rfl rfl ?_
  obtain ⟨e9, v2, c1, e_c1, H⟩ := cx_i H
  refine gw_VX1 okX8_requireRow dX8_whyNoPivot_2 kw_539 kw_541 kw_5 (hp_o (h0.1)) rfl ⟨by decide, by decide⟩ ⟨by decide, by decide⟩ (Nat.le_of_ble_eq_true rfl) (w_X8_requireRow (h0) e_c1 (fun z => ?_) (fun z => ?_))
  · rcases H with ⟨-, H⟩ | ⟨z2, H⟩
    rotate_left
    · exact absurd z z2
    refine gw_aload_n dX8_whyNoPivot_5 rfl rfl ?_
    refine gw_iload_n dX8_whyNoPivot_6 rfl rfl ?_
    obtain ⟨e9, v4, c3, e_c3, H⟩ := cx_i H
    refine gw_VX1 okX8_requireColumn dX8_whyNoPivot_7 kw_544 kw_546 kw_6 (hp_o (h0.1)) rfl ⟨by decide, by decide⟩ ⟨by decide, by decide⟩ (Nat.le_of_ble_eq_true rfl) (w_X8_requireColumn (h0) e_c3 (fun z => ?_) (fun z => ?_))
    · rcases H with ⟨-, H⟩ | ⟨z2, H⟩
      rotate_left
      · exact absurd z z2
      refine gw_aload_n dX8_whyNoPivot_10 rfl rfl ?_
      refine gs_getR cl8 0 dX8_whyNoPivot_11 rfl kw_234 (by decide) (h0.1) rfl ?_
      refine gs_getRN cl4 1 dX8_whyNoPivot_14 rfl kw_124 (by decide) (h0.2.1.1) rfl ?_
      refine gw_iload_n dX8_whyNoPivot_17 rfl rfl ?_
      refine gw_iload_n dX8_whyNoPivot_18 rfl rfl ?_
      obtain ⟨v5, e_v5, H⟩ := cv_i H
      refine gw_V2 okX6_obstacle dX8_whyNoPivot_19 kw_549 kw_550 kw_551 (hp_o (h0.2.1.2.2.1)) rfl ⟨by decide, by decide⟩ ⟨by decide, by decide⟩ (Nat.le_of_ble_eq_true rfl) (w_X6_obstacle (h0.2.1.2.2) e_v5 ?_)
      cases H
      exact gw_iretX dX8_whyNoPivot_22 rfl (by decide) (by decide) (hK rfl)
    · exact gw_out rfl (by decide) (by decide) (by rcases H with ⟨z2, H⟩ | ⟨z2, rfl⟩; (· exact absurd z2 z); exact hKX z)
  · exact gw_out rfl (by decide) (by decide) (by rcases H with ⟨z2, H⟩ | ⟨z2, rfl⟩; (· exact absurd z2 z); exact hKX z)
set_option maxRecDepth 100000 in
set_option maxHeartbeats 4000000 in
theorem w_X8_nextColumn {Φ : gwC} {hb : gwHp} {M : Nat} {sh : Nat → Option gSh} {th : Nat} {c : W0} {r : Int × Int × W0} {K : Option Value → gwHp → Prop} {KX : String → gwHp → Prop} (h0 : sD sh th) (H : f_X8_nextColumn th c = some r) (hK : r.1 = 0 → K (some (vI r.2.1)) (hp Φ hb M sh r.2.2)) (hKX : ¬ r.1 = 0 → KX (xnm r.1) (hp Φ hb M sh r.2.2)) : gw_ConX Φ mX8_nextColumn [.ref (M + th)] (hp Φ hb M sh c) K KX := by
  unfold f_X8_nextColumn at H
  refine gw_startX okX8_nextColumn (Nat.le_of_ble_eq_true rfl) ?_
  refine gw_aload_n dX8_nextColumn_0 rfl rfl ?_
  obtain ⟨e9, v2, c1, e_c1, H⟩ := cx_i H
  refine gw_VX0 okX8_requireOpen dX8_nextColumn_1 kw_599 kw_601 kw_7 (hp_o (h0.1)) rfl ⟨by decide, by decide⟩ ⟨by decide, by decide⟩ (Nat.le_of_ble_eq_true rfl) (w_X8_requireOpen (h0) e_c1 (fun z => ?_) (fun z => ?_))
  · rcases H with ⟨-, H⟩ | ⟨z2, H⟩
    rotate_left
    · exact absurd z z2
    refine gw_aload_n dX8_nextColumn_4 rfl rfl ?_
    refine gs_getR cl8 0 dX8_nextColumn_5 rfl kw_234 (by decide) (h0.1) rfl ?_
    obtain ⟨v3, e_v3, H⟩ := cv_i H
    refine gw_V0 okX4_chosenColumn dX8_nextColumn_8 kw_616 kw_617 kw_618 (hp_o (h0.2.1.1)) rfl ⟨by decide, by decide⟩ ⟨by decide, by decide⟩ (Nat.le_of_ble_eq_true rfl) (w_X4_chosenColumn (h0.2.1) e_v3 ?_)
    cases H
    exact gw_iretX dX8_nextColumn_11 rfl (by decide) (by decide) (hK rfl)
  · exact gw_out rfl (by decide) (by decide) (by rcases H with ⟨z2, H⟩ | ⟨z2, rfl⟩; (· exact absurd z2 z); exact hKX z)
set_option maxRecDepth 100000 in
set_option maxHeartbeats 4000000 in
theorem w_X8_nextRow {Φ : gwC} {hb : gwHp} {M : Nat} {sh : Nat → Option gSh} {th : Nat} {c : W0} {r : Int × Int × W0} {K : Option Value → gwHp → Prop} {KX : String → gwHp → Prop} (h0 : sD sh th) (H : f_X8_nextRow th c = some r) (hK : r.1 = 0 → K (some (vI r.2.1)) (hp Φ hb M sh r.2.2)) (hKX : ¬ r.1 = 0 → KX (xnm r.1) (hp Φ hb M sh r.2.2)) : gw_ConX Φ mX8_nextRow [.ref (M + th)] (hp Φ hb M sh c) K KX := by
  unfold f_X8_nextRow at H
  refine gw_startX okX8_nextRow (Nat.le_of_ble_eq_true rfl) ?_
  refine gw_aload_n dX8_nextRow_0 rfl rfl ?_
  obtain ⟨e9, v2, c1, e_c1, H⟩ := cx_i H
  refine gw_VX0 okX8_requireOpen dX8_nextRow_1 kw_599 kw_601 kw_7 (hp_o (h0.1)) rfl ⟨by decide, by decide⟩ ⟨by decide, by decide⟩ (Nat.le_of_ble_eq_true rfl) (w_X8_requireOpen (h0) e_c1 (fun z => ?_) (fun z => ?_))
  · rcases H with ⟨-, H⟩ | ⟨z2, H⟩
    rotate_left
    · exact absurd z z2
    refine gw_aload_n dX8_nextRow_4 rfl rfl ?_
    refine gs_getR cl8 0 dX8_nextRow_5 rfl kw_234 (by decide) (h0.1) rfl ?_
    refine gs_getRN cl4 1 dX8_nextRow_8 rfl kw_124 (by decide) (h0.2.1.1) rfl ?_
    refine gw_aload_n dX8_nextRow_11 rfl rfl ?_
    refine gs_getR cl8 0 dX8_nextRow_12 rfl kw_234 (by decide) (h0.1) rfl ?_
    obtain ⟨v3, e_v3, H⟩ := cv_i H
    refine gw_V0 okX4_chosenColumn dX8_nextRow_15 kw_616 kw_617 kw_618 (hp_o (h0.2.1.1)) rfl ⟨by decide, by decide⟩ ⟨by decide, by decide⟩ (Nat.le_of_ble_eq_true rfl) (w_X4_chosenColumn (h0.2.1) e_v3 ?_)
    obtain ⟨v4, e_v4, H⟩ := cv_i H
    refine gw_V1 okX6_leastRow dX8_nextRow_18 kw_628 kw_571 kw_572 (hp_o (h0.2.1.2.2.1)) rfl ⟨by decide, by decide⟩ ⟨by decide, by decide⟩ (Nat.le_of_ble_eq_true rfl) (w_X6_leastRow (h0.2.1.2.2) e_v4 ?_)
    cases H
    exact gw_iretX dX8_nextRow_21 rfl (by decide) (by decide) (hK rfl)
  · exact gw_out rfl (by decide) (by decide) (by rcases H with ⟨z2, H⟩ | ⟨z2, rfl⟩; (· exact absurd z2 z); exact hKX z)
set_option maxRecDepth 100000 in
set_option maxHeartbeats 4000000 in
theorem w_X8_pivotsLeft {Φ : gwC} {hb : gwHp} {M : Nat} {sh : Nat → Option gSh} {th : Nat} {c : W0} {r : Int × W0} {K : Option Value → gwHp → Prop} (h0 : sD sh th) (H : f_X8_pivotsLeft th c = some r) (hK : K (some (vI r.1)) (hp Φ hb M sh r.2)) : gw_Con Φ mX8_pivotsLeft none [.ref (M + th)] (hp Φ hb M sh c) K := by
  unfold f_X8_pivotsLeft at H
  refine gw_start okX8_pivotsLeft (Nat.le_of_ble_eq_true rfl) ?_
  refine gw_aload_n dX8_pivotsLeft_0 rfl rfl ?_
  refine gs_getR cl8 1 dX8_pivotsLeft_1 rfl kw_235 (by decide) (h0.1) rfl ?_
  refine gw_aload_n dX8_pivotsLeft_4 rfl rfl ?_
  refine gs_getR cl8 0 dX8_pivotsLeft_5 rfl kw_234 (by decide) (h0.1) rfl ?_
  obtain ⟨v2, c1, e_c1, H⟩ := cl_i H
  refine gw_V1 okX4_copy dX8_pivotsLeft_8 kw_339 kw_340 kw_341 (hp_o (h0.2.2.1.1)) rfl ⟨by decide, by decide⟩ ⟨by decide, by decide⟩ (Nat.le_of_ble_eq_true rfl) (w_X4_copy (h0.2.2.1) (h0.2.1) e_c1 ?_)
  refine gw_aload_n dX8_pivotsLeft_11 rfl rfl ?_
  refine gs_getR cl8 1 dX8_pivotsLeft_12 rfl kw_235 (by decide) (h0.1) rfl ?_
  obtain ⟨v3, c4, e_c4, H⟩ := cl_i H
  refine gw_V0 okX4_run dX8_pivotsLeft_15 kw_633 kw_634 kw_635 (hp_o (h0.2.2.1.1)) rfl ⟨by decide, by decide⟩ ⟨by decide, by decide⟩ (Nat.le_of_ble_eq_true rfl) (w_X4_run (h0.2.2.1) e_c4 ?_)
  cases H
  exact gw_iret dX8_pivotsLeft_18 rfl (by decide) (by decide) hK
set_option maxRecDepth 100000 in
set_option maxHeartbeats 4000000 in
theorem w_X8_leastBound {Φ : gwC} {hb : gwHp} {M : Nat} {sh : Nat → Option gSh} {th : Nat} {p1 : Int} {c : W0} {r : Int × Int × W0} {K : Option Value → gwHp → Prop} {KX : String → gwHp → Prop} (h0 : sD sh th) (H : f_X8_leastBound th p1 c = some r) (hK : r.1 = 0 → K (some (vI r.2.1)) (hp Φ hb M sh r.2.2)) (hKX : ¬ r.1 = 0 → KX (xnm r.1) (hp Φ hb M sh r.2.2)) : gw_ConX Φ mX8_leastBound [.ref (M + th), vI p1] (hp Φ hb M sh c) K KX := by
  unfold f_X8_leastBound at H
  refine gw_startX okX8_leastBound (Nat.le_of_ble_eq_true rfl) ?_
  refine gw_aload_n dX8_leastBound_0 rfl rfl ?_
  refine gw_iload_n dX8_leastBound_1 rfl rfl ?_
  obtain ⟨e9, v2, c1, e_c1, H⟩ := cx_i H
  refine gw_VX1 okX8_requireConstraint dX8_leastBound_2 kw_514 kw_516 kw_4 (hp_o (h0.1)) rfl ⟨by decide, by decide⟩ ⟨by decide, by decide⟩ (Nat.le_of_ble_eq_true rfl) (w_X8_requireConstraint (h0) e_c1 (fun z => ?_) (fun z => ?_))
  · rcases H with ⟨-, H⟩ | ⟨z2, H⟩
    rotate_left
    · exact absurd z z2
    refine gw_aload_n dX8_leastBound_5 rfl rfl ?_
    refine gs_getR cl8 0 dX8_leastBound_6 rfl kw_234 (by decide) (h0.1) rfl ?_
    refine gs_getRN cl4 0 dX8_leastBound_9 rfl kw_120 (by decide) (h0.2.1.1) rfl ?_
    refine gw_iload_n dX8_leastBound_12 rfl rfl ?_
    obtain ⟨v3, e_v3, H⟩ := cv_i H
    refine gw_V1 okX2_bound dX8_leastBound_13 kw_525 kw_445 kw_446 (hp_o (h0.2.1.2.1.1)) rfl ⟨by decide, by decide⟩ ⟨by decide, by decide⟩ (Nat.le_of_ble_eq_true rfl) (w_X2_bound (h0.2.1.2.1) e_v3 ?_)
    refine gw_istore_n dX8_leastBound_16 rfl (by decide) ?_
    refine gw_iconstZ dX8_leastBound_17 rfl ?_
    refine gw_iload_n dX8_leastBound_18 rfl rfl ?_
    refine gw_aload_n dX8_leastBound_19 rfl rfl ?_
    refine gs_getR cl8 0 dX8_leastBound_20 rfl kw_234 (by decide) (h0.1) rfl ?_
    refine gw_iload_n dX8_leastBound_23 rfl rfl ?_
    obtain ⟨v4, e_v4, H⟩ := cv_i H
    refine gw_V1 okX4_roomToFall dX8_leastBound_24 kw_896 kw_897 kw_898 (hp_o (h0.2.1.1)) rfl ⟨by decide, by decide⟩ ⟨by decide, by decide⟩ (Nat.le_of_ble_eq_true rfl) (w_X4_roomToFall (h0.2.1) e_v4 ?_)
    refine gw_isubZ dX8_leastBound_27 rfl ?_
    obtain ⟨g, H⟩ := gd_i H
    refine gw_mmaxZ dX8_leastBound_28 rfl kw_908 kw_62 kw_21 kw_63 (by decide) (Nat.le_of_ble_eq_true rfl) (by decide) (by decide) (by decide) g ?_
    cases H
    exact gw_iretX dX8_leastBound_31 rfl (by decide) (by decide) (hK rfl)
  · exact gw_out rfl (by decide) (by decide) (by rcases H with ⟨z2, H⟩ | ⟨z2, rfl⟩; (· exact absurd z2 z); exact hKX z)
set_option maxRecDepth 100000 in
set_option maxHeartbeats 4000000 in
theorem w_X8_greatestBound {Φ : gwC} {hb : gwHp} {M : Nat} {sh : Nat → Option gSh} {th : Nat} {p1 : Int} {c : W0} {r : Int × Int × W0} {K : Option Value → gwHp → Prop} {KX : String → gwHp → Prop} (h0 : sD sh th) (H : f_X8_greatestBound th p1 c = some r) (hK : r.1 = 0 → K (some (vI r.2.1)) (hp Φ hb M sh r.2.2)) (hKX : ¬ r.1 = 0 → KX (xnm r.1) (hp Φ hb M sh r.2.2)) : gw_ConX Φ mX8_greatestBound [.ref (M + th), vI p1] (hp Φ hb M sh c) K KX := by
  unfold f_X8_greatestBound at H
  refine gw_startX okX8_greatestBound (Nat.le_of_ble_eq_true rfl) ?_
  refine gw_aload_n dX8_greatestBound_0 rfl rfl ?_
  refine gw_iload_n dX8_greatestBound_1 rfl rfl ?_
  obtain ⟨e9, v2, c1, e_c1, H⟩ := cx_i H
  refine gw_VX1 okX8_requireConstraint dX8_greatestBound_2 kw_514 kw_516 kw_4 (hp_o (h0.1)) rfl ⟨by decide, by decide⟩ ⟨by decide, by decide⟩ (Nat.le_of_ble_eq_true rfl) (w_X8_requireConstraint (h0) e_c1 (fun z => ?_) (fun z => ?_))
  · rcases H with ⟨-, H⟩ | ⟨z2, H⟩
    rotate_left
    · exact absurd z z2
    refine gw_aload_n dX8_greatestBound_5 rfl rfl ?_
    refine gs_getR cl8 0 dX8_greatestBound_6 rfl kw_234 (by decide) (h0.1) rfl ?_
    refine gs_getRN cl4 0 dX8_greatestBound_9 rfl kw_120 (by decide) (h0.2.1.1) rfl ?_
    refine gw_iload_n dX8_greatestBound_12 rfl rfl ?_
    obtain ⟨v3, e_v3, H⟩ := cv_i H
    refine gw_V1 okX2_bound dX8_greatestBound_13 kw_525 kw_445 kw_446 (hp_o (h0.2.1.2.1.1)) rfl ⟨by decide, by decide⟩ ⟨by decide, by decide⟩ (Nat.le_of_ble_eq_true rfl) (w_X2_bound (h0.2.1.2.1) e_v3 ?_)
    refine gw_istore_n dX8_greatestBound_16 rfl (by decide) ?_
    refine gw_bipushZ dX8_greatestBound_17 rfl (by decide) ?_
    refine gw_iload_n dX8_greatestBound_19 rfl rfl ?_
    refine gw_aload_n dX8_greatestBound_20 rfl rfl ?_
    refine gs_getR cl8 0 dX8_greatestBound_21 rfl kw_234 (by decide) (h0.1) rfl ?_
    refine gw_iload_n dX8_greatestBound_24 rfl rfl ?_
    obtain ⟨v4, e_v4, H⟩ := cv_i H
    refine gw_V1 okX4_roomToRise dX8_greatestBound_25 kw_913 kw_914 kw_915 (hp_o (h0.2.1.1)) rfl ⟨by decide, by decide⟩ ⟨by decide, by decide⟩ (Nat.le_of_ble_eq_true rfl) (w_X4_roomToRise (h0.2.1) e_v4 ?_)
    refine gw_iaddZ dX8_greatestBound_28 rfl ?_
    obtain ⟨g, H⟩ := gd_i H
    refine gw_mminZ dX8_greatestBound_29 rfl kw_917 kw_845 kw_21 kw_846 (by decide) (Nat.le_of_ble_eq_true rfl) (by decide) (by decide) (by decide) g ?_
    cases H
    exact gw_iretX dX8_greatestBound_32 rfl (by decide) (by decide) (hK rfl)
  · exact gw_out rfl (by decide) (by decide) (by rcases H with ⟨z2, H⟩ | ⟨z2, rfl⟩; (· exact absurd z2 z); exact hKX z)
end FW
