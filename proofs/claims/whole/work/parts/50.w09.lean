section FW
set_option maxRecDepth 100000 in
set_option maxHeartbeats 4000000 in
theorem w_X9_entryDenominator {Φ : gwC} {hb : gwHp} {M : Nat} {sh : Nat → Option gSh} {th : Nat} {p1 : Int} {p2 : Int} {c : W0} {r : Int × W0} {K : Option Value → gwHp → Prop} (h0 : sM sh th) (H : f_X9_entryDenominator th p1 p2 c = some r) (hK : K (some (vL r.1)) (hp Φ hb M sh r.2)) : gw_Con Φ mX9_entryDenominator none [.ref (M + th), vI p1, vI p2] (hp Φ hb M sh c) K := by
  unfold f_X9_entryDenominator at H
  refine gw_start okX9_entryDenominator (Nat.le_of_ble_eq_true rfl) ?_
  refine gw_aload_n dX9_entryDenominator_0 rfl rfl ?_
  refine gw_aload_n dX9_entryDenominator_1 rfl rfl ?_
  refine gw_iload_n dX9_entryDenominator_2 rfl rfl ?_
  refine gw_iload_n dX9_entryDenominator_3 rfl rfl ?_
  obtain ⟨v1, e_v1, H⟩ := cv_i H
  refine gw_V2 okX9_isPlace dX9_entryDenominator_4 kw_1468 kw_1470 kw_39 (hp_o (h0.1)) rfl ⟨by decide, by decide⟩ ⟨by decide, by decide⟩ (Nat.le_of_ble_eq_true rfl) (w_X9_isPlace (h0) e_v1 ?_)
  obtain ⟨g, H⟩ := gd_i H
  obtain ⟨k2, e_k2, H⟩ := jn_i H
  have hJ_k2 : ∀ (v3 : Int), k2 v3 = some r → G Φ mX9_entryDenominator (gw_M Φ mX9_entryDenominator K) none 0 0 15 [(0, .ref (M + th)), (1, vI p1), (2, vI p2)] [vI v3, .ref (M + th)] (hp Φ hb M sh c) := by
    intro v3 H
    subst e_k2
    obtain ⟨v4, c5, e_c5, H⟩ := cl_i H
    refine gw_V1 okX9_holds dX9_entryDenominator_15 kw_1416 kw_1418 kw_33 (hp_o (h0.1)) rfl ⟨by decide, by decide⟩ ⟨by decide, by decide⟩ (Nat.le_of_ble_eq_true rfl) (w_X9_holds (h0) e_c5 ?_)
    obtain ⟨g, H⟩ := gd_i H
    refine gw_if_neZ (tgt := 23) dX9_entryDenominator_18 rfl (by decide) g (fun q => ?_) (fun q => ?_)
    · have H := bq_f q H
      refine gw_aload_n dX9_entryDenominator_23 rfl rfl ?_
      refine gw_iload_n dX9_entryDenominator_24 rfl rfl ?_
      refine gw_iload_n dX9_entryDenominator_25 rfl rfl ?_
      obtain ⟨v7, c6, e_c6, H⟩ := cl_i H
      refine gw_V2 okX9_entryOf dX9_entryDenominator_26 kw_1727 kw_1729 kw_76 (hp_o (h0.1)) rfl ⟨by decide, by decide⟩ ⟨by decide, by decide⟩ (Nat.le_of_ble_eq_true rfl) (w_X9_entryOf (h0) e_c6 ?_)
      refine gw_aload_n dX9_entryDenominator_29 rfl rfl ?_
      refine gs_getL cl9 17 17 dX9_entryDenominator_30 rfl kw_1336 (by decide) (h0.1) rfl rfl ?_
      cases H
      exact gw_lret dX9_entryDenominator_33 rfl (by decide) (by decide) hK
    · have H := bq_t q H
      refine gw_lconst0Z dX9_entryDenominator_21 rfl ?_
      cases H
      exact gw_lret dX9_entryDenominator_22 rfl (by decide) (by decide) hK
  refine gw_if_eqZ (tgt := 14) dX9_entryDenominator_7 rfl (by decide) g (fun q => ?_) (fun q => ?_)
  · have H := bq_t q H
    refine gw_iconstZ dX9_entryDenominator_14 rfl ?_
    exact gw_L (hJ_k2 _ H) ((lvA_c rfl (lvA_c rfl (lvA_c rfl lvA_n))))
  · have H := bq_f q H
    refine gw_iconstZ dX9_entryDenominator_10 rfl ?_
    refine gw_goto (tgt := 15) dX9_entryDenominator_11 (by decide) ?_
    exact gw_L (hJ_k2 _ H) ((lvA_c rfl (lvA_c rfl (lvA_c rfl lvA_n))))
set_option maxRecDepth 100000 in
set_option maxHeartbeats 4000000 in
theorem w_X9_reducedOf {Φ : gwC} {hb : gwHp} {M : Nat} {sh : Nat → Option gSh} {th : Nat} {p1 : Int} {c : W0} {r : Int × W0} {K : Option Value → gwHp → Prop} (h0 : sM sh th) (H : f_X9_reducedOf th p1 c = some r) (hK : K none (hp Φ hb M sh r.2)) : gw_Con Φ mX9_reducedOf none [.ref (M + th), vI p1] (hp Φ hb M sh c) K := by
  unfold f_X9_reducedOf at H
  refine gw_start okX9_reducedOf (Nat.le_of_ble_eq_true rfl) ?_
  refine gw_aload_n dX9_reducedOf_0 rfl rfl ?_
  obtain ⟨v2, c1, e_c1, H⟩ := cl_i H
  refine gw_V0 okX9_laysNow dX9_reducedOf_1 kw_1484 kw_1486 kw_43 (hp_o (h0.1)) rfl ⟨by decide, by decide⟩ ⟨by decide, by decide⟩ (Nat.le_of_ble_eq_true rfl) (w_X9_laysNow (h0) e_c1 ?_)
  refine gw_aload_n dX9_reducedOf_4 rfl rfl ?_
  refine gw_iload_n dX9_reducedOf_5 rfl rfl ?_
  obtain ⟨v4, c3, e_c3, H⟩ := cl_i H
  refine gw_V1 okX9_reduces dX9_reducedOf_6 kw_1523 kw_1525 kw_52 (hp_o (h0.1)) rfl ⟨by decide, by decide⟩ ⟨by decide, by decide⟩ (Nat.le_of_ble_eq_true rfl) (w_X9_reduces (h0) e_c3 ?_)
  cases H
  exact gw_vret dX9_reducedOf_9 rfl (by decide) (by decide) hK
set_option maxRecDepth 100000 in
set_option maxHeartbeats 4000000 in
theorem w_X9_reducedNumerator {Φ : gwC} {hb : gwHp} {M : Nat} {sh : Nat → Option gSh} {th : Nat} {p1 : Int} {c : W0} {r : Int × W0} {K : Option Value → gwHp → Prop} (h0 : sM sh th) (H : f_X9_reducedNumerator th p1 c = some r) (hK : K (some (vL r.1)) (hp Φ hb M sh r.2)) : gw_Con Φ mX9_reducedNumerator none [.ref (M + th), vI p1] (hp Φ hb M sh c) K := by
  unfold f_X9_reducedNumerator at H
  refine gw_start okX9_reducedNumerator (Nat.le_of_ble_eq_true rfl) ?_
  refine gw_aload_n dX9_reducedNumerator_0 rfl rfl ?_
  refine gw_aload_n dX9_reducedNumerator_1 rfl rfl ?_
  refine gw_iload_n dX9_reducedNumerator_2 rfl rfl ?_
  obtain ⟨v1, e_v1, H⟩ := cv_i H
  refine gw_V1 okX9_isColumn dX9_reducedNumerator_3 kw_1472 kw_1474 kw_40 (hp_o (h0.1)) rfl ⟨by decide, by decide⟩ ⟨by decide, by decide⟩ (Nat.le_of_ble_eq_true rfl) (w_X9_isColumn (h0) e_v1 ?_)
  obtain ⟨g, H⟩ := gd_i H
  obtain ⟨k2, e_k2, H⟩ := jn_i H
  have hJ_k2 : ∀ (v3 : Int), k2 v3 = some r → G Φ mX9_reducedNumerator (gw_M Φ mX9_reducedNumerator K) none 0 0 14 [(0, .ref (M + th)), (1, vI p1)] [vI v3, .ref (M + th)] (hp Φ hb M sh c) := by
    intro v3 H
    subst e_k2
    obtain ⟨v4, c5, e_c5, H⟩ := cl_i H
    refine gw_V1 okX9_holds dX9_reducedNumerator_14 kw_1416 kw_1418 kw_33 (hp_o (h0.1)) rfl ⟨by decide, by decide⟩ ⟨by decide, by decide⟩ (Nat.le_of_ble_eq_true rfl) (w_X9_holds (h0) e_c5 ?_)
    obtain ⟨g, H⟩ := gd_i H
    refine gw_if_neZ (tgt := 22) dX9_reducedNumerator_17 rfl (by decide) g (fun q => ?_) (fun q => ?_)
    · have H := bq_f q H
      refine gw_aload_n dX9_reducedNumerator_22 rfl rfl ?_
      refine gw_iload_n dX9_reducedNumerator_23 rfl rfl ?_
      obtain ⟨v7, c6, e_c6, H⟩ := cl_i H
      refine gw_V1 okX9_reducedOf dX9_reducedNumerator_24 kw_1739 kw_1741 kw_77 (hp_o (h0.1)) rfl ⟨by decide, by decide⟩ ⟨by decide, by decide⟩ (Nat.le_of_ble_eq_true rfl) (w_X9_reducedOf (h0) e_c6 ?_)
      refine gw_aload_n dX9_reducedNumerator_27 rfl rfl ?_
      refine gs_getL cl9 16 16 dX9_reducedNumerator_28 rfl kw_1335 (by decide) (h0.1) rfl rfl ?_
      cases H
      exact gw_lret dX9_reducedNumerator_31 rfl (by decide) (by decide) hK
    · have H := bq_t q H
      refine gw_lconst0Z dX9_reducedNumerator_20 rfl ?_
      cases H
      exact gw_lret dX9_reducedNumerator_21 rfl (by decide) (by decide) hK
  refine gw_if_eqZ (tgt := 13) dX9_reducedNumerator_6 rfl (by decide) g (fun q => ?_) (fun q => ?_)
  · have H := bq_t q H
    refine gw_iconstZ dX9_reducedNumerator_13 rfl ?_
    exact gw_L (hJ_k2 _ H) ((lvA_c rfl (lvA_c rfl lvA_n)))
  · have H := bq_f q H
    refine gw_iconstZ dX9_reducedNumerator_9 rfl ?_
    refine gw_goto (tgt := 14) dX9_reducedNumerator_10 (by decide) ?_
    exact gw_L (hJ_k2 _ H) ((lvA_c rfl (lvA_c rfl lvA_n)))
set_option maxRecDepth 100000 in
set_option maxHeartbeats 4000000 in
theorem w_X9_reducedDenominator {Φ : gwC} {hb : gwHp} {M : Nat} {sh : Nat → Option gSh} {th : Nat} {p1 : Int} {c : W0} {r : Int × W0} {K : Option Value → gwHp → Prop} (h0 : sM sh th) (H : f_X9_reducedDenominator th p1 c = some r) (hK : K (some (vL r.1)) (hp Φ hb M sh r.2)) : gw_Con Φ mX9_reducedDenominator none [.ref (M + th), vI p1] (hp Φ hb M sh c) K := by
  unfold f_X9_reducedDenominator at H
  refine gw_start okX9_reducedDenominator (Nat.le_of_ble_eq_true rfl) ?_
  refine gw_aload_n dX9_reducedDenominator_0 rfl rfl ?_
  refine gw_aload_n dX9_reducedDenominator_1 rfl rfl ?_
  refine gw_iload_n dX9_reducedDenominator_2 rfl rfl ?_
  obtain ⟨v1, e_v1, H⟩ := cv_i H
  refine gw_V1 okX9_isColumn dX9_reducedDenominator_3 kw_1472 kw_1474 kw_40 (hp_o (h0.1)) rfl ⟨by decide, by decide⟩ ⟨by decide, by decide⟩ (Nat.le_of_ble_eq_true rfl) (w_X9_isColumn (h0) e_v1 ?_)
  obtain ⟨g, H⟩ := gd_i H
  obtain ⟨k2, e_k2, H⟩ := jn_i H
  have hJ_k2 : ∀ (v3 : Int), k2 v3 = some r → G Φ mX9_reducedDenominator (gw_M Φ mX9_reducedDenominator K) none 0 0 14 [(0, .ref (M + th)), (1, vI p1)] [vI v3, .ref (M + th)] (hp Φ hb M sh c) := by
    intro v3 H
    subst e_k2
    obtain ⟨v4, c5, e_c5, H⟩ := cl_i H
    refine gw_V1 okX9_holds dX9_reducedDenominator_14 kw_1416 kw_1418 kw_33 (hp_o (h0.1)) rfl ⟨by decide, by decide⟩ ⟨by decide, by decide⟩ (Nat.le_of_ble_eq_true rfl) (w_X9_holds (h0) e_c5 ?_)
    obtain ⟨g, H⟩ := gd_i H
    refine gw_if_neZ (tgt := 22) dX9_reducedDenominator_17 rfl (by decide) g (fun q => ?_) (fun q => ?_)
    · have H := bq_f q H
      refine gw_aload_n dX9_reducedDenominator_22 rfl rfl ?_
      refine gw_iload_n dX9_reducedDenominator_23 rfl rfl ?_
      obtain ⟨v7, c6, e_c6, H⟩ := cl_i H
      refine gw_V1 okX9_reducedOf dX9_reducedDenominator_24 kw_1739 kw_1741 kw_77 (hp_o (h0.1)) rfl ⟨by decide, by decide⟩ ⟨by decide, by decide⟩ (Nat.le_of_ble_eq_true rfl) (w_X9_reducedOf (h0) e_c6 ?_)
      refine gw_aload_n dX9_reducedDenominator_27 rfl rfl ?_
      refine gs_getL cl9 17 17 dX9_reducedDenominator_28 rfl kw_1336 (by decide) (h0.1) rfl rfl ?_
      cases H
      exact gw_lret dX9_reducedDenominator_31 rfl (by decide) (by decide) hK
    · have H := bq_t q H
      refine gw_lconst0Z dX9_reducedDenominator_20 rfl ?_
      cases H
      exact gw_lret dX9_reducedDenominator_21 rfl (by decide) (by decide) hK
  refine gw_if_eqZ (tgt := 13) dX9_reducedDenominator_6 rfl (by decide) g (fun q => ?_) (fun q => ?_)
  · have H := bq_t q H
    refine gw_iconstZ dX9_reducedDenominator_13 rfl ?_
    exact gw_L (hJ_k2 _ H) ((lvA_c rfl (lvA_c rfl lvA_n)))
  · have H := bq_f q H
    refine gw_iconstZ dX9_reducedDenominator_9 rfl ?_
    refine gw_goto (tgt := 14) dX9_reducedDenominator_10 (by decide) ?_
    exact gw_L (hJ_k2 _ H) ((lvA_c rfl (lvA_c rfl lvA_n)))
set_option maxRecDepth 100000 in
set_option maxHeartbeats 4000000 in
theorem w_X9_valueNow {Φ : gwC} {hb : gwHp} {M : Nat} {sh : Nat → Option gSh} {th : Nat} {c : W0} {r : Int × W0} {K : Option Value → gwHp → Prop} (h0 : sM sh th) (H : f_X9_valueNow th c = some r) (hK : K none (hp Φ hb M sh r.2)) : gw_Con Φ mX9_valueNow none [.ref (M + th)] (hp Φ hb M sh c) K := by
  unfold f_X9_valueNow at H
  refine gw_start okX9_valueNow (Nat.le_of_ble_eq_true rfl) ?_
  refine gw_aload_n dX9_valueNow_0 rfl rfl ?_
  obtain ⟨v2, c1, e_c1, H⟩ := cl_i H
  refine gw_V0 okX9_laysNow dX9_valueNow_1 kw_1484 kw_1486 kw_43 (hp_o (h0.1)) rfl ⟨by decide, by decide⟩ ⟨by decide, by decide⟩ (Nat.le_of_ble_eq_true rfl) (w_X9_laysNow (h0) e_c1 ?_)
  refine gw_aload_n dX9_valueNow_4 rfl rfl ?_
  obtain ⟨v4, c3, e_c3, H⟩ := cl_i H
  refine gw_V0 okX9_values dX9_valueNow_5 kw_1755 kw_1757 kw_79 (hp_o (h0.1)) rfl ⟨by decide, by decide⟩ ⟨by decide, by decide⟩ (Nat.le_of_ble_eq_true rfl) (w_X9_values (h0) e_c3 ?_)
  cases H
  exact gw_vret dX9_valueNow_8 rfl (by decide) (by decide) hK
set_option maxRecDepth 100000 in
set_option maxHeartbeats 4000000 in
theorem w_X9_valueNumerator {Φ : gwC} {hb : gwHp} {M : Nat} {sh : Nat → Option gSh} {th : Nat} {c : W0} {r : Int × W0} {K : Option Value → gwHp → Prop} (h0 : sM sh th) (H : f_X9_valueNumerator th c = some r) (hK : K (some (vL r.1)) (hp Φ hb M sh r.2)) : gw_Con Φ mX9_valueNumerator none [.ref (M + th)] (hp Φ hb M sh c) K := by
  unfold f_X9_valueNumerator at H
  refine gw_start okX9_valueNumerator (Nat.le_of_ble_eq_true rfl) ?_
  refine gw_aload_n dX9_valueNumerator_0 rfl rfl ?_
  refine gw_iconstZ dX9_valueNumerator_1 rfl ?_
  obtain ⟨c1, e_c1, H⟩ := sto_i H
  refine gs_putIE cl9 0 0 dX9_valueNumerator_2 rfl kw_1319 (by decide) rfl rfl (h0.1) rfl rfl e_c1 ?_
  refine gw_aload_n dX9_valueNumerator_5 rfl rfl ?_
  obtain ⟨v3, c2, e_c2, H⟩ := cl_i H
  refine gw_V0 okX9_valueNow dX9_valueNumerator_6 kw_1751 kw_1753 kw_78 (hp_o (h0.1)) rfl ⟨by decide, by decide⟩ ⟨by decide, by decide⟩ (Nat.le_of_ble_eq_true rfl) (w_X9_valueNow (h0) e_c2 ?_)
  refine gw_aload_n dX9_valueNumerator_9 rfl rfl ?_
  refine gs_getL cl9 16 16 dX9_valueNumerator_10 rfl kw_1335 (by decide) (h0.1) rfl rfl ?_
  cases H
  exact gw_lret dX9_valueNumerator_13 rfl (by decide) (by decide) hK
set_option maxRecDepth 100000 in
set_option maxHeartbeats 4000000 in
theorem w_X9_valueDenominator {Φ : gwC} {hb : gwHp} {M : Nat} {sh : Nat → Option gSh} {th : Nat} {c : W0} {r : Int × W0} {K : Option Value → gwHp → Prop} (h0 : sM sh th) (H : f_X9_valueDenominator th c = some r) (hK : K (some (vL r.1)) (hp Φ hb M sh r.2)) : gw_Con Φ mX9_valueDenominator none [.ref (M + th)] (hp Φ hb M sh c) K := by
  unfold f_X9_valueDenominator at H
  refine gw_start okX9_valueDenominator (Nat.le_of_ble_eq_true rfl) ?_
  refine gw_aload_n dX9_valueDenominator_0 rfl rfl ?_
  refine gw_iconstZ dX9_valueDenominator_1 rfl ?_
  obtain ⟨c1, e_c1, H⟩ := sto_i H
  refine gs_putIE cl9 0 0 dX9_valueDenominator_2 rfl kw_1319 (by decide) rfl rfl (h0.1) rfl rfl e_c1 ?_
  refine gw_aload_n dX9_valueDenominator_5 rfl rfl ?_
  obtain ⟨v3, c2, e_c2, H⟩ := cl_i H
  refine gw_V0 okX9_valueNow dX9_valueDenominator_6 kw_1751 kw_1753 kw_78 (hp_o (h0.1)) rfl ⟨by decide, by decide⟩ ⟨by decide, by decide⟩ (Nat.le_of_ble_eq_true rfl) (w_X9_valueNow (h0) e_c2 ?_)
  refine gw_aload_n dX9_valueDenominator_9 rfl rfl ?_
  refine gs_getL cl9 17 17 dX9_valueDenominator_10 rfl kw_1336 (by decide) (h0.1) rfl rfl ?_
  cases H
  exact gw_lret dX9_valueDenominator_13 rfl (by decide) (by decide) hK
set_option maxRecDepth 100000 in
set_option maxHeartbeats 4000000 in
theorem l_X9_givenTo_12 {Φ : gwC} {hb : gwHp} {M : Nat} {sh : Nat → Option gSh} {th : Nat} {p1 : Int} {κ : W0 → Option (Int × W0)} {r : Int × W0} {K : Option Value → gwHp → Prop} (h0 : sM sh th) (hK : K none (hp Φ hb M sh r.2)) (hκ : ∀ (c : W0), κ c = some r → G Φ mX9_givenTo (gw_M Φ mX9_givenTo K) none 0 0 63 [] [] (hp Φ hb M sh c)) : ∀ (n : Nat) (l2 : Int) (c : W0), f_X9_givenTo_12 th p1 κ n l2 c = some r → G Φ mX9_givenTo (gw_M Φ mX9_givenTo K) none 0 0 12 [(0, .ref (M + th)), (1, vI p1), (2, vI l2)] [] (hp Φ hb M sh c) := by
  intro n
  induction n with
  | zero => intro l2 c H; cases H
  | succ n ih =>
    intro l2 c H
    have H : b_X9_givenTo_12 th p1 κ (f_X9_givenTo_12 th p1 κ n) l2 c = some r := H
    unfold b_X9_givenTo_12 at H
    refine gw_iload_n dX9_givenTo_12 rfl rfl ?_
    refine gw_aload_n dX9_givenTo_13 rfl rfl ?_
    refine gs_getR cl9 1 dX9_givenTo_14 rfl kw_1320 (by decide) (h0.1) rfl ?_
    refine gw_iconstZ dX9_givenTo_17 rfl ?_
    refine gs_ialdZ dX9_givenTo_18 rfl (h0.2.1) (by decide) (by decide) ?_
    obtain ⟨g, H⟩ := gd_i H
    refine gw_icmp_geZ (tgt := 63) dX9_givenTo_19 rfl (by decide) g.1 g.2 (fun q => ?_) (fun q => ?_)
    · have H := bq_t q H
      exact gw_L (hκ _ H) (lvA_n)
    · have H := bq_f q H
      refine gw_aload_n dX9_givenTo_22 rfl rfl ?_
      refine gs_getR cl9 11 dX9_givenTo_23 rfl kw_1330 (by decide) (h0.1) rfl ?_
      refine gw_iload_n dX9_givenTo_26 rfl rfl ?_
      obtain ⟨g, H⟩ := gd_i H
      refine gs_ialdZ dX9_givenTo_27 rfl (h0.2.2.2.2.2.2.2.2.1) g (by decide) ?_
      refine gw_iload_n dX9_givenTo_28 rfl rfl ?_
      obtain ⟨g, H⟩ := gd_i H
      refine gw_icmp_neZ (tgt := 57) dX9_givenTo_29 rfl (by decide) g.1 g.2 (fun q => ?_) (fun q => ?_)
      · have H := bq_f q H
        refine gw_iincZ dX9_givenTo_57 rfl rfl (by decide) ?_
        refine gw_goto (tgt := 12) dX9_givenTo_60 (by decide) ?_
        exact gw_L (ih _ _ H) ((lvA_c rfl (lvA_c rfl (lvA_c rfl lvA_n))))
      · have H := bq_t q H
        refine gw_aload_n dX9_givenTo_32 rfl rfl ?_
        refine gw_aload_n dX9_givenTo_33 rfl rfl ?_
        refine gw_iload_n dX9_givenTo_34 rfl rfl ?_
        refine gw_bipushZ dX9_givenTo_35 rfl (by decide) ?_
        obtain ⟨v1, e_v1, H⟩ := cv_i H
        refine gw_V2 okX9_entry dX9_givenTo_37 kw_1531 kw_1533 kw_54 (hp_o (h0.1)) rfl ⟨by decide, by decide⟩ ⟨by decide, by decide⟩ (Nat.le_of_ble_eq_true rfl) (w_X9_entry (h0) e_v1 ?_)
        refine gw_aload_n dX9_givenTo_40 rfl rfl ?_
        refine gs_getR cl9 10 dX9_givenTo_41 rfl kw_1329 (by decide) (h0.1) rfl ?_
        refine gw_bipushZ dX9_givenTo_44 rfl (by decide) ?_
        refine gw_iload_n dX9_givenTo_46 rfl rfl ?_
        refine gw_imulZ dX9_givenTo_47 rfl ?_
        refine gw_bipushZ dX9_givenTo_48 rfl (by decide) ?_
        refine gw_iaddZ dX9_givenTo_50 rfl ?_
        refine gw_iconstZ dX9_givenTo_51 rfl ?_
        refine gw_isubZ dX9_givenTo_52 rfl ?_
        obtain ⟨g, H⟩ := gd_i H
        refine gs_laldZ dX9_givenTo_53 rfl (h0.2.2.2.2.2.2.2.1) g (by decide) ?_
        obtain ⟨v3, c2, e_c2, H⟩ := cl_i H
        refine gw_V2 okX9_becomes dX9_givenTo_54 kw_1504 kw_1506 kw_48 (hp_o (h0.1)) rfl ⟨by decide, by decide⟩ ⟨by decide, by decide⟩ (Nat.le_of_ble_eq_true rfl) (w_X9_becomes (h0) e_c2 ?_)
        refine gw_iincZ dX9_givenTo_57 rfl rfl (by decide) ?_
        refine gw_goto (tgt := 12) dX9_givenTo_60 (by decide) ?_
        exact gw_L (ih _ _ H) ((lvA_c rfl (lvA_c rfl (lvA_c rfl lvA_n))))
set_option maxRecDepth 100000 in
set_option maxHeartbeats 4000000 in
theorem w_X9_givenTo {Φ : gwC} {hb : gwHp} {M : Nat} {sh : Nat → Option gSh} {th : Nat} {p1 : Int} {c : W0} {r : Int × W0} {K : Option Value → gwHp → Prop} (h0 : sM sh th) (H : f_X9_givenTo th p1 c = some r) (hK : K none (hp Φ hb M sh r.2)) : gw_Con Φ mX9_givenTo none [.ref (M + th), vI p1] (hp Φ hb M sh c) K := by
  unfold f_X9_givenTo at H
  refine gw_start okX9_givenTo (Nat.le_of_ble_eq_true rfl) ?_
  refine gw_aload_n dX9_givenTo_0 rfl rfl ?_
  obtain ⟨v2, c1, e_c1, H⟩ := cl_i H
  refine gw_V0 okX9_laysNow dX9_givenTo_1 kw_1484 kw_1486 kw_43 (hp_o (h0.1)) rfl ⟨by decide, by decide⟩ ⟨by decide, by decide⟩ (Nat.le_of_ble_eq_true rfl) (w_X9_laysNow (h0) e_c1 ?_)
  refine gw_aload_n dX9_givenTo_4 rfl rfl ?_
  refine gw_lconst0Z dX9_givenTo_5 rfl ?_
  refine gw_lconst1Z dX9_givenTo_6 rfl ?_
  obtain ⟨v4, c3, e_c3, H⟩ := cl_i H
  refine gw_V2 okX9_becomes dX9_givenTo_7 kw_1504 kw_1506 kw_48 (hp_o (h0.1)) rfl ⟨by decide, by decide⟩ ⟨by decide, by decide⟩ (Nat.le_of_ble_eq_true rfl) (w_X9_becomes (h0) e_c3 ?_)
  refine gw_iconstZ dX9_givenTo_10 rfl ?_
  refine gw_istore_n dX9_givenTo_11 rfl (by decide) ?_
  refine gw_L (l_X9_givenTo_12 h0 hK (fun c5 H => ?_) LF _ _ H) ((lvA_c rfl (lvA_c rfl (lvA_c rfl lvA_n))))
  cases H
  exact gw_vret dX9_givenTo_63 rfl (by decide) (by decide) hK
set_option maxRecDepth 100000 in
set_option maxHeartbeats 4000000 in
theorem w_X9_givenNumerator {Φ : gwC} {hb : gwHp} {M : Nat} {sh : Nat → Option gSh} {th : Nat} {p1 : Int} {c : W0} {r : Int × W0} {K : Option Value → gwHp → Prop} (h0 : sM sh th) (H : f_X9_givenNumerator th p1 c = some r) (hK : K (some (vL r.1)) (hp Φ hb M sh r.2)) : gw_Con Φ mX9_givenNumerator none [.ref (M + th), vI p1] (hp Φ hb M sh c) K := by
  unfold f_X9_givenNumerator at H
  refine gw_start okX9_givenNumerator (Nat.le_of_ble_eq_true rfl) ?_
  refine gw_aload_n dX9_givenNumerator_0 rfl rfl ?_
  refine gw_aload_n dX9_givenNumerator_1 rfl rfl ?_
  refine gw_iload_n dX9_givenNumerator_2 rfl rfl ?_
  obtain ⟨v1, e_v1, H⟩ := cv_i H
  refine gw_V1 okX9_isColumn dX9_givenNumerator_3 kw_1472 kw_1474 kw_40 (hp_o (h0.1)) rfl ⟨by decide, by decide⟩ ⟨by decide, by decide⟩ (Nat.le_of_ble_eq_true rfl) (w_X9_isColumn (h0) e_v1 ?_)
  obtain ⟨g, H⟩ := gd_i H
  obtain ⟨k2, e_k2, H⟩ := jn_i H
  have hJ_k2 : ∀ (v3 : Int), k2 v3 = some r → G Φ mX9_givenNumerator (gw_M Φ mX9_givenNumerator K) none 0 0 14 [(0, .ref (M + th)), (1, vI p1)] [vI v3, .ref (M + th)] (hp Φ hb M sh c) := by
    intro v3 H
    subst e_k2
    obtain ⟨v4, c5, e_c5, H⟩ := cl_i H
    refine gw_V1 okX9_holds dX9_givenNumerator_14 kw_1416 kw_1418 kw_33 (hp_o (h0.1)) rfl ⟨by decide, by decide⟩ ⟨by decide, by decide⟩ (Nat.le_of_ble_eq_true rfl) (w_X9_holds (h0) e_c5 ?_)
    obtain ⟨g, H⟩ := gd_i H
    refine gw_if_neZ (tgt := 22) dX9_givenNumerator_17 rfl (by decide) g (fun q => ?_) (fun q => ?_)
    · have H := bq_f q H
      refine gw_aload_n dX9_givenNumerator_22 rfl rfl ?_
      refine gw_iload_n dX9_givenNumerator_23 rfl rfl ?_
      obtain ⟨v7, c6, e_c6, H⟩ := cl_i H
      refine gw_V1 okX9_givenTo dX9_givenNumerator_24 kw_1767 kw_1769 kw_80 (hp_o (h0.1)) rfl ⟨by decide, by decide⟩ ⟨by decide, by decide⟩ (Nat.le_of_ble_eq_true rfl) (w_X9_givenTo (h0) e_c6 ?_)
      refine gw_aload_n dX9_givenNumerator_27 rfl rfl ?_
      refine gs_getL cl9 16 16 dX9_givenNumerator_28 rfl kw_1335 (by decide) (h0.1) rfl rfl ?_
      cases H
      exact gw_lret dX9_givenNumerator_31 rfl (by decide) (by decide) hK
    · have H := bq_t q H
      refine gw_lconst0Z dX9_givenNumerator_20 rfl ?_
      cases H
      exact gw_lret dX9_givenNumerator_21 rfl (by decide) (by decide) hK
  refine gw_if_eqZ (tgt := 13) dX9_givenNumerator_6 rfl (by decide) g (fun q => ?_) (fun q => ?_)
  · have H := bq_t q H
    refine gw_iconstZ dX9_givenNumerator_13 rfl ?_
    exact gw_L (hJ_k2 _ H) ((lvA_c rfl (lvA_c rfl lvA_n)))
  · have H := bq_f q H
    refine gw_iconstZ dX9_givenNumerator_9 rfl ?_
    refine gw_goto (tgt := 14) dX9_givenNumerator_10 (by decide) ?_
    exact gw_L (hJ_k2 _ H) ((lvA_c rfl (lvA_c rfl lvA_n)))
set_option maxRecDepth 100000 in
set_option maxHeartbeats 4000000 in
theorem w_X9_givenDenominator {Φ : gwC} {hb : gwHp} {M : Nat} {sh : Nat → Option gSh} {th : Nat} {p1 : Int} {c : W0} {r : Int × W0} {K : Option Value → gwHp → Prop} (h0 : sM sh th) (H : f_X9_givenDenominator th p1 c = some r) (hK : K (some (vL r.1)) (hp Φ hb M sh r.2)) : gw_Con Φ mX9_givenDenominator none [.ref (M + th), vI p1] (hp Φ hb M sh c) K := by
  unfold f_X9_givenDenominator at H
  refine gw_start okX9_givenDenominator (Nat.le_of_ble_eq_true rfl) ?_
  refine gw_aload_n dX9_givenDenominator_0 rfl rfl ?_
  refine gw_aload_n dX9_givenDenominator_1 rfl rfl ?_
  refine gw_iload_n dX9_givenDenominator_2 rfl rfl ?_
  obtain ⟨v1, e_v1, H⟩ := cv_i H
  refine gw_V1 okX9_isColumn dX9_givenDenominator_3 kw_1472 kw_1474 kw_40 (hp_o (h0.1)) rfl ⟨by decide, by decide⟩ ⟨by decide, by decide⟩ (Nat.le_of_ble_eq_true rfl) (w_X9_isColumn (h0) e_v1 ?_)
  obtain ⟨g, H⟩ := gd_i H
  obtain ⟨k2, e_k2, H⟩ := jn_i H
  have hJ_k2 : ∀ (v3 : Int), k2 v3 = some r → G Φ mX9_givenDenominator (gw_M Φ mX9_givenDenominator K) none 0 0 14 [(0, .ref (M + th)), (1, vI p1)] [vI v3, .ref (M + th)] (hp Φ hb M sh c) := by
    intro v3 H
    subst e_k2
    obtain ⟨v4, c5, e_c5, H⟩ := cl_i H
    refine gw_V1 okX9_holds dX9_givenDenominator_14 kw_1416 kw_1418 kw_33 (hp_o (h0.1)) rfl ⟨by decide, by decide⟩ ⟨by decide, by decide⟩ (Nat.le_of_ble_eq_true rfl) (w_X9_holds (h0) e_c5 ?_)
    obtain ⟨g, H⟩ := gd_i H
    refine gw_if_neZ (tgt := 22) dX9_givenDenominator_17 rfl (by decide) g (fun q => ?_) (fun q => ?_)
    · have H := bq_f q H
      refine gw_aload_n dX9_givenDenominator_22 rfl rfl ?_
      refine gw_iload_n dX9_givenDenominator_23 rfl rfl ?_
      obtain ⟨v7, c6, e_c6, H⟩ := cl_i H
      refine gw_V1 okX9_givenTo dX9_givenDenominator_24 kw_1767 kw_1769 kw_80 (hp_o (h0.1)) rfl ⟨by decide, by decide⟩ ⟨by decide, by decide⟩ (Nat.le_of_ble_eq_true rfl) (w_X9_givenTo (h0) e_c6 ?_)
      refine gw_aload_n dX9_givenDenominator_27 rfl rfl ?_
      refine gs_getL cl9 17 17 dX9_givenDenominator_28 rfl kw_1336 (by decide) (h0.1) rfl rfl ?_
      cases H
      exact gw_lret dX9_givenDenominator_31 rfl (by decide) (by decide) hK
    · have H := bq_t q H
      refine gw_lconst0Z dX9_givenDenominator_20 rfl ?_
      cases H
      exact gw_lret dX9_givenDenominator_21 rfl (by decide) (by decide) hK
  refine gw_if_eqZ (tgt := 13) dX9_givenDenominator_6 rfl (by decide) g (fun q => ?_) (fun q => ?_)
  · have H := bq_t q H
    refine gw_iconstZ dX9_givenDenominator_13 rfl ?_
    exact gw_L (hJ_k2 _ H) ((lvA_c rfl (lvA_c rfl lvA_n)))
  · have H := bq_f q H
    refine gw_iconstZ dX9_givenDenominator_9 rfl ?_
    refine gw_goto (tgt := 14) dX9_givenDenominator_10 (by decide) ?_
    exact gw_L (hJ_k2 _ H) ((lvA_c rfl (lvA_c rfl lvA_n)))
set_option maxRecDepth 100000 in
set_option maxHeartbeats 4000000 in
theorem w_X9_value {Φ : gwC} {hb : gwHp} {M : Nat} {sh : Nat → Option gSh} {th : Nat} {c : W0} {r : UInt64 × W0} {K : Option Value → gwHp → Prop} (h0 : sM sh th) (H : f_X9_value th c = some r) (hK : K (some (.double r.1)) (hp Φ hb M sh r.2)) : gw_Con Φ mX9_value none [.ref (M + th)] (hp Φ hb M sh c) K := by
  unfold f_X9_value at H
  refine gw_start okX9_value (Nat.le_of_ble_eq_true rfl) ?_
  refine gw_aload_n dX9_value_0 rfl rfl ?_
  refine gw_iconstZ dX9_value_1 rfl ?_
  obtain ⟨c1, e_c1, H⟩ := sto_i H
  refine gs_putIE cl9 0 0 dX9_value_2 rfl kw_1319 (by decide) rfl rfl (h0.1) rfl rfl e_c1 ?_
  refine gw_aload_n dX9_value_5 rfl rfl ?_
  obtain ⟨v3, c2, e_c2, H⟩ := cl_i H
  refine gw_V0 okX9_valueNow dX9_value_6 kw_1751 kw_1753 kw_78 (hp_o (h0.1)) rfl ⟨by decide, by decide⟩ ⟨by decide, by decide⟩ (Nat.le_of_ble_eq_true rfl) (w_X9_valueNow (h0) e_c2 ?_)
  refine gw_aload_n dX9_value_9 rfl rfl ?_
  refine gs_getL cl9 16 16 dX9_value_10 rfl kw_1335 (by decide) (h0.1) rfl rfl ?_
  refine gw_l2d dX9_value_13 rfl ?_
  refine gw_aload_n dX9_value_14 rfl rfl ?_
  refine gs_getL cl9 17 17 dX9_value_15 rfl kw_1336 (by decide) (h0.1) rfl rfl ?_
  refine gw_l2d dX9_value_18 rfl ?_
  obtain ⟨g, H⟩ := gd_i H
  refine gw_ddiv dX9_value_19 rfl g ?_
  have e9 := Option.some.inj H
  rw [← e9] at hK
  try dsimp only at hK
  exact gw_dret dX9_value_20 rfl (by decide) (by decide) hK
set_option maxRecDepth 100000 in
set_option maxHeartbeats 4000000 in
theorem w_X9_dualOf {Φ : gwC} {hb : gwHp} {M : Nat} {sh : Nat → Option gSh} {th : Nat} {p1 : Int} {c : W0} {r : Int × W0} {K : Option Value → gwHp → Prop} (h0 : sM sh th) (H : f_X9_dualOf th p1 c = some r) (hK : K none (hp Φ hb M sh r.2)) : gw_Con Φ mX9_dualOf none [.ref (M + th), vI p1] (hp Φ hb M sh c) K := by
  unfold f_X9_dualOf at H
  refine gw_start okX9_dualOf (Nat.le_of_ble_eq_true rfl) ?_
  refine gw_aload_n dX9_dualOf_0 rfl rfl ?_
  refine gw_aload_n dX9_dualOf_1 rfl rfl ?_
  refine gs_getR cl9 1 dX9_dualOf_2 rfl kw_1320 (by decide) (h0.1) rfl ?_
  refine gw_iconstZ dX9_dualOf_5 rfl ?_
  refine gs_ialdZ dX9_dualOf_6 rfl (h0.2.1) (by decide) (by decide) ?_
  refine gw_iload_n dX9_dualOf_7 rfl rfl ?_
  refine gw_iaddZ dX9_dualOf_8 rfl ?_
  obtain ⟨v2, c1, e_c1, H⟩ := cl_i H
  refine gw_V1 okX9_reducedOf dX9_dualOf_9 kw_1739 kw_1741 kw_77 (hp_o (h0.1)) rfl ⟨by decide, by decide⟩ ⟨by decide, by decide⟩ (Nat.le_of_ble_eq_true rfl) (w_X9_reducedOf (h0) e_c1 ?_)
  refine gw_aload_n dX9_dualOf_12 rfl rfl ?_
  refine gw_aload_n dX9_dualOf_13 rfl rfl ?_
  refine gs_getL cl9 16 16 dX9_dualOf_14 rfl kw_1335 (by decide) (h0.1) rfl rfl ?_
  refine gw_lnegZ dX9_dualOf_17 rfl ?_
  obtain ⟨c3, e_c3, H⟩ := sto_i H
  refine gs_putLE cl9 16 16 dX9_dualOf_18 rfl kw_1335 (by decide) rfl rfl (h0.1) rfl rfl e_c3 ?_
  cases H
  exact gw_vret dX9_dualOf_21 rfl (by decide) (by decide) hK
set_option maxRecDepth 100000 in
set_option maxHeartbeats 4000000 in
theorem w_X9_dualNumerator {Φ : gwC} {hb : gwHp} {M : Nat} {sh : Nat → Option gSh} {th : Nat} {p1 : Int} {c : W0} {r : Int × W0} {K : Option Value → gwHp → Prop} (h0 : sM sh th) (H : f_X9_dualNumerator th p1 c = some r) (hK : K (some (vL r.1)) (hp Φ hb M sh r.2)) : gw_Con Φ mX9_dualNumerator none [.ref (M + th), vI p1] (hp Φ hb M sh c) K := by
  unfold f_X9_dualNumerator at H
  refine gw_start okX9_dualNumerator (Nat.le_of_ble_eq_true rfl) ?_
  refine gw_aload_n dX9_dualNumerator_0 rfl rfl ?_
  refine gw_aload_n dX9_dualNumerator_1 rfl rfl ?_
  refine gw_iload_n dX9_dualNumerator_2 rfl rfl ?_
  obtain ⟨v1, e_v1, H⟩ := cv_i H
  refine gw_V1 okX9_isConstraint dX9_dualNumerator_3 kw_1448 kw_1450 kw_38 (hp_o (h0.1)) rfl ⟨by decide, by decide⟩ ⟨by decide, by decide⟩ (Nat.le_of_ble_eq_true rfl) (w_X9_isConstraint (h0) e_v1 ?_)
  obtain ⟨g, H⟩ := gd_i H
  obtain ⟨k2, e_k2, H⟩ := jn_i H
  have hJ_k2 : ∀ (v3 : Int), k2 v3 = some r → G Φ mX9_dualNumerator (gw_M Φ mX9_dualNumerator K) none 0 0 14 [(0, .ref (M + th)), (1, vI p1)] [vI v3, .ref (M + th)] (hp Φ hb M sh c) := by
    intro v3 H
    subst e_k2
    obtain ⟨v4, c5, e_c5, H⟩ := cl_i H
    refine gw_V1 okX9_holds dX9_dualNumerator_14 kw_1416 kw_1418 kw_33 (hp_o (h0.1)) rfl ⟨by decide, by decide⟩ ⟨by decide, by decide⟩ (Nat.le_of_ble_eq_true rfl) (w_X9_holds (h0) e_c5 ?_)
    obtain ⟨g, H⟩ := gd_i H
    refine gw_if_neZ (tgt := 22) dX9_dualNumerator_17 rfl (by decide) g (fun q => ?_) (fun q => ?_)
    · have H := bq_f q H
      refine gw_aload_n dX9_dualNumerator_22 rfl rfl ?_
      refine gw_iload_n dX9_dualNumerator_23 rfl rfl ?_
      obtain ⟨v7, c6, e_c6, H⟩ := cl_i H
      refine gw_V1 okX9_dualOf dX9_dualNumerator_24 kw_1783 kw_1785 kw_81 (hp_o (h0.1)) rfl ⟨by decide, by decide⟩ ⟨by decide, by decide⟩ (Nat.le_of_ble_eq_true rfl) (w_X9_dualOf (h0) e_c6 ?_)
      refine gw_aload_n dX9_dualNumerator_27 rfl rfl ?_
      refine gs_getL cl9 16 16 dX9_dualNumerator_28 rfl kw_1335 (by decide) (h0.1) rfl rfl ?_
      cases H
      exact gw_lret dX9_dualNumerator_31 rfl (by decide) (by decide) hK
    · have H := bq_t q H
      refine gw_lconst0Z dX9_dualNumerator_20 rfl ?_
      cases H
      exact gw_lret dX9_dualNumerator_21 rfl (by decide) (by decide) hK
  refine gw_if_eqZ (tgt := 13) dX9_dualNumerator_6 rfl (by decide) g (fun q => ?_) (fun q => ?_)
  · have H := bq_t q H
    refine gw_iconstZ dX9_dualNumerator_13 rfl ?_
    exact gw_L (hJ_k2 _ H) ((lvA_c rfl (lvA_c rfl lvA_n)))
  · have H := bq_f q H
    refine gw_iconstZ dX9_dualNumerator_9 rfl ?_
    refine gw_goto (tgt := 14) dX9_dualNumerator_10 (by decide) ?_
    exact gw_L (hJ_k2 _ H) ((lvA_c rfl (lvA_c rfl lvA_n)))
set_option maxRecDepth 100000 in
set_option maxHeartbeats 4000000 in
theorem w_X9_dualDenominator {Φ : gwC} {hb : gwHp} {M : Nat} {sh : Nat → Option gSh} {th : Nat} {p1 : Int} {c : W0} {r : Int × W0} {K : Option Value → gwHp → Prop} (h0 : sM sh th) (H : f_X9_dualDenominator th p1 c = some r) (hK : K (some (vL r.1)) (hp Φ hb M sh r.2)) : gw_Con Φ mX9_dualDenominator none [.ref (M + th), vI p1] (hp Φ hb M sh c) K := by
  unfold f_X9_dualDenominator at H
  refine gw_start okX9_dualDenominator (Nat.le_of_ble_eq_true rfl) ?_
  refine gw_aload_n dX9_dualDenominator_0 rfl rfl ?_
  refine gw_aload_n dX9_dualDenominator_1 rfl rfl ?_
  refine gw_iload_n dX9_dualDenominator_2 rfl rfl ?_
  obtain ⟨v1, e_v1, H⟩ := cv_i H
  refine gw_V1 okX9_isConstraint dX9_dualDenominator_3 kw_1448 kw_1450 kw_38 (hp_o (h0.1)) rfl ⟨by decide, by decide⟩ ⟨by decide, by decide⟩ (Nat.le_of_ble_eq_true rfl) (w_X9_isConstraint (h0) e_v1 ?_)
  obtain ⟨g, H⟩ := gd_i H
  obtain ⟨k2, e_k2, H⟩ := jn_i H
  have hJ_k2 : ∀ (v3 : Int), k2 v3 = some r → G Φ mX9_dualDenominator (gw_M Φ mX9_dualDenominator K) none 0 0 14 [(0, .ref (M + th)), (1, vI p1)] [vI v3, .ref (M + th)] (hp Φ hb M sh c) := by
    intro v3 H
    subst e_k2
    obtain ⟨v4, c5, e_c5, H⟩ := cl_i H
    refine gw_V1 okX9_holds dX9_dualDenominator_14 kw_1416 kw_1418 kw_33 (hp_o (h0.1)) rfl ⟨by decide, by decide⟩ ⟨by decide, by decide⟩ (Nat.le_of_ble_eq_true rfl) (w_X9_holds (h0) e_c5 ?_)
    obtain ⟨g, H⟩ := gd_i H
    refine gw_if_neZ (tgt := 22) dX9_dualDenominator_17 rfl (by decide) g (fun q => ?_) (fun q => ?_)
    · have H := bq_f q H
      refine gw_aload_n dX9_dualDenominator_22 rfl rfl ?_
      refine gw_iload_n dX9_dualDenominator_23 rfl rfl ?_
      obtain ⟨v7, c6, e_c6, H⟩ := cl_i H
      refine gw_V1 okX9_dualOf dX9_dualDenominator_24 kw_1783 kw_1785 kw_81 (hp_o (h0.1)) rfl ⟨by decide, by decide⟩ ⟨by decide, by decide⟩ (Nat.le_of_ble_eq_true rfl) (w_X9_dualOf (h0) e_c6 ?_)
      refine gw_aload_n dX9_dualDenominator_27 rfl rfl ?_
      refine gs_getL cl9 17 17 dX9_dualDenominator_28 rfl kw_1336 (by decide) (h0.1) rfl rfl ?_
      cases H
      exact gw_lret dX9_dualDenominator_31 rfl (by decide) (by decide) hK
    · have H := bq_t q H
      refine gw_lconst0Z dX9_dualDenominator_20 rfl ?_
      cases H
      exact gw_lret dX9_dualDenominator_21 rfl (by decide) (by decide) hK
  refine gw_if_eqZ (tgt := 13) dX9_dualDenominator_6 rfl (by decide) g (fun q => ?_) (fun q => ?_)
  · have H := bq_t q H
    refine gw_iconstZ dX9_dualDenominator_13 rfl ?_
    exact gw_L (hJ_k2 _ H) ((lvA_c rfl (lvA_c rfl lvA_n)))
  · have H := bq_f q H
    refine gw_iconstZ dX9_dualDenominator_9 rfl ?_
    refine gw_goto (tgt := 14) dX9_dualDenominator_10 (by decide) ?_
    exact gw_L (hJ_k2 _ H) ((lvA_c rfl (lvA_c rfl lvA_n)))
set_option maxRecDepth 100000 in
set_option maxHeartbeats 4000000 in
theorem w_X9_dualNumeratorByEquations {Φ : gwC} {hb : gwHp} {M : Nat} {sh : Nat → Option gSh} {th : Nat} {p1 : Int} {c : W0} {r : Int × W0} {K : Option Value → gwHp → Prop} (h0 : sM sh th) (H : f_X9_dualNumeratorByEquations th p1 c = some r) (hK : K (some (vL r.1)) (hp Φ hb M sh r.2)) : gw_Con Φ mX9_dualNumeratorByEquations none [.ref (M + th), vI p1] (hp Φ hb M sh c) K := by
  unfold f_X9_dualNumeratorByEquations at H
  refine gw_start okX9_dualNumeratorByEquations (Nat.le_of_ble_eq_true rfl) ?_
  refine gw_aload_n dX9_dualNumeratorByEquations_0 rfl rfl ?_
  refine gw_iload_n dX9_dualNumeratorByEquations_1 rfl rfl ?_
  obtain ⟨v1, c2, e_c2, H⟩ := cl_i H
  refine gw_V1 okX9_dualNumerator dX9_dualNumeratorByEquations_2 kw_1795 kw_1780 kw_1781 (hp_o (h0.1)) rfl ⟨by decide, by decide⟩ ⟨by decide, by decide⟩ (Nat.le_of_ble_eq_true rfl) (w_X9_dualNumerator (h0) e_c2 ?_)
  cases H
  exact gw_lret dX9_dualNumeratorByEquations_5 rfl (by decide) (by decide) hK
set_option maxRecDepth 100000 in
set_option maxHeartbeats 4000000 in
theorem w_X9_dualDenominatorByEquations {Φ : gwC} {hb : gwHp} {M : Nat} {sh : Nat → Option gSh} {th : Nat} {p1 : Int} {c : W0} {r : Int × W0} {K : Option Value → gwHp → Prop} (h0 : sM sh th) (H : f_X9_dualDenominatorByEquations th p1 c = some r) (hK : K (some (vL r.1)) (hp Φ hb M sh r.2)) : gw_Con Φ mX9_dualDenominatorByEquations none [.ref (M + th), vI p1] (hp Φ hb M sh c) K := by
  unfold f_X9_dualDenominatorByEquations at H
  refine gw_start okX9_dualDenominatorByEquations (Nat.le_of_ble_eq_true rfl) ?_
  refine gw_aload_n dX9_dualDenominatorByEquations_0 rfl rfl ?_
  refine gw_iload_n dX9_dualDenominatorByEquations_1 rfl rfl ?_
  obtain ⟨v1, c2, e_c2, H⟩ := cl_i H
  refine gw_V1 okX9_dualDenominator dX9_dualDenominatorByEquations_2 kw_1800 kw_1788 kw_1789 (hp_o (h0.1)) rfl ⟨by decide, by decide⟩ ⟨by decide, by decide⟩ (Nat.le_of_ble_eq_true rfl) (w_X9_dualDenominator (h0) e_c2 ?_)
  cases H
  exact gw_lret dX9_dualDenominatorByEquations_5 rfl (by decide) (by decide) hK
set_option maxRecDepth 100000 in
set_option maxHeartbeats 4000000 in
theorem l_X9_dualValue_7 {Φ : gwC} {hb : gwHp} {M : Nat} {sh : Nat → Option gSh} {th : Nat} {κ : Int → Int → W0 → Option (Int × W0)} {r : Int × W0} {K : Option Value → gwHp → Prop} (h0 : sM sh th) (hK : K none (hp Φ hb M sh r.2)) (hκ : ∀ (x1 : Int) (x3 : Int) (c : W0), κ x1 x3 c = some r → G Φ mX9_dualValue (gw_M Φ mX9_dualValue K) none 0 0 77 [(0, .ref (M + th)), (1, vL x1), (3, vL x3)] [] (hp Φ hb M sh c)) : ∀ (n : Nat) (l1 : Int) (l3 : Int) (l5 : Int) (c : W0), f_X9_dualValue_7 th κ n l1 l3 l5 c = some r → G Φ mX9_dualValue (gw_M Φ mX9_dualValue K) none 0 0 7 [(0, .ref (M + th)), (1, vL l1), (3, vL l3), (5, vI l5)] [] (hp Φ hb M sh c) := by
  intro n
  induction n with
  | zero => intro l1 l3 l5 c H; cases H
  | succ n ih =>
    intro l1 l3 l5 c H
    have H : b_X9_dualValue_7 th κ (f_X9_dualValue_7 th κ n) l1 l3 l5 c = some r := H
    unfold b_X9_dualValue_7 at H
    refine gw_iload dX9_dualValue_7 rfl rfl ?_
    refine gw_aload_n dX9_dualValue_9 rfl rfl ?_
    refine gs_getR cl9 1 dX9_dualValue_10 rfl kw_1320 (by decide) (h0.1) rfl ?_
    refine gw_iconstZ dX9_dualValue_13 rfl ?_
    refine gs_ialdZ dX9_dualValue_14 rfl (h0.2.1) (by decide) (by decide) ?_
    obtain ⟨g, H⟩ := gd_i H
    refine gw_icmp_geZ (tgt := 77) dX9_dualValue_15 rfl (by decide) g.1 g.2 (fun q => ?_) (fun q => ?_)
    · have H := bq_t q H
      exact gw_L (hκ _ _ _ H) ((lvA_c rfl (lvA_c rfl (lvA_c rfl lvA_n))))
    · have H := bq_f q H
      refine gw_aload_n dX9_dualValue_18 rfl rfl ?_
      refine gw_iload dX9_dualValue_19 rfl rfl ?_
      obtain ⟨v2, c1, e_c1, H⟩ := cl_i H
      refine gw_V1 okX9_dualOf dX9_dualValue_21 kw_1783 kw_1785 kw_81 (hp_o (h0.1)) rfl ⟨by decide, by decide⟩ ⟨by decide, by decide⟩ (Nat.le_of_ble_eq_true rfl) (w_X9_dualOf (h0) e_c1 ?_)
      refine gw_aload_n dX9_dualValue_24 rfl rfl ?_
      refine gs_getL cl9 16 16 dX9_dualValue_25 rfl kw_1335 (by decide) (h0.1) rfl rfl ?_
      refine gw_lstore dX9_dualValue_28 rfl (by decide) ?_
      refine gw_aload_n dX9_dualValue_30 rfl rfl ?_
      refine gs_getL cl9 17 17 dX9_dualValue_31 rfl kw_1336 (by decide) (h0.1) rfl rfl ?_
      refine gw_lstore dX9_dualValue_34 rfl (by decide) ?_
      refine gw_aload_n dX9_dualValue_36 rfl rfl ?_
      refine gw_lload_n dX9_dualValue_37 rfl rfl ?_
      refine gw_lload_n dX9_dualValue_38 rfl rfl ?_
      obtain ⟨v4, c3, e_c3, H⟩ := cl_i H
      refine gw_V2 okX9_becomes dX9_dualValue_39 kw_1504 kw_1506 kw_48 (hp_o (h0.1)) rfl ⟨by decide, by decide⟩ ⟨by decide, by decide⟩ (Nat.le_of_ble_eq_true rfl) (w_X9_becomes (h0) e_c3 ?_)
      refine gw_aload_n dX9_dualValue_42 rfl rfl ?_
      refine gw_aload_n dX9_dualValue_43 rfl rfl ?_
      refine gs_getR cl9 1 dX9_dualValue_44 rfl kw_1320 (by decide) (h0.1) rfl ?_
      refine gw_bipushZ dX9_dualValue_47 rfl (by decide) ?_
      refine gw_iload dX9_dualValue_49 rfl rfl ?_
      refine gw_iaddZ dX9_dualValue_51 rfl ?_
      obtain ⟨g, H⟩ := gd_i H
      refine gs_ialdZ dX9_dualValue_52 rfl (h0.2.1) g (by decide) ?_
      obtain ⟨g, H⟩ := gd_i H
      refine gw_i2lZ dX9_dualValue_53 rfl g ?_
      refine gw_lload dX9_dualValue_54 rfl rfl ?_
      refine gw_lload dX9_dualValue_56 rfl rfl ?_
      obtain ⟨v6, c5, e_c5, H⟩ := cl_i H
      refine gw_V3 okX9_adds dX9_dualValue_58 kw_1535 kw_1537 kw_55 (hp_o (h0.1)) rfl ⟨by decide, by decide⟩ ⟨by decide, by decide⟩ (Nat.le_of_ble_eq_true rfl) (w_X9_adds (h0) e_c5 ?_)
      refine gw_aload_n dX9_dualValue_61 rfl rfl ?_
      refine gs_getL cl9 16 16 dX9_dualValue_62 rfl kw_1335 (by decide) (h0.1) rfl rfl ?_
      refine gw_lstore_n dX9_dualValue_65 rfl (by decide) ?_
      refine gw_aload_n dX9_dualValue_66 rfl rfl ?_
      refine gs_getL cl9 17 17 dX9_dualValue_67 rfl kw_1336 (by decide) (h0.1) rfl rfl ?_
      refine gw_lstore_n dX9_dualValue_70 rfl (by decide) ?_
      refine gw_iincZ dX9_dualValue_71 rfl rfl (by decide) ?_
      refine gw_goto (tgt := 7) dX9_dualValue_74 (by decide) ?_
      exact gw_L (ih _ _ _ _ H) ((lvA_c rfl (lvA_c rfl (lvA_c rfl (lvA_c rfl lvA_n)))))
set_option maxRecDepth 100000 in
set_option maxHeartbeats 4000000 in
theorem w_X9_dualValue {Φ : gwC} {hb : gwHp} {M : Nat} {sh : Nat → Option gSh} {th : Nat} {c : W0} {r : Int × W0} {K : Option Value → gwHp → Prop} (h0 : sM sh th) (H : f_X9_dualValue th c = some r) (hK : K none (hp Φ hb M sh r.2)) : gw_Con Φ mX9_dualValue none [.ref (M + th)] (hp Φ hb M sh c) K := by
  unfold f_X9_dualValue at H
  refine gw_start okX9_dualValue (Nat.le_of_ble_eq_true rfl) ?_
  refine gw_lconst0Z dX9_dualValue_0 rfl ?_
  refine gw_lstore_n dX9_dualValue_1 rfl (by decide) ?_
  refine gw_lconst1Z dX9_dualValue_2 rfl ?_
  refine gw_lstore_n dX9_dualValue_3 rfl (by decide) ?_
  refine gw_iconstZ dX9_dualValue_4 rfl ?_
  refine gw_istore dX9_dualValue_5 rfl (by decide) ?_
  refine gw_L (l_X9_dualValue_7 h0 hK (fun v1 v2 c3 H => ?_) LF _ _ _ _ H) ((lvA_c rfl (lvA_c rfl (lvA_c rfl (lvA_c rfl lvA_n)))))
  refine gw_aload_n dX9_dualValue_77 rfl rfl ?_
  refine gw_lload_n dX9_dualValue_78 rfl rfl ?_
  refine gw_lload_n dX9_dualValue_79 rfl rfl ?_
  obtain ⟨v5, c4, e_c4, H⟩ := cl_i H
  refine gw_V2 okX9_becomes dX9_dualValue_80 kw_1504 kw_1506 kw_48 (hp_o (h0.1)) rfl ⟨by decide, by decide⟩ ⟨by decide, by decide⟩ (Nat.le_of_ble_eq_true rfl) (w_X9_becomes (h0) e_c4 ?_)
  cases H
  exact gw_vret dX9_dualValue_83 rfl (by decide) (by decide) hK
set_option maxRecDepth 100000 in
set_option maxHeartbeats 4000000 in
theorem w_X9_dualValueNumerator {Φ : gwC} {hb : gwHp} {M : Nat} {sh : Nat → Option gSh} {th : Nat} {c : W0} {r : Int × W0} {K : Option Value → gwHp → Prop} (h0 : sM sh th) (H : f_X9_dualValueNumerator th c = some r) (hK : K (some (vL r.1)) (hp Φ hb M sh r.2)) : gw_Con Φ mX9_dualValueNumerator none [.ref (M + th)] (hp Φ hb M sh c) K := by
  unfold f_X9_dualValueNumerator at H
  refine gw_start okX9_dualValueNumerator (Nat.le_of_ble_eq_true rfl) ?_
  refine gw_aload_n dX9_dualValueNumerator_0 rfl rfl ?_
  refine gw_iconstZ dX9_dualValueNumerator_1 rfl ?_
  obtain ⟨c1, e_c1, H⟩ := sto_i H
  refine gs_putIE cl9 0 0 dX9_dualValueNumerator_2 rfl kw_1319 (by decide) rfl rfl (h0.1) rfl rfl e_c1 ?_
  refine gw_aload_n dX9_dualValueNumerator_5 rfl rfl ?_
  obtain ⟨v3, c2, e_c2, H⟩ := cl_i H
  refine gw_V0 okX9_dualValue dX9_dualValueNumerator_6 kw_1805 kw_1807 kw_82 (hp_o (h0.1)) rfl ⟨by decide, by decide⟩ ⟨by decide, by decide⟩ (Nat.le_of_ble_eq_true rfl) (w_X9_dualValue (h0) e_c2 ?_)
  refine gw_aload_n dX9_dualValueNumerator_9 rfl rfl ?_
  refine gs_getL cl9 16 16 dX9_dualValueNumerator_10 rfl kw_1335 (by decide) (h0.1) rfl rfl ?_
  cases H
  exact gw_lret dX9_dualValueNumerator_13 rfl (by decide) (by decide) hK
set_option maxRecDepth 100000 in
set_option maxHeartbeats 4000000 in
theorem w_X9_dualValueDenominator {Φ : gwC} {hb : gwHp} {M : Nat} {sh : Nat → Option gSh} {th : Nat} {c : W0} {r : Int × W0} {K : Option Value → gwHp → Prop} (h0 : sM sh th) (H : f_X9_dualValueDenominator th c = some r) (hK : K (some (vL r.1)) (hp Φ hb M sh r.2)) : gw_Con Φ mX9_dualValueDenominator none [.ref (M + th)] (hp Φ hb M sh c) K := by
  unfold f_X9_dualValueDenominator at H
  refine gw_start okX9_dualValueDenominator (Nat.le_of_ble_eq_true rfl) ?_
  refine gw_aload_n dX9_dualValueDenominator_0 rfl rfl ?_
  refine gw_iconstZ dX9_dualValueDenominator_1 rfl ?_
  obtain ⟨c1, e_c1, H⟩ := sto_i H
  refine gs_putIE cl9 0 0 dX9_dualValueDenominator_2 rfl kw_1319 (by decide) rfl rfl (h0.1) rfl rfl e_c1 ?_
  refine gw_aload_n dX9_dualValueDenominator_5 rfl rfl ?_
  obtain ⟨v3, c2, e_c2, H⟩ := cl_i H
  refine gw_V0 okX9_dualValue dX9_dualValueDenominator_6 kw_1805 kw_1807 kw_82 (hp_o (h0.1)) rfl ⟨by decide, by decide⟩ ⟨by decide, by decide⟩ (Nat.le_of_ble_eq_true rfl) (w_X9_dualValue (h0) e_c2 ?_)
  refine gw_aload_n dX9_dualValueDenominator_9 rfl rfl ?_
  refine gs_getL cl9 17 17 dX9_dualValueDenominator_10 rfl kw_1336 (by decide) (h0.1) rfl rfl ?_
  cases H
  exact gw_lret dX9_dualValueDenominator_13 rfl (by decide) (by decide) hK
set_option maxRecDepth 100000 in
set_option maxHeartbeats 4000000 in
theorem w_X9_endlessNow {Φ : gwC} {hb : gwHp} {M : Nat} {sh : Nat → Option gSh} {th : Nat} {c : W0} {r : Int × W0} {K : Option Value → gwHp → Prop} (h0 : sM sh th) (H : f_X9_endlessNow th c = some r) (hK : K (some (vI r.1)) (hp Φ hb M sh r.2)) : gw_Con Φ mX9_endlessNow none [.ref (M + th)] (hp Φ hb M sh c) K := by
  unfold f_X9_endlessNow at H
  refine gw_start okX9_endlessNow (Nat.le_of_ble_eq_true rfl) ?_
  refine gw_aload_n dX9_endlessNow_0 rfl rfl ?_
  obtain ⟨v2, c1, e_c1, H⟩ := cl_i H
  refine gw_V0 okX9_laysNow dX9_endlessNow_1 kw_1484 kw_1486 kw_43 (hp_o (h0.1)) rfl ⟨by decide, by decide⟩ ⟨by decide, by decide⟩ (Nat.le_of_ble_eq_true rfl) (w_X9_laysNow (h0) e_c1 ?_)
  refine gw_aload_n dX9_endlessNow_4 rfl rfl ?_
  obtain ⟨v3, c4, e_c4, H⟩ := cl_i H
  refine gw_V0 okX9_endless dX9_endlessNow_5 kw_1563 kw_1565 kw_61 (hp_o (h0.1)) rfl ⟨by decide, by decide⟩ ⟨by decide, by decide⟩ (Nat.le_of_ble_eq_true rfl) (w_X9_endless (h0) e_c4 ?_)
  cases H
  exact gw_iret dX9_endlessNow_8 rfl (by decide) (by decide) hK
set_option maxRecDepth 100000 in
set_option maxHeartbeats 4000000 in
theorem w_X9_rayColumn {Φ : gwC} {hb : gwHp} {M : Nat} {sh : Nat → Option gSh} {th : Nat} {c : W0} {r : Int × W0} {K : Option Value → gwHp → Prop} (h0 : sM sh th) (H : f_X9_rayColumn th c = some r) (hK : K (some (vI r.1)) (hp Φ hb M sh r.2)) : gw_Con Φ mX9_rayColumn none [.ref (M + th)] (hp Φ hb M sh c) K := by
  unfold f_X9_rayColumn at H
  refine gw_start okX9_rayColumn (Nat.le_of_ble_eq_true rfl) ?_
  refine gw_aload_n dX9_rayColumn_0 rfl rfl ?_
  refine gw_aload_n dX9_rayColumn_1 rfl rfl ?_
  obtain ⟨v1, c2, e_c2, H⟩ := cl_i H
  refine gw_V0 okX9_endlessNow dX9_rayColumn_2 kw_1817 kw_1819 kw_83 (hp_o (h0.1)) rfl ⟨by decide, by decide⟩ ⟨by decide, by decide⟩ (Nat.le_of_ble_eq_true rfl) (w_X9_endlessNow (h0) e_c2 ?_)
  obtain ⟨g, H⟩ := gd_i H
  obtain ⟨k3, e_k3, H⟩ := jn_i H
  have hJ_k3 : ∀ (v4 : Int), k3 v4 = some r → G Φ mX9_rayColumn (gw_M Φ mX9_rayColumn K) none 0 0 13 [(0, .ref (M + th))] [vI v4, .ref (M + th)] (hp Φ hb M sh c2) := by
    intro v4 H
    subst e_k3
    obtain ⟨v5, c6, e_c6, H⟩ := cl_i H
    refine gw_V1 okX9_holds dX9_rayColumn_13 kw_1416 kw_1418 kw_33 (hp_o (h0.1)) rfl ⟨by decide, by decide⟩ ⟨by decide, by decide⟩ (Nat.le_of_ble_eq_true rfl) (w_X9_holds (h0) e_c6 ?_)
    obtain ⟨g, H⟩ := gd_i H
    refine gw_if_eqZ (tgt := 26) dX9_rayColumn_16 rfl (by decide) g (fun q => ?_) (fun q => ?_)
    · have H := bq_t q H
      refine gw_iconstZ dX9_rayColumn_26 rfl ?_
      cases H
      exact gw_iret dX9_rayColumn_27 rfl (by decide) (by decide) hK
    · have H := bq_f q H
      refine gw_aload_n dX9_rayColumn_19 rfl rfl ?_
      obtain ⟨v7, c8, e_c8, H⟩ := cl_i H
      refine gw_V0 okX9_endlessNow dX9_rayColumn_20 kw_1817 kw_1819 kw_83 (hp_o (h0.1)) rfl ⟨by decide, by decide⟩ ⟨by decide, by decide⟩ (Nat.le_of_ble_eq_true rfl) (w_X9_endlessNow (h0) e_c8 ?_)
      refine gw_goto (tgt := 27) dX9_rayColumn_23 (by decide) ?_
      cases H
      exact gw_iret dX9_rayColumn_27 rfl (by decide) (by decide) hK
  refine gw_if_geZ (tgt := 12) dX9_rayColumn_5 rfl (by decide) g (fun q => ?_) (fun q => ?_)
  · have H := bq_t q H
    refine gw_iconstZ dX9_rayColumn_12 rfl ?_
    exact gw_L (hJ_k3 _ H) ((lvA_c rfl lvA_n))
  · have H := bq_f q H
    refine gw_iconstZ dX9_rayColumn_8 rfl ?_
    refine gw_goto (tgt := 13) dX9_rayColumn_9 (by decide) ?_
    exact gw_L (hJ_k3 _ H) ((lvA_c rfl lvA_n))
set_option maxRecDepth 100000 in
set_option maxHeartbeats 4000000 in
theorem l_X9_along_22 {Φ : gwC} {hb : gwHp} {M : Nat} {sh : Nat → Option gSh} {th : Nat} {p1 : Int} {l2 : Int} {κ : W0 → Option (Int × W0)} {r : Int × W0} {K : Option Value → gwHp → Prop} (h0 : sM sh th) (hK : K none (hp Φ hb M sh r.2)) (hκ : ∀ (c : W0), κ c = some r → G Φ mX9_along (gw_M Φ mX9_along K) none 0 0 70 [] [] (hp Φ hb M sh c)) : ∀ (n : Nat) (l3 : Int) (c : W0), f_X9_along_22 th p1 l2 κ n l3 c = some r → G Φ mX9_along (gw_M Φ mX9_along K) none 0 0 22 [(0, .ref (M + th)), (1, vI p1), (2, vI l2), (3, vI l3)] [] (hp Φ hb M sh c) := by
  intro n
  induction n with
  | zero => intro l3 c H; cases H
  | succ n ih =>
    intro l3 c H
    have H : b_X9_along_22 th p1 l2 κ (f_X9_along_22 th p1 l2 κ n) l3 c = some r := H
    unfold b_X9_along_22 at H
    refine gw_iload_n dX9_along_22 rfl rfl ?_
    refine gw_aload_n dX9_along_23 rfl rfl ?_
    refine gs_getR cl9 1 dX9_along_24 rfl kw_1320 (by decide) (h0.1) rfl ?_
    refine gw_iconstZ dX9_along_27 rfl ?_
    refine gs_ialdZ dX9_along_28 rfl (h0.2.1) (by decide) (by decide) ?_
    obtain ⟨g, H⟩ := gd_i H
    refine gw_icmp_geZ (tgt := 70) dX9_along_29 rfl (by decide) g.1 g.2 (fun q => ?_) (fun q => ?_)
    · have H := bq_t q H
      exact gw_L (hκ _ H) (lvA_n)
    · have H := bq_f q H
      refine gw_aload_n dX9_along_32 rfl rfl ?_
      refine gs_getR cl9 11 dX9_along_33 rfl kw_1330 (by decide) (h0.1) rfl ?_
      refine gw_iload_n dX9_along_36 rfl rfl ?_
      obtain ⟨g, H⟩ := gd_i H
      refine gs_ialdZ dX9_along_37 rfl (h0.2.2.2.2.2.2.2.2.1) g (by decide) ?_
      refine gw_iload_n dX9_along_38 rfl rfl ?_
      obtain ⟨g, H⟩ := gd_i H
      refine gw_icmp_neZ (tgt := 64) dX9_along_39 rfl (by decide) g.1 g.2 (fun q => ?_) (fun q => ?_)
      · have H := bq_f q H
        refine gw_iincZ dX9_along_64 rfl rfl (by decide) ?_
        refine gw_goto (tgt := 22) dX9_along_67 (by decide) ?_
        exact gw_L (ih _ _ H) ((lvA_c rfl (lvA_c rfl (lvA_c rfl (lvA_c rfl lvA_n)))))
      · have H := bq_t q H
        refine gw_aload_n dX9_along_42 rfl rfl ?_
        refine gw_aload_n dX9_along_43 rfl rfl ?_
        refine gw_iload_n dX9_along_44 rfl rfl ?_
        refine gw_iload_n dX9_along_45 rfl rfl ?_
        obtain ⟨v1, e_v1, H⟩ := cv_i H
        refine gw_V2 okX9_entry dX9_along_46 kw_1531 kw_1533 kw_54 (hp_o (h0.1)) rfl ⟨by decide, by decide⟩ ⟨by decide, by decide⟩ (Nat.le_of_ble_eq_true rfl) (w_X9_entry (h0) e_v1 ?_)
        refine gw_lnegZ dX9_along_49 rfl ?_
        refine gw_aload_n dX9_along_50 rfl rfl ?_
        refine gs_getR cl9 10 dX9_along_51 rfl kw_1329 (by decide) (h0.1) rfl ?_
        refine gw_bipushZ dX9_along_54 rfl (by decide) ?_
        refine gw_iload_n dX9_along_56 rfl rfl ?_
        refine gw_imulZ dX9_along_57 rfl ?_
        refine gw_iload_n dX9_along_58 rfl rfl ?_
        refine gw_iaddZ dX9_along_59 rfl ?_
        obtain ⟨g, H⟩ := gd_i H
        refine gs_laldZ dX9_along_60 rfl (h0.2.2.2.2.2.2.2.1) g (by decide) ?_
        obtain ⟨v3, c2, e_c2, H⟩ := cl_i H
        refine gw_V2 okX9_becomes dX9_along_61 kw_1504 kw_1506 kw_48 (hp_o (h0.1)) rfl ⟨by decide, by decide⟩ ⟨by decide, by decide⟩ (Nat.le_of_ble_eq_true rfl) (w_X9_becomes (h0) e_c2 ?_)
        refine gw_iincZ dX9_along_64 rfl rfl (by decide) ?_
        refine gw_goto (tgt := 22) dX9_along_67 (by decide) ?_
        exact gw_L (ih _ _ H) ((lvA_c rfl (lvA_c rfl (lvA_c rfl (lvA_c rfl lvA_n)))))
set_option maxRecDepth 100000 in
set_option maxHeartbeats 4000000 in
theorem w_X9_along {Φ : gwC} {hb : gwHp} {M : Nat} {sh : Nat → Option gSh} {th : Nat} {p1 : Int} {c : W0} {r : Int × W0} {K : Option Value → gwHp → Prop} (h0 : sM sh th) (H : f_X9_along th p1 c = some r) (hK : K none (hp Φ hb M sh r.2)) : gw_Con Φ mX9_along none [.ref (M + th), vI p1] (hp Φ hb M sh c) K := by
  unfold f_X9_along at H
  refine gw_start okX9_along (Nat.le_of_ble_eq_true rfl) ?_
  refine gw_aload_n dX9_along_0 rfl rfl ?_
  obtain ⟨v1, c2, e_c2, H⟩ := cl_i H
  refine gw_V0 okX9_endlessNow dX9_along_1 kw_1817 kw_1819 kw_83 (hp_o (h0.1)) rfl ⟨by decide, by decide⟩ ⟨by decide, by decide⟩ (Nat.le_of_ble_eq_true rfl) (w_X9_endlessNow (h0) e_c2 ?_)
  refine gw_istore_n dX9_along_4 rfl (by decide) ?_
  refine gw_aload_n dX9_along_5 rfl rfl ?_
  refine gw_iload_n dX9_along_6 rfl rfl ?_
  refine gw_iload_n dX9_along_7 rfl rfl ?_
  obtain ⟨g, H⟩ := gd_i H
  obtain ⟨k3, e_k3, H⟩ := jn_i H
  have hJ_k3 : ∀ (v4 : Int), k3 v4 = some r → G Φ mX9_along (gw_M Φ mX9_along K) none 0 0 16 [(0, .ref (M + th)), (1, vI p1), (2, vI v1)] [vL v4, .ref (M + th)] (hp Φ hb M sh c2) := by
    intro v4 H
    subst e_k3
    refine gw_lconst1Z dX9_along_16 rfl ?_
    obtain ⟨v6, c5, e_c5, H⟩ := cl_i H
    refine gw_V2 okX9_becomes dX9_along_17 kw_1504 kw_1506 kw_48 (hp_o (h0.1)) rfl ⟨by decide, by decide⟩ ⟨by decide, by decide⟩ (Nat.le_of_ble_eq_true rfl) (w_X9_becomes (h0) e_c5 ?_)
    refine gw_iconstZ dX9_along_20 rfl ?_
    refine gw_istore_n dX9_along_21 rfl (by decide) ?_
    refine gw_L (l_X9_along_22 h0 hK (fun c7 H => ?_) LF _ _ H) ((lvA_c rfl (lvA_c rfl (lvA_c rfl (lvA_c rfl lvA_n)))))
    cases H
    exact gw_vret dX9_along_70 rfl (by decide) (by decide) hK
  refine gw_icmp_neZ (tgt := 15) dX9_along_8 rfl (by decide) g.1 g.2 (fun q => ?_) (fun q => ?_)
  · have H := bq_f q H
    refine gw_lconst0Z dX9_along_15 rfl ?_
    exact gw_L (hJ_k3 _ H) ((lvA_c rfl (lvA_c rfl (lvA_c rfl lvA_n))))
  · have H := bq_t q H
    refine gw_lconst1Z dX9_along_11 rfl ?_
    refine gw_goto (tgt := 16) dX9_along_12 (by decide) ?_
    exact gw_L (hJ_k3 _ H) ((lvA_c rfl (lvA_c rfl (lvA_c rfl lvA_n))))
set_option maxRecDepth 100000 in
set_option maxHeartbeats 4000000 in
theorem w_X9_errorOfRay {Φ : gwC} {hb : gwHp} {M : Nat} {sh : Nat → Option gSh} {th : Nat} {p1 : Int} {c : W0} {r : Int × W0} {K : Option Value → gwHp → Prop} (h0 : sM sh th) (H : f_X9_errorOfRay th p1 c = some r) (hK : K (some (vI r.1)) (hp Φ hb M sh r.2)) : gw_Con Φ mX9_errorOfRay none [.ref (M + th), vI p1] (hp Φ hb M sh c) K := by
  unfold f_X9_errorOfRay at H
  refine gw_start okX9_errorOfRay (Nat.le_of_ble_eq_true rfl) ?_
  refine gw_aload_n dX9_errorOfRay_0 rfl rfl ?_
  refine gw_iload_n dX9_errorOfRay_1 rfl rfl ?_
  obtain ⟨v1, e_v1, H⟩ := cv_i H
  refine gw_V1 okX9_isColumn dX9_errorOfRay_2 kw_1472 kw_1474 kw_40 (hp_o (h0.1)) rfl ⟨by decide, by decide⟩ ⟨by decide, by decide⟩ (Nat.le_of_ble_eq_true rfl) (w_X9_isColumn (h0) e_v1 ?_)
  obtain ⟨g, H⟩ := gd_i H
  refine gw_if_neZ (tgt := 12) dX9_errorOfRay_5 rfl (by decide) g (fun q => ?_) (fun q => ?_)
  · have H := bq_f q H
    refine gw_aload_n dX9_errorOfRay_12 rfl rfl ?_
    obtain ⟨v2, c3, e_c3, H⟩ := cl_i H
    refine gw_V0 okX9_endlessNow dX9_errorOfRay_13 kw_1817 kw_1819 kw_83 (hp_o (h0.1)) rfl ⟨by decide, by decide⟩ ⟨by decide, by decide⟩ (Nat.le_of_ble_eq_true rfl) (w_X9_endlessNow (h0) e_c3 ?_)
    obtain ⟨g, H⟩ := gd_i H
    refine gw_if_geZ (tgt := 23) dX9_errorOfRay_16 rfl (by decide) g (fun q => ?_) (fun q => ?_)
    · have H := bq_t q H
      refine gw_iconstZ dX9_errorOfRay_23 rfl ?_
      cases H
      exact gw_iret dX9_errorOfRay_24 rfl (by decide) (by decide) hK
    · have H := bq_f q H
      refine gw_iconstZ dX9_errorOfRay_19 rfl ?_
      refine gw_goto (tgt := 24) dX9_errorOfRay_20 (by decide) ?_
      cases H
      exact gw_iret dX9_errorOfRay_24 rfl (by decide) (by decide) hK
  · have H := bq_t q H
    refine gw_iconstZ dX9_errorOfRay_8 rfl ?_
    refine gw_goto (tgt := 24) dX9_errorOfRay_9 (by decide) ?_
    cases H
    exact gw_iret dX9_errorOfRay_24 rfl (by decide) (by decide) hK
set_option maxRecDepth 100000 in
set_option maxHeartbeats 4000000 in
theorem w_X9_rayNumerator {Φ : gwC} {hb : gwHp} {M : Nat} {sh : Nat → Option gSh} {th : Nat} {p1 : Int} {c : W0} {r : Int × W0} {K : Option Value → gwHp → Prop} (h0 : sM sh th) (H : f_X9_rayNumerator th p1 c = some r) (hK : K (some (vL r.1)) (hp Φ hb M sh r.2)) : gw_Con Φ mX9_rayNumerator none [.ref (M + th), vI p1] (hp Φ hb M sh c) K := by
  unfold f_X9_rayNumerator at H
  refine gw_start okX9_rayNumerator (Nat.le_of_ble_eq_true rfl) ?_
  refine gw_aload_n dX9_rayNumerator_0 rfl rfl ?_
  refine gw_aload_n dX9_rayNumerator_1 rfl rfl ?_
  refine gw_iload_n dX9_rayNumerator_2 rfl rfl ?_
  obtain ⟨v1, c2, e_c2, H⟩ := cl_i H
  refine gw_V1 okX9_errorOfRay dX9_rayNumerator_3 kw_1825 kw_1827 kw_84 (hp_o (h0.1)) rfl ⟨by decide, by decide⟩ ⟨by decide, by decide⟩ (Nat.le_of_ble_eq_true rfl) (w_X9_errorOfRay (h0) e_c2 ?_)
  obtain ⟨v3, c4, e_c4, H⟩ := cl_i H
  refine gw_V1 okX9_holds dX9_rayNumerator_6 kw_1416 kw_1418 kw_33 (hp_o (h0.1)) rfl ⟨by decide, by decide⟩ ⟨by decide, by decide⟩ (Nat.le_of_ble_eq_true rfl) (w_X9_holds (h0) e_c4 ?_)
  obtain ⟨g, H⟩ := gd_i H
  refine gw_if_neZ (tgt := 14) dX9_rayNumerator_9 rfl (by decide) g (fun q => ?_) (fun q => ?_)
  · have H := bq_f q H
    refine gw_aload_n dX9_rayNumerator_14 rfl rfl ?_
    refine gw_iload_n dX9_rayNumerator_15 rfl rfl ?_
    obtain ⟨v6, c5, e_c5, H⟩ := cl_i H
    refine gw_V1 okX9_along dX9_rayNumerator_16 kw_1829 kw_1831 kw_85 (hp_o (h0.1)) rfl ⟨by decide, by decide⟩ ⟨by decide, by decide⟩ (Nat.le_of_ble_eq_true rfl) (w_X9_along (h0) e_c5 ?_)
    refine gw_aload_n dX9_rayNumerator_19 rfl rfl ?_
    refine gs_getL cl9 16 16 dX9_rayNumerator_20 rfl kw_1335 (by decide) (h0.1) rfl rfl ?_
    cases H
    exact gw_lret dX9_rayNumerator_23 rfl (by decide) (by decide) hK
  · have H := bq_t q H
    refine gw_lconst0Z dX9_rayNumerator_12 rfl ?_
    cases H
    exact gw_lret dX9_rayNumerator_13 rfl (by decide) (by decide) hK
set_option maxRecDepth 100000 in
set_option maxHeartbeats 4000000 in
theorem w_X9_rayDenominator {Φ : gwC} {hb : gwHp} {M : Nat} {sh : Nat → Option gSh} {th : Nat} {p1 : Int} {c : W0} {r : Int × W0} {K : Option Value → gwHp → Prop} (h0 : sM sh th) (H : f_X9_rayDenominator th p1 c = some r) (hK : K (some (vL r.1)) (hp Φ hb M sh r.2)) : gw_Con Φ mX9_rayDenominator none [.ref (M + th), vI p1] (hp Φ hb M sh c) K := by
  unfold f_X9_rayDenominator at H
  refine gw_start okX9_rayDenominator (Nat.le_of_ble_eq_true rfl) ?_
  refine gw_aload_n dX9_rayDenominator_0 rfl rfl ?_
  refine gw_aload_n dX9_rayDenominator_1 rfl rfl ?_
  refine gw_iload_n dX9_rayDenominator_2 rfl rfl ?_
  obtain ⟨v1, c2, e_c2, H⟩ := cl_i H
  refine gw_V1 okX9_errorOfRay dX9_rayDenominator_3 kw_1825 kw_1827 kw_84 (hp_o (h0.1)) rfl ⟨by decide, by decide⟩ ⟨by decide, by decide⟩ (Nat.le_of_ble_eq_true rfl) (w_X9_errorOfRay (h0) e_c2 ?_)
  obtain ⟨v3, c4, e_c4, H⟩ := cl_i H
  refine gw_V1 okX9_holds dX9_rayDenominator_6 kw_1416 kw_1418 kw_33 (hp_o (h0.1)) rfl ⟨by decide, by decide⟩ ⟨by decide, by decide⟩ (Nat.le_of_ble_eq_true rfl) (w_X9_holds (h0) e_c4 ?_)
  obtain ⟨g, H⟩ := gd_i H
  refine gw_if_neZ (tgt := 14) dX9_rayDenominator_9 rfl (by decide) g (fun q => ?_) (fun q => ?_)
  · have H := bq_f q H
    refine gw_aload_n dX9_rayDenominator_14 rfl rfl ?_
    refine gw_iload_n dX9_rayDenominator_15 rfl rfl ?_
    obtain ⟨v6, c5, e_c5, H⟩ := cl_i H
    refine gw_V1 okX9_along dX9_rayDenominator_16 kw_1829 kw_1831 kw_85 (hp_o (h0.1)) rfl ⟨by decide, by decide⟩ ⟨by decide, by decide⟩ (Nat.le_of_ble_eq_true rfl) (w_X9_along (h0) e_c5 ?_)
    refine gw_aload_n dX9_rayDenominator_19 rfl rfl ?_
    refine gs_getL cl9 17 17 dX9_rayDenominator_20 rfl kw_1336 (by decide) (h0.1) rfl rfl ?_
    cases H
    exact gw_lret dX9_rayDenominator_23 rfl (by decide) (by decide) hK
  · have H := bq_t q H
    refine gw_lconst0Z dX9_rayDenominator_12 rfl ?_
    cases H
    exact gw_lret dX9_rayDenominator_13 rfl (by decide) (by decide) hK
set_option maxRecDepth 100000 in
set_option maxHeartbeats 4000000 in
theorem l_X9_namesSet_4 {Φ : gwC} {hb : gwHp} {M : Nat} {sh : Nat → Option gSh} {th : Nat} {p1 : Int} {κ : Int → W0 → Option (Int × W0)} {r : Int × W0} {K : Option Value → gwHp → Prop} (h0 : sM sh th) (hK : K (some (vI r.1)) (hp Φ hb M sh r.2)) (hκ : ∀ (x2 : Int) (c : W0), κ x2 c = some r → G Φ mX9_namesSet (gw_M Φ mX9_namesSet K) none 0 0 47 [(0, .ref (M + th)), (2, vI x2)] [] (hp Φ hb M sh c)) : ∀ (n : Nat) (l2 : Int) (l3 : Int) (c : W0), f_X9_namesSet_4 th p1 κ n l2 l3 c = some r → G Φ mX9_namesSet (gw_M Φ mX9_namesSet K) none 0 0 4 [(0, .ref (M + th)), (1, vI p1), (2, vI l2), (3, vI l3)] [] (hp Φ hb M sh c) := by
  intro n
  induction n with
  | zero => intro l2 l3 c H; cases H
  | succ n ih =>
    intro l2 l3 c H
    have H : b_X9_namesSet_4 th p1 κ (f_X9_namesSet_4 th p1 κ n) l2 l3 c = some r := H
    unfold b_X9_namesSet_4 at H
    refine gw_iload_n dX9_namesSet_4 rfl rfl ?_
    refine gw_aload_n dX9_namesSet_5 rfl rfl ?_
    obtain ⟨v1, e_v1, H⟩ := cv_i H
    refine gw_V0 okX9_columns dX9_namesSet_6 kw_1476 kw_1478 kw_41 (hp_o (h0.1)) rfl ⟨by decide, by decide⟩ ⟨by decide, by decide⟩ (Nat.le_of_ble_eq_true rfl) (w_X9_columns (h0) e_v1 ?_)
    obtain ⟨g, H⟩ := gd_i H
    refine gw_icmp_geZ (tgt := 47) dX9_namesSet_9 rfl (by decide) g.1 g.2 (fun q => ?_) (fun q => ?_)
    · have H := bq_t q H
      exact gw_L (hκ _ _ H) ((lvA_c rfl (lvA_c rfl lvA_n)))
    · have H := bq_f q H
      refine gw_iload_n dX9_namesSet_12 rfl rfl ?_
      refine gw_iload_n dX9_namesSet_13 rfl rfl ?_
      refine gw_ishrZ dX9_namesSet_14 rfl ?_
      refine gw_iconstZ dX9_namesSet_15 rfl ?_
      refine gw_iandZ dX9_namesSet_16 rfl ?_
      refine gw_iconstZ dX9_namesSet_17 rfl ?_
      obtain ⟨g, H⟩ := gd_i H
      refine gw_icmp_neZ (tgt := 41) dX9_namesSet_18 rfl (by decide) g (by decide) (fun q => ?_) (fun q => ?_)
      · have H := bq_f q H
        refine gw_iincZ dX9_namesSet_41 rfl rfl (by decide) ?_
        refine gw_goto (tgt := 4) dX9_namesSet_44 (by decide) ?_
        exact gw_L (ih _ _ _ H) ((lvA_c rfl (lvA_c rfl (lvA_c rfl (lvA_c rfl lvA_n)))))
      · have H := bq_t q H
        refine gw_iload_n dX9_namesSet_21 rfl rfl ?_
        refine gw_aload_n dX9_namesSet_22 rfl rfl ?_
        refine gs_getR cl9 1 dX9_namesSet_23 rfl kw_1320 (by decide) (h0.1) rfl ?_
        refine gw_iconstZ dX9_namesSet_26 rfl ?_
        refine gs_ialdZ dX9_namesSet_27 rfl (h0.2.1) (by decide) (by decide) ?_
        obtain ⟨g, H⟩ := gd_i H
        refine gw_icmp_geZ (tgt := 38) dX9_namesSet_28 rfl (by decide) g.1 g.2 (fun q => ?_) (fun q => ?_)
        · have H := bq_t q H
          refine gw_iincZ dX9_namesSet_38 rfl rfl (by decide) ?_
          refine gw_iincZ dX9_namesSet_41 rfl rfl (by decide) ?_
          refine gw_goto (tgt := 4) dX9_namesSet_44 (by decide) ?_
          exact gw_L (ih _ _ _ H) ((lvA_c rfl (lvA_c rfl (lvA_c rfl (lvA_c rfl lvA_n)))))
        · have H := bq_f q H
          refine gw_aload_n dX9_namesSet_31 rfl rfl ?_
          refine gs_getR cl9 11 dX9_namesSet_32 rfl kw_1330 (by decide) (h0.1) rfl ?_
          refine gw_iload_n dX9_namesSet_35 rfl rfl ?_
          refine gw_iload_n dX9_namesSet_36 rfl rfl ?_
          obtain ⟨g, H⟩ := gd_i H
          obtain ⟨c2, e_c2, H⟩ := sto_i H
          refine gs_iastZE dX9_namesSet_37 rfl (h0.2.2.2.2.2.2.2.2.1) g (by decide) e_c2 ?_
          refine gw_iincZ dX9_namesSet_38 rfl rfl (by decide) ?_
          refine gw_iincZ dX9_namesSet_41 rfl rfl (by decide) ?_
          refine gw_goto (tgt := 4) dX9_namesSet_44 (by decide) ?_
          exact gw_L (ih _ _ _ H) ((lvA_c rfl (lvA_c rfl (lvA_c rfl (lvA_c rfl lvA_n)))))
set_option maxRecDepth 100000 in
set_option maxHeartbeats 4000000 in
theorem w_X9_namesSet {Φ : gwC} {hb : gwHp} {M : Nat} {sh : Nat → Option gSh} {th : Nat} {p1 : Int} {c : W0} {r : Int × W0} {K : Option Value → gwHp → Prop} (h0 : sM sh th) (H : f_X9_namesSet th p1 c = some r) (hK : K (some (vI r.1)) (hp Φ hb M sh r.2)) : gw_Con Φ mX9_namesSet none [.ref (M + th), vI p1] (hp Φ hb M sh c) K := by
  unfold f_X9_namesSet at H
  refine gw_start okX9_namesSet (Nat.le_of_ble_eq_true rfl) ?_
  refine gw_iconstZ dX9_namesSet_0 rfl ?_
  refine gw_istore_n dX9_namesSet_1 rfl (by decide) ?_
  refine gw_iconstZ dX9_namesSet_2 rfl ?_
  refine gw_istore_n dX9_namesSet_3 rfl (by decide) ?_
  refine gw_L (l_X9_namesSet_4 h0 hK (fun v1 c2 H => ?_) LF _ _ _ H) ((lvA_c rfl (lvA_c rfl (lvA_c rfl (lvA_c rfl lvA_n)))))
  refine gw_iload_n dX9_namesSet_47 rfl rfl ?_
  refine gw_aload_n dX9_namesSet_48 rfl rfl ?_
  refine gs_getR cl9 1 dX9_namesSet_49 rfl kw_1320 (by decide) (h0.1) rfl ?_
  refine gw_iconstZ dX9_namesSet_52 rfl ?_
  refine gs_ialdZ dX9_namesSet_53 rfl (h0.2.1) (by decide) (by decide) ?_
  obtain ⟨g, H⟩ := gd_i H
  refine gw_icmp_neZ (tgt := 61) dX9_namesSet_54 rfl (by decide) g.1 g.2 (fun q => ?_) (fun q => ?_)
  · have H := bq_f q H
    refine gw_iconstZ dX9_namesSet_61 rfl ?_
    cases H
    exact gw_zret rfl dX9_namesSet_62 rfl (by decide) (by decide) hK
  · have H := bq_t q H
    refine gw_iconstZ dX9_namesSet_57 rfl ?_
    refine gw_goto (tgt := 62) dX9_namesSet_58 (by decide) ?_
    cases H
    exact gw_zret rfl dX9_namesSet_62 rfl (by decide) (by decide) hK
set_option maxRecDepth 100000 in
set_option maxHeartbeats 4000000 in
theorem l_X9_looksAtValue_4 {Φ : gwC} {hb : gwHp} {M : Nat} {sh : Nat → Option gSh} {th : Nat} {c : W0} {κ : Int → Option (Int × W0)} {r : Int × W0} {K : Option Value → gwHp → Prop} (h0 : sM sh th) (hK : K none (hp Φ hb M sh r.2)) (hκ : ∀ (x1 : Int), κ x1 = some r → G Φ mX9_looksAtValue (gw_M Φ mX9_looksAtValue K) none 0 0 62 [(0, .ref (M + th)), (1, vI x1)] [] (hp Φ hb M sh c)) : ∀ (n : Nat) (l1 : Int) (l2 : Int), f_X9_looksAtValue_4 th c κ n l1 l2 = some r → G Φ mX9_looksAtValue (gw_M Φ mX9_looksAtValue K) none 0 0 4 [(0, .ref (M + th)), (1, vI l1), (2, vI l2)] [] (hp Φ hb M sh c) := by
  intro n
  induction n with
  | zero => intro l1 l2 H; cases H
  | succ n ih =>
    intro l1 l2 H
    have H : b_X9_looksAtValue_4 th c κ (f_X9_looksAtValue_4 th c κ n) l1 l2 = some r := H
    unfold b_X9_looksAtValue_4 at H
    refine gw_iload_n dX9_looksAtValue_4 rfl rfl ?_
    refine gw_aload_n dX9_looksAtValue_5 rfl rfl ?_
    refine gs_getI cl9 24 24 dX9_looksAtValue_6 rfl kw_1343 (by decide) (h0.1) rfl rfl ?_
    obtain ⟨g, H⟩ := gd_i H
    refine gw_icmp_geZ (tgt := 62) dX9_looksAtValue_9 rfl (by decide) g.1 g.2 (fun q => ?_) (fun q => ?_)
    · have H := bq_t q H
      exact gw_L (hκ _ H) ((lvA_c rfl (lvA_c rfl lvA_n)))
    · have H := bq_f q H
      refine gw_iload_n dX9_looksAtValue_12 rfl rfl ?_
      obtain ⟨g, H⟩ := gd_i H
      refine gw_if_eqZ (tgt := 54) dX9_looksAtValue_13 rfl (by decide) g (fun q => ?_) (fun q => ?_)
      · have H := bq_t q H
        refine gw_iconstZ dX9_looksAtValue_54 rfl ?_
        refine gw_istore_n dX9_looksAtValue_55 rfl (by decide) ?_
        refine gw_iincZ dX9_looksAtValue_56 rfl rfl (by decide) ?_
        refine gw_goto (tgt := 4) dX9_looksAtValue_59 (by decide) ?_
        exact gw_L (ih _ _ H) ((lvA_c rfl (lvA_c rfl (lvA_c rfl lvA_n))))
      · have H := bq_f q H
        refine gw_aload_n dX9_looksAtValue_16 rfl rfl ?_
        refine gs_getR cl9 15 dX9_looksAtValue_17 rfl kw_1334 (by decide) (h0.1) rfl ?_
        refine gw_iconstZ dX9_looksAtValue_20 rfl ?_
        refine gw_iload_n dX9_looksAtValue_21 rfl rfl ?_
        refine gw_imulZ dX9_looksAtValue_22 rfl ?_
        obtain ⟨g, H⟩ := gd_i H
        refine gs_laldZ dX9_looksAtValue_23 rfl (h0.2.2.2.2.2.2.2.2.2.2.2.2.1) g (by decide) ?_
        refine gw_aload_n dX9_looksAtValue_24 rfl rfl ?_
        refine gs_getL cl9 16 16 dX9_looksAtValue_25 rfl kw_1335 (by decide) (h0.1) rfl rfl ?_
        obtain ⟨g, H⟩ := gd_i H
        obtain ⟨k1, e_k1, H⟩ := jn_i H
        have hJ_k1 : ∀ (u2 : Unit), k1 u2 = some r → G Φ mX9_looksAtValue (gw_M Φ mX9_looksAtValue K) none 0 0 50 [(0, .ref (M + th)), (2, vI l2)] [] (hp Φ hb M sh c) := by
          intro u2 H
          subst e_k1
          refine gw_iconstZ dX9_looksAtValue_50 rfl ?_
          refine gw_goto (tgt := 55) dX9_looksAtValue_51 (by decide) ?_
          refine gw_istore_n dX9_looksAtValue_55 rfl (by decide) ?_
          refine gw_iincZ dX9_looksAtValue_56 rfl rfl (by decide) ?_
          refine gw_goto (tgt := 4) dX9_looksAtValue_59 (by decide) ?_
          exact gw_L (ih _ _ H) ((lvA_c rfl (lvA_c rfl (lvA_c rfl lvA_n))))
        refine gw_lc_neZ (tgt := 50) dX9_looksAtValue_28 rfl dX9_looksAtValue_29 rfl (by decide) g.1 g.2 (fun q => ?_) (fun q => ?_)
        · have H := bq_f q H
          exact gw_L (hJ_k1 _ H) ((lvA_c rfl (lvA_c rfl lvA_n)))
        · have H := bq_t q H
          refine gw_aload_n dX9_looksAtValue_32 rfl rfl ?_
          refine gs_getR cl9 15 dX9_looksAtValue_33 rfl kw_1334 (by decide) (h0.1) rfl ?_
          refine gw_iconstZ dX9_looksAtValue_36 rfl ?_
          refine gw_iload_n dX9_looksAtValue_37 rfl rfl ?_
          refine gw_imulZ dX9_looksAtValue_38 rfl ?_
          refine gw_iconstZ dX9_looksAtValue_39 rfl ?_
          refine gw_iaddZ dX9_looksAtValue_40 rfl ?_
          obtain ⟨g, H⟩ := gd_i H
          refine gs_laldZ dX9_looksAtValue_41 rfl (h0.2.2.2.2.2.2.2.2.2.2.2.2.1) g (by decide) ?_
          refine gw_aload_n dX9_looksAtValue_42 rfl rfl ?_
          refine gs_getL cl9 17 17 dX9_looksAtValue_43 rfl kw_1336 (by decide) (h0.1) rfl rfl ?_
          obtain ⟨g, H⟩ := gd_i H
          refine gw_lc_eqZ (tgt := 54) dX9_looksAtValue_46 rfl dX9_looksAtValue_47 rfl (by decide) g.1 g.2 (fun q => ?_) (fun q => ?_)
          · have H := bq_t q H
            refine gw_iconstZ dX9_looksAtValue_54 rfl ?_
            refine gw_istore_n dX9_looksAtValue_55 rfl (by decide) ?_
            refine gw_iincZ dX9_looksAtValue_56 rfl rfl (by decide) ?_
            refine gw_goto (tgt := 4) dX9_looksAtValue_59 (by decide) ?_
            exact gw_L (ih _ _ H) ((lvA_c rfl (lvA_c rfl (lvA_c rfl lvA_n))))
          · have H := bq_f q H
            exact gw_L (hJ_k1 _ H) ((lvA_c rfl (lvA_c rfl lvA_n)))
set_option maxRecDepth 100000 in
set_option maxHeartbeats 4000000 in
theorem w_X9_looksAtValue {Φ : gwC} {hb : gwHp} {M : Nat} {sh : Nat → Option gSh} {th : Nat} {c : W0} {r : Int × W0} {K : Option Value → gwHp → Prop} (h0 : sM sh th) (H : f_X9_looksAtValue th c = some r) (hK : K none (hp Φ hb M sh r.2)) : gw_Con Φ mX9_looksAtValue none [.ref (M + th)] (hp Φ hb M sh c) K := by
  unfold f_X9_looksAtValue at H
  refine gw_start okX9_looksAtValue (Nat.le_of_ble_eq_true rfl) ?_
  refine gw_iconstZ dX9_looksAtValue_0 rfl ?_
  refine gw_istore_n dX9_looksAtValue_1 rfl (by decide) ?_
  refine gw_iconstZ dX9_looksAtValue_2 rfl ?_
  refine gw_istore_n dX9_looksAtValue_3 rfl (by decide) ?_
  refine gw_L (l_X9_looksAtValue_4 h0 hK (fun v1 H => ?_) LF _ _ H) ((lvA_c rfl (lvA_c rfl (lvA_c rfl lvA_n))))
  refine gw_iload_n dX9_looksAtValue_62 rfl rfl ?_
  obtain ⟨g, H⟩ := gd_i H
  obtain ⟨k2, e_k2, H⟩ := jn_i H
  have hJ_k2 : ∀ (c3 : W0), k2 c3 = some r → G Φ mX9_looksAtValue (gw_M Φ mX9_looksAtValue K) none 0 0 108 [(0, .ref (M + th))] [] (hp Φ hb M sh c3) := by
    intro c3 H
    subst e_k2
    refine gw_aload_n dX9_looksAtValue_108 rfl rfl ?_
    refine gs_getI cl9 23 23 dX9_looksAtValue_109 rfl kw_1342 (by decide) (h0.1) rfl rfl ?_
    refine gw_iconstZ dX9_looksAtValue_112 rfl ?_
    obtain ⟨g, H⟩ := gd_i H
    obtain ⟨k4, e_k4, H⟩ := jn_i H
    have hJ_k4 : ∀ (u5 : Unit), k4 u5 = some r → G Φ mX9_looksAtValue (gw_M Φ mX9_looksAtValue K) none 0 0 138 [(0, .ref (M + th))] [] (hp Φ hb M sh c3) := by
      intro u5 H
      subst e_k4
      refine gw_iconstZ dX9_looksAtValue_138 rfl ?_
      refine gw_goto (tgt := 143) dX9_looksAtValue_139 (by decide) ?_
      refine gw_istore_n dX9_looksAtValue_143 rfl (by decide) ?_
      refine gw_aload_n dX9_looksAtValue_144 rfl rfl ?_
      refine gw_iload_n dX9_looksAtValue_145 rfl rfl ?_
      obtain ⟨k6, e_k6, H⟩ := jn_i H
      have hJ_k6 : ∀ (v7 : Int), k6 v7 = some r → G Φ mX9_looksAtValue (gw_M Φ mX9_looksAtValue K) none 0 0 160 [(0, .ref (M + th)), (2, vI 1)] [vL v7, .ref (M + th)] (hp Φ hb M sh c3) := by
        intro v7 H
        subst e_k6
        obtain ⟨c8, e_c8, H⟩ := sto_i H
        refine gs_putLE cl9 25 25 dX9_looksAtValue_160 rfl kw_1344 (by decide) rfl rfl (h0.1) rfl rfl e_c8 ?_
        refine gw_aload_n dX9_looksAtValue_163 rfl rfl ?_
        refine gw_iload_n dX9_looksAtValue_164 rfl rfl ?_
        refine gw_if_eqZ (tgt := 175) dX9_looksAtValue_165 rfl (by decide) (by decide) (fun q => ?_) (fun q => ?_)
        · have H := bq_t (by omega) H
          refine gw_aload_n dX9_looksAtValue_175 rfl rfl ?_
          refine gs_getL cl9 26 26 dX9_looksAtValue_176 rfl kw_1345 (by decide) (h0.1) rfl rfl ?_
          obtain ⟨c9, e_c9, H⟩ := sto_i H
          refine gs_putLE cl9 26 26 dX9_looksAtValue_179 rfl kw_1345 (by decide) rfl rfl (h0.1) rfl rfl e_c9 ?_
          cases H
          exact gw_vret dX9_looksAtValue_182 rfl (by decide) (by decide) hK
        · have H := bq_f (by omega) H
          refine gw_aload_n dX9_looksAtValue_168 rfl rfl ?_
          refine gs_getL cl9 17 17 dX9_looksAtValue_169 rfl kw_1336 (by decide) (h0.1) rfl rfl ?_
          refine gw_goto (tgt := 179) dX9_looksAtValue_172 (by decide) ?_
          obtain ⟨c10, e_c10, H⟩ := sto_i H
          refine gs_putLE cl9 26 26 dX9_looksAtValue_179 rfl kw_1345 (by decide) rfl rfl (h0.1) rfl rfl e_c10 ?_
          cases H
          exact gw_vret dX9_looksAtValue_182 rfl (by decide) (by decide) hK
      refine gw_if_eqZ (tgt := 156) dX9_looksAtValue_146 rfl (by decide) (by decide) (fun q => ?_) (fun q => ?_)
      · have H := bq_t (by omega) H
        refine gw_aload_n dX9_looksAtValue_156 rfl rfl ?_
        refine gs_getL cl9 25 25 dX9_looksAtValue_157 rfl kw_1344 (by decide) (h0.1) rfl rfl ?_
        exact gw_L (hJ_k6 _ H) ((lvA_c rfl (lvA_c rfl lvA_n)))
      · have H := bq_f (by omega) H
        refine gw_aload_n dX9_looksAtValue_149 rfl rfl ?_
        refine gs_getL cl9 16 16 dX9_looksAtValue_150 rfl kw_1335 (by decide) (h0.1) rfl rfl ?_
        refine gw_goto (tgt := 160) dX9_looksAtValue_153 (by decide) ?_
        exact gw_L (hJ_k6 _ H) ((lvA_c rfl (lvA_c rfl lvA_n)))
    refine gw_icmp_eqZ (tgt := 138) dX9_looksAtValue_113 rfl (by decide) g (by decide) (fun q => ?_) (fun q => ?_)
    · have H := bq_t q H
      exact gw_L (hJ_k4 _ H) ((lvA_c rfl lvA_n))
    · have H := bq_f q H
      refine gw_aload_n dX9_looksAtValue_116 rfl rfl ?_
      refine gs_getL cl9 16 16 dX9_looksAtValue_117 rfl kw_1335 (by decide) (h0.1) rfl rfl ?_
      refine gw_aload_n dX9_looksAtValue_120 rfl rfl ?_
      refine gs_getL cl9 26 26 dX9_looksAtValue_121 rfl kw_1345 (by decide) (h0.1) rfl rfl ?_
      refine gw_lmulZ dX9_looksAtValue_124 rfl ?_
      refine gw_aload_n dX9_looksAtValue_125 rfl rfl ?_
      refine gs_getL cl9 25 25 dX9_looksAtValue_126 rfl kw_1344 (by decide) (h0.1) rfl rfl ?_
      refine gw_aload_n dX9_looksAtValue_129 rfl rfl ?_
      refine gs_getL cl9 17 17 dX9_looksAtValue_130 rfl kw_1336 (by decide) (h0.1) rfl rfl ?_
      refine gw_lmulZ dX9_looksAtValue_133 rfl ?_
      obtain ⟨g, H⟩ := gd_i H
      refine gw_lc_leZ (tgt := 142) dX9_looksAtValue_134 rfl dX9_looksAtValue_135 rfl (by decide) g.1 g.2 (fun q => ?_) (fun q => ?_)
      · have H := bq_t q H
        refine gw_iconstZ dX9_looksAtValue_142 rfl ?_
        refine gw_istore_n dX9_looksAtValue_143 rfl (by decide) ?_
        refine gw_aload_n dX9_looksAtValue_144 rfl rfl ?_
        refine gw_iload_n dX9_looksAtValue_145 rfl rfl ?_
        obtain ⟨k11, e_k11, H⟩ := jn_i H
        have hJ_k11 : ∀ (v12 : Int), k11 v12 = some r → G Φ mX9_looksAtValue (gw_M Φ mX9_looksAtValue K) none 0 0 160 [(0, .ref (M + th)), (2, vI 0)] [vL v12, .ref (M + th)] (hp Φ hb M sh c3) := by
          intro v12 H
          subst e_k11
          obtain ⟨c13, e_c13, H⟩ := sto_i H
          refine gs_putLE cl9 25 25 dX9_looksAtValue_160 rfl kw_1344 (by decide) rfl rfl (h0.1) rfl rfl e_c13 ?_
          refine gw_aload_n dX9_looksAtValue_163 rfl rfl ?_
          refine gw_iload_n dX9_looksAtValue_164 rfl rfl ?_
          refine gw_if_eqZ (tgt := 175) dX9_looksAtValue_165 rfl (by decide) (by decide) (fun q => ?_) (fun q => ?_)
          · have H := bq_t (by omega) H
            refine gw_aload_n dX9_looksAtValue_175 rfl rfl ?_
            refine gs_getL cl9 26 26 dX9_looksAtValue_176 rfl kw_1345 (by decide) (h0.1) rfl rfl ?_
            obtain ⟨c14, e_c14, H⟩ := sto_i H
            refine gs_putLE cl9 26 26 dX9_looksAtValue_179 rfl kw_1345 (by decide) rfl rfl (h0.1) rfl rfl e_c14 ?_
            cases H
            exact gw_vret dX9_looksAtValue_182 rfl (by decide) (by decide) hK
          · have H := bq_f (by omega) H
            refine gw_aload_n dX9_looksAtValue_168 rfl rfl ?_
            refine gs_getL cl9 17 17 dX9_looksAtValue_169 rfl kw_1336 (by decide) (h0.1) rfl rfl ?_
            refine gw_goto (tgt := 179) dX9_looksAtValue_172 (by decide) ?_
            obtain ⟨c15, e_c15, H⟩ := sto_i H
            refine gs_putLE cl9 26 26 dX9_looksAtValue_179 rfl kw_1345 (by decide) rfl rfl (h0.1) rfl rfl e_c15 ?_
            cases H
            exact gw_vret dX9_looksAtValue_182 rfl (by decide) (by decide) hK
        refine gw_if_eqZ (tgt := 156) dX9_looksAtValue_146 rfl (by decide) (by decide) (fun q => ?_) (fun q => ?_)
        · have H := bq_t (by omega) H
          refine gw_aload_n dX9_looksAtValue_156 rfl rfl ?_
          refine gs_getL cl9 25 25 dX9_looksAtValue_157 rfl kw_1344 (by decide) (h0.1) rfl rfl ?_
          exact gw_L (hJ_k11 _ H) ((lvA_c rfl (lvA_c rfl lvA_n)))
        · have H := bq_f (by omega) H
          refine gw_aload_n dX9_looksAtValue_149 rfl rfl ?_
          refine gs_getL cl9 16 16 dX9_looksAtValue_150 rfl kw_1335 (by decide) (h0.1) rfl rfl ?_
          refine gw_goto (tgt := 160) dX9_looksAtValue_153 (by decide) ?_
          exact gw_L (hJ_k11 _ H) ((lvA_c rfl (lvA_c rfl lvA_n)))
      · have H := bq_f q H
        exact gw_L (hJ_k4 _ H) ((lvA_c rfl lvA_n))
  refine gw_if_eqZ (tgt := 108) dX9_looksAtValue_63 rfl (by decide) g (fun q => ?_) (fun q => ?_)
  · have H := bq_t q H
    exact gw_L (hJ_k2 _ H) ((lvA_c rfl lvA_n))
  · have H := bq_f q H
    refine gw_aload_n dX9_looksAtValue_66 rfl rfl ?_
    refine gs_getR cl9 15 dX9_looksAtValue_67 rfl kw_1334 (by decide) (h0.1) rfl ?_
    refine gw_iconstZ dX9_looksAtValue_70 rfl ?_
    refine gw_aload_n dX9_looksAtValue_71 rfl rfl ?_
    refine gs_getI cl9 24 24 dX9_looksAtValue_72 rfl kw_1343 (by decide) (h0.1) rfl rfl ?_
    refine gw_imulZ dX9_looksAtValue_75 rfl ?_
    refine gw_aload_n dX9_looksAtValue_76 rfl rfl ?_
    refine gs_getL cl9 16 16 dX9_looksAtValue_77 rfl kw_1335 (by decide) (h0.1) rfl rfl ?_
    obtain ⟨g, H⟩ := gd_i H
    obtain ⟨c16, e_c16, H⟩ := sto_i H
    refine gs_lastZE dX9_looksAtValue_80 rfl (h0.2.2.2.2.2.2.2.2.2.2.2.2.1) g (by decide) e_c16 ?_
    refine gw_aload_n dX9_looksAtValue_81 rfl rfl ?_
    refine gs_getR cl9 15 dX9_looksAtValue_82 rfl kw_1334 (by decide) (h0.1) rfl ?_
    refine gw_iconstZ dX9_looksAtValue_85 rfl ?_
    refine gw_aload_n dX9_looksAtValue_86 rfl rfl ?_
    refine gs_getI cl9 24 24 dX9_looksAtValue_87 rfl kw_1343 (by decide) (h0.1) rfl rfl ?_
    refine gw_imulZ dX9_looksAtValue_90 rfl ?_
    refine gw_iconstZ dX9_looksAtValue_91 rfl ?_
    refine gw_iaddZ dX9_looksAtValue_92 rfl ?_
    refine gw_aload_n dX9_looksAtValue_93 rfl rfl ?_
    refine gs_getL cl9 17 17 dX9_looksAtValue_94 rfl kw_1336 (by decide) (h0.1) rfl rfl ?_
    obtain ⟨g, H⟩ := gd_i H
    obtain ⟨c17, e_c17, H⟩ := sto_i H
    refine gs_lastZE dX9_looksAtValue_97 rfl (h0.2.2.2.2.2.2.2.2.2.2.2.2.1) g (by decide) e_c17 ?_
    refine gw_aload_n dX9_looksAtValue_98 rfl rfl ?_
    refine gw_dup dX9_looksAtValue_99 rfl rfl ?_
    refine gs_getI cl9 24 24 dX9_looksAtValue_100 rfl kw_1343 (by decide) (h0.1) rfl rfl ?_
    refine gw_iconstZ dX9_looksAtValue_103 rfl ?_
    refine gw_iaddZ dX9_looksAtValue_104 rfl ?_
    obtain ⟨c18, e_c18, H⟩ := sto_i H
    refine gs_putIE cl9 24 24 dX9_looksAtValue_105 rfl kw_1343 (by decide) rfl rfl (h0.1) rfl rfl e_c18 ?_
    exact gw_L (hJ_k2 _ H) ((lvA_c rfl lvA_n))
set_option maxRecDepth 100000 in
set_option maxHeartbeats 4000000 in
theorem l_X9_looksAtBases_12 {Φ : gwC} {hb : gwHp} {M : Nat} {sh : Nat → Option gSh} {th : Nat} {κ : W0 → Option (Int × W0)} {r : Int × W0} {K : Option Value → gwHp → Prop} (h0 : sM sh th) (hK : K none (hp Φ hb M sh r.2)) (hκ : ∀ (c : W0), κ c = some r → G Φ mX9_looksAtBases (gw_M Φ mX9_looksAtBases K) none 0 0 68 [] [] (hp Φ hb M sh c)) : ∀ (n : Nat) (l1 : Int) (c : W0), f_X9_looksAtBases_12 th κ n l1 c = some r → G Φ mX9_looksAtBases (gw_M Φ mX9_looksAtBases K) none 0 0 12 [(0, .ref (M + th)), (1, vI l1)] [] (hp Φ hb M sh c) := by
  intro n
  induction n with
  | zero => intro l1 c H; cases H
  | succ n ih =>
    intro l1 c H
    have H : b_X9_looksAtBases_12 th κ (f_X9_looksAtBases_12 th κ n) l1 c = some r := H
    unfold b_X9_looksAtBases_12 at H
    refine gw_iload_n dX9_looksAtBases_12 rfl rfl ?_
    refine gw_iconstZ dX9_looksAtBases_13 rfl ?_
    refine gw_aload_n dX9_looksAtBases_14 rfl rfl ?_
    obtain ⟨v1, e_v1, H⟩ := cv_i H
    refine gw_V0 okX9_columns dX9_looksAtBases_15 kw_1476 kw_1478 kw_41 (hp_o (h0.1)) rfl ⟨by decide, by decide⟩ ⟨by decide, by decide⟩ (Nat.le_of_ble_eq_true rfl) (w_X9_columns (h0) e_v1 ?_)
    refine gw_ishlZ dX9_looksAtBases_18 rfl ?_
    obtain ⟨g, H⟩ := gd_i H
    refine gw_icmp_geZ (tgt := 68) dX9_looksAtBases_19 rfl (by decide) g.1 g.2 (fun q => ?_) (fun q => ?_)
    · have H := bq_t q H
      exact gw_L (hκ _ H) (lvA_n)
    · have H := bq_f q H
      refine gw_aload_n dX9_looksAtBases_22 rfl rfl ?_
      refine gw_iload_n dX9_looksAtBases_23 rfl rfl ?_
      obtain ⟨v2, c3, e_c3, H⟩ := cl_i H
      refine gw_V1 okX9_namesSet dX9_looksAtBases_24 kw_1845 kw_1847 kw_87 (hp_o (h0.1)) rfl ⟨by decide, by decide⟩ ⟨by decide, by decide⟩ (Nat.le_of_ble_eq_true rfl) (w_X9_namesSet (h0) e_c3 ?_)
      obtain ⟨g, H⟩ := gd_i H
      refine gw_if_eqZ (tgt := 62) dX9_looksAtBases_27 rfl (by decide) g (fun q => ?_) (fun q => ?_)
      · have H := bq_t q H
        refine gw_iincZ dX9_looksAtBases_62 rfl rfl (by decide) ?_
        refine gw_goto (tgt := 12) dX9_looksAtBases_65 (by decide) ?_
        exact gw_L (ih _ _ H) ((lvA_c rfl (lvA_c rfl lvA_n)))
      · have H := bq_f q H
        refine gw_aload_n dX9_looksAtBases_30 rfl rfl ?_
        obtain ⟨v4, c5, e_c5, H⟩ := cl_i H
        refine gw_V0 okX9_lays dX9_looksAtBases_31 kw_1488 kw_1490 kw_44 (hp_o (h0.1)) rfl ⟨by decide, by decide⟩ ⟨by decide, by decide⟩ (Nat.le_of_ble_eq_true rfl) (w_X9_lays (h0) e_c5 ?_)
        obtain ⟨g, H⟩ := gd_i H
        refine gw_if_eqZ (tgt := 62) dX9_looksAtBases_34 rfl (by decide) g (fun q => ?_) (fun q => ?_)
        · have H := bq_t q H
          refine gw_iincZ dX9_looksAtBases_62 rfl rfl (by decide) ?_
          refine gw_goto (tgt := 12) dX9_looksAtBases_65 (by decide) ?_
          exact gw_L (ih _ _ H) ((lvA_c rfl (lvA_c rfl lvA_n)))
        · have H := bq_f q H
          refine gw_aload_n dX9_looksAtBases_37 rfl rfl ?_
          obtain ⟨v6, e_v6, H⟩ := cv_i H
          refine gw_V0 okX9_isFeasible dX9_looksAtBases_38 kw_1849 kw_1851 kw_88 (hp_o (h0.1)) rfl ⟨by decide, by decide⟩ ⟨by decide, by decide⟩ (Nat.le_of_ble_eq_true rfl) (w_X9_isFeasible (h0) e_v6 ?_)
          obtain ⟨g, H⟩ := gd_i H
          refine gw_if_eqZ (tgt := 62) dX9_looksAtBases_41 rfl (by decide) g (fun q => ?_) (fun q => ?_)
          · have H := bq_t q H
            refine gw_iincZ dX9_looksAtBases_62 rfl rfl (by decide) ?_
            refine gw_goto (tgt := 12) dX9_looksAtBases_65 (by decide) ?_
            exact gw_L (ih _ _ H) ((lvA_c rfl (lvA_c rfl lvA_n)))
          · have H := bq_f q H
            refine gw_aload_n dX9_looksAtBases_44 rfl rfl ?_
            refine gw_dup dX9_looksAtBases_45 rfl rfl ?_
            refine gs_getI cl9 23 23 dX9_looksAtBases_46 rfl kw_1342 (by decide) (h0.1) rfl rfl ?_
            refine gw_iconstZ dX9_looksAtBases_49 rfl ?_
            refine gw_iaddZ dX9_looksAtBases_50 rfl ?_
            obtain ⟨c7, e_c7, H⟩ := sto_i H
            refine gs_putIE cl9 23 23 dX9_looksAtBases_51 rfl kw_1342 (by decide) rfl rfl (h0.1) rfl rfl e_c7 ?_
            refine gw_aload_n dX9_looksAtBases_54 rfl rfl ?_
            obtain ⟨v9, c8, e_c8, H⟩ := cl_i H
            refine gw_V0 okX9_values dX9_looksAtBases_55 kw_1755 kw_1757 kw_79 (hp_o (h0.1)) rfl ⟨by decide, by decide⟩ ⟨by decide, by decide⟩ (Nat.le_of_ble_eq_true rfl) (w_X9_values (h0) e_c8 ?_)
            refine gw_aload_n dX9_looksAtBases_58 rfl rfl ?_
            obtain ⟨v11, c10, e_c10, H⟩ := cl_i H
            refine gw_V0 okX9_looksAtValue dX9_looksAtBases_59 kw_1853 kw_1855 kw_89 (hp_o (h0.1)) rfl ⟨by decide, by decide⟩ ⟨by decide, by decide⟩ (Nat.le_of_ble_eq_true rfl) (w_X9_looksAtValue (h0) e_c10 ?_)
            refine gw_iincZ dX9_looksAtBases_62 rfl rfl (by decide) ?_
            refine gw_goto (tgt := 12) dX9_looksAtBases_65 (by decide) ?_
            exact gw_L (ih _ _ H) ((lvA_c rfl (lvA_c rfl lvA_n)))
set_option maxRecDepth 100000 in
set_option maxHeartbeats 4000000 in
theorem w_X9_looksAtBases {Φ : gwC} {hb : gwHp} {M : Nat} {sh : Nat → Option gSh} {th : Nat} {c : W0} {r : Int × W0} {K : Option Value → gwHp → Prop} (h0 : sM sh th) (H : f_X9_looksAtBases th c = some r) (hK : K none (hp Φ hb M sh r.2)) : gw_Con Φ mX9_looksAtBases none [.ref (M + th)] (hp Φ hb M sh c) K := by
  unfold f_X9_looksAtBases at H
  refine gw_start okX9_looksAtBases (Nat.le_of_ble_eq_true rfl) ?_
  refine gw_aload_n dX9_looksAtBases_0 rfl rfl ?_
  refine gw_iconstZ dX9_looksAtBases_1 rfl ?_
  obtain ⟨c1, e_c1, H⟩ := sto_i H
  refine gs_putIE cl9 23 23 dX9_looksAtBases_2 rfl kw_1342 (by decide) rfl rfl (h0.1) rfl rfl e_c1 ?_
  refine gw_aload_n dX9_looksAtBases_5 rfl rfl ?_
  refine gw_iconstZ dX9_looksAtBases_6 rfl ?_
  obtain ⟨c2, e_c2, H⟩ := sto_i H
  refine gs_putIE cl9 24 24 dX9_looksAtBases_7 rfl kw_1343 (by decide) rfl rfl (h0.1) rfl rfl e_c2 ?_
  refine gw_iconstZ dX9_looksAtBases_10 rfl ?_
  refine gw_istore_n dX9_looksAtBases_11 rfl (by decide) ?_
  refine gw_L (l_X9_looksAtBases_12 h0 hK (fun c3 H => ?_) LF _ _ H) ((lvA_c rfl (lvA_c rfl lvA_n)))
  cases H
  exact gw_vret dX9_looksAtBases_68 rfl (by decide) (by decide) hK
set_option maxRecDepth 100000 in
set_option maxHeartbeats 4000000 in
theorem w_X9_feasibleBases {Φ : gwC} {hb : gwHp} {M : Nat} {sh : Nat → Option gSh} {th : Nat} {c : W0} {r : Int × W0} {K : Option Value → gwHp → Prop} (h0 : sM sh th) (H : f_X9_feasibleBases th c = some r) (hK : K (some (vI r.1)) (hp Φ hb M sh r.2)) : gw_Con Φ mX9_feasibleBases none [.ref (M + th)] (hp Φ hb M sh c) K := by
  unfold f_X9_feasibleBases at H
  refine gw_start okX9_feasibleBases (Nat.le_of_ble_eq_true rfl) ?_
  refine gw_aload_n dX9_feasibleBases_0 rfl rfl ?_
  refine gw_iconstZ dX9_feasibleBases_1 rfl ?_
  obtain ⟨c1, e_c1, H⟩ := sto_i H
  refine gs_putIE cl9 0 0 dX9_feasibleBases_2 rfl kw_1319 (by decide) rfl rfl (h0.1) rfl rfl e_c1 ?_
  refine gw_aload_n dX9_feasibleBases_5 rfl rfl ?_
  obtain ⟨v3, c2, e_c2, H⟩ := cl_i H
  refine gw_V0 okX9_looksAtBases dX9_feasibleBases_6 kw_1841 kw_1843 kw_86 (hp_o (h0.1)) rfl ⟨by decide, by decide⟩ ⟨by decide, by decide⟩ (Nat.le_of_ble_eq_true rfl) (w_X9_looksAtBases (h0) e_c2 ?_)
  refine gw_aload_n dX9_feasibleBases_9 rfl rfl ?_
  refine gs_getI cl9 23 23 dX9_feasibleBases_10 rfl kw_1342 (by decide) (h0.1) rfl rfl ?_
  cases H
  exact gw_iret dX9_feasibleBases_13 rfl (by decide) (by decide) hK
set_option maxRecDepth 100000 in
set_option maxHeartbeats 4000000 in
theorem w_X9_unlikeValues {Φ : gwC} {hb : gwHp} {M : Nat} {sh : Nat → Option gSh} {th : Nat} {c : W0} {r : Int × W0} {K : Option Value → gwHp → Prop} (h0 : sM sh th) (H : f_X9_unlikeValues th c = some r) (hK : K (some (vI r.1)) (hp Φ hb M sh r.2)) : gw_Con Φ mX9_unlikeValues none [.ref (M + th)] (hp Φ hb M sh c) K := by
  unfold f_X9_unlikeValues at H
  refine gw_start okX9_unlikeValues (Nat.le_of_ble_eq_true rfl) ?_
  refine gw_aload_n dX9_unlikeValues_0 rfl rfl ?_
  refine gw_iconstZ dX9_unlikeValues_1 rfl ?_
  obtain ⟨c1, e_c1, H⟩ := sto_i H
  refine gs_putIE cl9 0 0 dX9_unlikeValues_2 rfl kw_1319 (by decide) rfl rfl (h0.1) rfl rfl e_c1 ?_
  refine gw_aload_n dX9_unlikeValues_5 rfl rfl ?_
  obtain ⟨v3, c2, e_c2, H⟩ := cl_i H
  refine gw_V0 okX9_looksAtBases dX9_unlikeValues_6 kw_1841 kw_1843 kw_86 (hp_o (h0.1)) rfl ⟨by decide, by decide⟩ ⟨by decide, by decide⟩ (Nat.le_of_ble_eq_true rfl) (w_X9_looksAtBases (h0) e_c2 ?_)
  refine gw_aload_n dX9_unlikeValues_9 rfl rfl ?_
  refine gs_getI cl9 24 24 dX9_unlikeValues_10 rfl kw_1343 (by decide) (h0.1) rfl rfl ?_
  cases H
  exact gw_iret dX9_unlikeValues_13 rfl (by decide) (by decide) hK
set_option maxRecDepth 100000 in
set_option maxHeartbeats 4000000 in
theorem w_X9_bestNumerator {Φ : gwC} {hb : gwHp} {M : Nat} {sh : Nat → Option gSh} {th : Nat} {c : W0} {r : Int × W0} {K : Option Value → gwHp → Prop} (h0 : sM sh th) (H : f_X9_bestNumerator th c = some r) (hK : K (some (vL r.1)) (hp Φ hb M sh r.2)) : gw_Con Φ mX9_bestNumerator none [.ref (M + th)] (hp Φ hb M sh c) K := by
  unfold f_X9_bestNumerator at H
  refine gw_start okX9_bestNumerator (Nat.le_of_ble_eq_true rfl) ?_
  refine gw_aload_n dX9_bestNumerator_0 rfl rfl ?_
  refine gw_iconstZ dX9_bestNumerator_1 rfl ?_
  obtain ⟨c1, e_c1, H⟩ := sto_i H
  refine gs_putIE cl9 0 0 dX9_bestNumerator_2 rfl kw_1319 (by decide) rfl rfl (h0.1) rfl rfl e_c1 ?_
  refine gw_aload_n dX9_bestNumerator_5 rfl rfl ?_
  obtain ⟨v3, c2, e_c2, H⟩ := cl_i H
  refine gw_V0 okX9_looksAtBases dX9_bestNumerator_6 kw_1841 kw_1843 kw_86 (hp_o (h0.1)) rfl ⟨by decide, by decide⟩ ⟨by decide, by decide⟩ (Nat.le_of_ble_eq_true rfl) (w_X9_looksAtBases (h0) e_c2 ?_)
  refine gw_aload_n dX9_bestNumerator_9 rfl rfl ?_
  refine gs_getL cl9 25 25 dX9_bestNumerator_10 rfl kw_1344 (by decide) (h0.1) rfl rfl ?_
  cases H
  exact gw_lret dX9_bestNumerator_13 rfl (by decide) (by decide) hK
set_option maxRecDepth 100000 in
set_option maxHeartbeats 4000000 in
theorem w_X9_bestDenominator {Φ : gwC} {hb : gwHp} {M : Nat} {sh : Nat → Option gSh} {th : Nat} {c : W0} {r : Int × W0} {K : Option Value → gwHp → Prop} (h0 : sM sh th) (H : f_X9_bestDenominator th c = some r) (hK : K (some (vL r.1)) (hp Φ hb M sh r.2)) : gw_Con Φ mX9_bestDenominator none [.ref (M + th)] (hp Φ hb M sh c) K := by
  unfold f_X9_bestDenominator at H
  refine gw_start okX9_bestDenominator (Nat.le_of_ble_eq_true rfl) ?_
  refine gw_aload_n dX9_bestDenominator_0 rfl rfl ?_
  refine gw_iconstZ dX9_bestDenominator_1 rfl ?_
  obtain ⟨c1, e_c1, H⟩ := sto_i H
  refine gs_putIE cl9 0 0 dX9_bestDenominator_2 rfl kw_1319 (by decide) rfl rfl (h0.1) rfl rfl e_c1 ?_
  refine gw_aload_n dX9_bestDenominator_5 rfl rfl ?_
  obtain ⟨v3, c2, e_c2, H⟩ := cl_i H
  refine gw_V0 okX9_looksAtBases dX9_bestDenominator_6 kw_1841 kw_1843 kw_86 (hp_o (h0.1)) rfl ⟨by decide, by decide⟩ ⟨by decide, by decide⟩ (Nat.le_of_ble_eq_true rfl) (w_X9_looksAtBases (h0) e_c2 ?_)
  refine gw_aload_n dX9_bestDenominator_9 rfl rfl ?_
  refine gs_getL cl9 26 26 dX9_bestDenominator_10 rfl kw_1345 (by decide) (h0.1) rfl rfl ?_
  cases H
  exact gw_lret dX9_bestDenominator_13 rfl (by decide) (by decide) hK
end FW
