section FW
set_option maxRecDepth 100000 in
set_option maxHeartbeats 4000000 in
theorem w_X9_whyNoPivot {Φ : gwC} {hb : gwHp} {M : Nat} {sh : Nat → Option gSh} {th : Nat} {p1 : Int} {p2 : Int} {c : W0} {r : Int × W0} {K : Option Value → gwHp → Prop} (h0 : sM sh th) (H : f_X9_whyNoPivot th p1 p2 c = some r) (hK : K (some (vI r.1)) (hp Φ hb M sh r.2)) : gw_Con Φ mX9_whyNoPivot none [.ref (M + th), vI p1, vI p2] (hp Φ hb M sh c) K := by
  unfold f_X9_whyNoPivot at H
  refine gw_start okX9_whyNoPivot (Nat.le_of_ble_eq_true rfl) ?_
  refine gw_aload_n dX9_whyNoPivot_0 rfl rfl ?_
  refine gw_aload_n dX9_whyNoPivot_1 rfl rfl ?_
  refine gw_iload_n dX9_whyNoPivot_2 rfl rfl ?_
  refine gw_iload_n dX9_whyNoPivot_3 rfl rfl ?_
  obtain ⟨v1, e_v1, H⟩ := cv_i H
  refine gw_V2 okX9_isPlace dX9_whyNoPivot_4 kw_1468 kw_1470 kw_39 (hp_o (h0.1)) rfl ⟨by decide, by decide⟩ ⟨by decide, by decide⟩ (Nat.le_of_ble_eq_true rfl) (w_X9_isPlace (h0) e_v1 ?_)
  obtain ⟨g, H⟩ := gd_i H
  obtain ⟨k2, e_k2, H⟩ := jn_i H
  have hJ_k2 : ∀ (v3 : Int), k2 v3 = some r → G Φ mX9_whyNoPivot (gw_M Φ mX9_whyNoPivot K) none 0 0 15 [(0, .ref (M + th)), (1, vI p1), (2, vI p2)] [vI v3, .ref (M + th)] (hp Φ hb M sh c) := by
    intro v3 H
    subst e_k2
    obtain ⟨v4, c5, e_c5, H⟩ := cl_i H
    refine gw_V1 okX9_holds dX9_whyNoPivot_15 kw_1416 kw_1418 kw_33 (hp_o (h0.1)) rfl ⟨by decide, by decide⟩ ⟨by decide, by decide⟩ (Nat.le_of_ble_eq_true rfl) (w_X9_holds (h0) e_c5 ?_)
    obtain ⟨g, H⟩ := gd_i H
    refine gw_if_eqZ (tgt := 30) dX9_whyNoPivot_18 rfl (by decide) g (fun q => ?_) (fun q => ?_)
    · have H := bq_t q H
      refine gw_iconstZ dX9_whyNoPivot_30 rfl ?_
      cases H
      exact gw_iret dX9_whyNoPivot_31 rfl (by decide) (by decide) hK
    · have H := bq_f q H
      refine gw_aload_n dX9_whyNoPivot_21 rfl rfl ?_
      refine gw_iload_n dX9_whyNoPivot_22 rfl rfl ?_
      refine gw_iload_n dX9_whyNoPivot_23 rfl rfl ?_
      obtain ⟨v6, c7, e_c7, H⟩ := cl_i H
      refine gw_V2 okX9_hindrance dX9_whyNoPivot_24 kw_1480 kw_1482 kw_42 (hp_o (h0.1)) rfl ⟨by decide, by decide⟩ ⟨by decide, by decide⟩ (Nat.le_of_ble_eq_true rfl) (w_X9_hindrance (h0) e_c7 ?_)
      refine gw_goto (tgt := 31) dX9_whyNoPivot_27 (by decide) ?_
      cases H
      exact gw_iret dX9_whyNoPivot_31 rfl (by decide) (by decide) hK
  refine gw_if_eqZ (tgt := 14) dX9_whyNoPivot_7 rfl (by decide) g (fun q => ?_) (fun q => ?_)
  · have H := bq_t q H
    refine gw_iconstZ dX9_whyNoPivot_14 rfl ?_
    exact gw_L (hJ_k2 _ H) ((lvA_c rfl (lvA_c rfl (lvA_c rfl lvA_n))))
  · have H := bq_f q H
    refine gw_iconstZ dX9_whyNoPivot_10 rfl ?_
    refine gw_goto (tgt := 15) dX9_whyNoPivot_11 (by decide) ?_
    exact gw_L (hJ_k2 _ H) ((lvA_c rfl (lvA_c rfl (lvA_c rfl lvA_n))))
set_option maxRecDepth 100000 in
set_option maxHeartbeats 4000000 in
theorem w_X9_nextColumn {Φ : gwC} {hb : gwHp} {M : Nat} {sh : Nat → Option gSh} {th : Nat} {c : W0} {r : Int × W0} {K : Option Value → gwHp → Prop} (h0 : sM sh th) (H : f_X9_nextColumn th c = some r) (hK : K (some (vI r.1)) (hp Φ hb M sh r.2)) : gw_Con Φ mX9_nextColumn none [.ref (M + th)] (hp Φ hb M sh c) K := by
  unfold f_X9_nextColumn at H
  refine gw_start okX9_nextColumn (Nat.le_of_ble_eq_true rfl) ?_
  refine gw_aload_n dX9_nextColumn_0 rfl rfl ?_
  refine gw_aload_n dX9_nextColumn_1 rfl rfl ?_
  obtain ⟨v1, c2, e_c2, H⟩ := cl_i H
  refine gw_V0 okX9_isAtEnd dX9_nextColumn_2 kw_1551 kw_1553 kw_58 (hp_o (h0.1)) rfl ⟨by decide, by decide⟩ ⟨by decide, by decide⟩ (Nat.le_of_ble_eq_true rfl) (w_X9_isAtEnd (h0) e_c2 ?_)
  obtain ⟨g, H⟩ := gd_i H
  obtain ⟨k3, e_k3, H⟩ := jn_i H
  have hJ_k3 : ∀ (v4 : Int), k3 v4 = some r → G Φ mX9_nextColumn (gw_M Φ mX9_nextColumn K) none 0 0 13 [(0, .ref (M + th))] [vI v4, .ref (M + th)] (hp Φ hb M sh c2) := by
    intro v4 H
    subst e_k3
    obtain ⟨v5, c6, e_c6, H⟩ := cl_i H
    refine gw_V1 okX9_holds dX9_nextColumn_13 kw_1416 kw_1418 kw_33 (hp_o (h0.1)) rfl ⟨by decide, by decide⟩ ⟨by decide, by decide⟩ (Nat.le_of_ble_eq_true rfl) (w_X9_holds (h0) e_c6 ?_)
    obtain ⟨g, H⟩ := gd_i H
    refine gw_if_eqZ (tgt := 26) dX9_nextColumn_16 rfl (by decide) g (fun q => ?_) (fun q => ?_)
    · have H := bq_t q H
      refine gw_iconstZ dX9_nextColumn_26 rfl ?_
      cases H
      exact gw_iret dX9_nextColumn_27 rfl (by decide) (by decide) hK
    · have H := bq_f q H
      refine gw_aload_n dX9_nextColumn_19 rfl rfl ?_
      obtain ⟨v7, c8, e_c8, H⟩ := cl_i H
      refine gw_V0 okX9_bestColumn dX9_nextColumn_20 kw_1571 kw_1573 kw_63 (hp_o (h0.1)) rfl ⟨by decide, by decide⟩ ⟨by decide, by decide⟩ (Nat.le_of_ble_eq_true rfl) (w_X9_bestColumn (h0) e_c8 ?_)
      refine gw_goto (tgt := 27) dX9_nextColumn_23 (by decide) ?_
      cases H
      exact gw_iret dX9_nextColumn_27 rfl (by decide) (by decide) hK
  refine gw_if_eqZ (tgt := 12) dX9_nextColumn_5 rfl (by decide) g (fun q => ?_) (fun q => ?_)
  · have H := bq_t q H
    refine gw_iconstZ dX9_nextColumn_12 rfl ?_
    exact gw_L (hJ_k3 _ H) ((lvA_c rfl lvA_n))
  · have H := bq_f q H
    refine gw_iconstZ dX9_nextColumn_8 rfl ?_
    refine gw_goto (tgt := 13) dX9_nextColumn_9 (by decide) ?_
    exact gw_L (hJ_k3 _ H) ((lvA_c rfl lvA_n))
set_option maxRecDepth 100000 in
set_option maxHeartbeats 4000000 in
theorem w_X9_nextRow {Φ : gwC} {hb : gwHp} {M : Nat} {sh : Nat → Option gSh} {th : Nat} {c : W0} {r : Int × W0} {K : Option Value → gwHp → Prop} (h0 : sM sh th) (H : f_X9_nextRow th c = some r) (hK : K (some (vI r.1)) (hp Φ hb M sh r.2)) : gw_Con Φ mX9_nextRow none [.ref (M + th)] (hp Φ hb M sh c) K := by
  unfold f_X9_nextRow at H
  refine gw_start okX9_nextRow (Nat.le_of_ble_eq_true rfl) ?_
  refine gw_aload_n dX9_nextRow_0 rfl rfl ?_
  refine gw_aload_n dX9_nextRow_1 rfl rfl ?_
  obtain ⟨v1, c2, e_c2, H⟩ := cl_i H
  refine gw_V0 okX9_isAtEnd dX9_nextRow_2 kw_1551 kw_1553 kw_58 (hp_o (h0.1)) rfl ⟨by decide, by decide⟩ ⟨by decide, by decide⟩ (Nat.le_of_ble_eq_true rfl) (w_X9_isAtEnd (h0) e_c2 ?_)
  obtain ⟨g, H⟩ := gd_i H
  obtain ⟨k3, e_k3, H⟩ := jn_i H
  have hJ_k3 : ∀ (v4 : Int), k3 v4 = some r → G Φ mX9_nextRow (gw_M Φ mX9_nextRow K) none 0 0 13 [(0, .ref (M + th))] [vI v4, .ref (M + th)] (hp Φ hb M sh c2) := by
    intro v4 H
    subst e_k3
    obtain ⟨v5, c6, e_c6, H⟩ := cl_i H
    refine gw_V1 okX9_holds dX9_nextRow_13 kw_1416 kw_1418 kw_33 (hp_o (h0.1)) rfl ⟨by decide, by decide⟩ ⟨by decide, by decide⟩ (Nat.le_of_ble_eq_true rfl) (w_X9_holds (h0) e_c6 ?_)
    obtain ⟨g, H⟩ := gd_i H
    refine gw_if_eqZ (tgt := 30) dX9_nextRow_16 rfl (by decide) g (fun q => ?_) (fun q => ?_)
    · have H := bq_t q H
      refine gw_iconstZ dX9_nextRow_30 rfl ?_
      cases H
      exact gw_iret dX9_nextRow_31 rfl (by decide) (by decide) hK
    · have H := bq_f q H
      refine gw_aload_n dX9_nextRow_19 rfl rfl ?_
      refine gw_aload_n dX9_nextRow_20 rfl rfl ?_
      obtain ⟨v7, c8, e_c8, H⟩ := cl_i H
      refine gw_V0 okX9_bestColumn dX9_nextRow_21 kw_1571 kw_1573 kw_63 (hp_o (h0.1)) rfl ⟨by decide, by decide⟩ ⟨by decide, by decide⟩ (Nat.le_of_ble_eq_true rfl) (w_X9_bestColumn (h0) e_c8 ?_)
      obtain ⟨v9, e_v9, H⟩ := cv_i H
      refine gw_V1 okX9_leastRow dX9_nextRow_24 kw_1579 kw_1581 kw_65 (hp_o (h0.1)) rfl ⟨by decide, by decide⟩ ⟨by decide, by decide⟩ (Nat.le_of_ble_eq_true rfl) (w_X9_leastRow (h0) e_v9 ?_)
      refine gw_goto (tgt := 31) dX9_nextRow_27 (by decide) ?_
      cases H
      exact gw_iret dX9_nextRow_31 rfl (by decide) (by decide) hK
  refine gw_if_eqZ (tgt := 12) dX9_nextRow_5 rfl (by decide) g (fun q => ?_) (fun q => ?_)
  · have H := bq_t q H
    refine gw_iconstZ dX9_nextRow_12 rfl ?_
    exact gw_L (hJ_k3 _ H) ((lvA_c rfl lvA_n))
  · have H := bq_f q H
    refine gw_iconstZ dX9_nextRow_8 rfl ?_
    refine gw_goto (tgt := 13) dX9_nextRow_9 (by decide) ?_
    exact gw_L (hJ_k3 _ H) ((lvA_c rfl lvA_n))
set_option maxRecDepth 100000 in
set_option maxHeartbeats 4000000 in
theorem w_X9_leftPivots {Φ : gwC} {hb : gwHp} {M : Nat} {sh : Nat → Option gSh} {th : Nat} {c : W0} {r : Int × W0} {K : Option Value → gwHp → Prop} (h0 : sM sh th) (H : f_X9_leftPivots th c = some r) (hK : K (some (vI r.1)) (hp Φ hb M sh r.2)) : gw_Con Φ mX9_leftPivots none [.ref (M + th)] (hp Φ hb M sh c) K := by
  unfold f_X9_leftPivots at H
  refine gw_start okX9_leftPivots (Nat.le_of_ble_eq_true rfl) ?_
  refine gw_aload_n dX9_leftPivots_0 rfl rfl ?_
  obtain ⟨v2, c1, e_c1, H⟩ := cl_i H
  refine gw_V0 okX9_putAside dX9_leftPivots_1 kw_1889 kw_1891 kw_91 (hp_o (h0.1)) rfl ⟨by decide, by decide⟩ ⟨by decide, by decide⟩ (Nat.le_of_ble_eq_true rfl) (w_X9_putAside (h0) e_c1 ?_)
  refine gw_aload_n dX9_leftPivots_4 rfl rfl ?_
  obtain ⟨v3, c4, e_c4, H⟩ := cl_i H
  refine gw_V0 okX9_solves dX9_leftPivots_5 kw_1591 kw_1593 kw_66 (hp_o (h0.1)) rfl ⟨by decide, by decide⟩ ⟨by decide, by decide⟩ (Nat.le_of_ble_eq_true rfl) (w_X9_solves (h0) e_c4 ?_)
  refine gw_istore_n dX9_leftPivots_8 rfl (by decide) ?_
  refine gw_aload_n dX9_leftPivots_9 rfl rfl ?_
  obtain ⟨v6, c5, e_c5, H⟩ := cl_i H
  refine gw_V0 okX9_putBack dX9_leftPivots_10 kw_1893 kw_1895 kw_92 (hp_o (h0.1)) rfl ⟨by decide, by decide⟩ ⟨by decide, by decide⟩ (Nat.le_of_ble_eq_true rfl) (w_X9_putBack (h0) e_c5 ?_)
  refine gw_iload_n dX9_leftPivots_13 rfl rfl ?_
  cases H
  exact gw_iret dX9_leftPivots_14 rfl (by decide) (by decide) hK
set_option maxRecDepth 100000 in
set_option maxHeartbeats 4000000 in
theorem w_X9_pivotsLeft {Φ : gwC} {hb : gwHp} {M : Nat} {sh : Nat → Option gSh} {th : Nat} {c : W0} {r : Int × W0} {K : Option Value → gwHp → Prop} (h0 : sM sh th) (H : f_X9_pivotsLeft th c = some r) (hK : K (some (vI r.1)) (hp Φ hb M sh r.2)) : gw_Con Φ mX9_pivotsLeft none [.ref (M + th)] (hp Φ hb M sh c) K := by
  unfold f_X9_pivotsLeft at H
  refine gw_start okX9_pivotsLeft (Nat.le_of_ble_eq_true rfl) ?_
  refine gw_aload_n dX9_pivotsLeft_0 rfl rfl ?_
  refine gw_iconstZ dX9_pivotsLeft_1 rfl ?_
  obtain ⟨c1, e_c1, H⟩ := sto_i H
  refine gs_putIE cl9 0 0 dX9_pivotsLeft_2 rfl kw_1319 (by decide) rfl rfl (h0.1) rfl rfl e_c1 ?_
  refine gw_aload_n dX9_pivotsLeft_5 rfl rfl ?_
  obtain ⟨v2, c3, e_c3, H⟩ := cl_i H
  refine gw_V0 okX9_leftPivots dX9_pivotsLeft_6 kw_1885 kw_1887 kw_90 (hp_o (h0.1)) rfl ⟨by decide, by decide⟩ ⟨by decide, by decide⟩ (Nat.le_of_ble_eq_true rfl) (w_X9_leftPivots (h0) e_c3 ?_)
  cases H
  exact gw_iret dX9_pivotsLeft_9 rfl (by decide) (by decide) hK
set_option maxRecDepth 100000 in
set_option maxHeartbeats 4000000 in
theorem l_X9_staysFeasible_5 {Φ : gwC} {hb : gwHp} {M : Nat} {sh : Nat → Option gSh} {th : Nat} {p1 : Int} {p2 : Int} {κ : Int → W0 → Option (Int × W0)} {r : Int × W0} {K : Option Value → gwHp → Prop} (h0 : sM sh th) (hK : K (some (vI r.1)) (hp Φ hb M sh r.2)) (hκ : ∀ (x3 : Int) (c : W0), κ x3 c = some r → G Φ mX9_staysFeasible (gw_M Φ mX9_staysFeasible K) none 0 0 117 [(3, vI x3)] [] (hp Φ hb M sh c)) : ∀ (n : Nat) (l3 : Int) (l4 : Int) (c : W0), f_X9_staysFeasible_5 th p1 p2 κ n l3 l4 c = some r → G Φ mX9_staysFeasible (gw_M Φ mX9_staysFeasible K) none 0 0 5 [(0, .ref (M + th)), (1, vI p1), (2, vI p2), (3, vI l3), (4, vI l4)] [] (hp Φ hb M sh c) := by
  intro n
  induction n with
  | zero => intro l3 l4 c H; cases H
  | succ n ih =>
    intro l3 l4 c H
    have H : b_X9_staysFeasible_5 th p1 p2 κ (f_X9_staysFeasible_5 th p1 p2 κ n) l3 l4 c = some r := H
    unfold b_X9_staysFeasible_5 at H
    refine gw_iload dX9_staysFeasible_5 rfl rfl ?_
    refine gw_aload_n dX9_staysFeasible_7 rfl rfl ?_
    refine gs_getR cl9 1 dX9_staysFeasible_8 rfl kw_1320 (by decide) (h0.1) rfl ?_
    refine gw_iconstZ dX9_staysFeasible_11 rfl ?_
    refine gs_ialdZ dX9_staysFeasible_12 rfl (h0.2.1) (by decide) (by decide) ?_
    obtain ⟨g, H⟩ := gd_i H
    refine gw_icmp_geZ (tgt := 117) dX9_staysFeasible_13 rfl (by decide) g.1 g.2 (fun q => ?_) (fun q => ?_)
    · have H := bq_t q H
      exact gw_L (hκ _ _ H) ((lvA_c rfl lvA_n))
    · have H := bq_f q H
      refine gw_aload_n dX9_staysFeasible_16 rfl rfl ?_
      refine gw_aload_n dX9_staysFeasible_17 rfl rfl ?_
      refine gw_iload dX9_staysFeasible_18 rfl rfl ?_
      refine gw_bipushZ dX9_staysFeasible_20 rfl (by decide) ?_
      obtain ⟨v1, e_v1, H⟩ := cv_i H
      refine gw_V2 okX9_entry dX9_staysFeasible_22 kw_1531 kw_1533 kw_54 (hp_o (h0.1)) rfl ⟨by decide, by decide⟩ ⟨by decide, by decide⟩ (Nat.le_of_ble_eq_true rfl) (w_X9_entry (h0) e_v1 ?_)
      refine gw_aload_n dX9_staysFeasible_25 rfl rfl ?_
      refine gs_getR cl9 10 dX9_staysFeasible_26 rfl kw_1329 (by decide) (h0.1) rfl ?_
      refine gw_bipushZ dX9_staysFeasible_29 rfl (by decide) ?_
      refine gw_iload dX9_staysFeasible_31 rfl rfl ?_
      refine gw_imulZ dX9_staysFeasible_33 rfl ?_
      refine gw_bipushZ dX9_staysFeasible_34 rfl (by decide) ?_
      refine gw_iaddZ dX9_staysFeasible_36 rfl ?_
      refine gw_iconstZ dX9_staysFeasible_37 rfl ?_
      refine gw_isubZ dX9_staysFeasible_38 rfl ?_
      obtain ⟨g, H⟩ := gd_i H
      refine gs_laldZ dX9_staysFeasible_39 rfl (h0.2.2.2.2.2.2.2.1) g (by decide) ?_
      obtain ⟨v3, c2, e_c2, H⟩ := cl_i H
      refine gw_V2 okX9_becomes dX9_staysFeasible_40 kw_1504 kw_1506 kw_48 (hp_o (h0.1)) rfl ⟨by decide, by decide⟩ ⟨by decide, by decide⟩ (Nat.le_of_ble_eq_true rfl) (w_X9_becomes (h0) e_c2 ?_)
      refine gw_aload_n dX9_staysFeasible_43 rfl rfl ?_
      refine gw_iload_n dX9_staysFeasible_44 rfl rfl ?_
      refine gw_aload_n dX9_staysFeasible_45 rfl rfl ?_
      refine gs_getR cl9 1 dX9_staysFeasible_46 rfl kw_1320 (by decide) (h0.1) rfl ?_
      refine gw_bipushZ dX9_staysFeasible_49 rfl (by decide) ?_
      refine gw_iload_n dX9_staysFeasible_51 rfl rfl ?_
      refine gw_iaddZ dX9_staysFeasible_52 rfl ?_
      obtain ⟨g, H⟩ := gd_i H
      refine gs_ialdZ dX9_staysFeasible_53 rfl (h0.2.1) g (by decide) ?_
      refine gw_isubZ dX9_staysFeasible_54 rfl ?_
      obtain ⟨g, H⟩ := gd_i H
      refine gw_i2lZ dX9_staysFeasible_55 rfl g ?_
      refine gw_aload_n dX9_staysFeasible_56 rfl rfl ?_
      refine gw_iload dX9_staysFeasible_57 rfl rfl ?_
      refine gw_aload_n dX9_staysFeasible_59 rfl rfl ?_
      refine gs_getR cl9 1 dX9_staysFeasible_60 rfl kw_1320 (by decide) (h0.1) rfl ?_
      refine gw_iconstZ dX9_staysFeasible_63 rfl ?_
      refine gs_ialdZ dX9_staysFeasible_64 rfl (h0.2.1) (by decide) (by decide) ?_
      refine gw_iload_n dX9_staysFeasible_65 rfl rfl ?_
      refine gw_iaddZ dX9_staysFeasible_66 rfl ?_
      obtain ⟨v4, e_v4, H⟩ := cv_i H
      refine gw_V2 okX9_entry dX9_staysFeasible_67 kw_1531 kw_1533 kw_54 (hp_o (h0.1)) rfl ⟨by decide, by decide⟩ ⟨by decide, by decide⟩ (Nat.le_of_ble_eq_true rfl) (w_X9_entry (h0) e_v4 ?_)
      refine gw_aload_n dX9_staysFeasible_70 rfl rfl ?_
      refine gs_getR cl9 10 dX9_staysFeasible_71 rfl kw_1329 (by decide) (h0.1) rfl ?_
      refine gw_bipushZ dX9_staysFeasible_74 rfl (by decide) ?_
      refine gw_iload dX9_staysFeasible_76 rfl rfl ?_
      refine gw_imulZ dX9_staysFeasible_78 rfl ?_
      refine gw_aload_n dX9_staysFeasible_79 rfl rfl ?_
      refine gs_getR cl9 1 dX9_staysFeasible_80 rfl kw_1320 (by decide) (h0.1) rfl ?_
      refine gw_iconstZ dX9_staysFeasible_83 rfl ?_
      refine gs_ialdZ dX9_staysFeasible_84 rfl (h0.2.1) (by decide) (by decide) ?_
      refine gw_iaddZ dX9_staysFeasible_85 rfl ?_
      refine gw_iload_n dX9_staysFeasible_86 rfl rfl ?_
      refine gw_iaddZ dX9_staysFeasible_87 rfl ?_
      obtain ⟨g, H⟩ := gd_i H
      refine gs_laldZ dX9_staysFeasible_88 rfl (h0.2.2.2.2.2.2.2.1) g (by decide) ?_
      obtain ⟨v6, c5, e_c5, H⟩ := cl_i H
      refine gw_V3 okX9_adds dX9_staysFeasible_89 kw_1535 kw_1537 kw_55 (hp_o (h0.1)) rfl ⟨by decide, by decide⟩ ⟨by decide, by decide⟩ (Nat.le_of_ble_eq_true rfl) (w_X9_adds (h0) e_c5 ?_)
      refine gw_iload_n dX9_staysFeasible_92 rfl rfl ?_
      obtain ⟨g, H⟩ := gd_i H
      refine gw_if_eqZ (tgt := 109) dX9_staysFeasible_93 rfl (by decide) g (fun q => ?_) (fun q => ?_)
      · have H := bq_t q H
        refine gw_iconstZ dX9_staysFeasible_109 rfl ?_
        refine gw_istore_n dX9_staysFeasible_110 rfl (by decide) ?_
        refine gw_iincZ dX9_staysFeasible_111 rfl rfl (by decide) ?_
        refine gw_goto (tgt := 5) dX9_staysFeasible_114 (by decide) ?_
        exact gw_L (ih _ _ _ H) ((lvA_c rfl (lvA_c rfl (lvA_c rfl (lvA_c rfl (lvA_c rfl lvA_n))))))
      · have H := bq_f q H
        refine gw_aload_n dX9_staysFeasible_96 rfl rfl ?_
        refine gs_getL cl9 16 16 dX9_staysFeasible_97 rfl kw_1335 (by decide) (h0.1) rfl rfl ?_
        refine gw_lconst0Z dX9_staysFeasible_100 rfl ?_
        obtain ⟨g, H⟩ := gd_i H
        refine gw_lc_ltZ (tgt := 109) dX9_staysFeasible_101 rfl dX9_staysFeasible_102 rfl (by decide) g (by decide) (fun q => ?_) (fun q => ?_)
        · have H := bq_t q H
          refine gw_iconstZ dX9_staysFeasible_109 rfl ?_
          refine gw_istore_n dX9_staysFeasible_110 rfl (by decide) ?_
          refine gw_iincZ dX9_staysFeasible_111 rfl rfl (by decide) ?_
          refine gw_goto (tgt := 5) dX9_staysFeasible_114 (by decide) ?_
          exact gw_L (ih _ _ _ H) ((lvA_c rfl (lvA_c rfl (lvA_c rfl (lvA_c rfl (lvA_c rfl lvA_n))))))
        · have H := bq_f q H
          refine gw_iconstZ dX9_staysFeasible_105 rfl ?_
          refine gw_goto (tgt := 110) dX9_staysFeasible_106 (by decide) ?_
          refine gw_istore_n dX9_staysFeasible_110 rfl (by decide) ?_
          refine gw_iincZ dX9_staysFeasible_111 rfl rfl (by decide) ?_
          refine gw_goto (tgt := 5) dX9_staysFeasible_114 (by decide) ?_
          exact gw_L (ih _ _ _ H) ((lvA_c rfl (lvA_c rfl (lvA_c rfl (lvA_c rfl (lvA_c rfl lvA_n))))))
set_option maxRecDepth 100000 in
set_option maxHeartbeats 4000000 in
theorem w_X9_staysFeasible {Φ : gwC} {hb : gwHp} {M : Nat} {sh : Nat → Option gSh} {th : Nat} {p1 : Int} {p2 : Int} {c : W0} {r : Int × W0} {K : Option Value → gwHp → Prop} (h0 : sM sh th) (H : f_X9_staysFeasible th p1 p2 c = some r) (hK : K (some (vI r.1)) (hp Φ hb M sh r.2)) : gw_Con Φ mX9_staysFeasible none [.ref (M + th), vI p1, vI p2] (hp Φ hb M sh c) K := by
  unfold f_X9_staysFeasible at H
  refine gw_start okX9_staysFeasible (Nat.le_of_ble_eq_true rfl) ?_
  refine gw_iconstZ dX9_staysFeasible_0 rfl ?_
  refine gw_istore_n dX9_staysFeasible_1 rfl (by decide) ?_
  refine gw_iconstZ dX9_staysFeasible_2 rfl ?_
  refine gw_istore dX9_staysFeasible_3 rfl (by decide) ?_
  refine gw_L (l_X9_staysFeasible_5 h0 hK (fun v1 c2 H => ?_) LF _ _ _ H) ((lvA_c rfl (lvA_c rfl (lvA_c rfl (lvA_c rfl (lvA_c rfl lvA_n))))))
  refine gw_iload_n dX9_staysFeasible_117 rfl rfl ?_
  obtain ⟨g, H⟩ := gd_i H
  cases H
  exact gw_zret (gs_nz g) dX9_staysFeasible_118 rfl (by decide) (by decide) hK
set_option maxRecDepth 100000 in
set_option maxHeartbeats 4000000 in
theorem l_X9_outer_17 {Φ : gwC} {hb : gwHp} {M : Nat} {sh : Nat → Option gSh} {th : Nat} {p1 : Int} {p2 : Int} {κ : Int → W0 → Option (Int × W0)} {r : Int × W0} {K : Option Value → gwHp → Prop} (h0 : sM sh th) (hK : K (some (vI r.1)) (hp Φ hb M sh r.2)) (hκ : ∀ (x3 : Int) (c : W0), κ x3 c = some r → G Φ mX9_outer (gw_M Φ mX9_outer K) none 0 0 63 [(3, vI x3)] [] (hp Φ hb M sh c)) : ∀ (n : Nat) (l3 : Int) (l4 : Int) (c : W0), f_X9_outer_17 th p1 p2 κ n l3 l4 c = some r → G Φ mX9_outer (gw_M Φ mX9_outer K) none 0 0 17 [(0, .ref (M + th)), (1, vI p1), (2, vI p2), (3, vI l3), (4, vI l4)] [] (hp Φ hb M sh c) := by
  intro n
  induction n with
  | zero => intro l3 l4 c H; cases H
  | succ n ih =>
    intro l3 l4 c H
    have H : b_X9_outer_17 th p1 p2 κ (f_X9_outer_17 th p1 p2 κ n) l3 l4 c = some r := H
    unfold b_X9_outer_17 at H
    refine gw_iload dX9_outer_17 rfl rfl ?_
    refine gw_bipushZ dX9_outer_19 rfl (by decide) ?_
    obtain ⟨g, H⟩ := gd_i H
    refine gw_icmp_geZ (tgt := 63) dX9_outer_21 rfl (by decide) g (by decide) (fun q => ?_) (fun q => ?_)
    · have H := bq_t q H
      exact gw_L (hκ _ _ H) ((lvA_c rfl lvA_n))
    · have H := bq_f q H
      refine gw_iload_n dX9_outer_24 rfl rfl ?_
      obtain ⟨g, H⟩ := gd_i H
      obtain ⟨k1, e_k1, H⟩ := jn_i H
      have hJ_k1 : ∀ (v2 : Int), k1 v2 = some r → G Φ mX9_outer (gw_M Φ mX9_outer K) none 0 0 38 [(0, .ref (M + th)), (1, vI p1), (2, vI p2), (3, vI l3), (4, vI l4)] [vI v2] (hp Φ hb M sh c) := by
        intro v2 H
        subst e_k1
        refine gw_istore dX9_outer_38 rfl (by decide) ?_
        refine gw_aload_n dX9_outer_40 rfl rfl ?_
        refine gw_iload_n dX9_outer_41 rfl rfl ?_
        refine gw_iload dX9_outer_42 rfl rfl ?_
        obtain ⟨v3, c4, e_c4, H⟩ := cl_i H
        refine gw_V2 okX9_staysFeasible dX9_outer_44 kw_1905 kw_1907 kw_94 (hp_o (h0.1)) rfl ⟨by decide, by decide⟩ ⟨by decide, by decide⟩ (Nat.le_of_ble_eq_true rfl) (w_X9_staysFeasible (h0) e_c4 ?_)
        obtain ⟨g, H⟩ := gd_i H
        refine gw_if_eqZ (tgt := 55) dX9_outer_47 rfl (by decide) g (fun q => ?_) (fun q => ?_)
        · have H := bq_t q H
          refine gw_iload_n dX9_outer_55 rfl rfl ?_
          refine gw_istore_n dX9_outer_56 rfl (by decide) ?_
          refine gw_iincZ dX9_outer_57 rfl rfl (by decide) ?_
          refine gw_goto (tgt := 17) dX9_outer_60 (by decide) ?_
          exact gw_L (ih _ _ _ H) ((lvA_c rfl (lvA_c rfl (lvA_c rfl (lvA_c rfl (lvA_c rfl lvA_n))))))
        · have H := bq_f q H
          refine gw_iload dX9_outer_50 rfl rfl ?_
          refine gw_goto (tgt := 56) dX9_outer_52 (by decide) ?_
          refine gw_istore_n dX9_outer_56 rfl (by decide) ?_
          refine gw_iincZ dX9_outer_57 rfl rfl (by decide) ?_
          refine gw_goto (tgt := 17) dX9_outer_60 (by decide) ?_
          exact gw_L (ih _ _ _ H) ((lvA_c rfl (lvA_c rfl (lvA_c rfl (lvA_c rfl (lvA_c rfl lvA_n))))))
      refine gw_if_eqZ (tgt := 36) dX9_outer_25 rfl (by decide) g (fun q => ?_) (fun q => ?_)
      · have H := bq_t q H
        refine gw_iload dX9_outer_36 rfl rfl ?_
        exact gw_L (hJ_k1 _ H) ((lvA_c rfl (lvA_c rfl (lvA_c rfl (lvA_c rfl (lvA_c rfl lvA_n))))))
      · have H := bq_f q H
        refine gw_bipushZ dX9_outer_28 rfl (by decide) ?_
        refine gw_iload dX9_outer_30 rfl rfl ?_
        refine gw_isubZ dX9_outer_32 rfl ?_
        refine gw_goto (tgt := 38) dX9_outer_33 (by decide) ?_
        exact gw_L (hJ_k1 _ H) ((lvA_c rfl (lvA_c rfl (lvA_c rfl (lvA_c rfl (lvA_c rfl lvA_n))))))
set_option maxRecDepth 100000 in
set_option maxHeartbeats 4000000 in
theorem w_X9_outer {Φ : gwC} {hb : gwHp} {M : Nat} {sh : Nat → Option gSh} {th : Nat} {p1 : Int} {p2 : Int} {c : W0} {r : Int × W0} {K : Option Value → gwHp → Prop} (h0 : sM sh th) (H : f_X9_outer th p1 p2 c = some r) (hK : K (some (vI r.1)) (hp Φ hb M sh r.2)) : gw_Con Φ mX9_outer none [.ref (M + th), vI p1, vI p2] (hp Φ hb M sh c) K := by
  unfold f_X9_outer at H
  refine gw_start okX9_outer (Nat.le_of_ble_eq_true rfl) ?_
  refine gw_aload_n dX9_outer_0 rfl rfl ?_
  obtain ⟨v2, c1, e_c1, H⟩ := cl_i H
  refine gw_V0 okX9_laysNow dX9_outer_1 kw_1484 kw_1486 kw_43 (hp_o (h0.1)) rfl ⟨by decide, by decide⟩ ⟨by decide, by decide⟩ (Nat.le_of_ble_eq_true rfl) (w_X9_laysNow (h0) e_c1 ?_)
  refine gw_aload_n dX9_outer_4 rfl rfl ?_
  refine gs_getR cl9 1 dX9_outer_5 rfl kw_1320 (by decide) (h0.1) rfl ?_
  refine gw_bipushZ dX9_outer_8 rfl (by decide) ?_
  refine gw_iload_n dX9_outer_10 rfl rfl ?_
  refine gw_iaddZ dX9_outer_11 rfl ?_
  obtain ⟨g, H⟩ := gd_i H
  refine gs_ialdZ dX9_outer_12 rfl (h0.2.1) g (by decide) ?_
  refine gw_istore_n dX9_outer_13 rfl (by decide) ?_
  refine gw_iconstZ dX9_outer_14 rfl ?_
  refine gw_istore dX9_outer_15 rfl (by decide) ?_
  refine gw_L (l_X9_outer_17 h0 hK (fun v3 c4 H => ?_) LF _ _ _ H) ((lvA_c rfl (lvA_c rfl (lvA_c rfl (lvA_c rfl (lvA_c rfl lvA_n))))))
  refine gw_iload_n dX9_outer_63 rfl rfl ?_
  cases H
  exact gw_iret dX9_outer_64 rfl (by decide) (by decide) hK
set_option maxRecDepth 100000 in
set_option maxHeartbeats 4000000 in
theorem w_X9_leastBound {Φ : gwC} {hb : gwHp} {M : Nat} {sh : Nat → Option gSh} {th : Nat} {p1 : Int} {c : W0} {r : Int × W0} {K : Option Value → gwHp → Prop} (h0 : sM sh th) (H : f_X9_leastBound th p1 c = some r) (hK : K (some (vI r.1)) (hp Φ hb M sh r.2)) : gw_Con Φ mX9_leastBound none [.ref (M + th), vI p1] (hp Φ hb M sh c) K := by
  unfold f_X9_leastBound at H
  refine gw_start okX9_leastBound (Nat.le_of_ble_eq_true rfl) ?_
  refine gw_aload_n dX9_leastBound_0 rfl rfl ?_
  refine gw_aload_n dX9_leastBound_1 rfl rfl ?_
  refine gw_iload_n dX9_leastBound_2 rfl rfl ?_
  obtain ⟨v1, e_v1, H⟩ := cv_i H
  refine gw_V1 okX9_isConstraint dX9_leastBound_3 kw_1448 kw_1450 kw_38 (hp_o (h0.1)) rfl ⟨by decide, by decide⟩ ⟨by decide, by decide⟩ (Nat.le_of_ble_eq_true rfl) (w_X9_isConstraint (h0) e_v1 ?_)
  obtain ⟨g, H⟩ := gd_i H
  obtain ⟨k2, e_k2, H⟩ := jn_i H
  have hJ_k2 : ∀ (v3 : Int), k2 v3 = some r → G Φ mX9_leastBound (gw_M Φ mX9_leastBound K) none 0 0 14 [(0, .ref (M + th)), (1, vI p1)] [vI v3, .ref (M + th)] (hp Φ hb M sh c) := by
    intro v3 H
    subst e_k2
    obtain ⟨v4, c5, e_c5, H⟩ := cl_i H
    refine gw_V1 okX9_holds dX9_leastBound_14 kw_1416 kw_1418 kw_33 (hp_o (h0.1)) rfl ⟨by decide, by decide⟩ ⟨by decide, by decide⟩ (Nat.le_of_ble_eq_true rfl) (w_X9_holds (h0) e_c5 ?_)
    obtain ⟨g, H⟩ := gd_i H
    refine gw_if_eqZ (tgt := 29) dX9_leastBound_17 rfl (by decide) g (fun q => ?_) (fun q => ?_)
    · have H := bq_t q H
      refine gw_iconstZ dX9_leastBound_29 rfl ?_
      cases H
      exact gw_iret dX9_leastBound_30 rfl (by decide) (by decide) hK
    · have H := bq_f q H
      refine gw_aload_n dX9_leastBound_20 rfl rfl ?_
      refine gw_iload_n dX9_leastBound_21 rfl rfl ?_
      refine gw_iconstZ dX9_leastBound_22 rfl ?_
      obtain ⟨v6, c7, e_c7, H⟩ := cl_i H
      refine gw_V2 okX9_outer dX9_leastBound_23 kw_1901 kw_1903 kw_93 (hp_o (h0.1)) rfl ⟨by decide, by decide⟩ ⟨by decide, by decide⟩ (Nat.le_of_ble_eq_true rfl) (w_X9_outer (h0) e_c7 ?_)
      refine gw_goto (tgt := 30) dX9_leastBound_26 (by decide) ?_
      cases H
      exact gw_iret dX9_leastBound_30 rfl (by decide) (by decide) hK
  refine gw_if_eqZ (tgt := 13) dX9_leastBound_6 rfl (by decide) g (fun q => ?_) (fun q => ?_)
  · have H := bq_t q H
    refine gw_iconstZ dX9_leastBound_13 rfl ?_
    exact gw_L (hJ_k2 _ H) ((lvA_c rfl (lvA_c rfl lvA_n)))
  · have H := bq_f q H
    refine gw_iconstZ dX9_leastBound_9 rfl ?_
    refine gw_goto (tgt := 14) dX9_leastBound_10 (by decide) ?_
    exact gw_L (hJ_k2 _ H) ((lvA_c rfl (lvA_c rfl lvA_n)))
set_option maxRecDepth 100000 in
set_option maxHeartbeats 4000000 in
theorem w_X9_greatestBound {Φ : gwC} {hb : gwHp} {M : Nat} {sh : Nat → Option gSh} {th : Nat} {p1 : Int} {c : W0} {r : Int × W0} {K : Option Value → gwHp → Prop} (h0 : sM sh th) (H : f_X9_greatestBound th p1 c = some r) (hK : K (some (vI r.1)) (hp Φ hb M sh r.2)) : gw_Con Φ mX9_greatestBound none [.ref (M + th), vI p1] (hp Φ hb M sh c) K := by
  unfold f_X9_greatestBound at H
  refine gw_start okX9_greatestBound (Nat.le_of_ble_eq_true rfl) ?_
  refine gw_aload_n dX9_greatestBound_0 rfl rfl ?_
  refine gw_aload_n dX9_greatestBound_1 rfl rfl ?_
  refine gw_iload_n dX9_greatestBound_2 rfl rfl ?_
  obtain ⟨v1, e_v1, H⟩ := cv_i H
  refine gw_V1 okX9_isConstraint dX9_greatestBound_3 kw_1448 kw_1450 kw_38 (hp_o (h0.1)) rfl ⟨by decide, by decide⟩ ⟨by decide, by decide⟩ (Nat.le_of_ble_eq_true rfl) (w_X9_isConstraint (h0) e_v1 ?_)
  obtain ⟨g, H⟩ := gd_i H
  obtain ⟨k2, e_k2, H⟩ := jn_i H
  have hJ_k2 : ∀ (v3 : Int), k2 v3 = some r → G Φ mX9_greatestBound (gw_M Φ mX9_greatestBound K) none 0 0 14 [(0, .ref (M + th)), (1, vI p1)] [vI v3, .ref (M + th)] (hp Φ hb M sh c) := by
    intro v3 H
    subst e_k2
    obtain ⟨v4, c5, e_c5, H⟩ := cl_i H
    refine gw_V1 okX9_holds dX9_greatestBound_14 kw_1416 kw_1418 kw_33 (hp_o (h0.1)) rfl ⟨by decide, by decide⟩ ⟨by decide, by decide⟩ (Nat.le_of_ble_eq_true rfl) (w_X9_holds (h0) e_c5 ?_)
    obtain ⟨g, H⟩ := gd_i H
    refine gw_if_eqZ (tgt := 29) dX9_greatestBound_17 rfl (by decide) g (fun q => ?_) (fun q => ?_)
    · have H := bq_t q H
      refine gw_iconstZ dX9_greatestBound_29 rfl ?_
      cases H
      exact gw_iret dX9_greatestBound_30 rfl (by decide) (by decide) hK
    · have H := bq_f q H
      refine gw_aload_n dX9_greatestBound_20 rfl rfl ?_
      refine gw_iload_n dX9_greatestBound_21 rfl rfl ?_
      refine gw_iconstZ dX9_greatestBound_22 rfl ?_
      obtain ⟨v6, c7, e_c7, H⟩ := cl_i H
      refine gw_V2 okX9_outer dX9_greatestBound_23 kw_1901 kw_1903 kw_93 (hp_o (h0.1)) rfl ⟨by decide, by decide⟩ ⟨by decide, by decide⟩ (Nat.le_of_ble_eq_true rfl) (w_X9_outer (h0) e_c7 ?_)
      refine gw_goto (tgt := 30) dX9_greatestBound_26 (by decide) ?_
      cases H
      exact gw_iret dX9_greatestBound_30 rfl (by decide) (by decide) hK
  refine gw_if_eqZ (tgt := 13) dX9_greatestBound_6 rfl (by decide) g (fun q => ?_) (fun q => ?_)
  · have H := bq_t q H
    refine gw_iconstZ dX9_greatestBound_13 rfl ?_
    exact gw_L (hJ_k2 _ H) ((lvA_c rfl (lvA_c rfl lvA_n)))
  · have H := bq_f q H
    refine gw_iconstZ dX9_greatestBound_9 rfl ?_
    refine gw_goto (tgt := 14) dX9_greatestBound_10 (by decide) ?_
    exact gw_L (hJ_k2 _ H) ((lvA_c rfl (lvA_c rfl lvA_n)))
set_option maxRecDepth 100000 in
set_option maxHeartbeats 4000000 in
theorem w_X9_errorOfSolved {Φ : gwC} {hb : gwHp} {M : Nat} {sh : Nat → Option gSh} {th : Nat} {p1 : Int} {p2 : Int} {c : W0} {r : Int × W0} {K : Option Value → gwHp → Prop} (h0 : sM sh th) (H : f_X9_errorOfSolved th p1 p2 c = some r) (hK : K (some (vI r.1)) (hp Φ hb M sh r.2)) : gw_Con Φ mX9_errorOfSolved none [.ref (M + th), vI p1, vI p2] (hp Φ hb M sh c) K := by
  unfold f_X9_errorOfSolved at H
  refine gw_start okX9_errorOfSolved (Nat.le_of_ble_eq_true rfl) ?_
  refine gw_aload_n dX9_errorOfSolved_0 rfl rfl ?_
  refine gw_iload_n dX9_errorOfSolved_1 rfl rfl ?_
  obtain ⟨v1, e_v1, H⟩ := cv_i H
  refine gw_V1 okX9_isConstraint dX9_errorOfSolved_2 kw_1448 kw_1450 kw_38 (hp_o (h0.1)) rfl ⟨by decide, by decide⟩ ⟨by decide, by decide⟩ (Nat.le_of_ble_eq_true rfl) (w_X9_isConstraint (h0) e_v1 ?_)
  obtain ⟨g, H⟩ := gd_i H
  obtain ⟨k2, e_k2, H⟩ := jn_i H
  have hJ_k2 : ∀ (u3 : Unit), k2 u3 = some r → G Φ mX9_errorOfSolved (gw_M Φ mX9_errorOfSolved K) none 0 0 18 [(0, .ref (M + th)), (1, vI p1)] [] (hp Φ hb M sh c) := by
    intro u3 H
    subst e_k2
    refine gw_aload_n dX9_errorOfSolved_18 rfl rfl ?_
    refine gw_iload_n dX9_errorOfSolved_19 rfl rfl ?_
    obtain ⟨v4, e_v4, H⟩ := cv_i H
    refine gw_V1 okX9_isConstraint dX9_errorOfSolved_20 kw_1448 kw_1450 kw_38 (hp_o (h0.1)) rfl ⟨by decide, by decide⟩ ⟨by decide, by decide⟩ (Nat.le_of_ble_eq_true rfl) (w_X9_isConstraint (h0) e_v4 ?_)
    obtain ⟨g, H⟩ := gd_i H
    refine gw_if_eqZ (tgt := 30) dX9_errorOfSolved_23 rfl (by decide) g (fun q => ?_) (fun q => ?_)
    · have H := bq_t q H
      refine gw_iconstZ dX9_errorOfSolved_30 rfl ?_
      cases H
      exact gw_iret dX9_errorOfSolved_31 rfl (by decide) (by decide) hK
    · have H := bq_f q H
      refine gw_iconstZ dX9_errorOfSolved_26 rfl ?_
      refine gw_goto (tgt := 31) dX9_errorOfSolved_27 (by decide) ?_
      cases H
      exact gw_iret dX9_errorOfSolved_31 rfl (by decide) (by decide) hK
  refine gw_if_eqZ (tgt := 18) dX9_errorOfSolved_5 rfl (by decide) g (fun q => ?_) (fun q => ?_)
  · have H := bq_t q H
    exact gw_L (hJ_k2 _ H) ((lvA_c rfl (lvA_c rfl lvA_n)))
  · have H := bq_f q H
    refine gw_iload_n dX9_errorOfSolved_8 rfl rfl ?_
    refine gw_iconstZ dX9_errorOfSolved_9 rfl ?_
    refine gw_bipushZ dX9_errorOfSolved_10 rfl (by decide) ?_
    obtain ⟨v5, e_v5, H⟩ := cv_i H
    refine gw_S3 okX9_in dX9_errorOfSolved_12 kw_1413 kw_1414 ⟨by decide, by decide⟩ ⟨by decide, by decide⟩ (Nat.le_of_ble_eq_true rfl) (w_X9_in  e_v5 ?_)
    obtain ⟨g, H⟩ := gd_i H
    refine gw_if_neZ (tgt := 32) dX9_errorOfSolved_15 rfl (by decide) g (fun q => ?_) (fun q => ?_)
    · have H := bq_f q H
      refine gw_aload_n dX9_errorOfSolved_32 rfl rfl ?_
      obtain ⟨v7, c6, e_c6, H⟩ := cl_i H
      refine gw_V0 okX9_putAside dX9_errorOfSolved_33 kw_1889 kw_1891 kw_91 (hp_o (h0.1)) rfl ⟨by decide, by decide⟩ ⟨by decide, by decide⟩ (Nat.le_of_ble_eq_true rfl) (w_X9_putAside (h0) e_c6 ?_)
      refine gw_aload_n dX9_errorOfSolved_36 rfl rfl ?_
      refine gs_getR cl9 1 dX9_errorOfSolved_37 rfl kw_1320 (by decide) (h0.1) rfl ?_
      refine gw_bipushZ dX9_errorOfSolved_40 rfl (by decide) ?_
      refine gw_iload_n dX9_errorOfSolved_42 rfl rfl ?_
      refine gw_iaddZ dX9_errorOfSolved_43 rfl ?_
      refine gw_iload_n dX9_errorOfSolved_44 rfl rfl ?_
      obtain ⟨g, H⟩ := gd_i H
      obtain ⟨c8, e_c8, H⟩ := sto_i H
      refine gs_iastZE dX9_errorOfSolved_45 rfl (h0.2.1) g (by decide) e_c8 ?_
      refine gw_aload_n dX9_errorOfSolved_46 rfl rfl ?_
      obtain ⟨v10, c9, e_c9, H⟩ := cl_i H
      refine gw_V0 okX9_begins dX9_errorOfSolved_47 kw_1424 kw_1426 kw_35 (hp_o (h0.1)) rfl ⟨by decide, by decide⟩ ⟨by decide, by decide⟩ (Nat.le_of_ble_eq_true rfl) (w_X9_begins (h0) e_c9 ?_)
      refine gw_aload_n dX9_errorOfSolved_50 rfl rfl ?_
      obtain ⟨v11, c12, e_c12, H⟩ := cl_i H
      refine gw_V0 okX9_solves dX9_errorOfSolved_51 kw_1591 kw_1593 kw_66 (hp_o (h0.1)) rfl ⟨by decide, by decide⟩ ⟨by decide, by decide⟩ (Nat.le_of_ble_eq_true rfl) (w_X9_solves (h0) e_c12 ?_)
      refine gw_istore_n dX9_errorOfSolved_54 rfl (by decide) ?_
      refine gw_aload_n dX9_errorOfSolved_55 rfl rfl ?_
      obtain ⟨v13, c14, e_c14, H⟩ := cl_i H
      refine gw_V0 okX9_isBest dX9_errorOfSolved_56 kw_1559 kw_1561 kw_60 (hp_o (h0.1)) rfl ⟨by decide, by decide⟩ ⟨by decide, by decide⟩ (Nat.le_of_ble_eq_true rfl) (w_X9_isBest (h0) e_c14 ?_)
      refine gw_istore dX9_errorOfSolved_59 rfl (by decide) ?_
      refine gw_aload_n dX9_errorOfSolved_61 rfl rfl ?_
      obtain ⟨v16, c15, e_c15, H⟩ := cl_i H
      refine gw_V0 okX9_values dX9_errorOfSolved_62 kw_1755 kw_1757 kw_79 (hp_o (h0.1)) rfl ⟨by decide, by decide⟩ ⟨by decide, by decide⟩ (Nat.le_of_ble_eq_true rfl) (w_X9_values (h0) e_c15 ?_)
      refine gw_aload_n dX9_errorOfSolved_65 rfl rfl ?_
      obtain ⟨v18, c17, e_c17, H⟩ := cl_i H
      refine gw_V0 okX9_putBack dX9_errorOfSolved_66 kw_1893 kw_1895 kw_92 (hp_o (h0.1)) rfl ⟨by decide, by decide⟩ ⟨by decide, by decide⟩ (Nat.le_of_ble_eq_true rfl) (w_X9_putBack (h0) e_c17 ?_)
      refine gw_iload dX9_errorOfSolved_69 rfl rfl ?_
      obtain ⟨g, H⟩ := gd_i H
      refine gw_if_eqZ (tgt := 78) dX9_errorOfSolved_71 rfl (by decide) g (fun q => ?_) (fun q => ?_)
      · have H := bq_t q H
        refine gw_iconstZ dX9_errorOfSolved_78 rfl ?_
        cases H
        exact gw_iret dX9_errorOfSolved_79 rfl (by decide) (by decide) hK
      · have H := bq_f q H
        refine gw_iconstZ dX9_errorOfSolved_74 rfl ?_
        refine gw_goto (tgt := 79) dX9_errorOfSolved_75 (by decide) ?_
        cases H
        exact gw_iret dX9_errorOfSolved_79 rfl (by decide) (by decide) hK
    · have H := bq_t q H
      exact gw_L (hJ_k2 _ H) ((lvA_c rfl (lvA_c rfl lvA_n)))
set_option maxRecDepth 100000 in
set_option maxHeartbeats 4000000 in
theorem w_X9_solvedNumerator {Φ : gwC} {hb : gwHp} {M : Nat} {sh : Nat → Option gSh} {th : Nat} {p1 : Int} {p2 : Int} {c : W0} {r : Int × W0} {K : Option Value → gwHp → Prop} (h0 : sM sh th) (H : f_X9_solvedNumerator th p1 p2 c = some r) (hK : K (some (vL r.1)) (hp Φ hb M sh r.2)) : gw_Con Φ mX9_solvedNumerator none [.ref (M + th), vI p1, vI p2] (hp Φ hb M sh c) K := by
  unfold f_X9_solvedNumerator at H
  refine gw_start okX9_solvedNumerator (Nat.le_of_ble_eq_true rfl) ?_
  refine gw_aload_n dX9_solvedNumerator_0 rfl rfl ?_
  refine gw_aload_n dX9_solvedNumerator_1 rfl rfl ?_
  refine gw_iload_n dX9_solvedNumerator_2 rfl rfl ?_
  refine gw_iload_n dX9_solvedNumerator_3 rfl rfl ?_
  obtain ⟨v1, c2, e_c2, H⟩ := cl_i H
  refine gw_V2 okX9_errorOfSolved dX9_solvedNumerator_4 kw_1917 kw_1919 kw_95 (hp_o (h0.1)) rfl ⟨by decide, by decide⟩ ⟨by decide, by decide⟩ (Nat.le_of_ble_eq_true rfl) (w_X9_errorOfSolved (h0) e_c2 ?_)
  obtain ⟨v3, c4, e_c4, H⟩ := cl_i H
  refine gw_V1 okX9_holds dX9_solvedNumerator_7 kw_1416 kw_1418 kw_33 (hp_o (h0.1)) rfl ⟨by decide, by decide⟩ ⟨by decide, by decide⟩ (Nat.le_of_ble_eq_true rfl) (w_X9_holds (h0) e_c4 ?_)
  obtain ⟨g, H⟩ := gd_i H
  refine gw_if_eqZ (tgt := 20) dX9_solvedNumerator_10 rfl (by decide) g (fun q => ?_) (fun q => ?_)
  · have H := bq_t q H
    refine gw_lconst0Z dX9_solvedNumerator_20 rfl ?_
    cases H
    exact gw_lret dX9_solvedNumerator_21 rfl (by decide) (by decide) hK
  · have H := bq_f q H
    refine gw_aload_n dX9_solvedNumerator_13 rfl rfl ?_
    refine gs_getL cl9 16 16 dX9_solvedNumerator_14 rfl kw_1335 (by decide) (h0.1) rfl rfl ?_
    refine gw_goto (tgt := 21) dX9_solvedNumerator_17 (by decide) ?_
    cases H
    exact gw_lret dX9_solvedNumerator_21 rfl (by decide) (by decide) hK
set_option maxRecDepth 100000 in
set_option maxHeartbeats 4000000 in
theorem w_X9_solvedDenominator {Φ : gwC} {hb : gwHp} {M : Nat} {sh : Nat → Option gSh} {th : Nat} {p1 : Int} {p2 : Int} {c : W0} {r : Int × W0} {K : Option Value → gwHp → Prop} (h0 : sM sh th) (H : f_X9_solvedDenominator th p1 p2 c = some r) (hK : K (some (vL r.1)) (hp Φ hb M sh r.2)) : gw_Con Φ mX9_solvedDenominator none [.ref (M + th), vI p1, vI p2] (hp Φ hb M sh c) K := by
  unfold f_X9_solvedDenominator at H
  refine gw_start okX9_solvedDenominator (Nat.le_of_ble_eq_true rfl) ?_
  refine gw_aload_n dX9_solvedDenominator_0 rfl rfl ?_
  refine gw_aload_n dX9_solvedDenominator_1 rfl rfl ?_
  refine gw_iload_n dX9_solvedDenominator_2 rfl rfl ?_
  refine gw_iload_n dX9_solvedDenominator_3 rfl rfl ?_
  obtain ⟨v1, c2, e_c2, H⟩ := cl_i H
  refine gw_V2 okX9_errorOfSolved dX9_solvedDenominator_4 kw_1917 kw_1919 kw_95 (hp_o (h0.1)) rfl ⟨by decide, by decide⟩ ⟨by decide, by decide⟩ (Nat.le_of_ble_eq_true rfl) (w_X9_errorOfSolved (h0) e_c2 ?_)
  obtain ⟨v3, c4, e_c4, H⟩ := cl_i H
  refine gw_V1 okX9_holds dX9_solvedDenominator_7 kw_1416 kw_1418 kw_33 (hp_o (h0.1)) rfl ⟨by decide, by decide⟩ ⟨by decide, by decide⟩ (Nat.le_of_ble_eq_true rfl) (w_X9_holds (h0) e_c4 ?_)
  obtain ⟨g, H⟩ := gd_i H
  refine gw_if_eqZ (tgt := 20) dX9_solvedDenominator_10 rfl (by decide) g (fun q => ?_) (fun q => ?_)
  · have H := bq_t q H
    refine gw_lconst0Z dX9_solvedDenominator_20 rfl ?_
    cases H
    exact gw_lret dX9_solvedDenominator_21 rfl (by decide) (by decide) hK
  · have H := bq_f q H
    refine gw_aload_n dX9_solvedDenominator_13 rfl rfl ?_
    refine gs_getL cl9 17 17 dX9_solvedDenominator_14 rfl kw_1336 (by decide) (h0.1) rfl rfl ?_
    refine gw_goto (tgt := 21) dX9_solvedDenominator_17 (by decide) ?_
    cases H
    exact gw_lret dX9_solvedDenominator_21 rfl (by decide) (by decide) hK
set_option maxRecDepth 100000 in
set_option maxHeartbeats 4000000 in
theorem w_X9_takesIn {Φ : gwC} {hb : gwHp} {M : Nat} {sh : Nat → Option gSh} {th : Nat} {p1 : Int} {c : W0} {r : Int × W0} {K : Option Value → gwHp → Prop} (h0 : sM sh th) (H : f_X9_takesIn th p1 c = some r) (hK : K none (hp Φ hb M sh r.2)) : gw_Con Φ mX9_takesIn none [.ref (M + th), vL p1] (hp Φ hb M sh c) K := by
  unfold f_X9_takesIn at H
  refine gw_start okX9_takesIn (Nat.le_of_ble_eq_true rfl) ?_
  refine gw_aload_n dX9_takesIn_0 rfl rfl ?_
  refine gw_ldc2Z (z := 31) dX9_takesIn_1 rfl kw_1934 (by decide) ?_
  refine gw_aload_n dX9_takesIn_4 rfl rfl ?_
  refine gs_getL cl9 27 27 dX9_takesIn_5 rfl kw_1346 (by decide) (h0.1) rfl rfl ?_
  refine gw_lmulZ dX9_takesIn_8 rfl ?_
  refine gw_lload_n dX9_takesIn_9 rfl rfl ?_
  refine gw_laddZ dX9_takesIn_10 rfl ?_
  obtain ⟨c1, e_c1, H⟩ := sto_i H
  refine gs_putLE cl9 27 27 dX9_takesIn_11 rfl kw_1346 (by decide) rfl rfl (h0.1) rfl rfl e_c1 ?_
  cases H
  exact gw_vret dX9_takesIn_14 rfl (by decide) (by decide) hK
set_option maxRecDepth 100000 in
set_option maxHeartbeats 4000000 in
theorem w_X9_takesFraction {Φ : gwC} {hb : gwHp} {M : Nat} {sh : Nat → Option gSh} {th : Nat} {c : W0} {r : Int × W0} {K : Option Value → gwHp → Prop} (h0 : sM sh th) (H : f_X9_takesFraction th c = some r) (hK : K none (hp Φ hb M sh r.2)) : gw_Con Φ mX9_takesFraction none [.ref (M + th)] (hp Φ hb M sh c) K := by
  unfold f_X9_takesFraction at H
  refine gw_start okX9_takesFraction (Nat.le_of_ble_eq_true rfl) ?_
  refine gw_aload_n dX9_takesFraction_0 rfl rfl ?_
  refine gw_aload_n dX9_takesFraction_1 rfl rfl ?_
  refine gs_getL cl9 16 16 dX9_takesFraction_2 rfl kw_1335 (by decide) (h0.1) rfl rfl ?_
  obtain ⟨v2, c1, e_c1, H⟩ := cl_i H
  refine gw_V1 okX9_takesIn dX9_takesFraction_5 kw_1930 kw_1932 kw_96 (hp_o (h0.1)) rfl ⟨by decide, by decide⟩ ⟨by decide, by decide⟩ (Nat.le_of_ble_eq_true rfl) (w_X9_takesIn (h0) e_c1 ?_)
  refine gw_aload_n dX9_takesFraction_8 rfl rfl ?_
  refine gw_aload_n dX9_takesFraction_9 rfl rfl ?_
  refine gs_getL cl9 17 17 dX9_takesFraction_10 rfl kw_1336 (by decide) (h0.1) rfl rfl ?_
  obtain ⟨v4, c3, e_c3, H⟩ := cl_i H
  refine gw_V1 okX9_takesIn dX9_takesFraction_13 kw_1930 kw_1932 kw_96 (hp_o (h0.1)) rfl ⟨by decide, by decide⟩ ⟨by decide, by decide⟩ (Nat.le_of_ble_eq_true rfl) (w_X9_takesIn (h0) e_c3 ?_)
  cases H
  exact gw_vret dX9_takesFraction_16 rfl (by decide) (by decide) hK
set_option maxRecDepth 100000 in
set_option maxHeartbeats 4000000 in
theorem l_X9_bitsOf_15 {Φ : gwC} {hb : gwHp} {M : Nat} {sh : Nat → Option gSh} {c : W0} {κ : UInt64 → Int → Option Int} {r : Int} {K : Option Value → gwHp → Prop}  (hK : K (some (vL r)) (hp Φ hb M sh c)) (hκ : ∀ (x2 : UInt64) (x4 : Int), κ x2 x4 = some r → G Φ mX9_bitsOf (gw_M Φ mX9_bitsOf K) none 0 0 38 [(2, .double x2), (4, vL x4)] [] (hp Φ hb M sh c)) : ∀ (n : Nat) (l2 : UInt64) (l4 : Int), f_X9_bitsOf_15  κ n l2 l4 = some r → G Φ mX9_bitsOf (gw_M Φ mX9_bitsOf K) none 0 0 15 [(2, .double l2), (4, vL l4)] [] (hp Φ hb M sh c) := by
  intro n
  induction n with
  | zero => intro l2 l4 H; cases H
  | succ n ih =>
    intro l2 l4 H
    have H : b_X9_bitsOf_15  κ (f_X9_bitsOf_15  κ n) l2 l4 = some r := H
    unfold b_X9_bitsOf_15 at H
    refine gw_dload_n dX9_bitsOf_15 rfl rfl ?_
    refine gw_ldc2d dX9_bitsOf_16 rfl kw_1947 ?_
    refine gw_dcmp dX9_bitsOf_19 rfl ?_
    refine gw_dif_lt (tgt := 38) dX9_bitsOf_20 rfl (by decide) (fun q => ?_) (fun q => ?_)
    · have H := bq_t q H
      exact gw_L (hκ _ _ H) ((lvA_c rfl (lvA_c rfl lvA_n)))
    · have H := bq_f q H
      refine gw_dload_n dX9_bitsOf_23 rfl rfl ?_
      refine gw_ldc2d dX9_bitsOf_24 rfl kw_1947 ?_
      obtain ⟨g, H⟩ := gd_i H
      refine gw_ddiv dX9_bitsOf_27 rfl g ?_
      refine gw_dstore_n dX9_bitsOf_28 rfl (by decide) ?_
      refine gw_lload dX9_bitsOf_29 rfl rfl ?_
      refine gw_lconst1Z dX9_bitsOf_31 rfl ?_
      refine gw_laddZ dX9_bitsOf_32 rfl ?_
      refine gw_lstore dX9_bitsOf_33 rfl (by decide) ?_
      refine gw_goto (tgt := 15) dX9_bitsOf_35 (by decide) ?_
      exact gw_L (ih _ _ H) ((lvA_c rfl (lvA_c rfl lvA_n)))
set_option maxRecDepth 100000 in
set_option maxHeartbeats 4000000 in
theorem l_X9_bitsOf_38 {Φ : gwC} {hb : gwHp} {M : Nat} {sh : Nat → Option gSh} {c : W0} {κ : UInt64 → Int → Option Int} {r : Int} {K : Option Value → gwHp → Prop}  (hK : K (some (vL r)) (hp Φ hb M sh c)) (hκ : ∀ (x2 : UInt64) (x4 : Int), κ x2 x4 = some r → G Φ mX9_bitsOf (gw_M Φ mX9_bitsOf K) none 0 0 59 [(2, .double x2), (4, vL x4)] [] (hp Φ hb M sh c)) : ∀ (n : Nat) (l2 : UInt64) (l4 : Int), f_X9_bitsOf_38  κ n l2 l4 = some r → G Φ mX9_bitsOf (gw_M Φ mX9_bitsOf K) none 0 0 38 [(2, .double l2), (4, vL l4)] [] (hp Φ hb M sh c) := by
  intro n
  induction n with
  | zero => intro l2 l4 H; cases H
  | succ n ih =>
    intro l2 l4 H
    have H : b_X9_bitsOf_38  κ (f_X9_bitsOf_38  κ n) l2 l4 = some r := H
    unfold b_X9_bitsOf_38 at H
    refine gw_dload_n dX9_bitsOf_38 rfl rfl ?_
    refine gw_dconst1 dX9_bitsOf_39 rfl ?_
    refine gw_dcmp dX9_bitsOf_40 rfl ?_
    refine gw_dif_ge (tgt := 59) dX9_bitsOf_41 rfl (by decide) (fun q => ?_) (fun q => ?_)
    · have H := bq_f q H
      exact gw_L (hκ _ _ H) ((lvA_c rfl (lvA_c rfl lvA_n)))
    · have H := bq_t q H
      refine gw_dload_n dX9_bitsOf_44 rfl rfl ?_
      refine gw_ldc2d dX9_bitsOf_45 rfl kw_1947 ?_
      obtain ⟨g, H⟩ := gd_i H
      refine gw_dmul dX9_bitsOf_48 rfl g ?_
      refine gw_dstore_n dX9_bitsOf_49 rfl (by decide) ?_
      refine gw_lload dX9_bitsOf_50 rfl rfl ?_
      refine gw_lconst1Z dX9_bitsOf_52 rfl ?_
      refine gw_lsubZ dX9_bitsOf_53 rfl ?_
      refine gw_lstore dX9_bitsOf_54 rfl (by decide) ?_
      refine gw_goto (tgt := 38) dX9_bitsOf_56 (by decide) ?_
      exact gw_L (ih _ _ H) ((lvA_c rfl (lvA_c rfl lvA_n)))
set_option maxRecDepth 100000 in
set_option maxHeartbeats 4000000 in
theorem w_X9_bitsOf {Φ : gwC} {hb : gwHp} {M : Nat} {sh : Nat → Option gSh} {p1 : UInt64} {c : W0} {r : Int} {K : Option Value → gwHp → Prop}  (H : f_X9_bitsOf p1 = some r) (hK : K (some (vL r)) (hp Φ hb M sh c)) : gw_Con Φ mX9_bitsOf none [.double p1] (hp Φ hb M sh c) K := by
  unfold f_X9_bitsOf at H
  refine gw_start okX9_bitsOf (Nat.le_of_ble_eq_true rfl) ?_
  refine gw_dload_n dX9_bitsOf_0 rfl rfl ?_
  refine gw_dconst0 dX9_bitsOf_1 rfl ?_
  refine gw_dcmp dX9_bitsOf_2 rfl ?_
  refine gw_dif_ne (tgt := 8) dX9_bitsOf_3 rfl (by decide) (fun q => ?_) (fun q => ?_)
  · have H := bq_f q H
    refine gw_dload_n dX9_bitsOf_8 rfl rfl ?_
    refine gw_dstore_n dX9_bitsOf_9 rfl (by decide) ?_
    refine gw_ldc2Z (z := 1023) dX9_bitsOf_10 rfl kw_1946 (by decide) ?_
    refine gw_lstore dX9_bitsOf_13 rfl (by decide) ?_
    refine gw_L (l_X9_bitsOf_15  hK (fun v1 v2 H => ?_) LF _ _ H) ((lvA_c rfl (lvA_c rfl lvA_n)))
    refine gw_L (l_X9_bitsOf_38  hK (fun v3 v4 H => ?_) LF _ _ H) ((lvA_c rfl (lvA_c rfl lvA_n)))
    refine gw_lload dX9_bitsOf_59 rfl rfl ?_
    refine gw_bipushZ dX9_bitsOf_61 rfl (by decide) ?_
    refine gw_lshlZ dX9_bitsOf_63 rfl ?_
    refine gw_dload_n dX9_bitsOf_64 rfl rfl ?_
    refine gw_dconst1 dX9_bitsOf_65 rfl ?_
    obtain ⟨g, H⟩ := gd_i H
    refine gw_dsub dX9_bitsOf_66 rfl g ?_
    refine gw_ldc2d dX9_bitsOf_67 rfl kw_1948 ?_
    obtain ⟨g, H⟩ := gd_i H
    refine gw_dmul dX9_bitsOf_70 rfl g ?_
    refine gw_d2lZ dX9_bitsOf_71 rfl ?_
    refine gw_laddZ dX9_bitsOf_72 rfl ?_
    have e9 := Option.some.inj H
    rw [← e9] at hK
    try dsimp only at hK
    exact gw_lret dX9_bitsOf_73 rfl (by decide) (by decide) hK
  · have H := bq_t q H
    refine gw_lconst0Z dX9_bitsOf_6 rfl ?_
    cases H
    exact gw_lret dX9_bitsOf_7 rfl (by decide) (by decide) hK
set_option maxRecDepth 100000 in
set_option maxHeartbeats 4000000 in
theorem l_X9_takesConstraint_2 {Φ : gwC} {hb : gwHp} {M : Nat} {sh : Nat → Option gSh} {th : Nat} {p1 : Int} {κ : W0 → Option (Int × W0)} {r : Int × W0} {K : Option Value → gwHp → Prop} (h0 : sM sh th) (hK : K none (hp Φ hb M sh r.2)) (hκ : ∀ (c : W0), κ c = some r → G Φ mX9_takesConstraint (gw_M Φ mX9_takesConstraint K) none 0 0 36 [(0, .ref (M + th)), (1, vI p1)] [] (hp Φ hb M sh c)) : ∀ (n : Nat) (l2 : Int) (c : W0), f_X9_takesConstraint_2 th p1 κ n l2 c = some r → G Φ mX9_takesConstraint (gw_M Φ mX9_takesConstraint K) none 0 0 2 [(0, .ref (M + th)), (1, vI p1), (2, vI l2)] [] (hp Φ hb M sh c) := by
  intro n
  induction n with
  | zero => intro l2 c H; cases H
  | succ n ih =>
    intro l2 c H
    have H : b_X9_takesConstraint_2 th p1 κ (f_X9_takesConstraint_2 th p1 κ n) l2 c = some r := H
    unfold b_X9_takesConstraint_2 at H
    refine gw_iload_n dX9_takesConstraint_2 rfl rfl ?_
    refine gw_aload_n dX9_takesConstraint_3 rfl rfl ?_
    refine gs_getR cl9 1 dX9_takesConstraint_4 rfl kw_1320 (by decide) (h0.1) rfl ?_
    refine gw_iconstZ dX9_takesConstraint_7 rfl ?_
    refine gs_ialdZ dX9_takesConstraint_8 rfl (h0.2.1) (by decide) (by decide) ?_
    obtain ⟨g, H⟩ := gd_i H
    refine gw_icmp_geZ (tgt := 36) dX9_takesConstraint_9 rfl (by decide) g.1 g.2 (fun q => ?_) (fun q => ?_)
    · have H := bq_t q H
      exact gw_L (hκ _ H) ((lvA_c rfl (lvA_c rfl lvA_n)))
    · have H := bq_f q H
      refine gw_aload_n dX9_takesConstraint_12 rfl rfl ?_
      refine gw_aload_n dX9_takesConstraint_13 rfl rfl ?_
      refine gs_getR cl9 1 dX9_takesConstraint_14 rfl kw_1320 (by decide) (h0.1) rfl ?_
      refine gw_bipushZ dX9_takesConstraint_17 rfl (by decide) ?_
      refine gw_iconstZ dX9_takesConstraint_19 rfl ?_
      refine gw_iload_n dX9_takesConstraint_20 rfl rfl ?_
      refine gw_imulZ dX9_takesConstraint_21 rfl ?_
      refine gw_iaddZ dX9_takesConstraint_22 rfl ?_
      refine gw_iload_n dX9_takesConstraint_23 rfl rfl ?_
      refine gw_iaddZ dX9_takesConstraint_24 rfl ?_
      obtain ⟨g, H⟩ := gd_i H
      refine gs_ialdZ dX9_takesConstraint_25 rfl (h0.2.1) g (by decide) ?_
      obtain ⟨g, H⟩ := gd_i H
      refine gw_i2lZ dX9_takesConstraint_26 rfl g ?_
      obtain ⟨v2, c1, e_c1, H⟩ := cl_i H
      refine gw_V1 okX9_takesIn dX9_takesConstraint_27 kw_1930 kw_1932 kw_96 (hp_o (h0.1)) rfl ⟨by decide, by decide⟩ ⟨by decide, by decide⟩ (Nat.le_of_ble_eq_true rfl) (w_X9_takesIn (h0) e_c1 ?_)
      refine gw_iincZ dX9_takesConstraint_30 rfl rfl (by decide) ?_
      refine gw_goto (tgt := 2) dX9_takesConstraint_33 (by decide) ?_
      exact gw_L (ih _ _ H) ((lvA_c rfl (lvA_c rfl (lvA_c rfl lvA_n))))
set_option maxRecDepth 100000 in
set_option maxHeartbeats 4000000 in
theorem w_X9_takesConstraint {Φ : gwC} {hb : gwHp} {M : Nat} {sh : Nat → Option gSh} {th : Nat} {p1 : Int} {c : W0} {r : Int × W0} {K : Option Value → gwHp → Prop} (h0 : sM sh th) (H : f_X9_takesConstraint th p1 c = some r) (hK : K none (hp Φ hb M sh r.2)) : gw_Con Φ mX9_takesConstraint none [.ref (M + th), vI p1] (hp Φ hb M sh c) K := by
  unfold f_X9_takesConstraint at H
  refine gw_start okX9_takesConstraint (Nat.le_of_ble_eq_true rfl) ?_
  refine gw_iconstZ dX9_takesConstraint_0 rfl ?_
  refine gw_istore_n dX9_takesConstraint_1 rfl (by decide) ?_
  refine gw_L (l_X9_takesConstraint_2 h0 hK (fun c1 H => ?_) LF _ _ H) ((lvA_c rfl (lvA_c rfl (lvA_c rfl lvA_n))))
  refine gw_aload_n dX9_takesConstraint_36 rfl rfl ?_
  refine gw_aload_n dX9_takesConstraint_37 rfl rfl ?_
  refine gs_getR cl9 1 dX9_takesConstraint_38 rfl kw_1320 (by decide) (h0.1) rfl ?_
  refine gw_bipushZ dX9_takesConstraint_41 rfl (by decide) ?_
  refine gw_iload_n dX9_takesConstraint_43 rfl rfl ?_
  refine gw_iaddZ dX9_takesConstraint_44 rfl ?_
  obtain ⟨g, H⟩ := gd_i H
  refine gs_ialdZ dX9_takesConstraint_45 rfl (h0.2.1) g (by decide) ?_
  obtain ⟨g, H⟩ := gd_i H
  refine gw_i2lZ dX9_takesConstraint_46 rfl g ?_
  obtain ⟨v3, c2, e_c2, H⟩ := cl_i H
  refine gw_V1 okX9_takesIn dX9_takesConstraint_47 kw_1930 kw_1932 kw_96 (hp_o (h0.1)) rfl ⟨by decide, by decide⟩ ⟨by decide, by decide⟩ (Nat.le_of_ble_eq_true rfl) (w_X9_takesIn (h0) e_c2 ?_)
  refine gw_aload_n dX9_takesConstraint_50 rfl rfl ?_
  refine gw_iload_n dX9_takesConstraint_51 rfl rfl ?_
  obtain ⟨v5, c4, e_c4, H⟩ := cl_i H
  refine gw_V1 okX9_dualOf dX9_takesConstraint_52 kw_1783 kw_1785 kw_81 (hp_o (h0.1)) rfl ⟨by decide, by decide⟩ ⟨by decide, by decide⟩ (Nat.le_of_ble_eq_true rfl) (w_X9_dualOf (h0) e_c4 ?_)
  refine gw_aload_n dX9_takesConstraint_55 rfl rfl ?_
  obtain ⟨v7, c6, e_c6, H⟩ := cl_i H
  refine gw_V0 okX9_takesFraction dX9_takesConstraint_56 kw_1935 kw_1937 kw_97 (hp_o (h0.1)) rfl ⟨by decide, by decide⟩ ⟨by decide, by decide⟩ (Nat.le_of_ble_eq_true rfl) (w_X9_takesFraction (h0) e_c6 ?_)
  refine gw_aload_n dX9_takesConstraint_59 rfl rfl ?_
  obtain ⟨v9, c8, e_c8, H⟩ := cl_i H
  refine gw_V0 okX9_takesFraction dX9_takesConstraint_60 kw_1935 kw_1937 kw_97 (hp_o (h0.1)) rfl ⟨by decide, by decide⟩ ⟨by decide, by decide⟩ (Nat.le_of_ble_eq_true rfl) (w_X9_takesFraction (h0) e_c8 ?_)
  refine gw_aload_n dX9_takesConstraint_63 rfl rfl ?_
  refine gw_aload_n dX9_takesConstraint_64 rfl rfl ?_
  refine gw_iload_n dX9_takesConstraint_65 rfl rfl ?_
  refine gw_iconstZ dX9_takesConstraint_66 rfl ?_
  obtain ⟨v10, c11, e_c11, H⟩ := cl_i H
  refine gw_V2 okX9_outer dX9_takesConstraint_67 kw_1901 kw_1903 kw_93 (hp_o (h0.1)) rfl ⟨by decide, by decide⟩ ⟨by decide, by decide⟩ (Nat.le_of_ble_eq_true rfl) (w_X9_outer (h0) e_c11 ?_)
  obtain ⟨g, H⟩ := gd_i H
  refine gw_i2lZ dX9_takesConstraint_70 rfl g ?_
  obtain ⟨v13, c12, e_c12, H⟩ := cl_i H
  refine gw_V1 okX9_takesIn dX9_takesConstraint_71 kw_1930 kw_1932 kw_96 (hp_o (h0.1)) rfl ⟨by decide, by decide⟩ ⟨by decide, by decide⟩ (Nat.le_of_ble_eq_true rfl) (w_X9_takesIn (h0) e_c12 ?_)
  refine gw_aload_n dX9_takesConstraint_74 rfl rfl ?_
  refine gw_aload_n dX9_takesConstraint_75 rfl rfl ?_
  refine gw_iload_n dX9_takesConstraint_76 rfl rfl ?_
  refine gw_iconstZ dX9_takesConstraint_77 rfl ?_
  obtain ⟨v14, c15, e_c15, H⟩ := cl_i H
  refine gw_V2 okX9_outer dX9_takesConstraint_78 kw_1901 kw_1903 kw_93 (hp_o (h0.1)) rfl ⟨by decide, by decide⟩ ⟨by decide, by decide⟩ (Nat.le_of_ble_eq_true rfl) (w_X9_outer (h0) e_c15 ?_)
  obtain ⟨g, H⟩ := gd_i H
  refine gw_i2lZ dX9_takesConstraint_81 rfl g ?_
  obtain ⟨v17, c16, e_c16, H⟩ := cl_i H
  refine gw_V1 okX9_takesIn dX9_takesConstraint_82 kw_1930 kw_1932 kw_96 (hp_o (h0.1)) rfl ⟨by decide, by decide⟩ ⟨by decide, by decide⟩ (Nat.le_of_ble_eq_true rfl) (w_X9_takesIn (h0) e_c16 ?_)
  cases H
  exact gw_vret dX9_takesConstraint_85 rfl (by decide) (by decide) hK
set_option maxRecDepth 100000 in
set_option maxHeartbeats 4000000 in
theorem l_X9_digest_209 {Φ : gwC} {hb : gwHp} {M : Nat} {sh : Nat → Option gSh} {th : Nat} {l1 : Int} {l2 : Int} {l3 : UInt64} {κ : W0 → Option (Int × W0)} {r : Int × W0} {K : Option Value → gwHp → Prop} (h0 : sM sh th) (hK : K (some (vL r.1)) (hp Φ hb M sh r.2)) (hκ : ∀ (c : W0), κ c = some r → G Φ mX9_digest (gw_M Φ mX9_digest K) none 0 0 240 [(0, .ref (M + th)), (1, vI l1), (2, vI l2), (3, .double l3)] [] (hp Φ hb M sh c)) : ∀ (n : Nat) (l5 : Int) (c : W0), f_X9_digest_209 th l1 l2 l3 κ n l5 c = some r → G Φ mX9_digest (gw_M Φ mX9_digest K) none 0 0 209 [(0, .ref (M + th)), (1, vI l1), (2, vI l2), (3, .double l3), (5, vI l5)] [] (hp Φ hb M sh c) := by
  intro n
  induction n with
  | zero => intro l5 c H; cases H
  | succ n ih =>
    intro l5 c H
    have H : b_X9_digest_209 th l1 l2 l3 κ (f_X9_digest_209 th l1 l2 l3 κ n) l5 c = some r := H
    unfold b_X9_digest_209 at H
    refine gw_iload dX9_digest_209 rfl rfl ?_
    refine gw_aload_n dX9_digest_211 rfl rfl ?_
    refine gs_getR cl9 1 dX9_digest_212 rfl kw_1320 (by decide) (h0.1) rfl ?_
    refine gw_iconstZ dX9_digest_215 rfl ?_
    refine gs_ialdZ dX9_digest_216 rfl (h0.2.1) (by decide) (by decide) ?_
    obtain ⟨g, H⟩ := gd_i H
    refine gw_icmp_geZ (tgt := 240) dX9_digest_217 rfl (by decide) g.1 g.2 (fun q => ?_) (fun q => ?_)
    · have H := bq_t q H
      exact gw_L (hκ _ H) ((lvA_c rfl (lvA_c rfl (lvA_c rfl (lvA_c rfl lvA_n)))))
    · have H := bq_f q H
      refine gw_aload_n dX9_digest_220 rfl rfl ?_
      refine gw_aload_n dX9_digest_221 rfl rfl ?_
      refine gs_getR cl9 1 dX9_digest_222 rfl kw_1320 (by decide) (h0.1) rfl ?_
      refine gw_iconstZ dX9_digest_225 rfl ?_
      refine gw_iload dX9_digest_226 rfl rfl ?_
      refine gw_iaddZ dX9_digest_228 rfl ?_
      obtain ⟨g, H⟩ := gd_i H
      refine gs_ialdZ dX9_digest_229 rfl (h0.2.1) g (by decide) ?_
      obtain ⟨g, H⟩ := gd_i H
      refine gw_i2lZ dX9_digest_230 rfl g ?_
      obtain ⟨v2, c1, e_c1, H⟩ := cl_i H
      refine gw_V1 okX9_takesIn dX9_digest_231 kw_1930 kw_1932 kw_96 (hp_o (h0.1)) rfl ⟨by decide, by decide⟩ ⟨by decide, by decide⟩ (Nat.le_of_ble_eq_true rfl) (w_X9_takesIn (h0) e_c1 ?_)
      refine gw_iincZ dX9_digest_234 rfl rfl (by decide) ?_
      refine gw_goto (tgt := 209) dX9_digest_237 (by decide) ?_
      exact gw_L (ih _ _ H) ((lvA_c rfl (lvA_c rfl (lvA_c rfl (lvA_c rfl (lvA_c rfl lvA_n))))))
set_option maxRecDepth 100000 in
set_option maxHeartbeats 4000000 in
theorem l_X9_digest_243 {Φ : gwC} {hb : gwHp} {M : Nat} {sh : Nat → Option gSh} {th : Nat} {l1 : Int} {l2 : Int} {l3 : UInt64} {κ : W0 → Option (Int × W0)} {r : Int × W0} {K : Option Value → gwHp → Prop} (h0 : sM sh th) (hK : K (some (vL r.1)) (hp Φ hb M sh r.2)) (hκ : ∀ (c : W0), κ c = some r → G Φ mX9_digest (gw_M Φ mX9_digest K) none 0 0 266 [(0, .ref (M + th)), (1, vI l1), (2, vI l2), (3, .double l3)] [] (hp Φ hb M sh c)) : ∀ (n : Nat) (l5 : Int) (c : W0), f_X9_digest_243 th l1 l2 l3 κ n l5 c = some r → G Φ mX9_digest (gw_M Φ mX9_digest K) none 0 0 243 [(0, .ref (M + th)), (1, vI l1), (2, vI l2), (3, .double l3), (5, vI l5)] [] (hp Φ hb M sh c) := by
  intro n
  induction n with
  | zero => intro l5 c H; cases H
  | succ n ih =>
    intro l5 c H
    have H : b_X9_digest_243 th l1 l2 l3 κ (f_X9_digest_243 th l1 l2 l3 κ n) l5 c = some r := H
    unfold b_X9_digest_243 at H
    refine gw_iload dX9_digest_243 rfl rfl ?_
    refine gw_aload_n dX9_digest_245 rfl rfl ?_
    refine gs_getR cl9 1 dX9_digest_246 rfl kw_1320 (by decide) (h0.1) rfl ?_
    refine gw_iconstZ dX9_digest_249 rfl ?_
    refine gs_ialdZ dX9_digest_250 rfl (h0.2.1) (by decide) (by decide) ?_
    obtain ⟨g, H⟩ := gd_i H
    refine gw_icmp_geZ (tgt := 266) dX9_digest_251 rfl (by decide) g.1 g.2 (fun q => ?_) (fun q => ?_)
    · have H := bq_t q H
      exact gw_L (hκ _ H) ((lvA_c rfl (lvA_c rfl (lvA_c rfl (lvA_c rfl lvA_n)))))
    · have H := bq_f q H
      refine gw_aload_n dX9_digest_254 rfl rfl ?_
      refine gw_iload dX9_digest_255 rfl rfl ?_
      obtain ⟨v2, c1, e_c1, H⟩ := cl_i H
      refine gw_V1 okX9_takesConstraint dX9_digest_257 kw_1939 kw_1941 kw_98 (hp_o (h0.1)) rfl ⟨by decide, by decide⟩ ⟨by decide, by decide⟩ (Nat.le_of_ble_eq_true rfl) (w_X9_takesConstraint (h0) e_c1 ?_)
      refine gw_iincZ dX9_digest_260 rfl rfl (by decide) ?_
      refine gw_goto (tgt := 243) dX9_digest_263 (by decide) ?_
      exact gw_L (ih _ _ H) ((lvA_c rfl (lvA_c rfl (lvA_c rfl (lvA_c rfl (lvA_c rfl lvA_n))))))
set_option maxRecDepth 100000 in
set_option maxHeartbeats 4000000 in
theorem l_X9_digest_269 {Φ : gwC} {hb : gwHp} {M : Nat} {sh : Nat → Option gSh} {th : Nat} {l1 : Int} {l2 : Int} {l3 : UInt64} {κ : W0 → Option (Int × W0)} {r : Int × W0} {K : Option Value → gwHp → Prop} (h0 : sM sh th) (hK : K (some (vL r.1)) (hp Φ hb M sh r.2)) (hκ : ∀ (c : W0), κ c = some r → G Φ mX9_digest (gw_M Φ mX9_digest K) none 0 0 322 [(0, .ref (M + th)), (1, vI l1), (2, vI l2), (3, .double l3)] [] (hp Φ hb M sh c)) : ∀ (n : Nat) (l5 : Int) (c : W0), f_X9_digest_269 th l1 l2 l3 κ n l5 c = some r → G Φ mX9_digest (gw_M Φ mX9_digest K) none 0 0 269 [(0, .ref (M + th)), (1, vI l1), (2, vI l2), (3, .double l3), (5, vI l5)] [] (hp Φ hb M sh c) := by
  intro n
  induction n with
  | zero => intro l5 c H; cases H
  | succ n ih =>
    intro l5 c H
    have H : b_X9_digest_269 th l1 l2 l3 κ (f_X9_digest_269 th l1 l2 l3 κ n) l5 c = some r := H
    unfold b_X9_digest_269 at H
    refine gw_iload dX9_digest_269 rfl rfl ?_
    refine gw_aload_n dX9_digest_271 rfl rfl ?_
    obtain ⟨v1, e_v1, H⟩ := cv_i H
    refine gw_V0 okX9_columns dX9_digest_272 kw_1476 kw_1478 kw_41 (hp_o (h0.1)) rfl ⟨by decide, by decide⟩ ⟨by decide, by decide⟩ (Nat.le_of_ble_eq_true rfl) (w_X9_columns (h0) e_v1 ?_)
    obtain ⟨g, H⟩ := gd_i H
    refine gw_icmp_geZ (tgt := 322) dX9_digest_275 rfl (by decide) g.1 g.2 (fun q => ?_) (fun q => ?_)
    · have H := bq_t q H
      exact gw_L (hκ _ H) ((lvA_c rfl (lvA_c rfl (lvA_c rfl (lvA_c rfl lvA_n)))))
    · have H := bq_f q H
      refine gw_aload_n dX9_digest_278 rfl rfl ?_
      refine gw_aload_n dX9_digest_279 rfl rfl ?_
      refine gw_iload dX9_digest_280 rfl rfl ?_
      obtain ⟨v2, e_v2, H⟩ := cv_i H
      refine gw_V1 okX9_isIn dX9_digest_282 kw_1515 kw_1517 kw_50 (hp_o (h0.1)) rfl ⟨by decide, by decide⟩ ⟨by decide, by decide⟩ (Nat.le_of_ble_eq_true rfl) (w_X9_isIn (h0) e_v2 ?_)
      obtain ⟨g, H⟩ := gd_i H
      obtain ⟨k3, e_k3, H⟩ := jn_i H
      have hJ_k3 : ∀ (v4 : Int), k3 v4 = some r → G Φ mX9_digest (gw_M Φ mX9_digest K) none 0 0 293 [(0, .ref (M + th)), (1, vI l1), (2, vI l2), (3, .double l3), (5, vI l5)] [vL v4, .ref (M + th)] (hp Φ hb M sh c) := by
        intro v4 H
        subst e_k3
        obtain ⟨v6, c5, e_c5, H⟩ := cl_i H
        refine gw_V1 okX9_takesIn dX9_digest_293 kw_1930 kw_1932 kw_96 (hp_o (h0.1)) rfl ⟨by decide, by decide⟩ ⟨by decide, by decide⟩ (Nat.le_of_ble_eq_true rfl) (w_X9_takesIn (h0) e_c5 ?_)
        refine gw_aload_n dX9_digest_296 rfl rfl ?_
        refine gw_iload dX9_digest_297 rfl rfl ?_
        obtain ⟨v8, c7, e_c7, H⟩ := cl_i H
        refine gw_V1 okX9_reducedOf dX9_digest_299 kw_1739 kw_1741 kw_77 (hp_o (h0.1)) rfl ⟨by decide, by decide⟩ ⟨by decide, by decide⟩ (Nat.le_of_ble_eq_true rfl) (w_X9_reducedOf (h0) e_c7 ?_)
        refine gw_aload_n dX9_digest_302 rfl rfl ?_
        obtain ⟨v10, c9, e_c9, H⟩ := cl_i H
        refine gw_V0 okX9_takesFraction dX9_digest_303 kw_1935 kw_1937 kw_97 (hp_o (h0.1)) rfl ⟨by decide, by decide⟩ ⟨by decide, by decide⟩ (Nat.le_of_ble_eq_true rfl) (w_X9_takesFraction (h0) e_c9 ?_)
        refine gw_aload_n dX9_digest_306 rfl rfl ?_
        refine gw_iload dX9_digest_307 rfl rfl ?_
        obtain ⟨v12, c11, e_c11, H⟩ := cl_i H
        refine gw_V1 okX9_givenTo dX9_digest_309 kw_1767 kw_1769 kw_80 (hp_o (h0.1)) rfl ⟨by decide, by decide⟩ ⟨by decide, by decide⟩ (Nat.le_of_ble_eq_true rfl) (w_X9_givenTo (h0) e_c11 ?_)
        refine gw_aload_n dX9_digest_312 rfl rfl ?_
        obtain ⟨v14, c13, e_c13, H⟩ := cl_i H
        refine gw_V0 okX9_takesFraction dX9_digest_313 kw_1935 kw_1937 kw_97 (hp_o (h0.1)) rfl ⟨by decide, by decide⟩ ⟨by decide, by decide⟩ (Nat.le_of_ble_eq_true rfl) (w_X9_takesFraction (h0) e_c13 ?_)
        refine gw_iincZ dX9_digest_316 rfl rfl (by decide) ?_
        refine gw_goto (tgt := 269) dX9_digest_319 (by decide) ?_
        exact gw_L (ih _ _ H) ((lvA_c rfl (lvA_c rfl (lvA_c rfl (lvA_c rfl (lvA_c rfl lvA_n))))))
      refine gw_if_eqZ (tgt := 292) dX9_digest_285 rfl (by decide) g (fun q => ?_) (fun q => ?_)
      · have H := bq_t q H
        refine gw_lconst0Z dX9_digest_292 rfl ?_
        exact gw_L (hJ_k3 _ H) ((lvA_c rfl (lvA_c rfl (lvA_c rfl (lvA_c rfl (lvA_c rfl lvA_n))))))
      · have H := bq_f q H
        refine gw_lconst1Z dX9_digest_288 rfl ?_
        refine gw_goto (tgt := 293) dX9_digest_289 (by decide) ?_
        exact gw_L (hJ_k3 _ H) ((lvA_c rfl (lvA_c rfl (lvA_c rfl (lvA_c rfl (lvA_c rfl lvA_n))))))
set_option maxRecDepth 100000 in
set_option maxHeartbeats 4000000 in
theorem l_X9_digest_355 {Φ : gwC} {hb : gwHp} {M : Nat} {sh : Nat → Option gSh} {th : Nat} {l1 : Int} {l2 : Int} {l3 : UInt64} {l5 : Int} {κ : W0 → Option (Int × W0)} {r : Int × W0} {K : Option Value → gwHp → Prop} (h0 : sM sh th) (hK : K (some (vL r.1)) (hp Φ hb M sh r.2)) (hκ : ∀ (c : W0), κ c = some r → G Φ mX9_digest (gw_M Φ mX9_digest K) none 0 0 404 [(0, .ref (M + th)), (1, vI l1), (2, vI l2), (3, .double l3), (5, vI l5)] [] (hp Φ hb M sh c)) : ∀ (n : Nat) (l6 : Int) (c : W0), f_X9_digest_355 th l1 l2 l3 l5 κ n l6 c = some r → G Φ mX9_digest (gw_M Φ mX9_digest K) none 0 0 355 [(0, .ref (M + th)), (1, vI l1), (2, vI l2), (3, .double l3), (5, vI l5), (6, vI l6)] [] (hp Φ hb M sh c) := by
  intro n
  induction n with
  | zero => intro l6 c H; cases H
  | succ n ih =>
    intro l6 c H
    have H : b_X9_digest_355 th l1 l2 l3 l5 κ (f_X9_digest_355 th l1 l2 l3 l5 κ n) l6 c = some r := H
    unfold b_X9_digest_355 at H
    refine gw_iload dX9_digest_355 rfl rfl ?_
    refine gw_aload_n dX9_digest_357 rfl rfl ?_
    obtain ⟨v1, e_v1, H⟩ := cv_i H
    refine gw_V0 okX9_columns dX9_digest_358 kw_1476 kw_1478 kw_41 (hp_o (h0.1)) rfl ⟨by decide, by decide⟩ ⟨by decide, by decide⟩ (Nat.le_of_ble_eq_true rfl) (w_X9_columns (h0) e_v1 ?_)
    obtain ⟨g, H⟩ := gd_i H
    refine gw_icmp_geZ (tgt := 404) dX9_digest_361 rfl (by decide) g.1 g.2 (fun q => ?_) (fun q => ?_)
    · have H := bq_t q H
      exact gw_L (hκ _ H) ((lvA_c rfl (lvA_c rfl (lvA_c rfl (lvA_c rfl (lvA_c rfl lvA_n))))))
    · have H := bq_f q H
      refine gw_aload_n dX9_digest_364 rfl rfl ?_
      refine gw_aload_n dX9_digest_365 rfl rfl ?_
      refine gs_getR cl9 9 dX9_digest_366 rfl kw_1328 (by decide) (h0.1) rfl ?_
      refine gw_bipushZ dX9_digest_369 rfl (by decide) ?_
      refine gw_iload dX9_digest_371 rfl rfl ?_
      refine gw_imulZ dX9_digest_373 rfl ?_
      refine gw_iload dX9_digest_374 rfl rfl ?_
      refine gw_iaddZ dX9_digest_376 rfl ?_
      obtain ⟨g, H⟩ := gd_i H
      refine gs_laldZ dX9_digest_377 rfl (h0.2.2.2.2.2.2.1) g (by decide) ?_
      obtain ⟨v3, c2, e_c2, H⟩ := cl_i H
      refine gw_V1 okX9_takesIn dX9_digest_378 kw_1930 kw_1932 kw_96 (hp_o (h0.1)) rfl ⟨by decide, by decide⟩ ⟨by decide, by decide⟩ (Nat.le_of_ble_eq_true rfl) (w_X9_takesIn (h0) e_c2 ?_)
      refine gw_aload_n dX9_digest_381 rfl rfl ?_
      refine gw_aload_n dX9_digest_382 rfl rfl ?_
      refine gs_getR cl9 10 dX9_digest_383 rfl kw_1329 (by decide) (h0.1) rfl ?_
      refine gw_bipushZ dX9_digest_386 rfl (by decide) ?_
      refine gw_iload dX9_digest_388 rfl rfl ?_
      refine gw_imulZ dX9_digest_390 rfl ?_
      refine gw_iload dX9_digest_391 rfl rfl ?_
      refine gw_iaddZ dX9_digest_393 rfl ?_
      obtain ⟨g, H⟩ := gd_i H
      refine gs_laldZ dX9_digest_394 rfl (h0.2.2.2.2.2.2.2.1) g (by decide) ?_
      obtain ⟨v5, c4, e_c4, H⟩ := cl_i H
      refine gw_V1 okX9_takesIn dX9_digest_395 kw_1930 kw_1932 kw_96 (hp_o (h0.1)) rfl ⟨by decide, by decide⟩ ⟨by decide, by decide⟩ (Nat.le_of_ble_eq_true rfl) (w_X9_takesIn (h0) e_c4 ?_)
      refine gw_iincZ dX9_digest_398 rfl rfl (by decide) ?_
      refine gw_goto (tgt := 355) dX9_digest_401 (by decide) ?_
      exact gw_L (ih _ _ H) ((lvA_c rfl (lvA_c rfl (lvA_c rfl (lvA_c rfl (lvA_c rfl (lvA_c rfl lvA_n)))))))
set_option maxRecDepth 100000 in
set_option maxHeartbeats 4000000 in
theorem l_X9_digest_329 {Φ : gwC} {hb : gwHp} {M : Nat} {sh : Nat → Option gSh} {th : Nat} {l1 : Int} {l2 : Int} {l3 : UInt64} {κ : W0 → Option (Int × W0)} {r : Int × W0} {K : Option Value → gwHp → Prop} (h0 : sM sh th) (hK : K (some (vL r.1)) (hp Φ hb M sh r.2)) (hκ : ∀ (c : W0), κ c = some r → G Φ mX9_digest (gw_M Φ mX9_digest K) none 0 0 410 [(0, .ref (M + th)), (1, vI l1), (2, vI l2), (3, .double l3)] [] (hp Φ hb M sh c)) : ∀ (n : Nat) (l5 : Int) (c : W0), f_X9_digest_329 th l1 l2 l3 κ n l5 c = some r → G Φ mX9_digest (gw_M Φ mX9_digest K) none 0 0 329 [(0, .ref (M + th)), (1, vI l1), (2, vI l2), (3, .double l3), (5, vI l5)] [] (hp Φ hb M sh c) := by
  intro n
  induction n with
  | zero => intro l5 c H; cases H
  | succ n ih =>
    intro l5 c H
    have H : b_X9_digest_329 th l1 l2 l3 κ (f_X9_digest_329 th l1 l2 l3 κ n) l5 c = some r := H
    unfold b_X9_digest_329 at H
    refine gw_iload dX9_digest_329 rfl rfl ?_
    refine gw_aload_n dX9_digest_331 rfl rfl ?_
    refine gs_getR cl9 1 dX9_digest_332 rfl kw_1320 (by decide) (h0.1) rfl ?_
    refine gw_iconstZ dX9_digest_335 rfl ?_
    refine gs_ialdZ dX9_digest_336 rfl (h0.2.1) (by decide) (by decide) ?_
    obtain ⟨g, H⟩ := gd_i H
    refine gw_icmp_geZ (tgt := 410) dX9_digest_337 rfl (by decide) g.1 g.2 (fun q => ?_) (fun q => ?_)
    · have H := bq_t q H
      exact gw_L (hκ _ H) ((lvA_c rfl (lvA_c rfl (lvA_c rfl (lvA_c rfl lvA_n)))))
    · have H := bq_f q H
      refine gw_aload_n dX9_digest_340 rfl rfl ?_
      refine gw_aload_n dX9_digest_341 rfl rfl ?_
      refine gs_getR cl9 11 dX9_digest_342 rfl kw_1330 (by decide) (h0.1) rfl ?_
      refine gw_iload dX9_digest_345 rfl rfl ?_
      obtain ⟨g, H⟩ := gd_i H
      refine gs_ialdZ dX9_digest_347 rfl (h0.2.2.2.2.2.2.2.2.1) g (by decide) ?_
      obtain ⟨g, H⟩ := gd_i H
      refine gw_i2lZ dX9_digest_348 rfl g ?_
      obtain ⟨v2, c1, e_c1, H⟩ := cl_i H
      refine gw_V1 okX9_takesIn dX9_digest_349 kw_1930 kw_1932 kw_96 (hp_o (h0.1)) rfl ⟨by decide, by decide⟩ ⟨by decide, by decide⟩ (Nat.le_of_ble_eq_true rfl) (w_X9_takesIn (h0) e_c1 ?_)
      refine gw_iconstZ dX9_digest_352 rfl ?_
      refine gw_istore dX9_digest_353 rfl (by decide) ?_
      refine gw_L (l_X9_digest_355 h0 hK (fun c3 H => ?_) LF _ _ H) ((lvA_c rfl (lvA_c rfl (lvA_c rfl (lvA_c rfl (lvA_c rfl (lvA_c rfl lvA_n)))))))
      refine gw_iincZ dX9_digest_404 rfl rfl (by decide) ?_
      refine gw_goto (tgt := 329) dX9_digest_407 (by decide) ?_
      exact gw_L (ih _ _ H) ((lvA_c rfl (lvA_c rfl (lvA_c rfl (lvA_c rfl (lvA_c rfl lvA_n))))))
set_option maxRecDepth 100000 in
set_option maxHeartbeats 4000000 in
theorem l_X9_digest_471 {Φ : gwC} {hb : gwHp} {M : Nat} {sh : Nat → Option gSh} {th : Nat} {κ : W0 → Option (Int × W0)} {r : Int × W0} {K : Option Value → gwHp → Prop} (h0 : sM sh th) (hK : K (some (vL r.1)) (hp Φ hb M sh r.2)) (hκ : ∀ (c : W0), κ c = some r → G Φ mX9_digest (gw_M Φ mX9_digest K) none 0 0 498 [(0, .ref (M + th))] [] (hp Φ hb M sh c)) : ∀ (n : Nat) (l5 : Int) (c : W0), f_X9_digest_471 th κ n l5 c = some r → G Φ mX9_digest (gw_M Φ mX9_digest K) none 0 0 471 [(0, .ref (M + th)), (5, vI l5)] [] (hp Φ hb M sh c) := by
  intro n
  induction n with
  | zero => intro l5 c H; cases H
  | succ n ih =>
    intro l5 c H
    have H : b_X9_digest_471 th κ (f_X9_digest_471 th κ n) l5 c = some r := H
    unfold b_X9_digest_471 at H
    refine gw_iload dX9_digest_471 rfl rfl ?_
    refine gw_aload_n dX9_digest_473 rfl rfl ?_
    refine gs_getI cl9 8 8 dX9_digest_474 rfl kw_1327 (by decide) (h0.1) rfl rfl ?_
    obtain ⟨g, H⟩ := gd_i H
    refine gw_icmp_geZ (tgt := 498) dX9_digest_477 rfl (by decide) g.1 g.2 (fun q => ?_) (fun q => ?_)
    · have H := bq_t q H
      exact gw_L (hκ _ H) ((lvA_c rfl lvA_n))
    · have H := bq_f q H
      refine gw_aload_n dX9_digest_480 rfl rfl ?_
      refine gw_aload_n dX9_digest_481 rfl rfl ?_
      refine gs_getR cl9 7 dX9_digest_482 rfl kw_1326 (by decide) (h0.1) rfl ?_
      refine gw_iload dX9_digest_485 rfl rfl ?_
      obtain ⟨g, H⟩ := gd_i H
      refine gs_ialdZ dX9_digest_487 rfl (h0.2.2.2.2.2.1) g (by decide) ?_
      obtain ⟨g, H⟩ := gd_i H
      refine gw_i2lZ dX9_digest_488 rfl g ?_
      obtain ⟨v2, c1, e_c1, H⟩ := cl_i H
      refine gw_V1 okX9_takesIn dX9_digest_489 kw_1930 kw_1932 kw_96 (hp_o (h0.1)) rfl ⟨by decide, by decide⟩ ⟨by decide, by decide⟩ (Nat.le_of_ble_eq_true rfl) (w_X9_takesIn (h0) e_c1 ?_)
      refine gw_iincZ dX9_digest_492 rfl rfl (by decide) ?_
      refine gw_goto (tgt := 471) dX9_digest_495 (by decide) ?_
      exact gw_L (ih _ _ H) ((lvA_c rfl (lvA_c rfl lvA_n)))
set_option maxRecDepth 100000 in
set_option maxHeartbeats 4000000 in
theorem w_X9_digest {Φ : gwC} {hb : gwHp} {M : Nat} {sh : Nat → Option gSh} {th : Nat} {c : W0} {r : Int × W0} {K : Option Value → gwHp → Prop} (h0 : sM sh th) (H : f_X9_digest th c = some r) (hK : K (some (vL r.1)) (hp Φ hb M sh r.2)) : gw_Con Φ mX9_digest none [.ref (M + th)] (hp Φ hb M sh c) K := by
  unfold f_X9_digest at H
  refine gw_start okX9_digest (Nat.le_of_ble_eq_true rfl) ?_
  refine gw_aload_n dX9_digest_0 rfl rfl ?_
  refine gw_iconstZ dX9_digest_1 rfl ?_
  obtain ⟨c1, e_c1, H⟩ := sto_i H
  refine gs_putIE cl9 0 0 dX9_digest_2 rfl kw_1319 (by decide) rfl rfl (h0.1) rfl rfl e_c1 ?_
  refine gw_aload_n dX9_digest_5 rfl rfl ?_
  refine gw_ldc2Z (z := 4339) dX9_digest_6 rfl kw_1929 (by decide) ?_
  obtain ⟨c2, e_c2, H⟩ := sto_i H
  refine gs_putLE cl9 27 27 dX9_digest_9 rfl kw_1346 (by decide) rfl rfl (h0.1) rfl rfl e_c2 ?_
  refine gw_aload_n dX9_digest_12 rfl rfl ?_
  refine gw_aload_n dX9_digest_13 rfl rfl ?_
  refine gs_getR cl9 1 dX9_digest_14 rfl kw_1320 (by decide) (h0.1) rfl ?_
  refine gw_iconstZ dX9_digest_17 rfl ?_
  refine gs_ialdZ dX9_digest_18 rfl (h0.2.1) (by decide) (by decide) ?_
  obtain ⟨g, H⟩ := gd_i H
  refine gw_i2lZ dX9_digest_19 rfl g ?_
  obtain ⟨v4, c3, e_c3, H⟩ := cl_i H
  refine gw_V1 okX9_takesIn dX9_digest_20 kw_1930 kw_1932 kw_96 (hp_o (h0.1)) rfl ⟨by decide, by decide⟩ ⟨by decide, by decide⟩ (Nat.le_of_ble_eq_true rfl) (w_X9_takesIn (h0) e_c3 ?_)
  refine gw_aload_n dX9_digest_23 rfl rfl ?_
  refine gw_aload_n dX9_digest_24 rfl rfl ?_
  refine gs_getR cl9 1 dX9_digest_25 rfl kw_1320 (by decide) (h0.1) rfl ?_
  refine gw_iconstZ dX9_digest_28 rfl ?_
  refine gs_ialdZ dX9_digest_29 rfl (h0.2.1) (by decide) (by decide) ?_
  obtain ⟨g, H⟩ := gd_i H
  refine gw_i2lZ dX9_digest_30 rfl g ?_
  obtain ⟨v6, c5, e_c5, H⟩ := cl_i H
  refine gw_V1 okX9_takesIn dX9_digest_31 kw_1930 kw_1932 kw_96 (hp_o (h0.1)) rfl ⟨by decide, by decide⟩ ⟨by decide, by decide⟩ (Nat.le_of_ble_eq_true rfl) (w_X9_takesIn (h0) e_c5 ?_)
  refine gw_aload_n dX9_digest_34 rfl rfl ?_
  refine gw_aload_n dX9_digest_35 rfl rfl ?_
  refine gs_getR cl9 1 dX9_digest_36 rfl kw_1320 (by decide) (h0.1) rfl ?_
  refine gw_bipushZ dX9_digest_39 rfl (by decide) ?_
  refine gs_ialdZ dX9_digest_41 rfl (h0.2.1) (by decide) (by decide) ?_
  obtain ⟨g, H⟩ := gd_i H
  refine gw_i2lZ dX9_digest_42 rfl g ?_
  obtain ⟨v8, c7, e_c7, H⟩ := cl_i H
  refine gw_V1 okX9_takesIn dX9_digest_43 kw_1930 kw_1932 kw_96 (hp_o (h0.1)) rfl ⟨by decide, by decide⟩ ⟨by decide, by decide⟩ (Nat.le_of_ble_eq_true rfl) (w_X9_takesIn (h0) e_c7 ?_)
  refine gw_aload_n dX9_digest_46 rfl rfl ?_
  obtain ⟨v10, c9, e_c9, H⟩ := cl_i H
  refine gw_V0 okX9_laysNow dX9_digest_47 kw_1484 kw_1486 kw_43 (hp_o (h0.1)) rfl ⟨by decide, by decide⟩ ⟨by decide, by decide⟩ (Nat.le_of_ble_eq_true rfl) (w_X9_laysNow (h0) e_c9 ?_)
  refine gw_aload_n dX9_digest_50 rfl rfl ?_
  obtain ⟨v11, c12, e_c12, H⟩ := cl_i H
  refine gw_V0 okX9_isBest dX9_digest_51 kw_1559 kw_1561 kw_60 (hp_o (h0.1)) rfl ⟨by decide, by decide⟩ ⟨by decide, by decide⟩ (Nat.le_of_ble_eq_true rfl) (w_X9_isBest (h0) e_c12 ?_)
  refine gw_istore_n dX9_digest_54 rfl (by decide) ?_
  refine gw_aload_n dX9_digest_55 rfl rfl ?_
  obtain ⟨v13, c14, e_c14, H⟩ := cl_i H
  refine gw_V0 okX9_endless dX9_digest_56 kw_1563 kw_1565 kw_61 (hp_o (h0.1)) rfl ⟨by decide, by decide⟩ ⟨by decide, by decide⟩ (Nat.le_of_ble_eq_true rfl) (w_X9_endless (h0) e_c14 ?_)
  refine gw_istore_n dX9_digest_59 rfl (by decide) ?_
  refine gw_aload_n dX9_digest_60 rfl rfl ?_
  refine gw_iload_n dX9_digest_61 rfl rfl ?_
  obtain ⟨g, H⟩ := gd_i H
  obtain ⟨k15, e_k15, H⟩ := jn_i H
  have hJ_k15 : ∀ (v16 : Int), k15 v16 = some r → G Φ mX9_digest (gw_M Φ mX9_digest K) none 0 0 70 [(0, .ref (M + th)), (1, vI v11), (2, vI v13)] [vL v16, .ref (M + th)] (hp Φ hb M sh c14) := by
    intro v16 H
    subst e_k15
    obtain ⟨v18, c17, e_c17, H⟩ := cl_i H
    refine gw_V1 okX9_takesIn dX9_digest_70 kw_1930 kw_1932 kw_96 (hp_o (h0.1)) rfl ⟨by decide, by decide⟩ ⟨by decide, by decide⟩ (Nat.le_of_ble_eq_true rfl) (w_X9_takesIn (h0) e_c17 ?_)
    refine gw_aload_n dX9_digest_73 rfl rfl ?_
    refine gw_iload_n dX9_digest_74 rfl rfl ?_
    obtain ⟨g, H⟩ := gd_i H
    obtain ⟨k19, e_k19, H⟩ := jn_i H
    have hJ_k19 : ∀ (v20 : Int), k19 v20 = some r → G Φ mX9_digest (gw_M Φ mX9_digest K) none 0 0 83 [(0, .ref (M + th)), (1, vI v11), (2, vI v13)] [vL v20, .ref (M + th)] (hp Φ hb M sh c17) := by
      intro v20 H
      subst e_k19
      obtain ⟨v22, c21, e_c21, H⟩ := cl_i H
      refine gw_V1 okX9_takesIn dX9_digest_83 kw_1930 kw_1932 kw_96 (hp_o (h0.1)) rfl ⟨by decide, by decide⟩ ⟨by decide, by decide⟩ (Nat.le_of_ble_eq_true rfl) (w_X9_takesIn (h0) e_c21 ?_)
      refine gw_aload_n dX9_digest_86 rfl rfl ?_
      refine gw_aload_n dX9_digest_87 rfl rfl ?_
      refine gs_getR cl9 1 dX9_digest_88 rfl kw_1320 (by decide) (h0.1) rfl ?_
      refine gw_bipushZ dX9_digest_91 rfl (by decide) ?_
      refine gs_ialdZ dX9_digest_93 rfl (h0.2.1) (by decide) (by decide) ?_
      obtain ⟨g, H⟩ := gd_i H
      refine gw_i2lZ dX9_digest_94 rfl g ?_
      obtain ⟨v24, c23, e_c23, H⟩ := cl_i H
      refine gw_V1 okX9_takesIn dX9_digest_95 kw_1930 kw_1932 kw_96 (hp_o (h0.1)) rfl ⟨by decide, by decide⟩ ⟨by decide, by decide⟩ (Nat.le_of_ble_eq_true rfl) (w_X9_takesIn (h0) e_c23 ?_)
      refine gw_aload_n dX9_digest_98 rfl rfl ?_
      refine gw_aload_n dX9_digest_99 rfl rfl ?_
      refine gs_getR cl9 1 dX9_digest_100 rfl kw_1320 (by decide) (h0.1) rfl ?_
      refine gw_bipushZ dX9_digest_103 rfl (by decide) ?_
      refine gs_ialdZ dX9_digest_105 rfl (h0.2.1) (by decide) (by decide) ?_
      obtain ⟨g, H⟩ := gd_i H
      refine gw_i2lZ dX9_digest_106 rfl g ?_
      obtain ⟨v26, c25, e_c25, H⟩ := cl_i H
      refine gw_V1 okX9_takesIn dX9_digest_107 kw_1930 kw_1932 kw_96 (hp_o (h0.1)) rfl ⟨by decide, by decide⟩ ⟨by decide, by decide⟩ (Nat.le_of_ble_eq_true rfl) (w_X9_takesIn (h0) e_c25 ?_)
      refine gw_aload_n dX9_digest_110 rfl rfl ?_
      refine gw_aload_n dX9_digest_111 rfl rfl ?_
      refine gs_getR cl9 1 dX9_digest_112 rfl kw_1320 (by decide) (h0.1) rfl ?_
      refine gw_bipushZ dX9_digest_115 rfl (by decide) ?_
      refine gs_ialdZ dX9_digest_117 rfl (h0.2.1) (by decide) (by decide) ?_
      obtain ⟨g, H⟩ := gd_i H
      refine gw_i2lZ dX9_digest_118 rfl g ?_
      obtain ⟨v28, c27, e_c27, H⟩ := cl_i H
      refine gw_V1 okX9_takesIn dX9_digest_119 kw_1930 kw_1932 kw_96 (hp_o (h0.1)) rfl ⟨by decide, by decide⟩ ⟨by decide, by decide⟩ (Nat.le_of_ble_eq_true rfl) (w_X9_takesIn (h0) e_c27 ?_)
      refine gw_aload_n dX9_digest_122 rfl rfl ?_
      obtain ⟨v30, c29, e_c29, H⟩ := cl_i H
      refine gw_V0 okX9_valueNow dX9_digest_123 kw_1751 kw_1753 kw_78 (hp_o (h0.1)) rfl ⟨by decide, by decide⟩ ⟨by decide, by decide⟩ (Nat.le_of_ble_eq_true rfl) (w_X9_valueNow (h0) e_c29 ?_)
      refine gw_aload_n dX9_digest_126 rfl rfl ?_
      refine gs_getL cl9 16 16 dX9_digest_127 rfl kw_1335 (by decide) (h0.1) rfl rfl ?_
      refine gw_l2d dX9_digest_130 rfl ?_
      refine gw_aload_n dX9_digest_131 rfl rfl ?_
      refine gs_getL cl9 17 17 dX9_digest_132 rfl kw_1336 (by decide) (h0.1) rfl rfl ?_
      refine gw_l2d dX9_digest_135 rfl ?_
      obtain ⟨g, H⟩ := gd_i H
      refine gw_ddiv dX9_digest_136 rfl g ?_
      refine gw_dstore_n dX9_digest_137 rfl (by decide) ?_
      refine gw_aload_n dX9_digest_138 rfl rfl ?_
      obtain ⟨v32, c31, e_c31, H⟩ := cl_i H
      refine gw_V0 okX9_takesFraction dX9_digest_139 kw_1935 kw_1937 kw_97 (hp_o (h0.1)) rfl ⟨by decide, by decide⟩ ⟨by decide, by decide⟩ (Nat.le_of_ble_eq_true rfl) (w_X9_takesFraction (h0) e_c31 ?_)
      refine gw_aload_n dX9_digest_142 rfl rfl ?_
      obtain ⟨v34, c33, e_c33, H⟩ := cl_i H
      refine gw_V0 okX9_dualValue dX9_digest_143 kw_1805 kw_1807 kw_82 (hp_o (h0.1)) rfl ⟨by decide, by decide⟩ ⟨by decide, by decide⟩ (Nat.le_of_ble_eq_true rfl) (w_X9_dualValue (h0) e_c33 ?_)
      refine gw_aload_n dX9_digest_146 rfl rfl ?_
      obtain ⟨v36, c35, e_c35, H⟩ := cl_i H
      refine gw_V0 okX9_takesFraction dX9_digest_147 kw_1935 kw_1937 kw_97 (hp_o (h0.1)) rfl ⟨by decide, by decide⟩ ⟨by decide, by decide⟩ (Nat.le_of_ble_eq_true rfl) (w_X9_takesFraction (h0) e_c35 ?_)
      refine gw_aload_n dX9_digest_150 rfl rfl ?_
      obtain ⟨v38, c37, e_c37, H⟩ := cl_i H
      refine gw_V0 okX9_looksAtBases dX9_digest_151 kw_1841 kw_1843 kw_86 (hp_o (h0.1)) rfl ⟨by decide, by decide⟩ ⟨by decide, by decide⟩ (Nat.le_of_ble_eq_true rfl) (w_X9_looksAtBases (h0) e_c37 ?_)
      refine gw_aload_n dX9_digest_154 rfl rfl ?_
      refine gw_aload_n dX9_digest_155 rfl rfl ?_
      refine gs_getI cl9 23 23 dX9_digest_156 rfl kw_1342 (by decide) (h0.1) rfl rfl ?_
      obtain ⟨g, H⟩ := gd_i H
      refine gw_i2lZ dX9_digest_159 rfl g ?_
      obtain ⟨v40, c39, e_c39, H⟩ := cl_i H
      refine gw_V1 okX9_takesIn dX9_digest_160 kw_1930 kw_1932 kw_96 (hp_o (h0.1)) rfl ⟨by decide, by decide⟩ ⟨by decide, by decide⟩ (Nat.le_of_ble_eq_true rfl) (w_X9_takesIn (h0) e_c39 ?_)
      refine gw_aload_n dX9_digest_163 rfl rfl ?_
      refine gw_aload_n dX9_digest_164 rfl rfl ?_
      refine gs_getI cl9 24 24 dX9_digest_165 rfl kw_1343 (by decide) (h0.1) rfl rfl ?_
      obtain ⟨g, H⟩ := gd_i H
      refine gw_i2lZ dX9_digest_168 rfl g ?_
      obtain ⟨v42, c41, e_c41, H⟩ := cl_i H
      refine gw_V1 okX9_takesIn dX9_digest_169 kw_1930 kw_1932 kw_96 (hp_o (h0.1)) rfl ⟨by decide, by decide⟩ ⟨by decide, by decide⟩ (Nat.le_of_ble_eq_true rfl) (w_X9_takesIn (h0) e_c41 ?_)
      refine gw_aload_n dX9_digest_172 rfl rfl ?_
      refine gw_aload_n dX9_digest_173 rfl rfl ?_
      refine gs_getL cl9 25 25 dX9_digest_174 rfl kw_1344 (by decide) (h0.1) rfl rfl ?_
      obtain ⟨v44, c43, e_c43, H⟩ := cl_i H
      refine gw_V1 okX9_takesIn dX9_digest_177 kw_1930 kw_1932 kw_96 (hp_o (h0.1)) rfl ⟨by decide, by decide⟩ ⟨by decide, by decide⟩ (Nat.le_of_ble_eq_true rfl) (w_X9_takesIn (h0) e_c43 ?_)
      refine gw_aload_n dX9_digest_180 rfl rfl ?_
      refine gw_aload_n dX9_digest_181 rfl rfl ?_
      refine gs_getL cl9 26 26 dX9_digest_182 rfl kw_1345 (by decide) (h0.1) rfl rfl ?_
      obtain ⟨v46, c45, e_c45, H⟩ := cl_i H
      refine gw_V1 okX9_takesIn dX9_digest_185 kw_1930 kw_1932 kw_96 (hp_o (h0.1)) rfl ⟨by decide, by decide⟩ ⟨by decide, by decide⟩ (Nat.le_of_ble_eq_true rfl) (w_X9_takesIn (h0) e_c45 ?_)
      refine gw_aload_n dX9_digest_188 rfl rfl ?_
      refine gw_aload_n dX9_digest_189 rfl rfl ?_
      obtain ⟨v47, c48, e_c48, H⟩ := cl_i H
      refine gw_V0 okX9_leftPivots dX9_digest_190 kw_1885 kw_1887 kw_90 (hp_o (h0.1)) rfl ⟨by decide, by decide⟩ ⟨by decide, by decide⟩ (Nat.le_of_ble_eq_true rfl) (w_X9_leftPivots (h0) e_c48 ?_)
      obtain ⟨g, H⟩ := gd_i H
      refine gw_i2lZ dX9_digest_193 rfl g ?_
      obtain ⟨v50, c49, e_c49, H⟩ := cl_i H
      refine gw_V1 okX9_takesIn dX9_digest_194 kw_1930 kw_1932 kw_96 (hp_o (h0.1)) rfl ⟨by decide, by decide⟩ ⟨by decide, by decide⟩ (Nat.le_of_ble_eq_true rfl) (w_X9_takesIn (h0) e_c49 ?_)
      refine gw_aload_n dX9_digest_197 rfl rfl ?_
      refine gw_aload_n dX9_digest_198 rfl rfl ?_
      refine gs_getI cl9 4 4 dX9_digest_199 rfl kw_1323 (by decide) (h0.1) rfl rfl ?_
      obtain ⟨g, H⟩ := gd_i H
      refine gw_i2lZ dX9_digest_202 rfl g ?_
      obtain ⟨v52, c51, e_c51, H⟩ := cl_i H
      refine gw_V1 okX9_takesIn dX9_digest_203 kw_1930 kw_1932 kw_96 (hp_o (h0.1)) rfl ⟨by decide, by decide⟩ ⟨by decide, by decide⟩ (Nat.le_of_ble_eq_true rfl) (w_X9_takesIn (h0) e_c51 ?_)
      refine gw_iconstZ dX9_digest_206 rfl ?_
      refine gw_istore dX9_digest_207 rfl (by decide) ?_
      refine gw_L (l_X9_digest_209 h0 hK (fun c53 H => ?_) LF _ _ H) ((lvA_c rfl (lvA_c rfl (lvA_c rfl (lvA_c rfl (lvA_c rfl lvA_n))))))
      refine gw_iconstZ dX9_digest_240 rfl ?_
      refine gw_istore dX9_digest_241 rfl (by decide) ?_
      refine gw_L (l_X9_digest_243 h0 hK (fun c54 H => ?_) LF _ _ H) ((lvA_c rfl (lvA_c rfl (lvA_c rfl (lvA_c rfl (lvA_c rfl lvA_n))))))
      refine gw_iconstZ dX9_digest_266 rfl ?_
      refine gw_istore dX9_digest_267 rfl (by decide) ?_
      refine gw_L (l_X9_digest_269 h0 hK (fun c55 H => ?_) LF _ _ H) ((lvA_c rfl (lvA_c rfl (lvA_c rfl (lvA_c rfl (lvA_c rfl lvA_n))))))
      refine gw_aload_n dX9_digest_322 rfl rfl ?_
      obtain ⟨v57, c56, e_c56, H⟩ := cl_i H
      refine gw_V0 okX9_laysNow dX9_digest_323 kw_1484 kw_1486 kw_43 (hp_o (h0.1)) rfl ⟨by decide, by decide⟩ ⟨by decide, by decide⟩ (Nat.le_of_ble_eq_true rfl) (w_X9_laysNow (h0) e_c56 ?_)
      refine gw_iconstZ dX9_digest_326 rfl ?_
      refine gw_istore dX9_digest_327 rfl (by decide) ?_
      refine gw_L (l_X9_digest_329 h0 hK (fun c58 H => ?_) LF _ _ H) ((lvA_c rfl (lvA_c rfl (lvA_c rfl (lvA_c rfl (lvA_c rfl lvA_n))))))
      refine gw_iload_n dX9_digest_410 rfl rfl ?_
      obtain ⟨g, H⟩ := gd_i H
      obtain ⟨k59, e_k59, H⟩ := jn_i H
      have hJ_k59 : ∀ (c60 : W0), k59 c60 = some r → G Φ mX9_digest (gw_M Φ mX9_digest K) none 0 0 451 [(0, .ref (M + th)), (3, .double (FP.ddiv (FP.l2d (i64 (c29 th 16))) (FP.l2d (i64 (c29 th 17)))))] [] (hp Φ hb M sh c60) := by
        intro c60 H
        subst e_k59
        refine gw_aload_n dX9_digest_451 rfl rfl ?_
        refine gw_dload_n dX9_digest_452 rfl rfl ?_
        obtain ⟨v61, e_v61, H⟩ := cv_i H
        refine gw_S1 okX9_bitsOf dX9_digest_453 kw_1943 kw_1944 ⟨by decide, by decide⟩ ⟨by decide, by decide⟩ (Nat.le_of_ble_eq_true rfl) (w_X9_bitsOf  e_v61 ?_)
        obtain ⟨v63, c62, e_c62, H⟩ := cl_i H
        refine gw_V1 okX9_takesIn dX9_digest_456 kw_1930 kw_1932 kw_96 (hp_o (h0.1)) rfl ⟨by decide, by decide⟩ ⟨by decide, by decide⟩ (Nat.le_of_ble_eq_true rfl) (w_X9_takesIn (h0) e_c62 ?_)
        refine gw_aload_n dX9_digest_459 rfl rfl ?_
        refine gw_aload_n dX9_digest_460 rfl rfl ?_
        refine gs_getI cl9 8 8 dX9_digest_461 rfl kw_1327 (by decide) (h0.1) rfl rfl ?_
        obtain ⟨g, H⟩ := gd_i H
        refine gw_i2lZ dX9_digest_464 rfl g ?_
        obtain ⟨v65, c64, e_c64, H⟩ := cl_i H
        refine gw_V1 okX9_takesIn dX9_digest_465 kw_1930 kw_1932 kw_96 (hp_o (h0.1)) rfl ⟨by decide, by decide⟩ ⟨by decide, by decide⟩ (Nat.le_of_ble_eq_true rfl) (w_X9_takesIn (h0) e_c64 ?_)
        refine gw_iconstZ dX9_digest_468 rfl ?_
        refine gw_istore dX9_digest_469 rfl (by decide) ?_
        refine gw_L (l_X9_digest_471 h0 hK (fun c66 H => ?_) LF _ _ H) ((lvA_c rfl (lvA_c rfl lvA_n)))
        refine gw_aload_n dX9_digest_498 rfl rfl ?_
        refine gs_getL cl9 27 27 dX9_digest_499 rfl kw_1346 (by decide) (h0.1) rfl rfl ?_
        cases H
        exact gw_lret dX9_digest_502 rfl (by decide) (by decide) hK
      refine gw_if_ltZ (tgt := 423) dX9_digest_411 rfl (by decide) g (fun q => ?_) (fun q => ?_)
      · have H := bq_t q H
        refine gw_iload_n dX9_digest_423 rfl rfl ?_
        obtain ⟨g, H⟩ := gd_i H
        refine gw_if_neZ (tgt := 451) dX9_digest_424 rfl (by decide) g (fun q => ?_) (fun q => ?_)
        · have H := bq_f q H
          exact gw_L (hJ_k59 _ H) ((lvA_c rfl (lvA_c rfl lvA_n)))
        · have H := bq_t q H
          refine gw_aload_n dX9_digest_427 rfl rfl ?_
          obtain ⟨v67, c68, e_c68, H⟩ := cl_i H
          refine gw_V0 okX9_bestColumn dX9_digest_428 kw_1571 kw_1573 kw_63 (hp_o (h0.1)) rfl ⟨by decide, by decide⟩ ⟨by decide, by decide⟩ (Nat.le_of_ble_eq_true rfl) (w_X9_bestColumn (h0) e_c68 ?_)
          refine gw_istore dX9_digest_431 rfl (by decide) ?_
          refine gw_aload_n dX9_digest_433 rfl rfl ?_
          refine gw_iload dX9_digest_434 rfl rfl ?_
          obtain ⟨g, H⟩ := gd_i H
          refine gw_i2lZ dX9_digest_436 rfl g ?_
          obtain ⟨v70, c69, e_c69, H⟩ := cl_i H
          refine gw_V1 okX9_takesIn dX9_digest_437 kw_1930 kw_1932 kw_96 (hp_o (h0.1)) rfl ⟨by decide, by decide⟩ ⟨by decide, by decide⟩ (Nat.le_of_ble_eq_true rfl) (w_X9_takesIn (h0) e_c69 ?_)
          refine gw_aload_n dX9_digest_440 rfl rfl ?_
          refine gw_aload_n dX9_digest_441 rfl rfl ?_
          refine gw_iload dX9_digest_442 rfl rfl ?_
          obtain ⟨v71, e_v71, H⟩ := cv_i H
          refine gw_V1 okX9_leastRow dX9_digest_444 kw_1579 kw_1581 kw_65 (hp_o (h0.1)) rfl ⟨by decide, by decide⟩ ⟨by decide, by decide⟩ (Nat.le_of_ble_eq_true rfl) (w_X9_leastRow (h0) e_v71 ?_)
          obtain ⟨g, H⟩ := gd_i H
          refine gw_i2lZ dX9_digest_447 rfl g ?_
          obtain ⟨v73, c72, e_c72, H⟩ := cl_i H
          refine gw_V1 okX9_takesIn dX9_digest_448 kw_1930 kw_1932 kw_96 (hp_o (h0.1)) rfl ⟨by decide, by decide⟩ ⟨by decide, by decide⟩ (Nat.le_of_ble_eq_true rfl) (w_X9_takesIn (h0) e_c72 ?_)
          exact gw_L (hJ_k59 _ H) ((lvA_c rfl (lvA_c rfl lvA_n)))
      · have H := bq_f q H
        refine gw_aload_n dX9_digest_414 rfl rfl ?_
        refine gw_iload_n dX9_digest_415 rfl rfl ?_
        obtain ⟨g, H⟩ := gd_i H
        refine gw_i2lZ dX9_digest_416 rfl g ?_
        obtain ⟨v75, c74, e_c74, H⟩ := cl_i H
        refine gw_V1 okX9_takesIn dX9_digest_417 kw_1930 kw_1932 kw_96 (hp_o (h0.1)) rfl ⟨by decide, by decide⟩ ⟨by decide, by decide⟩ (Nat.le_of_ble_eq_true rfl) (w_X9_takesIn (h0) e_c74 ?_)
        refine gw_goto (tgt := 451) dX9_digest_420 (by decide) ?_
        exact gw_L (hJ_k59 _ H) ((lvA_c rfl (lvA_c rfl lvA_n)))
    refine gw_if_ltZ (tgt := 82) dX9_digest_75 rfl (by decide) g (fun q => ?_) (fun q => ?_)
    · have H := bq_t q H
      refine gw_lconst0Z dX9_digest_82 rfl ?_
      exact gw_L (hJ_k19 _ H) ((lvA_c rfl (lvA_c rfl (lvA_c rfl lvA_n))))
    · have H := bq_f q H
      refine gw_lconst1Z dX9_digest_78 rfl ?_
      refine gw_goto (tgt := 83) dX9_digest_79 (by decide) ?_
      exact gw_L (hJ_k19 _ H) ((lvA_c rfl (lvA_c rfl (lvA_c rfl lvA_n))))
  refine gw_if_eqZ (tgt := 69) dX9_digest_62 rfl (by decide) g (fun q => ?_) (fun q => ?_)
  · have H := bq_t q H
    refine gw_lconst0Z dX9_digest_69 rfl ?_
    exact gw_L (hJ_k15 _ H) ((lvA_c rfl (lvA_c rfl (lvA_c rfl lvA_n))))
  · have H := bq_f q H
    refine gw_lconst1Z dX9_digest_65 rfl ?_
    refine gw_goto (tgt := 70) dX9_digest_66 (by decide) ?_
    exact gw_L (hJ_k15 _ H) ((lvA_c rfl (lvA_c rfl (lvA_c rfl lvA_n))))
end FW
