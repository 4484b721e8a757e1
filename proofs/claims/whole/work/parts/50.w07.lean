section FW
set_option maxRecDepth 100000 in
set_option maxHeartbeats 4000000 in
theorem w_X9_setCoefficient {Φ : gwC} {hb : gwHp} {M : Nat} {sh : Nat → Option gSh} {th : Nat} {p1 : Int} {p2 : Int} {p3 : Int} {c : W0} {r : Int × W0} {K : Option Value → gwHp → Prop} (h0 : sM sh th) (H : f_X9_setCoefficient th p1 p2 p3 c = some r) (hK : K (some (vI r.1)) (hp Φ hb M sh r.2)) : gw_Con Φ mX9_setCoefficient none [.ref (M + th), vI p1, vI p2, vI p3] (hp Φ hb M sh c) K := by
  unfold f_X9_setCoefficient at H
  refine gw_start okX9_setCoefficient (Nat.le_of_ble_eq_true rfl) ?_
  refine gw_aload_n dX9_setCoefficient_0 rfl rfl ?_
  refine gw_aload_n dX9_setCoefficient_1 rfl rfl ?_
  refine gw_iload_n dX9_setCoefficient_2 rfl rfl ?_
  obtain ⟨v1, e_v1, H⟩ := cv_i H
  refine gw_V1 okX9_isConstraint dX9_setCoefficient_3 kw_1448 kw_1450 kw_38 (hp_o (h0.1)) rfl ⟨by decide, by decide⟩ ⟨by decide, by decide⟩ (Nat.le_of_ble_eq_true rfl) (w_X9_isConstraint (h0) e_v1 ?_)
  obtain ⟨g, H⟩ := gd_i H
  obtain ⟨k2, e_k2, H⟩ := jn_i H
  have hJ_k2 : ∀ (u3 : Unit), k2 u3 = some r → G Φ mX9_setCoefficient (gw_M Φ mX9_setCoefficient K) none 0 0 17 [(0, .ref (M + th)), (1, vI p1), (2, vI p2), (3, vI p3)] [.ref (M + th)] (hp Φ hb M sh c) := by
    intro u3 H
    subst e_k2
    refine gw_iconstZ dX9_setCoefficient_17 rfl ?_
    refine gw_goto (tgt := 37) dX9_setCoefficient_18 (by decide) ?_
    obtain ⟨v4, c5, e_c5, H⟩ := cl_i H
    refine gw_V1 okX9_holds dX9_setCoefficient_37 kw_1416 kw_1418 kw_33 (hp_o (h0.1)) rfl ⟨by decide, by decide⟩ ⟨by decide, by decide⟩ (Nat.le_of_ble_eq_true rfl) (w_X9_holds (h0) e_c5 ?_)
    obtain ⟨g, H⟩ := gd_i H
    refine gw_if_eqZ (tgt := 59) dX9_setCoefficient_40 rfl (by decide) g (fun q => ?_) (fun q => ?_)
    · have H := bq_t q H
      refine gw_iconstZ dX9_setCoefficient_59 rfl ?_
      cases H
      exact gw_iret dX9_setCoefficient_60 rfl (by decide) (by decide) hK
    · have H := bq_f q H
      refine gw_aload_n dX9_setCoefficient_43 rfl rfl ?_
      refine gw_bipushZ dX9_setCoefficient_44 rfl (by decide) ?_
      refine gw_iconstZ dX9_setCoefficient_46 rfl ?_
      refine gw_iload_n dX9_setCoefficient_47 rfl rfl ?_
      refine gw_imulZ dX9_setCoefficient_48 rfl ?_
      refine gw_iaddZ dX9_setCoefficient_49 rfl ?_
      refine gw_iload_n dX9_setCoefficient_50 rfl rfl ?_
      refine gw_iaddZ dX9_setCoefficient_51 rfl ?_
      refine gw_iload_n dX9_setCoefficient_52 rfl rfl ?_
      obtain ⟨v6, c7, e_c7, H⟩ := cl_i H
      refine gw_V2 okX9_changes dX9_setCoefficient_53 kw_1436 kw_1438 kw_37 (hp_o (h0.1)) rfl ⟨by decide, by decide⟩ ⟨by decide, by decide⟩ (Nat.le_of_ble_eq_true rfl) (w_X9_changes (h0) e_c7 ?_)
      refine gw_goto (tgt := 60) dX9_setCoefficient_56 (by decide) ?_
      cases H
      exact gw_iret dX9_setCoefficient_60 rfl (by decide) (by decide) hK
  refine gw_if_eqZ (tgt := 17) dX9_setCoefficient_6 rfl (by decide) g (fun q => ?_) (fun q => ?_)
  · have H := bq_t q H
    exact gw_L (hJ_k2 _ H) ((lvA_c rfl (lvA_c rfl (lvA_c rfl (lvA_c rfl lvA_n)))))
  · have H := bq_f q H
    refine gw_aload_n dX9_setCoefficient_9 rfl rfl ?_
    refine gw_iload_n dX9_setCoefficient_10 rfl rfl ?_
    obtain ⟨v8, e_v8, H⟩ := cv_i H
    refine gw_V1 okX9_isVariable dX9_setCoefficient_11 kw_1432 kw_1434 kw_36 (hp_o (h0.1)) rfl ⟨by decide, by decide⟩ ⟨by decide, by decide⟩ (Nat.le_of_ble_eq_true rfl) (w_X9_isVariable (h0) e_v8 ?_)
    obtain ⟨g, H⟩ := gd_i H
    refine gw_if_neZ (tgt := 21) dX9_setCoefficient_14 rfl (by decide) g (fun q => ?_) (fun q => ?_)
    · have H := bq_f q H
      refine gw_iload_n dX9_setCoefficient_21 rfl rfl ?_
      refine gw_bipushZ dX9_setCoefficient_22 rfl (by decide) ?_
      refine gw_bipushZ dX9_setCoefficient_24 rfl (by decide) ?_
      obtain ⟨v9, e_v9, H⟩ := cv_i H
      refine gw_S3 okX9_in dX9_setCoefficient_26 kw_1413 kw_1414 ⟨by decide, by decide⟩ ⟨by decide, by decide⟩ (Nat.le_of_ble_eq_true rfl) (w_X9_in  e_v9 ?_)
      obtain ⟨g, H⟩ := gd_i H
      obtain ⟨k10, e_k10, H⟩ := jn_i H
      have hJ_k10 : ∀ (v11 : Int), k10 v11 = some r → G Φ mX9_setCoefficient (gw_M Φ mX9_setCoefficient K) none 0 0 37 [(0, .ref (M + th)), (1, vI p1), (2, vI p2), (3, vI p3)] [vI v11, .ref (M + th)] (hp Φ hb M sh c) := by
        intro v11 H
        subst e_k10
        obtain ⟨v12, c13, e_c13, H⟩ := cl_i H
        refine gw_V1 okX9_holds dX9_setCoefficient_37 kw_1416 kw_1418 kw_33 (hp_o (h0.1)) rfl ⟨by decide, by decide⟩ ⟨by decide, by decide⟩ (Nat.le_of_ble_eq_true rfl) (w_X9_holds (h0) e_c13 ?_)
        obtain ⟨g, H⟩ := gd_i H
        refine gw_if_eqZ (tgt := 59) dX9_setCoefficient_40 rfl (by decide) g (fun q => ?_) (fun q => ?_)
        · have H := bq_t q H
          refine gw_iconstZ dX9_setCoefficient_59 rfl ?_
          cases H
          exact gw_iret dX9_setCoefficient_60 rfl (by decide) (by decide) hK
        · have H := bq_f q H
          refine gw_aload_n dX9_setCoefficient_43 rfl rfl ?_
          refine gw_bipushZ dX9_setCoefficient_44 rfl (by decide) ?_
          refine gw_iconstZ dX9_setCoefficient_46 rfl ?_
          refine gw_iload_n dX9_setCoefficient_47 rfl rfl ?_
          refine gw_imulZ dX9_setCoefficient_48 rfl ?_
          refine gw_iaddZ dX9_setCoefficient_49 rfl ?_
          refine gw_iload_n dX9_setCoefficient_50 rfl rfl ?_
          refine gw_iaddZ dX9_setCoefficient_51 rfl ?_
          refine gw_iload_n dX9_setCoefficient_52 rfl rfl ?_
          obtain ⟨v14, c15, e_c15, H⟩ := cl_i H
          refine gw_V2 okX9_changes dX9_setCoefficient_53 kw_1436 kw_1438 kw_37 (hp_o (h0.1)) rfl ⟨by decide, by decide⟩ ⟨by decide, by decide⟩ (Nat.le_of_ble_eq_true rfl) (w_X9_changes (h0) e_c15 ?_)
          refine gw_goto (tgt := 60) dX9_setCoefficient_56 (by decide) ?_
          cases H
          exact gw_iret dX9_setCoefficient_60 rfl (by decide) (by decide) hK
      refine gw_if_eqZ (tgt := 36) dX9_setCoefficient_29 rfl (by decide) g (fun q => ?_) (fun q => ?_)
      · have H := bq_t q H
        refine gw_iconstZ dX9_setCoefficient_36 rfl ?_
        exact gw_L (hJ_k10 _ H) ((lvA_c rfl (lvA_c rfl (lvA_c rfl (lvA_c rfl lvA_n)))))
      · have H := bq_f q H
        refine gw_iconstZ dX9_setCoefficient_32 rfl ?_
        refine gw_goto (tgt := 37) dX9_setCoefficient_33 (by decide) ?_
        exact gw_L (hJ_k10 _ H) ((lvA_c rfl (lvA_c rfl (lvA_c rfl (lvA_c rfl lvA_n)))))
    · have H := bq_t q H
      exact gw_L (hJ_k2 _ H) ((lvA_c rfl (lvA_c rfl (lvA_c rfl (lvA_c rfl lvA_n)))))
set_option maxRecDepth 100000 in
set_option maxHeartbeats 4000000 in
theorem w_X9_setBound {Φ : gwC} {hb : gwHp} {M : Nat} {sh : Nat → Option gSh} {th : Nat} {p1 : Int} {p2 : Int} {c : W0} {r : Int × W0} {K : Option Value → gwHp → Prop} (h0 : sM sh th) (H : f_X9_setBound th p1 p2 c = some r) (hK : K (some (vI r.1)) (hp Φ hb M sh r.2)) : gw_Con Φ mX9_setBound none [.ref (M + th), vI p1, vI p2] (hp Φ hb M sh c) K := by
  unfold f_X9_setBound at H
  refine gw_start okX9_setBound (Nat.le_of_ble_eq_true rfl) ?_
  refine gw_aload_n dX9_setBound_0 rfl rfl ?_
  refine gw_aload_n dX9_setBound_1 rfl rfl ?_
  refine gw_iload_n dX9_setBound_2 rfl rfl ?_
  obtain ⟨v1, e_v1, H⟩ := cv_i H
  refine gw_V1 okX9_isConstraint dX9_setBound_3 kw_1448 kw_1450 kw_38 (hp_o (h0.1)) rfl ⟨by decide, by decide⟩ ⟨by decide, by decide⟩ (Nat.le_of_ble_eq_true rfl) (w_X9_isConstraint (h0) e_v1 ?_)
  obtain ⟨g, H⟩ := gd_i H
  obtain ⟨k2, e_k2, H⟩ := jn_i H
  have hJ_k2 : ∀ (v3 : Int), k2 v3 = some r → G Φ mX9_setBound (gw_M Φ mX9_setBound K) none 0 0 28 [(0, .ref (M + th)), (1, vI p1), (2, vI p2)] [vI v3, .ref (M + th)] (hp Φ hb M sh c) := by
    intro v3 H
    subst e_k2
    obtain ⟨v4, c5, e_c5, H⟩ := cl_i H
    refine gw_V1 okX9_holds dX9_setBound_28 kw_1416 kw_1418 kw_33 (hp_o (h0.1)) rfl ⟨by decide, by decide⟩ ⟨by decide, by decide⟩ (Nat.le_of_ble_eq_true rfl) (w_X9_holds (h0) e_c5 ?_)
    obtain ⟨g, H⟩ := gd_i H
    refine gw_if_eqZ (tgt := 46) dX9_setBound_31 rfl (by decide) g (fun q => ?_) (fun q => ?_)
    · have H := bq_t q H
      refine gw_iconstZ dX9_setBound_46 rfl ?_
      cases H
      exact gw_iret dX9_setBound_47 rfl (by decide) (by decide) hK
    · have H := bq_f q H
      refine gw_aload_n dX9_setBound_34 rfl rfl ?_
      refine gw_bipushZ dX9_setBound_35 rfl (by decide) ?_
      refine gw_iload_n dX9_setBound_37 rfl rfl ?_
      refine gw_iaddZ dX9_setBound_38 rfl ?_
      refine gw_iload_n dX9_setBound_39 rfl rfl ?_
      obtain ⟨v6, c7, e_c7, H⟩ := cl_i H
      refine gw_V2 okX9_changes dX9_setBound_40 kw_1436 kw_1438 kw_37 (hp_o (h0.1)) rfl ⟨by decide, by decide⟩ ⟨by decide, by decide⟩ (Nat.le_of_ble_eq_true rfl) (w_X9_changes (h0) e_c7 ?_)
      refine gw_goto (tgt := 47) dX9_setBound_43 (by decide) ?_
      cases H
      exact gw_iret dX9_setBound_47 rfl (by decide) (by decide) hK
  refine gw_if_neZ (tgt := 13) dX9_setBound_6 rfl (by decide) g (fun q => ?_) (fun q => ?_)
  · have H := bq_f q H
    refine gw_iload_n dX9_setBound_13 rfl rfl ?_
    refine gw_iconstZ dX9_setBound_14 rfl ?_
    refine gw_bipushZ dX9_setBound_15 rfl (by decide) ?_
    obtain ⟨v8, e_v8, H⟩ := cv_i H
    refine gw_S3 okX9_in dX9_setBound_17 kw_1413 kw_1414 ⟨by decide, by decide⟩ ⟨by decide, by decide⟩ (Nat.le_of_ble_eq_true rfl) (w_X9_in  e_v8 ?_)
    obtain ⟨g, H⟩ := gd_i H
    refine gw_if_eqZ (tgt := 27) dX9_setBound_20 rfl (by decide) g (fun q => ?_) (fun q => ?_)
    · have H := bq_t q H
      refine gw_iconstZ dX9_setBound_27 rfl ?_
      exact gw_L (hJ_k2 _ H) ((lvA_c rfl (lvA_c rfl (lvA_c rfl lvA_n))))
    · have H := bq_f q H
      refine gw_iconstZ dX9_setBound_23 rfl ?_
      refine gw_goto (tgt := 28) dX9_setBound_24 (by decide) ?_
      exact gw_L (hJ_k2 _ H) ((lvA_c rfl (lvA_c rfl (lvA_c rfl lvA_n))))
  · have H := bq_t q H
    refine gw_iconstZ dX9_setBound_9 rfl ?_
    refine gw_goto (tgt := 28) dX9_setBound_10 (by decide) ?_
    exact gw_L (hJ_k2 _ H) ((lvA_c rfl (lvA_c rfl (lvA_c rfl lvA_n))))
set_option maxRecDepth 100000 in
set_option maxHeartbeats 4000000 in
theorem l_X9_dropConstraint_70 {Φ : gwC} {hb : gwHp} {M : Nat} {sh : Nat → Option gSh} {th : Nat} {l2 : Int} {κ : W0 → Option (Int × W0)} {r : Int × W0} {K : Option Value → gwHp → Prop} (h0 : sM sh th) (hK : K (some (vI r.1)) (hp Φ hb M sh r.2)) (hκ : ∀ (c : W0), κ c = some r → G Φ mX9_dropConstraint (gw_M Φ mX9_dropConstraint K) none 0 0 109 [(0, .ref (M + th)), (2, vI l2)] [] (hp Φ hb M sh c)) : ∀ (n : Nat) (l3 : Int) (c : W0), f_X9_dropConstraint_70 th l2 κ n l3 c = some r → G Φ mX9_dropConstraint (gw_M Φ mX9_dropConstraint K) none 0 0 70 [(0, .ref (M + th)), (2, vI l2), (3, vI l3)] [] (hp Φ hb M sh c) := by
  intro n
  induction n with
  | zero => intro l3 c H; cases H
  | succ n ih =>
    intro l3 c H
    have H : b_X9_dropConstraint_70 th l2 κ (f_X9_dropConstraint_70 th l2 κ n) l3 c = some r := H
    unfold b_X9_dropConstraint_70 at H
    refine gw_iload_n dX9_dropConstraint_70 rfl rfl ?_
    refine gw_iconstZ dX9_dropConstraint_71 rfl ?_
    obtain ⟨g, H⟩ := gd_i H
    refine gw_icmp_geZ (tgt := 109) dX9_dropConstraint_72 rfl (by decide) g (by decide) (fun q => ?_) (fun q => ?_)
    · have H := bq_t q H
      exact gw_L (hκ _ H) ((lvA_c rfl (lvA_c rfl lvA_n)))
    · have H := bq_f q H
      refine gw_aload_n dX9_dropConstraint_75 rfl rfl ?_
      refine gs_getR cl9 1 dX9_dropConstraint_76 rfl kw_1320 (by decide) (h0.1) rfl ?_
      refine gw_bipushZ dX9_dropConstraint_79 rfl (by decide) ?_
      refine gw_iconstZ dX9_dropConstraint_81 rfl ?_
      refine gw_iload_n dX9_dropConstraint_82 rfl rfl ?_
      refine gw_imulZ dX9_dropConstraint_83 rfl ?_
      refine gw_iaddZ dX9_dropConstraint_84 rfl ?_
      refine gw_iload_n dX9_dropConstraint_85 rfl rfl ?_
      refine gw_iaddZ dX9_dropConstraint_86 rfl ?_
      refine gw_aload_n dX9_dropConstraint_87 rfl rfl ?_
      refine gs_getR cl9 1 dX9_dropConstraint_88 rfl kw_1320 (by decide) (h0.1) rfl ?_
      refine gw_bipushZ dX9_dropConstraint_91 rfl (by decide) ?_
      refine gw_iconstZ dX9_dropConstraint_93 rfl ?_
      refine gw_iload_n dX9_dropConstraint_94 rfl rfl ?_
      refine gw_imulZ dX9_dropConstraint_95 rfl ?_
      refine gw_iaddZ dX9_dropConstraint_96 rfl ?_
      refine gw_iconstZ dX9_dropConstraint_97 rfl ?_
      refine gw_iaddZ dX9_dropConstraint_98 rfl ?_
      refine gw_iload_n dX9_dropConstraint_99 rfl rfl ?_
      refine gw_iaddZ dX9_dropConstraint_100 rfl ?_
      obtain ⟨g, H⟩ := gd_i H
      refine gs_ialdZ dX9_dropConstraint_101 rfl (h0.2.1) g (by decide) ?_
      obtain ⟨g, H⟩ := gd_i H
      obtain ⟨c1, e_c1, H⟩ := sto_i H
      refine gs_iastZE dX9_dropConstraint_102 rfl (h0.2.1) g (by decide) e_c1 ?_
      refine gw_iincZ dX9_dropConstraint_103 rfl rfl (by decide) ?_
      refine gw_goto (tgt := 70) dX9_dropConstraint_106 (by decide) ?_
      exact gw_L (ih _ _ H) ((lvA_c rfl (lvA_c rfl (lvA_c rfl lvA_n))))
set_option maxRecDepth 100000 in
set_option maxHeartbeats 4000000 in
theorem l_X9_dropConstraint_38 {Φ : gwC} {hb : gwHp} {M : Nat} {sh : Nat → Option gSh} {th : Nat} {κ : W0 → Option (Int × W0)} {r : Int × W0} {K : Option Value → gwHp → Prop} (h0 : sM sh th) (hK : K (some (vI r.1)) (hp Φ hb M sh r.2)) (hκ : ∀ (c : W0), κ c = some r → G Φ mX9_dropConstraint (gw_M Φ mX9_dropConstraint K) none 0 0 115 [(0, .ref (M + th))] [] (hp Φ hb M sh c)) : ∀ (n : Nat) (l2 : Int) (c : W0), f_X9_dropConstraint_38 th κ n l2 c = some r → G Φ mX9_dropConstraint (gw_M Φ mX9_dropConstraint K) none 0 0 38 [(0, .ref (M + th)), (2, vI l2)] [] (hp Φ hb M sh c) := by
  intro n
  induction n with
  | zero => intro l2 c H; cases H
  | succ n ih =>
    intro l2 c H
    have H : b_X9_dropConstraint_38 th κ (f_X9_dropConstraint_38 th κ n) l2 c = some r := H
    unfold b_X9_dropConstraint_38 at H
    refine gw_iload_n dX9_dropConstraint_38 rfl rfl ?_
    refine gw_aload_n dX9_dropConstraint_39 rfl rfl ?_
    refine gs_getR cl9 1 dX9_dropConstraint_40 rfl kw_1320 (by decide) (h0.1) rfl ?_
    refine gw_iconstZ dX9_dropConstraint_43 rfl ?_
    refine gs_ialdZ dX9_dropConstraint_44 rfl (h0.2.1) (by decide) (by decide) ?_
    obtain ⟨g, H⟩ := gd_i H
    refine gw_icmp_geZ (tgt := 115) dX9_dropConstraint_45 rfl (by decide) g.1 g.2 (fun q => ?_) (fun q => ?_)
    · have H := bq_t q H
      exact gw_L (hκ _ H) ((lvA_c rfl lvA_n))
    · have H := bq_f q H
      refine gw_aload_n dX9_dropConstraint_48 rfl rfl ?_
      refine gs_getR cl9 1 dX9_dropConstraint_49 rfl kw_1320 (by decide) (h0.1) rfl ?_
      refine gw_bipushZ dX9_dropConstraint_52 rfl (by decide) ?_
      refine gw_iload_n dX9_dropConstraint_54 rfl rfl ?_
      refine gw_iaddZ dX9_dropConstraint_55 rfl ?_
      refine gw_aload_n dX9_dropConstraint_56 rfl rfl ?_
      refine gs_getR cl9 1 dX9_dropConstraint_57 rfl kw_1320 (by decide) (h0.1) rfl ?_
      refine gw_bipushZ dX9_dropConstraint_60 rfl (by decide) ?_
      refine gw_iload_n dX9_dropConstraint_62 rfl rfl ?_
      refine gw_iaddZ dX9_dropConstraint_63 rfl ?_
      refine gw_iconstZ dX9_dropConstraint_64 rfl ?_
      refine gw_iaddZ dX9_dropConstraint_65 rfl ?_
      obtain ⟨g, H⟩ := gd_i H
      refine gs_ialdZ dX9_dropConstraint_66 rfl (h0.2.1) g (by decide) ?_
      obtain ⟨g, H⟩ := gd_i H
      obtain ⟨c1, e_c1, H⟩ := sto_i H
      refine gs_iastZE dX9_dropConstraint_67 rfl (h0.2.1) g (by decide) e_c1 ?_
      refine gw_iconstZ dX9_dropConstraint_68 rfl ?_
      refine gw_istore_n dX9_dropConstraint_69 rfl (by decide) ?_
      refine gw_L (l_X9_dropConstraint_70 h0 hK (fun c2 H => ?_) LF _ _ H) ((lvA_c rfl (lvA_c rfl (lvA_c rfl lvA_n))))
      refine gw_iincZ dX9_dropConstraint_109 rfl rfl (by decide) ?_
      refine gw_goto (tgt := 38) dX9_dropConstraint_112 (by decide) ?_
      exact gw_L (ih _ _ H) ((lvA_c rfl (lvA_c rfl lvA_n)))
set_option maxRecDepth 100000 in
set_option maxHeartbeats 4000000 in
theorem w_X9_dropConstraint {Φ : gwC} {hb : gwHp} {M : Nat} {sh : Nat → Option gSh} {th : Nat} {p1 : Int} {c : W0} {r : Int × W0} {K : Option Value → gwHp → Prop} (h0 : sM sh th) (H : f_X9_dropConstraint th p1 c = some r) (hK : K (some (vI r.1)) (hp Φ hb M sh r.2)) : gw_Con Φ mX9_dropConstraint none [.ref (M + th), vI p1] (hp Φ hb M sh c) K := by
  unfold f_X9_dropConstraint at H
  refine gw_start okX9_dropConstraint (Nat.le_of_ble_eq_true rfl) ?_
  refine gw_aload_n dX9_dropConstraint_0 rfl rfl ?_
  refine gw_aload_n dX9_dropConstraint_1 rfl rfl ?_
  refine gw_iload_n dX9_dropConstraint_2 rfl rfl ?_
  obtain ⟨v1, e_v1, H⟩ := cv_i H
  refine gw_V1 okX9_isConstraint dX9_dropConstraint_3 kw_1448 kw_1450 kw_38 (hp_o (h0.1)) rfl ⟨by decide, by decide⟩ ⟨by decide, by decide⟩ (Nat.le_of_ble_eq_true rfl) (w_X9_isConstraint (h0) e_v1 ?_)
  obtain ⟨g, H⟩ := gd_i H
  obtain ⟨k2, e_k2, H⟩ := jn_i H
  have hJ_k2 : ∀ (v3 : Int), k2 v3 = some r → G Φ mX9_dropConstraint (gw_M Φ mX9_dropConstraint K) none 0 0 14 [(0, .ref (M + th)), (1, vI p1)] [vI v3, .ref (M + th)] (hp Φ hb M sh c) := by
    intro v3 H
    subst e_k2
    obtain ⟨v4, c5, e_c5, H⟩ := cl_i H
    refine gw_V1 okX9_holds dX9_dropConstraint_14 kw_1416 kw_1418 kw_33 (hp_o (h0.1)) rfl ⟨by decide, by decide⟩ ⟨by decide, by decide⟩ (Nat.le_of_ble_eq_true rfl) (w_X9_holds (h0) e_c5 ?_)
    obtain ⟨g, H⟩ := gd_i H
    refine gw_if_neZ (tgt := 22) dX9_dropConstraint_17 rfl (by decide) g (fun q => ?_) (fun q => ?_)
    · have H := bq_f q H
      refine gw_aload_n dX9_dropConstraint_22 rfl rfl ?_
      obtain ⟨v7, c6, e_c6, H⟩ := cl_i H
      refine gw_V0 okX9_save dX9_dropConstraint_23 kw_1420 kw_1422 kw_34 (hp_o (h0.1)) rfl ⟨by decide, by decide⟩ ⟨by decide, by decide⟩ (Nat.le_of_ble_eq_true rfl) (w_X9_save (h0) e_c6 ?_)
      refine gw_aload_n dX9_dropConstraint_26 rfl rfl ?_
      refine gs_getR cl9 1 dX9_dropConstraint_27 rfl kw_1320 (by decide) (h0.1) rfl ?_
      refine gw_iconstZ dX9_dropConstraint_30 rfl ?_
      refine gw_dup2 dX9_dropConstraint_31 rfl rfl rfl ?_
      refine gs_ialdZ dX9_dropConstraint_32 rfl (h0.2.1) (by decide) (by decide) ?_
      refine gw_iconstZ dX9_dropConstraint_33 rfl ?_
      refine gw_isubZ dX9_dropConstraint_34 rfl ?_
      obtain ⟨c8, e_c8, H⟩ := sto_i H
      refine gs_iastZE dX9_dropConstraint_35 rfl (h0.2.1) (by decide) (by decide) e_c8 ?_
      refine gw_iload_n dX9_dropConstraint_36 rfl rfl ?_
      refine gw_istore_n dX9_dropConstraint_37 rfl (by decide) ?_
      refine gw_L (l_X9_dropConstraint_38 h0 hK (fun c9 H => ?_) LF _ _ H) ((lvA_c rfl (lvA_c rfl lvA_n)))
      refine gw_aload_n dX9_dropConstraint_115 rfl rfl ?_
      obtain ⟨v11, c10, e_c10, H⟩ := cl_i H
      refine gw_V0 okX9_begins dX9_dropConstraint_116 kw_1424 kw_1426 kw_35 (hp_o (h0.1)) rfl ⟨by decide, by decide⟩ ⟨by decide, by decide⟩ (Nat.le_of_ble_eq_true rfl) (w_X9_begins (h0) e_c10 ?_)
      refine gw_aload_n dX9_dropConstraint_119 rfl rfl ?_
      refine gs_getR cl9 1 dX9_dropConstraint_120 rfl kw_1320 (by decide) (h0.1) rfl ?_
      refine gw_iconstZ dX9_dropConstraint_123 rfl ?_
      refine gs_ialdZ dX9_dropConstraint_124 rfl (h0.2.1) (by decide) (by decide) ?_
      cases H
      exact gw_iret dX9_dropConstraint_125 rfl (by decide) (by decide) hK
    · have H := bq_t q H
      refine gw_iconstZ dX9_dropConstraint_20 rfl ?_
      cases H
      exact gw_iret dX9_dropConstraint_21 rfl (by decide) (by decide) hK
  refine gw_if_eqZ (tgt := 13) dX9_dropConstraint_6 rfl (by decide) g (fun q => ?_) (fun q => ?_)
  · have H := bq_t q H
    refine gw_iconstZ dX9_dropConstraint_13 rfl ?_
    exact gw_L (hJ_k2 _ H) ((lvA_c rfl (lvA_c rfl lvA_n)))
  · have H := bq_f q H
    refine gw_iconstZ dX9_dropConstraint_9 rfl ?_
    refine gw_goto (tgt := 14) dX9_dropConstraint_10 (by decide) ?_
    exact gw_L (hJ_k2 _ H) ((lvA_c rfl (lvA_c rfl lvA_n)))
set_option maxRecDepth 100000 in
set_option maxHeartbeats 4000000 in
theorem w_X9_begin {Φ : gwC} {hb : gwHp} {M : Nat} {sh : Nat → Option gSh} {th : Nat} {c : W0} {r : Int × W0} {K : Option Value → gwHp → Prop} (h0 : sM sh th) (H : f_X9_begin th c = some r) (hK : K (some (vI r.1)) (hp Φ hb M sh r.2)) : gw_Con Φ mX9_begin none [.ref (M + th)] (hp Φ hb M sh c) K := by
  unfold f_X9_begin at H
  refine gw_start okX9_begin (Nat.le_of_ble_eq_true rfl) ?_
  refine gw_aload_n dX9_begin_0 rfl rfl ?_
  refine gw_iconstZ dX9_begin_1 rfl ?_
  obtain ⟨c1, e_c1, H⟩ := sto_i H
  refine gs_putIE cl9 0 0 dX9_begin_2 rfl kw_1319 (by decide) rfl rfl (h0.1) rfl rfl e_c1 ?_
  refine gw_aload_n dX9_begin_5 rfl rfl ?_
  obtain ⟨v3, c2, e_c2, H⟩ := cl_i H
  refine gw_V0 okX9_save dX9_begin_6 kw_1420 kw_1422 kw_34 (hp_o (h0.1)) rfl ⟨by decide, by decide⟩ ⟨by decide, by decide⟩ (Nat.le_of_ble_eq_true rfl) (w_X9_save (h0) e_c2 ?_)
  refine gw_aload_n dX9_begin_9 rfl rfl ?_
  refine gs_getR cl9 1 dX9_begin_10 rfl kw_1320 (by decide) (h0.1) rfl ?_
  refine gw_bipushZ dX9_begin_13 rfl (by decide) ?_
  refine gs_ialdZ dX9_begin_15 rfl (h0.2.1) (by decide) (by decide) ?_
  refine gw_istore_n dX9_begin_16 rfl (by decide) ?_
  refine gw_aload_n dX9_begin_17 rfl rfl ?_
  obtain ⟨v5, c4, e_c4, H⟩ := cl_i H
  refine gw_V0 okX9_begins dX9_begin_18 kw_1424 kw_1426 kw_35 (hp_o (h0.1)) rfl ⟨by decide, by decide⟩ ⟨by decide, by decide⟩ (Nat.le_of_ble_eq_true rfl) (w_X9_begins (h0) e_c4 ?_)
  refine gw_iload_n dX9_begin_21 rfl rfl ?_
  cases H
  exact gw_iret dX9_begin_22 rfl (by decide) (by decide) hK
set_option maxRecDepth 100000 in
set_option maxHeartbeats 4000000 in
theorem w_X9_isPlace {Φ : gwC} {hb : gwHp} {M : Nat} {sh : Nat → Option gSh} {th : Nat} {p1 : Int} {p2 : Int} {c : W0} {r : Int} {K : Option Value → gwHp → Prop} (h0 : sM sh th) (H : f_X9_isPlace th p1 p2 c = some r) (hK : K (some (vI r)) (hp Φ hb M sh c)) : gw_Con Φ mX9_isPlace none [.ref (M + th), vI p1, vI p2] (hp Φ hb M sh c) K := by
  unfold f_X9_isPlace at H
  refine gw_start okX9_isPlace (Nat.le_of_ble_eq_true rfl) ?_
  refine gw_aload_n dX9_isPlace_0 rfl rfl ?_
  refine gw_iload_n dX9_isPlace_1 rfl rfl ?_
  obtain ⟨v1, e_v1, H⟩ := cv_i H
  refine gw_V1 okX9_isConstraint dX9_isPlace_2 kw_1448 kw_1450 kw_38 (hp_o (h0.1)) rfl ⟨by decide, by decide⟩ ⟨by decide, by decide⟩ (Nat.le_of_ble_eq_true rfl) (w_X9_isConstraint (h0) e_v1 ?_)
  obtain ⟨g, H⟩ := gd_i H
  refine gw_if_eqZ (tgt := 20) dX9_isPlace_5 rfl (by decide) g (fun q => ?_) (fun q => ?_)
  · have H := bq_t q H
    refine gw_iconstZ dX9_isPlace_20 rfl ?_
    cases H
    exact gw_zret rfl dX9_isPlace_21 rfl (by decide) (by decide) hK
  · have H := bq_f q H
    refine gw_aload_n dX9_isPlace_8 rfl rfl ?_
    refine gw_iload_n dX9_isPlace_9 rfl rfl ?_
    obtain ⟨v2, e_v2, H⟩ := cv_i H
    refine gw_V1 okX9_isColumn dX9_isPlace_10 kw_1472 kw_1474 kw_40 (hp_o (h0.1)) rfl ⟨by decide, by decide⟩ ⟨by decide, by decide⟩ (Nat.le_of_ble_eq_true rfl) (w_X9_isColumn (h0) e_v2 ?_)
    obtain ⟨g, H⟩ := gd_i H
    refine gw_if_eqZ (tgt := 20) dX9_isPlace_13 rfl (by decide) g (fun q => ?_) (fun q => ?_)
    · have H := bq_t q H
      refine gw_iconstZ dX9_isPlace_20 rfl ?_
      cases H
      exact gw_zret rfl dX9_isPlace_21 rfl (by decide) (by decide) hK
    · have H := bq_f q H
      refine gw_iconstZ dX9_isPlace_16 rfl ?_
      refine gw_goto (tgt := 21) dX9_isPlace_17 (by decide) ?_
      cases H
      exact gw_zret rfl dX9_isPlace_21 rfl (by decide) (by decide) hK
set_option maxRecDepth 100000 in
set_option maxHeartbeats 4000000 in
theorem l_X9_isIn_4 {Φ : gwC} {hb : gwHp} {M : Nat} {sh : Nat → Option gSh} {th : Nat} {p1 : Int} {c : W0} {κ : Int → Option Int} {r : Int} {K : Option Value → gwHp → Prop} (h0 : sM sh th) (hK : K (some (vI r)) (hp Φ hb M sh c)) (hκ : ∀ (x2 : Int), κ x2 = some r → G Φ mX9_isIn (gw_M Φ mX9_isIn K) none 0 0 43 [(2, vI x2)] [] (hp Φ hb M sh c)) : ∀ (n : Nat) (l2 : Int) (l3 : Int), f_X9_isIn_4 th p1 c κ n l2 l3 = some r → G Φ mX9_isIn (gw_M Φ mX9_isIn K) none 0 0 4 [(0, .ref (M + th)), (1, vI p1), (2, vI l2), (3, vI l3)] [] (hp Φ hb M sh c) := by
  intro n
  induction n with
  | zero => intro l2 l3 H; cases H
  | succ n ih =>
    intro l2 l3 H
    have H : b_X9_isIn_4 th p1 c κ (f_X9_isIn_4 th p1 c κ n) l2 l3 = some r := H
    unfold b_X9_isIn_4 at H
    refine gw_iload_n dX9_isIn_4 rfl rfl ?_
    refine gw_aload_n dX9_isIn_5 rfl rfl ?_
    refine gs_getR cl9 1 dX9_isIn_6 rfl kw_1320 (by decide) (h0.1) rfl ?_
    refine gw_iconstZ dX9_isIn_9 rfl ?_
    refine gs_ialdZ dX9_isIn_10 rfl (h0.2.1) (by decide) (by decide) ?_
    obtain ⟨g, H⟩ := gd_i H
    refine gw_icmp_geZ (tgt := 43) dX9_isIn_11 rfl (by decide) g.1 g.2 (fun q => ?_) (fun q => ?_)
    · have H := bq_t q H
      exact gw_L (hκ _ H) ((lvA_c rfl lvA_n))
    · have H := bq_f q H
      refine gw_iload_n dX9_isIn_14 rfl rfl ?_
      obtain ⟨g, H⟩ := gd_i H
      obtain ⟨k1, e_k1, H⟩ := jn_i H
      have hJ_k1 : ∀ (u2 : Unit), k1 u2 = some r → G Φ mX9_isIn (gw_M Φ mX9_isIn K) none 0 0 31 [(0, .ref (M + th)), (1, vI p1), (3, vI l3)] [] (hp Φ hb M sh c) := by
        intro u2 H
        subst e_k1
        refine gw_iconstZ dX9_isIn_31 rfl ?_
        refine gw_goto (tgt := 36) dX9_isIn_32 (by decide) ?_
        refine gw_istore_n dX9_isIn_36 rfl (by decide) ?_
        refine gw_iincZ dX9_isIn_37 rfl rfl (by decide) ?_
        refine gw_goto (tgt := 4) dX9_isIn_40 (by decide) ?_
        exact gw_L (ih _ _ H) ((lvA_c rfl (lvA_c rfl (lvA_c rfl (lvA_c rfl lvA_n)))))
      refine gw_if_neZ (tgt := 31) dX9_isIn_15 rfl (by decide) g (fun q => ?_) (fun q => ?_)
      · have H := bq_f q H
        exact gw_L (hJ_k1 _ H) ((lvA_c rfl (lvA_c rfl (lvA_c rfl lvA_n))))
      · have H := bq_t q H
        refine gw_aload_n dX9_isIn_18 rfl rfl ?_
        refine gs_getR cl9 1 dX9_isIn_19 rfl kw_1320 (by decide) (h0.1) rfl ?_
        refine gw_bipushZ dX9_isIn_22 rfl (by decide) ?_
        refine gw_iload_n dX9_isIn_24 rfl rfl ?_
        refine gw_iaddZ dX9_isIn_25 rfl ?_
        obtain ⟨g, H⟩ := gd_i H
        refine gs_ialdZ dX9_isIn_26 rfl (h0.2.1) g (by decide) ?_
        refine gw_iload_n dX9_isIn_27 rfl rfl ?_
        obtain ⟨g, H⟩ := gd_i H
        refine gw_icmp_neZ (tgt := 35) dX9_isIn_28 rfl (by decide) g.1 g.2 (fun q => ?_) (fun q => ?_)
        · have H := bq_f q H
          refine gw_iconstZ dX9_isIn_35 rfl ?_
          refine gw_istore_n dX9_isIn_36 rfl (by decide) ?_
          refine gw_iincZ dX9_isIn_37 rfl rfl (by decide) ?_
          refine gw_goto (tgt := 4) dX9_isIn_40 (by decide) ?_
          exact gw_L (ih _ _ H) ((lvA_c rfl (lvA_c rfl (lvA_c rfl (lvA_c rfl lvA_n)))))
        · have H := bq_t q H
          exact gw_L (hJ_k1 _ H) ((lvA_c rfl (lvA_c rfl (lvA_c rfl lvA_n))))
set_option maxRecDepth 100000 in
set_option maxHeartbeats 4000000 in
theorem w_X9_isIn {Φ : gwC} {hb : gwHp} {M : Nat} {sh : Nat → Option gSh} {th : Nat} {p1 : Int} {c : W0} {r : Int} {K : Option Value → gwHp → Prop} (h0 : sM sh th) (H : f_X9_isIn th p1 c = some r) (hK : K (some (vI r)) (hp Φ hb M sh c)) : gw_Con Φ mX9_isIn none [.ref (M + th), vI p1] (hp Φ hb M sh c) K := by
  unfold f_X9_isIn at H
  refine gw_start okX9_isIn (Nat.le_of_ble_eq_true rfl) ?_
  refine gw_iconstZ dX9_isIn_0 rfl ?_
  refine gw_istore_n dX9_isIn_1 rfl (by decide) ?_
  refine gw_iconstZ dX9_isIn_2 rfl ?_
  refine gw_istore_n dX9_isIn_3 rfl (by decide) ?_
  refine gw_L (l_X9_isIn_4 h0 hK (fun v1 H => ?_) LF _ _ H) ((lvA_c rfl (lvA_c rfl (lvA_c rfl (lvA_c rfl lvA_n)))))
  refine gw_iload_n dX9_isIn_43 rfl rfl ?_
  obtain ⟨g, H⟩ := gd_i H
  cases H
  exact gw_zret (gs_nz g) dX9_isIn_44 rfl (by decide) (by decide) hK
set_option maxRecDepth 100000 in
set_option maxHeartbeats 4000000 in
theorem l_X9_hindrance_52 {Φ : gwC} {hb : gwHp} {M : Nat} {sh : Nat → Option gSh} {th : Nat} {p1 : Int} {p2 : Int} {c : W0} {κ : Int → Option (Int × W0)} {r : Int × W0} {K : Option Value → gwHp → Prop} (h0 : sM sh th) (hK : K (some (vI r.1)) (hp Φ hb M sh r.2)) (hκ : ∀ (x3 : Int), κ x3 = some r → G Φ mX9_hindrance (gw_M Φ mX9_hindrance K) none 0 0 104 [(3, vI x3)] [] (hp Φ hb M sh c)) : ∀ (n : Nat) (l3 : Int) (l4 : Int), f_X9_hindrance_52 th p1 p2 c κ n l3 l4 = some r → G Φ mX9_hindrance (gw_M Φ mX9_hindrance K) none 0 0 52 [(0, .ref (M + th)), (1, vI p1), (2, vI p2), (3, vI l3), (4, vI l4)] [] (hp Φ hb M sh c) := by
  intro n
  induction n with
  | zero => intro l3 l4 H; cases H
  | succ n ih =>
    intro l3 l4 H
    have H : b_X9_hindrance_52 th p1 p2 c κ (f_X9_hindrance_52 th p1 p2 c κ n) l3 l4 = some r := H
    unfold b_X9_hindrance_52 at H
    refine gw_iload dX9_hindrance_52 rfl rfl ?_
    refine gw_aload_n dX9_hindrance_54 rfl rfl ?_
    refine gs_getR cl9 1 dX9_hindrance_55 rfl kw_1320 (by decide) (h0.1) rfl ?_
    refine gw_iconstZ dX9_hindrance_58 rfl ?_
    refine gs_ialdZ dX9_hindrance_59 rfl (h0.2.1) (by decide) (by decide) ?_
    obtain ⟨g, H⟩ := gd_i H
    refine gw_icmp_geZ (tgt := 104) dX9_hindrance_60 rfl (by decide) g.1 g.2 (fun q => ?_) (fun q => ?_)
    · have H := bq_t q H
      exact gw_L (hκ _ H) ((lvA_c rfl lvA_n))
    · have H := bq_f q H
      refine gw_iload_n dX9_hindrance_63 rfl rfl ?_
      obtain ⟨g, H⟩ := gd_i H
      obtain ⟨k1, e_k1, H⟩ := jn_i H
      have hJ_k1 : ∀ (u2 : Unit), k1 u2 = some r → G Φ mX9_hindrance (gw_M Φ mX9_hindrance K) none 0 0 92 [(0, .ref (M + th)), (1, vI p1), (2, vI p2), (4, vI l4)] [] (hp Φ hb M sh c) := by
        intro u2 H
        subst e_k1
        refine gw_iconstZ dX9_hindrance_92 rfl ?_
        refine gw_goto (tgt := 97) dX9_hindrance_93 (by decide) ?_
        refine gw_istore_n dX9_hindrance_97 rfl (by decide) ?_
        refine gw_iincZ dX9_hindrance_98 rfl rfl (by decide) ?_
        refine gw_goto (tgt := 52) dX9_hindrance_101 (by decide) ?_
        exact gw_L (ih _ _ H) ((lvA_c rfl (lvA_c rfl (lvA_c rfl (lvA_c rfl (lvA_c rfl lvA_n))))))
      refine gw_if_neZ (tgt := 92) dX9_hindrance_64 rfl (by decide) g (fun q => ?_) (fun q => ?_)
      · have H := bq_f q H
        exact gw_L (hJ_k1 _ H) ((lvA_c rfl (lvA_c rfl (lvA_c rfl (lvA_c rfl lvA_n)))))
      · have H := bq_t q H
        refine gw_aload_n dX9_hindrance_67 rfl rfl ?_
        refine gw_iload dX9_hindrance_68 rfl rfl ?_
        refine gw_iload_n dX9_hindrance_70 rfl rfl ?_
        obtain ⟨v3, e_v3, H⟩ := cv_i H
        refine gw_V2 okX9_entry dX9_hindrance_71 kw_1531 kw_1533 kw_54 (hp_o (h0.1)) rfl ⟨by decide, by decide⟩ ⟨by decide, by decide⟩ (Nat.le_of_ble_eq_true rfl) (w_X9_entry (h0) e_v3 ?_)
        refine gw_lconst0Z dX9_hindrance_74 rfl ?_
        obtain ⟨g, H⟩ := gd_i H
        refine gw_lc_leZ (tgt := 96) dX9_hindrance_75 rfl dX9_hindrance_76 rfl (by decide) g (by decide) (fun q => ?_) (fun q => ?_)
        · have H := bq_t q H
          refine gw_iconstZ dX9_hindrance_96 rfl ?_
          refine gw_istore_n dX9_hindrance_97 rfl (by decide) ?_
          refine gw_iincZ dX9_hindrance_98 rfl rfl (by decide) ?_
          refine gw_goto (tgt := 52) dX9_hindrance_101 (by decide) ?_
          exact gw_L (ih _ _ H) ((lvA_c rfl (lvA_c rfl (lvA_c rfl (lvA_c rfl (lvA_c rfl lvA_n))))))
        · have H := bq_f q H
          refine gw_aload_n dX9_hindrance_79 rfl rfl ?_
          refine gw_iload dX9_hindrance_80 rfl rfl ?_
          refine gw_iload_n dX9_hindrance_82 rfl rfl ?_
          refine gw_iload_n dX9_hindrance_83 rfl rfl ?_
          obtain ⟨v4, e_v4, H⟩ := cv_i H
          refine gw_V3 okX9_against dX9_hindrance_84 kw_1539 kw_1541 kw_56 (hp_o (h0.1)) rfl ⟨by decide, by decide⟩ ⟨by decide, by decide⟩ (Nat.le_of_ble_eq_true rfl) (w_X9_against (h0) e_v4 ?_)
          refine gw_lconst0Z dX9_hindrance_87 rfl ?_
          obtain ⟨g, H⟩ := gd_i H
          refine gw_lc_geZ (tgt := 96) dX9_hindrance_88 rfl dX9_hindrance_89 rfl (by decide) g (by decide) (fun q => ?_) (fun q => ?_)
          · have H := bq_t q H
            refine gw_iconstZ dX9_hindrance_96 rfl ?_
            refine gw_istore_n dX9_hindrance_97 rfl (by decide) ?_
            refine gw_iincZ dX9_hindrance_98 rfl rfl (by decide) ?_
            refine gw_goto (tgt := 52) dX9_hindrance_101 (by decide) ?_
            exact gw_L (ih _ _ H) ((lvA_c rfl (lvA_c rfl (lvA_c rfl (lvA_c rfl (lvA_c rfl lvA_n))))))
          · have H := bq_f q H
            exact gw_L (hJ_k1 _ H) ((lvA_c rfl (lvA_c rfl (lvA_c rfl (lvA_c rfl lvA_n)))))
set_option maxRecDepth 100000 in
set_option maxHeartbeats 4000000 in
theorem w_X9_hindrance {Φ : gwC} {hb : gwHp} {M : Nat} {sh : Nat → Option gSh} {th : Nat} {p1 : Int} {p2 : Int} {c : W0} {r : Int × W0} {K : Option Value → gwHp → Prop} (h0 : sM sh th) (H : f_X9_hindrance th p1 p2 c = some r) (hK : K (some (vI r.1)) (hp Φ hb M sh r.2)) : gw_Con Φ mX9_hindrance none [.ref (M + th), vI p1, vI p2] (hp Φ hb M sh c) K := by
  unfold f_X9_hindrance at H
  refine gw_start okX9_hindrance (Nat.le_of_ble_eq_true rfl) ?_
  refine gw_aload_n dX9_hindrance_0 rfl rfl ?_
  obtain ⟨v2, c1, e_c1, H⟩ := cl_i H
  refine gw_V0 okX9_laysNow dX9_hindrance_1 kw_1484 kw_1486 kw_43 (hp_o (h0.1)) rfl ⟨by decide, by decide⟩ ⟨by decide, by decide⟩ (Nat.le_of_ble_eq_true rfl) (w_X9_laysNow (h0) e_c1 ?_)
  refine gw_aload_n dX9_hindrance_4 rfl rfl ?_
  refine gw_iload_n dX9_hindrance_5 rfl rfl ?_
  obtain ⟨v3, e_v3, H⟩ := cv_i H
  refine gw_V1 okX9_isIn dX9_hindrance_6 kw_1515 kw_1517 kw_50 (hp_o (h0.1)) rfl ⟨by decide, by decide⟩ ⟨by decide, by decide⟩ (Nat.le_of_ble_eq_true rfl) (w_X9_isIn (h0) e_v3 ?_)
  obtain ⟨g, H⟩ := gd_i H
  obtain ⟨k4, e_k4, H⟩ := jn_i H
  have hJ_k4 : ∀ (c5 : W0), k4 c5 = some r → G Φ mX9_hindrance (gw_M Φ mX9_hindrance K) none 0 0 20 [(0, .ref (M + th)), (2, vI p2)] [] (hp Φ hb M sh c5) := by
    intro c5 H
    subst e_k4
    refine gw_aload_n dX9_hindrance_20 rfl rfl ?_
    refine gw_iload_n dX9_hindrance_21 rfl rfl ?_
    obtain ⟨v6, e_v6, H⟩ := cv_i H
    refine gw_V1 okX9_isIn dX9_hindrance_22 kw_1515 kw_1517 kw_50 (hp_o (h0.1)) rfl ⟨by decide, by decide⟩ ⟨by decide, by decide⟩ (Nat.le_of_ble_eq_true rfl) (w_X9_isIn (h0) e_v6 ?_)
    obtain ⟨g, H⟩ := gd_i H
    refine gw_if_eqZ (tgt := 32) dX9_hindrance_25 rfl (by decide) g (fun q => ?_) (fun q => ?_)
    · have H := bq_t q H
      refine gw_iconstZ dX9_hindrance_32 rfl ?_
      cases H
      exact gw_iret dX9_hindrance_33 rfl (by decide) (by decide) hK
    · have H := bq_f q H
      refine gw_iconstZ dX9_hindrance_28 rfl ?_
      refine gw_goto (tgt := 33) dX9_hindrance_29 (by decide) ?_
      cases H
      exact gw_iret dX9_hindrance_33 rfl (by decide) (by decide) hK
  refine gw_if_neZ (tgt := 20) dX9_hindrance_9 rfl (by decide) g (fun q => ?_) (fun q => ?_)
  · have H := bq_f q H
    exact gw_L (hJ_k4 _ H) ((lvA_c rfl (lvA_c rfl lvA_n)))
  · have H := bq_t q H
    refine gw_aload_n dX9_hindrance_12 rfl rfl ?_
    refine gw_iload_n dX9_hindrance_13 rfl rfl ?_
    obtain ⟨v7, c8, e_c8, H⟩ := cl_i H
    refine gw_V1 okX9_isRising dX9_hindrance_14 kw_1519 kw_1521 kw_51 (hp_o (h0.1)) rfl ⟨by decide, by decide⟩ ⟨by decide, by decide⟩ (Nat.le_of_ble_eq_true rfl) (w_X9_isRising (h0) e_c8 ?_)
    obtain ⟨g, H⟩ := gd_i H
    refine gw_if_neZ (tgt := 34) dX9_hindrance_17 rfl (by decide) g (fun q => ?_) (fun q => ?_)
    · have H := bq_f q H
      refine gw_aload_n dX9_hindrance_34 rfl rfl ?_
      refine gw_iload_n dX9_hindrance_35 rfl rfl ?_
      refine gw_iload_n dX9_hindrance_36 rfl rfl ?_
      obtain ⟨v9, e_v9, H⟩ := cv_i H
      refine gw_V2 okX9_entry dX9_hindrance_37 kw_1531 kw_1533 kw_54 (hp_o (h0.1)) rfl ⟨by decide, by decide⟩ ⟨by decide, by decide⟩ (Nat.le_of_ble_eq_true rfl) (w_X9_entry (h0) e_v9 ?_)
      refine gw_lconst0Z dX9_hindrance_40 rfl ?_
      obtain ⟨g, H⟩ := gd_i H
      refine gw_lc_gtZ (tgt := 47) dX9_hindrance_41 rfl dX9_hindrance_42 rfl (by decide) g (by decide) (fun q => ?_) (fun q => ?_)
      · have H := bq_t q H
        refine gw_iconstZ dX9_hindrance_47 rfl ?_
        refine gw_istore_n dX9_hindrance_48 rfl (by decide) ?_
        refine gw_iconstZ dX9_hindrance_49 rfl ?_
        refine gw_istore dX9_hindrance_50 rfl (by decide) ?_
        refine gw_L (l_X9_hindrance_52 h0 hK (fun v10 H => ?_) LF _ _ H) ((lvA_c rfl (lvA_c rfl (lvA_c rfl (lvA_c rfl (lvA_c rfl lvA_n))))))
        refine gw_iload_n dX9_hindrance_104 rfl rfl ?_
        obtain ⟨g, H⟩ := gd_i H
        refine gw_if_eqZ (tgt := 112) dX9_hindrance_105 rfl (by decide) g (fun q => ?_) (fun q => ?_)
        · have H := bq_t q H
          refine gw_iconstZ dX9_hindrance_112 rfl ?_
          cases H
          exact gw_iret dX9_hindrance_113 rfl (by decide) (by decide) hK
        · have H := bq_f q H
          refine gw_iconstZ dX9_hindrance_108 rfl ?_
          refine gw_goto (tgt := 113) dX9_hindrance_109 (by decide) ?_
          cases H
          exact gw_iret dX9_hindrance_113 rfl (by decide) (by decide) hK
      · have H := bq_f q H
        refine gw_iconstZ dX9_hindrance_45 rfl ?_
        cases H
        exact gw_iret dX9_hindrance_46 rfl (by decide) (by decide) hK
    · have H := bq_t q H
      exact gw_L (hJ_k4 _ H) ((lvA_c rfl (lvA_c rfl lvA_n)))
set_option maxRecDepth 100000 in
set_option maxHeartbeats 4000000 in
theorem w_X9_pivot {Φ : gwC} {hb : gwHp} {M : Nat} {sh : Nat → Option gSh} {th : Nat} {p1 : Int} {p2 : Int} {c : W0} {r : Int × W0} {K : Option Value → gwHp → Prop} (h0 : sM sh th) (H : f_X9_pivot th p1 p2 c = some r) (hK : K (some (vI r.1)) (hp Φ hb M sh r.2)) : gw_Con Φ mX9_pivot none [.ref (M + th), vI p1, vI p2] (hp Φ hb M sh c) K := by
  unfold f_X9_pivot at H
  refine gw_start okX9_pivot (Nat.le_of_ble_eq_true rfl) ?_
  refine gw_aload_n dX9_pivot_0 rfl rfl ?_
  refine gw_aload_n dX9_pivot_1 rfl rfl ?_
  refine gw_iload_n dX9_pivot_2 rfl rfl ?_
  refine gw_iload_n dX9_pivot_3 rfl rfl ?_
  obtain ⟨v1, e_v1, H⟩ := cv_i H
  refine gw_V2 okX9_isPlace dX9_pivot_4 kw_1468 kw_1470 kw_39 (hp_o (h0.1)) rfl ⟨by decide, by decide⟩ ⟨by decide, by decide⟩ (Nat.le_of_ble_eq_true rfl) (w_X9_isPlace (h0) e_v1 ?_)
  obtain ⟨g, H⟩ := gd_i H
  obtain ⟨k2, e_k2, H⟩ := jn_i H
  have hJ_k2 : ∀ (v3 : Int) (c4 : W0), k2 v3 c4 = some r → G Φ mX9_pivot (gw_M Φ mX9_pivot K) none 0 0 28 [(0, .ref (M + th)), (1, vI p1), (2, vI p2)] [vI v3, .ref (M + th)] (hp Φ hb M sh c4) := by
    intro v3 c4 H
    subst e_k2
    obtain ⟨v5, c6, e_c6, H⟩ := cl_i H
    refine gw_V1 okX9_holds dX9_pivot_28 kw_1416 kw_1418 kw_33 (hp_o (h0.1)) rfl ⟨by decide, by decide⟩ ⟨by decide, by decide⟩ (Nat.le_of_ble_eq_true rfl) (w_X9_holds (h0) e_c6 ?_)
    obtain ⟨g, H⟩ := gd_i H
    refine gw_if_neZ (tgt := 36) dX9_pivot_31 rfl (by decide) g (fun q => ?_) (fun q => ?_)
    · have H := bq_f q H
      refine gw_aload_n dX9_pivot_36 rfl rfl ?_
      obtain ⟨v8, c7, e_c7, H⟩ := cl_i H
      refine gw_V0 okX9_save dX9_pivot_37 kw_1420 kw_1422 kw_34 (hp_o (h0.1)) rfl ⟨by decide, by decide⟩ ⟨by decide, by decide⟩ (Nat.le_of_ble_eq_true rfl) (w_X9_save (h0) e_c7 ?_)
      refine gw_aload_n dX9_pivot_40 rfl rfl ?_
      refine gs_getR cl9 1 dX9_pivot_41 rfl kw_1320 (by decide) (h0.1) rfl ?_
      refine gw_bipushZ dX9_pivot_44 rfl (by decide) ?_
      refine gw_iload_n dX9_pivot_46 rfl rfl ?_
      refine gw_iaddZ dX9_pivot_47 rfl ?_
      obtain ⟨g, H⟩ := gd_i H
      refine gs_ialdZ dX9_pivot_48 rfl (h0.2.1) g (by decide) ?_
      refine gw_istore_n dX9_pivot_49 rfl (by decide) ?_
      refine gw_aload_n dX9_pivot_50 rfl rfl ?_
      refine gw_iload_n dX9_pivot_51 rfl rfl ?_
      refine gw_iload_n dX9_pivot_52 rfl rfl ?_
      obtain ⟨v10, c9, e_c9, H⟩ := cl_i H
      refine gw_V2 okX9_turns dX9_pivot_53 kw_1543 kw_1545 kw_57 (hp_o (h0.1)) rfl ⟨by decide, by decide⟩ ⟨by decide, by decide⟩ (Nat.le_of_ble_eq_true rfl) (w_X9_turns (h0) e_c9 ?_)
      refine gw_iload_n dX9_pivot_56 rfl rfl ?_
      cases H
      exact gw_iret dX9_pivot_57 rfl (by decide) (by decide) hK
    · have H := bq_t q H
      refine gw_iconstZ dX9_pivot_34 rfl ?_
      cases H
      exact gw_iret dX9_pivot_35 rfl (by decide) (by decide) hK
  refine gw_if_neZ (tgt := 14) dX9_pivot_7 rfl (by decide) g (fun q => ?_) (fun q => ?_)
  · have H := bq_f q H
    refine gw_aload_n dX9_pivot_14 rfl rfl ?_
    refine gw_iload_n dX9_pivot_15 rfl rfl ?_
    refine gw_iload_n dX9_pivot_16 rfl rfl ?_
    obtain ⟨v11, c12, e_c12, H⟩ := cl_i H
    refine gw_V2 okX9_hindrance dX9_pivot_17 kw_1480 kw_1482 kw_42 (hp_o (h0.1)) rfl ⟨by decide, by decide⟩ ⟨by decide, by decide⟩ (Nat.le_of_ble_eq_true rfl) (w_X9_hindrance (h0) e_c12 ?_)
    obtain ⟨g, H⟩ := gd_i H
    refine gw_if_neZ (tgt := 27) dX9_pivot_20 rfl (by decide) g (fun q => ?_) (fun q => ?_)
    · have H := bq_f q H
      refine gw_iconstZ dX9_pivot_27 rfl ?_
      exact gw_L (hJ_k2 _ _ H) ((lvA_c rfl (lvA_c rfl (lvA_c rfl lvA_n))))
    · have H := bq_t q H
      refine gw_iconstZ dX9_pivot_23 rfl ?_
      refine gw_goto (tgt := 28) dX9_pivot_24 (by decide) ?_
      exact gw_L (hJ_k2 _ _ H) ((lvA_c rfl (lvA_c rfl (lvA_c rfl lvA_n))))
  · have H := bq_t q H
    refine gw_iconstZ dX9_pivot_10 rfl ?_
    refine gw_goto (tgt := 28) dX9_pivot_11 (by decide) ?_
    exact gw_L (hJ_k2 _ _ H) ((lvA_c rfl (lvA_c rfl (lvA_c rfl lvA_n))))
set_option maxRecDepth 100000 in
set_option maxHeartbeats 4000000 in
theorem w_X9_isAtEnd {Φ : gwC} {hb : gwHp} {M : Nat} {sh : Nat → Option gSh} {th : Nat} {c : W0} {r : Int × W0} {K : Option Value → gwHp → Prop} (h0 : sM sh th) (H : f_X9_isAtEnd th c = some r) (hK : K (some (vI r.1)) (hp Φ hb M sh r.2)) : gw_Con Φ mX9_isAtEnd none [.ref (M + th)] (hp Φ hb M sh c) K := by
  unfold f_X9_isAtEnd at H
  refine gw_start okX9_isAtEnd (Nat.le_of_ble_eq_true rfl) ?_
  refine gw_aload_n dX9_isAtEnd_0 rfl rfl ?_
  obtain ⟨v2, c1, e_c1, H⟩ := cl_i H
  refine gw_V0 okX9_laysNow dX9_isAtEnd_1 kw_1484 kw_1486 kw_43 (hp_o (h0.1)) rfl ⟨by decide, by decide⟩ ⟨by decide, by decide⟩ (Nat.le_of_ble_eq_true rfl) (w_X9_laysNow (h0) e_c1 ?_)
  refine gw_aload_n dX9_isAtEnd_4 rfl rfl ?_
  obtain ⟨v3, c4, e_c4, H⟩ := cl_i H
  refine gw_V0 okX9_isOver dX9_isAtEnd_5 kw_1555 kw_1557 kw_59 (hp_o (h0.1)) rfl ⟨by decide, by decide⟩ ⟨by decide, by decide⟩ (Nat.le_of_ble_eq_true rfl) (w_X9_isOver (h0) e_c4 ?_)
  obtain ⟨g, H⟩ := gd_i H
  cases H
  exact gw_zret (gs_nz g) dX9_isAtEnd_8 rfl (by decide) (by decide) hK
set_option maxRecDepth 100000 in
set_option maxHeartbeats 4000000 in
theorem w_X9_step {Φ : gwC} {hb : gwHp} {M : Nat} {sh : Nat → Option gSh} {th : Nat} {c : W0} {r : Int × W0} {K : Option Value → gwHp → Prop} (h0 : sM sh th) (H : f_X9_step th c = some r) (hK : K (some (vI r.1)) (hp Φ hb M sh r.2)) : gw_Con Φ mX9_step none [.ref (M + th)] (hp Φ hb M sh c) K := by
  unfold f_X9_step at H
  refine gw_start okX9_step (Nat.le_of_ble_eq_true rfl) ?_
  refine gw_aload_n dX9_step_0 rfl rfl ?_
  refine gw_aload_n dX9_step_1 rfl rfl ?_
  obtain ⟨v1, c2, e_c2, H⟩ := cl_i H
  refine gw_V0 okX9_isAtEnd dX9_step_2 kw_1551 kw_1553 kw_58 (hp_o (h0.1)) rfl ⟨by decide, by decide⟩ ⟨by decide, by decide⟩ (Nat.le_of_ble_eq_true rfl) (w_X9_isAtEnd (h0) e_c2 ?_)
  obtain ⟨g, H⟩ := gd_i H
  obtain ⟨k3, e_k3, H⟩ := jn_i H
  have hJ_k3 : ∀ (v4 : Int), k3 v4 = some r → G Φ mX9_step (gw_M Φ mX9_step K) none 0 0 13 [(0, .ref (M + th))] [vI v4, .ref (M + th)] (hp Φ hb M sh c2) := by
    intro v4 H
    subst e_k3
    obtain ⟨v5, c6, e_c6, H⟩ := cl_i H
    refine gw_V1 okX9_holds dX9_step_13 kw_1416 kw_1418 kw_33 (hp_o (h0.1)) rfl ⟨by decide, by decide⟩ ⟨by decide, by decide⟩ (Nat.le_of_ble_eq_true rfl) (w_X9_holds (h0) e_c6 ?_)
    obtain ⟨g, H⟩ := gd_i H
    refine gw_if_neZ (tgt := 21) dX9_step_16 rfl (by decide) g (fun q => ?_) (fun q => ?_)
    · have H := bq_f q H
      refine gw_aload_n dX9_step_21 rfl rfl ?_
      obtain ⟨v8, c7, e_c7, H⟩ := cl_i H
      refine gw_V0 okX9_save dX9_step_22 kw_1420 kw_1422 kw_34 (hp_o (h0.1)) rfl ⟨by decide, by decide⟩ ⟨by decide, by decide⟩ (Nat.le_of_ble_eq_true rfl) (w_X9_save (h0) e_c7 ?_)
      refine gw_aload_n dX9_step_25 rfl rfl ?_
      obtain ⟨v9, c10, e_c10, H⟩ := cl_i H
      refine gw_V0 okX9_bestColumn dX9_step_26 kw_1571 kw_1573 kw_63 (hp_o (h0.1)) rfl ⟨by decide, by decide⟩ ⟨by decide, by decide⟩ (Nat.le_of_ble_eq_true rfl) (w_X9_bestColumn (h0) e_c10 ?_)
      refine gw_istore_n dX9_step_29 rfl (by decide) ?_
      refine gw_aload_n dX9_step_30 rfl rfl ?_
      refine gw_aload_n dX9_step_31 rfl rfl ?_
      refine gw_iload_n dX9_step_32 rfl rfl ?_
      obtain ⟨v11, e_v11, H⟩ := cv_i H
      refine gw_V1 okX9_leastRow dX9_step_33 kw_1579 kw_1581 kw_65 (hp_o (h0.1)) rfl ⟨by decide, by decide⟩ ⟨by decide, by decide⟩ (Nat.le_of_ble_eq_true rfl) (w_X9_leastRow (h0) e_v11 ?_)
      refine gw_iload_n dX9_step_36 rfl rfl ?_
      obtain ⟨v13, c12, e_c12, H⟩ := cl_i H
      refine gw_V2 okX9_turns dX9_step_37 kw_1543 kw_1545 kw_57 (hp_o (h0.1)) rfl ⟨by decide, by decide⟩ ⟨by decide, by decide⟩ (Nat.le_of_ble_eq_true rfl) (w_X9_turns (h0) e_c12 ?_)
      refine gw_iload_n dX9_step_40 rfl rfl ?_
      cases H
      exact gw_iret dX9_step_41 rfl (by decide) (by decide) hK
    · have H := bq_t q H
      refine gw_iconstZ dX9_step_19 rfl ?_
      cases H
      exact gw_iret dX9_step_20 rfl (by decide) (by decide) hK
  refine gw_if_eqZ (tgt := 12) dX9_step_5 rfl (by decide) g (fun q => ?_) (fun q => ?_)
  · have H := bq_t q H
    refine gw_iconstZ dX9_step_12 rfl ?_
    exact gw_L (hJ_k3 _ H) ((lvA_c rfl lvA_n))
  · have H := bq_f q H
    refine gw_iconstZ dX9_step_8 rfl ?_
    refine gw_goto (tgt := 13) dX9_step_9 (by decide) ?_
    exact gw_L (hJ_k3 _ H) ((lvA_c rfl lvA_n))
set_option maxRecDepth 100000 in
set_option maxHeartbeats 4000000 in
theorem w_X9_solve {Φ : gwC} {hb : gwHp} {M : Nat} {sh : Nat → Option gSh} {th : Nat} {c : W0} {r : Int × W0} {K : Option Value → gwHp → Prop} (h0 : sM sh th) (H : f_X9_solve th c = some r) (hK : K (some (vI r.1)) (hp Φ hb M sh r.2)) : gw_Con Φ mX9_solve none [.ref (M + th)] (hp Φ hb M sh c) K := by
  unfold f_X9_solve at H
  refine gw_start okX9_solve (Nat.le_of_ble_eq_true rfl) ?_
  refine gw_aload_n dX9_solve_0 rfl rfl ?_
  refine gw_iconstZ dX9_solve_1 rfl ?_
  obtain ⟨c1, e_c1, H⟩ := sto_i H
  refine gs_putIE cl9 0 0 dX9_solve_2 rfl kw_1319 (by decide) rfl rfl (h0.1) rfl rfl e_c1 ?_
  refine gw_aload_n dX9_solve_5 rfl rfl ?_
  obtain ⟨v3, c2, e_c2, H⟩ := cl_i H
  refine gw_V0 okX9_save dX9_solve_6 kw_1420 kw_1422 kw_34 (hp_o (h0.1)) rfl ⟨by decide, by decide⟩ ⟨by decide, by decide⟩ (Nat.le_of_ble_eq_true rfl) (w_X9_save (h0) e_c2 ?_)
  refine gw_aload_n dX9_solve_9 rfl rfl ?_
  obtain ⟨v4, c5, e_c5, H⟩ := cl_i H
  refine gw_V0 okX9_solves dX9_solve_10 kw_1591 kw_1593 kw_66 (hp_o (h0.1)) rfl ⟨by decide, by decide⟩ ⟨by decide, by decide⟩ (Nat.le_of_ble_eq_true rfl) (w_X9_solves (h0) e_c5 ?_)
  cases H
  exact gw_iret dX9_solve_13 rfl (by decide) (by decide) hK
set_option maxRecDepth 100000 in
set_option maxHeartbeats 4000000 in
theorem w_X9_setRule {Φ : gwC} {hb : gwHp} {M : Nat} {sh : Nat → Option gSh} {th : Nat} {p1 : Int} {c : W0} {r : Int × W0} {K : Option Value → gwHp → Prop} (h0 : sM sh th) (H : f_X9_setRule th p1 c = some r) (hK : K (some (vI r.1)) (hp Φ hb M sh r.2)) : gw_Con Φ mX9_setRule none [.ref (M + th), vI p1] (hp Φ hb M sh c) K := by
  unfold f_X9_setRule at H
  refine gw_start okX9_setRule (Nat.le_of_ble_eq_true rfl) ?_
  refine gw_aload_n dX9_setRule_0 rfl rfl ?_
  refine gw_iload_n dX9_setRule_1 rfl rfl ?_
  refine gw_iconstZ dX9_setRule_2 rfl ?_
  refine gw_iconstZ dX9_setRule_3 rfl ?_
  obtain ⟨v1, e_v1, H⟩ := cv_i H
  refine gw_S3 okX9_in dX9_setRule_4 kw_1413 kw_1414 ⟨by decide, by decide⟩ ⟨by decide, by decide⟩ (Nat.le_of_ble_eq_true rfl) (w_X9_in  e_v1 ?_)
  obtain ⟨g, H⟩ := gd_i H
  obtain ⟨k2, e_k2, H⟩ := jn_i H
  have hJ_k2 : ∀ (v3 : Int), k2 v3 = some r → G Φ mX9_setRule (gw_M Φ mX9_setRule K) none 0 0 15 [(0, .ref (M + th)), (1, vI p1)] [vI v3, .ref (M + th)] (hp Φ hb M sh c) := by
    intro v3 H
    subst e_k2
    obtain ⟨v4, c5, e_c5, H⟩ := cl_i H
    refine gw_V1 okX9_holds dX9_setRule_15 kw_1416 kw_1418 kw_33 (hp_o (h0.1)) rfl ⟨by decide, by decide⟩ ⟨by decide, by decide⟩ (Nat.le_of_ble_eq_true rfl) (w_X9_holds (h0) e_c5 ?_)
    obtain ⟨g, H⟩ := gd_i H
    refine gw_if_neZ (tgt := 23) dX9_setRule_18 rfl (by decide) g (fun q => ?_) (fun q => ?_)
    · have H := bq_f q H
      refine gw_aload_n dX9_setRule_23 rfl rfl ?_
      obtain ⟨v7, c6, e_c6, H⟩ := cl_i H
      refine gw_V0 okX9_save dX9_setRule_24 kw_1420 kw_1422 kw_34 (hp_o (h0.1)) rfl ⟨by decide, by decide⟩ ⟨by decide, by decide⟩ (Nat.le_of_ble_eq_true rfl) (w_X9_save (h0) e_c6 ?_)
      refine gw_aload_n dX9_setRule_27 rfl rfl ?_
      refine gs_getR cl9 1 dX9_setRule_28 rfl kw_1320 (by decide) (h0.1) rfl ?_
      refine gw_bipushZ dX9_setRule_31 rfl (by decide) ?_
      refine gs_ialdZ dX9_setRule_33 rfl (h0.2.1) (by decide) (by decide) ?_
      refine gw_istore_n dX9_setRule_34 rfl (by decide) ?_
      refine gw_aload_n dX9_setRule_35 rfl rfl ?_
      refine gs_getR cl9 1 dX9_setRule_36 rfl kw_1320 (by decide) (h0.1) rfl ?_
      refine gw_bipushZ dX9_setRule_39 rfl (by decide) ?_
      refine gw_iload_n dX9_setRule_41 rfl rfl ?_
      obtain ⟨c8, e_c8, H⟩ := sto_i H
      refine gs_iastZE dX9_setRule_42 rfl (h0.2.1) (by decide) (by decide) e_c8 ?_
      refine gw_iload_n dX9_setRule_43 rfl rfl ?_
      cases H
      exact gw_iret dX9_setRule_44 rfl (by decide) (by decide) hK
    · have H := bq_t q H
      refine gw_iconstZ dX9_setRule_21 rfl ?_
      cases H
      exact gw_iret dX9_setRule_22 rfl (by decide) (by decide) hK
  refine gw_if_eqZ (tgt := 14) dX9_setRule_7 rfl (by decide) g (fun q => ?_) (fun q => ?_)
  · have H := bq_t q H
    refine gw_iconstZ dX9_setRule_14 rfl ?_
    exact gw_L (hJ_k2 _ H) ((lvA_c rfl (lvA_c rfl lvA_n)))
  · have H := bq_f q H
    refine gw_iconstZ dX9_setRule_10 rfl ?_
    refine gw_goto (tgt := 15) dX9_setRule_11 (by decide) ?_
    exact gw_L (hJ_k2 _ H) ((lvA_c rfl (lvA_c rfl lvA_n)))
set_option maxRecDepth 100000 in
set_option maxHeartbeats 4000000 in
theorem w_X9_append {Φ : gwC} {hb : gwHp} {M : Nat} {sh : Nat → Option gSh} {th : Nat} {p1 : Int} {c : W0} {r : Int × W0} {K : Option Value → gwHp → Prop} (h0 : sM sh th) (H : f_X9_append th p1 c = some r) (hK : K (some (vI r.1)) (hp Φ hb M sh r.2)) : gw_Con Φ mX9_append none [.ref (M + th), vI p1] (hp Φ hb M sh c) K := by
  unfold f_X9_append at H
  refine gw_start okX9_append (Nat.le_of_ble_eq_true rfl) ?_
  refine gw_aload_n dX9_append_0 rfl rfl ?_
  refine gw_iload_n dX9_append_1 rfl rfl ?_
  refine gw_bipushZ dX9_append_2 rfl (by decide) ?_
  refine gw_bipushZ dX9_append_4 rfl (by decide) ?_
  obtain ⟨v1, e_v1, H⟩ := cv_i H
  refine gw_S3 okX9_in dX9_append_6 kw_1413 kw_1414 ⟨by decide, by decide⟩ ⟨by decide, by decide⟩ (Nat.le_of_ble_eq_true rfl) (w_X9_in  e_v1 ?_)
  obtain ⟨g, H⟩ := gd_i H
  obtain ⟨k2, e_k2, H⟩ := jn_i H
  have hJ_k2 : ∀ (v3 : Int), k2 v3 = some r → G Φ mX9_append (gw_M Φ mX9_append K) none 0 0 30 [(0, .ref (M + th)), (1, vI p1)] [vI v3, .ref (M + th)] (hp Φ hb M sh c) := by
    intro v3 H
    subst e_k2
    obtain ⟨v4, c5, e_c5, H⟩ := cl_i H
    refine gw_V1 okX9_holds dX9_append_30 kw_1416 kw_1418 kw_33 (hp_o (h0.1)) rfl ⟨by decide, by decide⟩ ⟨by decide, by decide⟩ (Nat.le_of_ble_eq_true rfl) (w_X9_holds (h0) e_c5 ?_)
    obtain ⟨g, H⟩ := gd_i H
    refine gw_if_neZ (tgt := 38) dX9_append_33 rfl (by decide) g (fun q => ?_) (fun q => ?_)
    · have H := bq_f q H
      refine gw_aload_n dX9_append_38 rfl rfl ?_
      refine gs_getR cl9 7 dX9_append_39 rfl kw_1326 (by decide) (h0.1) rfl ?_
      refine gw_aload_n dX9_append_42 rfl rfl ?_
      refine gs_getI cl9 8 8 dX9_append_43 rfl kw_1327 (by decide) (h0.1) rfl rfl ?_
      refine gw_iload_n dX9_append_46 rfl rfl ?_
      obtain ⟨g, H⟩ := gd_i H
      obtain ⟨c6, e_c6, H⟩ := sto_i H
      refine gs_iastZE dX9_append_47 rfl (h0.2.2.2.2.2.1) g (by decide) e_c6 ?_
      refine gw_aload_n dX9_append_48 rfl rfl ?_
      refine gw_dup dX9_append_49 rfl rfl ?_
      refine gs_getI cl9 8 8 dX9_append_50 rfl kw_1327 (by decide) (h0.1) rfl rfl ?_
      refine gw_iconstZ dX9_append_53 rfl ?_
      refine gw_iaddZ dX9_append_54 rfl ?_
      obtain ⟨c7, e_c7, H⟩ := sto_i H
      refine gs_putIE cl9 8 8 dX9_append_55 rfl kw_1327 (by decide) rfl rfl (h0.1) rfl rfl e_c7 ?_
      refine gw_aload_n dX9_append_58 rfl rfl ?_
      refine gs_getI cl9 8 8 dX9_append_59 rfl kw_1327 (by decide) (h0.1) rfl rfl ?_
      cases H
      exact gw_iret dX9_append_62 rfl (by decide) (by decide) hK
    · have H := bq_t q H
      refine gw_iconstZ dX9_append_36 rfl ?_
      cases H
      exact gw_iret dX9_append_37 rfl (by decide) (by decide) hK
  refine gw_if_neZ (tgt := 16) dX9_append_9 rfl (by decide) g (fun q => ?_) (fun q => ?_)
  · have H := bq_f q H
    refine gw_aload_n dX9_append_16 rfl rfl ?_
    refine gs_getI cl9 8 8 dX9_append_17 rfl kw_1327 (by decide) (h0.1) rfl rfl ?_
    refine gw_bipushZ dX9_append_20 rfl (by decide) ?_
    obtain ⟨g, H⟩ := gd_i H
    refine gw_icmp_neZ (tgt := 29) dX9_append_22 rfl (by decide) g (by decide) (fun q => ?_) (fun q => ?_)
    · have H := bq_f q H
      refine gw_iconstZ dX9_append_29 rfl ?_
      exact gw_L (hJ_k2 _ H) ((lvA_c rfl (lvA_c rfl lvA_n)))
    · have H := bq_t q H
      refine gw_iconstZ dX9_append_25 rfl ?_
      refine gw_goto (tgt := 30) dX9_append_26 (by decide) ?_
      exact gw_L (hJ_k2 _ H) ((lvA_c rfl (lvA_c rfl lvA_n)))
  · have H := bq_t q H
    refine gw_iconstZ dX9_append_12 rfl ?_
    refine gw_goto (tgt := 30) dX9_append_13 (by decide) ?_
    exact gw_L (hJ_k2 _ H) ((lvA_c rfl (lvA_c rfl lvA_n)))
set_option maxRecDepth 100000 in
set_option maxHeartbeats 4000000 in
theorem w_X9_clearBuffer {Φ : gwC} {hb : gwHp} {M : Nat} {sh : Nat → Option gSh} {th : Nat} {c : W0} {r : Int × W0} {K : Option Value → gwHp → Prop} (h0 : sM sh th) (H : f_X9_clearBuffer th c = some r) (hK : K (some (vI r.1)) (hp Φ hb M sh r.2)) : gw_Con Φ mX9_clearBuffer none [.ref (M + th)] (hp Φ hb M sh c) K := by
  unfold f_X9_clearBuffer at H
  refine gw_start okX9_clearBuffer (Nat.le_of_ble_eq_true rfl) ?_
  refine gw_aload_n dX9_clearBuffer_0 rfl rfl ?_
  refine gw_iconstZ dX9_clearBuffer_1 rfl ?_
  obtain ⟨c1, e_c1, H⟩ := sto_i H
  refine gs_putIE cl9 0 0 dX9_clearBuffer_2 rfl kw_1319 (by decide) rfl rfl (h0.1) rfl rfl e_c1 ?_
  refine gw_aload_n dX9_clearBuffer_5 rfl rfl ?_
  refine gs_getI cl9 8 8 dX9_clearBuffer_6 rfl kw_1327 (by decide) (h0.1) rfl rfl ?_
  refine gw_istore_n dX9_clearBuffer_9 rfl (by decide) ?_
  refine gw_aload_n dX9_clearBuffer_10 rfl rfl ?_
  refine gw_iconstZ dX9_clearBuffer_11 rfl ?_
  obtain ⟨c2, e_c2, H⟩ := sto_i H
  refine gs_putIE cl9 8 8 dX9_clearBuffer_12 rfl kw_1327 (by decide) rfl rfl (h0.1) rfl rfl e_c2 ?_
  refine gw_iload_n dX9_clearBuffer_15 rfl rfl ?_
  cases H
  exact gw_iret dX9_clearBuffer_16 rfl (by decide) (by decide) hK
set_option maxRecDepth 100000 in
set_option maxHeartbeats 4000000 in
theorem w_X9_isNext {Φ : gwC} {hb : gwHp} {M : Nat} {sh : Nat → Option gSh} {th : Nat} {p1 : Int} {p2 : Int} {c : W0} {r : Int} {K : Option Value → gwHp → Prop} (h0 : sM sh th) (H : f_X9_isNext th p1 p2 c = some r) (hK : K (some (vI r)) (hp Φ hb M sh c)) : gw_Con Φ mX9_isNext none [.ref (M + th), vI p1, vI p2] (hp Φ hb M sh c) K := by
  unfold f_X9_isNext at H
  refine gw_start okX9_isNext (Nat.le_of_ble_eq_true rfl) ?_
  refine gw_aload_n dX9_isNext_0 rfl rfl ?_
  refine gs_getI cl9 19 19 dX9_isNext_1 rfl kw_1338 (by decide) (h0.1) rfl rfl ?_
  obtain ⟨g, H⟩ := gd_i H
  refine gw_if_neZ (tgt := 39) dX9_isNext_4 rfl (by decide) g (fun q => ?_) (fun q => ?_)
  · have H := bq_f q H
    refine gw_iconstZ dX9_isNext_39 rfl ?_
    cases H
    exact gw_zret rfl dX9_isNext_40 rfl (by decide) (by decide) hK
  · have H := bq_t q H
    refine gw_aload_n dX9_isNext_7 rfl rfl ?_
    refine gs_getI cl9 18 18 dX9_isNext_8 rfl kw_1337 (by decide) (h0.1) rfl rfl ?_
    refine gw_aload_n dX9_isNext_11 rfl rfl ?_
    refine gs_getI cl9 8 8 dX9_isNext_12 rfl kw_1327 (by decide) (h0.1) rfl rfl ?_
    obtain ⟨g, H⟩ := gd_i H
    refine gw_icmp_geZ (tgt := 39) dX9_isNext_15 rfl (by decide) g.1 g.2 (fun q => ?_) (fun q => ?_)
    · have H := bq_t q H
      refine gw_iconstZ dX9_isNext_39 rfl ?_
      cases H
      exact gw_zret rfl dX9_isNext_40 rfl (by decide) (by decide) hK
    · have H := bq_f q H
      refine gw_aload_n dX9_isNext_18 rfl rfl ?_
      refine gs_getR cl9 7 dX9_isNext_19 rfl kw_1326 (by decide) (h0.1) rfl ?_
      refine gw_aload_n dX9_isNext_22 rfl rfl ?_
      refine gs_getI cl9 18 18 dX9_isNext_23 rfl kw_1337 (by decide) (h0.1) rfl rfl ?_
      obtain ⟨g, H⟩ := gd_i H
      refine gs_ialdZ dX9_isNext_26 rfl (h0.2.2.2.2.2.1) g (by decide) ?_
      refine gw_iload_n dX9_isNext_27 rfl rfl ?_
      refine gw_iload_n dX9_isNext_28 rfl rfl ?_
      obtain ⟨v1, e_v1, H⟩ := cv_i H
      refine gw_S3 okX9_in dX9_isNext_29 kw_1413 kw_1414 ⟨by decide, by decide⟩ ⟨by decide, by decide⟩ (Nat.le_of_ble_eq_true rfl) (w_X9_in  e_v1 ?_)
      obtain ⟨g, H⟩ := gd_i H
      refine gw_if_eqZ (tgt := 39) dX9_isNext_32 rfl (by decide) g (fun q => ?_) (fun q => ?_)
      · have H := bq_t q H
        refine gw_iconstZ dX9_isNext_39 rfl ?_
        cases H
        exact gw_zret rfl dX9_isNext_40 rfl (by decide) (by decide) hK
      · have H := bq_f q H
        refine gw_iconstZ dX9_isNext_35 rfl ?_
        refine gw_goto (tgt := 40) dX9_isNext_36 (by decide) ?_
        cases H
        exact gw_zret rfl dX9_isNext_40 rfl (by decide) (by decide) hK
set_option maxRecDepth 100000 in
set_option maxHeartbeats 4000000 in
theorem w_X9_takes {Φ : gwC} {hb : gwHp} {M : Nat} {sh : Nat → Option gSh} {th : Nat} {p1 : Int} {p2 : Int} {c : W0} {r : Int × W0} {K : Option Value → gwHp → Prop} (h0 : sM sh th) (H : f_X9_takes th p1 p2 c = some r) (hK : K (some (vI r.1)) (hp Φ hb M sh r.2)) : gw_Con Φ mX9_takes none [.ref (M + th), vI p1, vI p2] (hp Φ hb M sh c) K := by
  unfold f_X9_takes at H
  refine gw_start okX9_takes (Nat.le_of_ble_eq_true rfl) ?_
  refine gw_aload_n dX9_takes_0 rfl rfl ?_
  refine gw_iload_n dX9_takes_1 rfl rfl ?_
  refine gw_iload_n dX9_takes_2 rfl rfl ?_
  obtain ⟨v1, e_v1, H⟩ := cv_i H
  refine gw_V2 okX9_isNext dX9_takes_3 kw_1619 kw_1621 kw_69 (hp_o (h0.1)) rfl ⟨by decide, by decide⟩ ⟨by decide, by decide⟩ (Nat.le_of_ble_eq_true rfl) (w_X9_isNext (h0) e_v1 ?_)
  refine gw_istore_n dX9_takes_6 rfl (by decide) ?_
  refine gw_iload_n dX9_takes_7 rfl rfl ?_
  obtain ⟨g, H⟩ := gd_i H
  obtain ⟨k2, e_k2, H⟩ := jn_i H
  have hJ_k2 : ∀ (v3 : Int), k2 v3 = some r → G Φ mX9_takes (gw_M Φ mX9_takes K) none 0 0 25 [(0, .ref (M + th)), (3, vI v1)] [vI v3] (hp Φ hb M sh c) := by
    intro v3 H
    subst e_k2
    refine gw_istore dX9_takes_25 rfl (by decide) ?_
    refine gw_aload_n dX9_takes_27 rfl rfl ?_
    refine gw_dup dX9_takes_28 rfl rfl ?_
    refine gs_getI cl9 18 18 dX9_takes_29 rfl kw_1337 (by decide) (h0.1) rfl rfl ?_
    refine gw_iload_n dX9_takes_32 rfl rfl ?_
    obtain ⟨g, H⟩ := gd_i H
    obtain ⟨k4, e_k4, H⟩ := jn_i H
    have hJ_k4 : ∀ (v5 : Int), k4 v5 = some r → G Φ mX9_takes (gw_M Φ mX9_takes K) none 0 0 41 [(0, .ref (M + th)), (3, vI v1), (4, vI v3)] [vI v5, vI (c th 18), .ref (M + th)] (hp Φ hb M sh c) := by
      intro v5 H
      subst e_k4
      refine gw_iaddZ dX9_takes_41 rfl ?_
      obtain ⟨c6, e_c6, H⟩ := sto_i H
      refine gs_putIE cl9 18 18 dX9_takes_42 rfl kw_1337 (by decide) rfl rfl (h0.1) rfl rfl e_c6 ?_
      refine gw_aload_n dX9_takes_45 rfl rfl ?_
      refine gw_aload_n dX9_takes_46 rfl rfl ?_
      refine gs_getI cl9 19 19 dX9_takes_47 rfl kw_1338 (by decide) (h0.1) rfl rfl ?_
      obtain ⟨g, H⟩ := gd_i H
      obtain ⟨k7, e_k7, H⟩ := jn_i H
      have hJ_k7 : ∀ (u8 : Unit), k7 u8 = some r → G Φ mX9_takes (gw_M Φ mX9_takes K) none 0 0 57 [(4, vI v3)] [.ref (M + th)] (hp Φ hb M sh c6) := by
        intro u8 H
        subst e_k7
        refine gw_iconstZ dX9_takes_57 rfl ?_
        refine gw_goto (tgt := 62) dX9_takes_58 (by decide) ?_
        obtain ⟨c9, e_c9, H⟩ := sto_i H
        refine gs_putZE cl9 19 19 dX9_takes_62 rfl kw_1338 (by decide) rfl rfl (h0.1) rfl rfl (by decide) e_c9 ?_
        refine gw_iload dX9_takes_65 rfl rfl ?_
        refine gw_bipushZ dX9_takes_67 rfl (by decide) ?_
        refine gw_isubZ dX9_takes_69 rfl ?_
        cases H
        exact gw_iret dX9_takes_70 rfl (by decide) (by decide) hK
      refine gw_if_neZ (tgt := 57) dX9_takes_50 rfl (by decide) g (fun q => ?_) (fun q => ?_)
      · have H := bq_f q H
        exact gw_L (hJ_k7 _ H) ((lvA_c rfl lvA_n))
      · have H := bq_t q H
        refine gw_iload_n dX9_takes_53 rfl rfl ?_
        obtain ⟨g, H⟩ := gd_i H
        refine gw_if_neZ (tgt := 61) dX9_takes_54 rfl (by decide) g (fun q => ?_) (fun q => ?_)
        · have H := bq_f q H
          refine gw_iconstZ dX9_takes_61 rfl ?_
          obtain ⟨c10, e_c10, H⟩ := sto_i H
          refine gs_putZE cl9 19 19 dX9_takes_62 rfl kw_1338 (by decide) rfl rfl (h0.1) rfl rfl (by decide) e_c10 ?_
          refine gw_iload dX9_takes_65 rfl rfl ?_
          refine gw_bipushZ dX9_takes_67 rfl (by decide) ?_
          refine gw_isubZ dX9_takes_69 rfl ?_
          cases H
          exact gw_iret dX9_takes_70 rfl (by decide) (by decide) hK
        · have H := bq_t q H
          exact gw_L (hJ_k7 _ H) ((lvA_c rfl lvA_n))
    refine gw_if_eqZ (tgt := 40) dX9_takes_33 rfl (by decide) g (fun q => ?_) (fun q => ?_)
    · have H := bq_t q H
      refine gw_iconstZ dX9_takes_40 rfl ?_
      exact gw_L (hJ_k4 _ H) ((lvA_c rfl (lvA_c rfl (lvA_c rfl lvA_n))))
    · have H := bq_f q H
      refine gw_iconstZ dX9_takes_36 rfl ?_
      refine gw_goto (tgt := 41) dX9_takes_37 (by decide) ?_
      exact gw_L (hJ_k4 _ H) ((lvA_c rfl (lvA_c rfl (lvA_c rfl lvA_n))))
  refine gw_if_eqZ (tgt := 23) dX9_takes_8 rfl (by decide) g (fun q => ?_) (fun q => ?_)
  · have H := bq_t q H
    refine gw_bipushZ dX9_takes_23 rfl (by decide) ?_
    exact gw_L (hJ_k2 _ H) ((lvA_c rfl (lvA_c rfl lvA_n)))
  · have H := bq_f q H
    refine gw_aload_n dX9_takes_11 rfl rfl ?_
    refine gs_getR cl9 7 dX9_takes_12 rfl kw_1326 (by decide) (h0.1) rfl ?_
    refine gw_aload_n dX9_takes_15 rfl rfl ?_
    refine gs_getI cl9 18 18 dX9_takes_16 rfl kw_1337 (by decide) (h0.1) rfl rfl ?_
    obtain ⟨g, H⟩ := gd_i H
    refine gs_ialdZ dX9_takes_19 rfl (h0.2.2.2.2.2.1) g (by decide) ?_
    refine gw_goto (tgt := 25) dX9_takes_20 (by decide) ?_
    exact gw_L (hJ_k2 _ H) ((lvA_c rfl (lvA_c rfl lvA_n)))
set_option maxRecDepth 100000 in
set_option maxHeartbeats 4000000 in
theorem w_X9_factor {Φ : gwC} {hb : gwHp} {M : Nat} {sh : Nat → Option gSh} {th : Nat} {c : W0} {r : Int × W0} {K : Option Value → gwHp → Prop} (h0 : sM sh th) (H : f_X9_factor th c = some r) (hK : K (some (vI r.1)) (hp Φ hb M sh r.2)) : gw_Con Φ mX9_factor none [.ref (M + th)] (hp Φ hb M sh c) K := by
  unfold f_X9_factor at H
  refine gw_start okX9_factor (Nat.le_of_ble_eq_true rfl) ?_
  refine gw_aload_n dX9_factor_0 rfl rfl ?_
  refine gw_bipushZ dX9_factor_1 rfl (by decide) ?_
  refine gw_bipushZ dX9_factor_3 rfl (by decide) ?_
  obtain ⟨v1, e_v1, H⟩ := cv_i H
  refine gw_V2 okX9_isNext dX9_factor_5 kw_1619 kw_1621 kw_69 (hp_o (h0.1)) rfl ⟨by decide, by decide⟩ ⟨by decide, by decide⟩ (Nat.le_of_ble_eq_true rfl) (w_X9_isNext (h0) e_v1 ?_)
  obtain ⟨g, H⟩ := gd_i H
  refine gw_if_eqZ (tgt := 31) dX9_factor_8 rfl (by decide) g (fun q => ?_) (fun q => ?_)
  · have H := bq_t q H
    refine gw_aload_n dX9_factor_31 rfl rfl ?_
    refine gw_bipushZ dX9_factor_32 rfl (by decide) ?_
    refine gw_bipushZ dX9_factor_34 rfl (by decide) ?_
    obtain ⟨v2, c3, e_c3, H⟩ := cl_i H
    refine gw_V2 okX9_takes dX9_factor_36 kw_1615 kw_1617 kw_68 (hp_o (h0.1)) rfl ⟨by decide, by decide⟩ ⟨by decide, by decide⟩ (Nat.le_of_ble_eq_true rfl) (w_X9_takes (h0) e_c3 ?_)
    cases H
    exact gw_iret dX9_factor_39 rfl (by decide) (by decide) hK
  · have H := bq_f q H
    refine gw_aload_n dX9_factor_11 rfl rfl ?_
    refine gw_dup dX9_factor_12 rfl rfl ?_
    refine gs_getI cl9 18 18 dX9_factor_13 rfl kw_1337 (by decide) (h0.1) rfl rfl ?_
    refine gw_iconstZ dX9_factor_16 rfl ?_
    refine gw_iaddZ dX9_factor_17 rfl ?_
    obtain ⟨c4, e_c4, H⟩ := sto_i H
    refine gs_putIE cl9 18 18 dX9_factor_18 rfl kw_1337 (by decide) rfl rfl (h0.1) rfl rfl e_c4 ?_
    refine gw_aload_n dX9_factor_21 rfl rfl ?_
    refine gw_bipushZ dX9_factor_22 rfl (by decide) ?_
    refine gw_bipushZ dX9_factor_24 rfl (by decide) ?_
    obtain ⟨v5, c6, e_c6, H⟩ := cl_i H
    refine gw_V2 okX9_takes dX9_factor_26 kw_1615 kw_1617 kw_68 (hp_o (h0.1)) rfl ⟨by decide, by decide⟩ ⟨by decide, by decide⟩ (Nat.le_of_ble_eq_true rfl) (w_X9_takes (h0) e_c6 ?_)
    refine gw_inegZ dX9_factor_29 rfl ?_
    cases H
    exact gw_iret dX9_factor_30 rfl (by decide) (by decide) hK
set_option maxRecDepth 100000 in
set_option maxHeartbeats 4000000 in
theorem l_X9_readFactors_2 {Φ : gwC} {hb : gwHp} {M : Nat} {sh : Nat → Option gSh} {th : Nat} {p1 : Int} {κ : W0 → Option (Int × W0)} {r : Int × W0} {K : Option Value → gwHp → Prop} (h0 : sM sh th) (hK : K none (hp Φ hb M sh r.2)) (hκ : ∀ (c : W0), κ c = some r → G Φ mX9_readFactors (gw_M Φ mX9_readFactors K) none 0 0 47 [] [] (hp Φ hb M sh c)) : ∀ (n : Nat) (l2 : Int) (c : W0), f_X9_readFactors_2 th p1 κ n l2 c = some r → G Φ mX9_readFactors (gw_M Φ mX9_readFactors K) none 0 0 2 [(0, .ref (M + th)), (1, vI p1), (2, vI l2)] [] (hp Φ hb M sh c) := by
  intro n
  induction n with
  | zero => intro l2 c H; cases H
  | succ n ih =>
    intro l2 c H
    have H : b_X9_readFactors_2 th p1 κ (f_X9_readFactors_2 th p1 κ n) l2 c = some r := H
    unfold b_X9_readFactors_2 at H
    refine gw_iload_n dX9_readFactors_2 rfl rfl ?_
    refine gw_aload_n dX9_readFactors_3 rfl rfl ?_
    refine gs_getR cl9 20 dX9_readFactors_4 rfl kw_1339 (by decide) (h0.1) rfl ?_
    refine gw_iconstZ dX9_readFactors_7 rfl ?_
    refine gs_ialdZ dX9_readFactors_8 rfl (h0.2.2.2.2.2.2.2.2.2.2.2.2.2.1) (by decide) (by decide) ?_
    obtain ⟨g, H⟩ := gd_i H
    refine gw_icmp_geZ (tgt := 47) dX9_readFactors_9 rfl (by decide) g.1 g.2 (fun q => ?_) (fun q => ?_)
    · have H := bq_t q H
      exact gw_L (hκ _ H) (lvA_n)
    · have H := bq_f q H
      refine gw_iload_n dX9_readFactors_12 rfl rfl ?_
      obtain ⟨g, H⟩ := gd_i H
      obtain ⟨k1, e_k1, H⟩ := jn_i H
      have hJ_k1 : ∀ (v2 : Int) (c3 : W0), k1 v2 c3 = some r → G Φ mX9_readFactors (gw_M Φ mX9_readFactors K) none 0 0 28 [(0, .ref (M + th)), (1, vI p1), (2, vI l2)] [vI v2] (hp Φ hb M sh c3) := by
        intro v2 c3 H
        subst e_k1
        refine gw_istore_n dX9_readFactors_28 rfl (by decide) ?_
        refine gw_aload_n dX9_readFactors_29 rfl rfl ?_
        refine gs_getR cl9 20 dX9_readFactors_30 rfl kw_1339 (by decide) (h0.1) rfl ?_
        refine gw_iload_n dX9_readFactors_33 rfl rfl ?_
        refine gw_iload_n dX9_readFactors_34 rfl rfl ?_
        refine gw_iaddZ dX9_readFactors_35 rfl ?_
        refine gw_aload_n dX9_readFactors_36 rfl rfl ?_
        obtain ⟨v4, c5, e_c5, H⟩ := cl_i H
        refine gw_V0 okX9_factor dX9_readFactors_37 kw_1627 kw_1629 kw_71 (hp_o (h0.1)) rfl ⟨by decide, by decide⟩ ⟨by decide, by decide⟩ (Nat.le_of_ble_eq_true rfl) (w_X9_factor (h0) e_c5 ?_)
        obtain ⟨g, H⟩ := gd_i H
        obtain ⟨c6, e_c6, H⟩ := sto_i H
        refine gs_iastZE dX9_readFactors_40 rfl (h0.2.2.2.2.2.2.2.2.2.2.2.2.2.1) g (by decide) e_c6 ?_
        refine gw_iincZ dX9_readFactors_41 rfl rfl (by decide) ?_
        refine gw_goto (tgt := 2) dX9_readFactors_44 (by decide) ?_
        exact gw_L (ih _ _ H) ((lvA_c rfl (lvA_c rfl (lvA_c rfl lvA_n))))
      refine gw_if_leZ (tgt := 27) dX9_readFactors_13 rfl (by decide) g (fun q => ?_) (fun q => ?_)
      · have H := bq_t q H
        refine gw_iconstZ dX9_readFactors_27 rfl ?_
        exact gw_L (hJ_k1 _ _ H) ((lvA_c rfl (lvA_c rfl (lvA_c rfl lvA_n))))
      · have H := bq_f q H
        refine gw_aload_n dX9_readFactors_16 rfl rfl ?_
        refine gw_bipushZ dX9_readFactors_17 rfl (by decide) ?_
        refine gw_bipushZ dX9_readFactors_19 rfl (by decide) ?_
        obtain ⟨v7, c8, e_c8, H⟩ := cl_i H
        refine gw_V2 okX9_takes dX9_readFactors_21 kw_1615 kw_1617 kw_68 (hp_o (h0.1)) rfl ⟨by decide, by decide⟩ ⟨by decide, by decide⟩ (Nat.le_of_ble_eq_true rfl) (w_X9_takes (h0) e_c8 ?_)
        refine gw_goto (tgt := 28) dX9_readFactors_24 (by decide) ?_
        exact gw_L (hJ_k1 _ _ H) ((lvA_c rfl (lvA_c rfl (lvA_c rfl lvA_n))))
set_option maxRecDepth 100000 in
set_option maxHeartbeats 4000000 in
theorem w_X9_readFactors {Φ : gwC} {hb : gwHp} {M : Nat} {sh : Nat → Option gSh} {th : Nat} {p1 : Int} {c : W0} {r : Int × W0} {K : Option Value → gwHp → Prop} (h0 : sM sh th) (H : f_X9_readFactors th p1 c = some r) (hK : K none (hp Φ hb M sh r.2)) : gw_Con Φ mX9_readFactors none [.ref (M + th), vI p1] (hp Φ hb M sh c) K := by
  unfold f_X9_readFactors at H
  refine gw_start okX9_readFactors (Nat.le_of_ble_eq_true rfl) ?_
  refine gw_iconstZ dX9_readFactors_0 rfl ?_
  refine gw_istore_n dX9_readFactors_1 rfl (by decide) ?_
  refine gw_L (l_X9_readFactors_2 h0 hK (fun c1 H => ?_) LF _ _ H) ((lvA_c rfl (lvA_c rfl (lvA_c rfl lvA_n))))
  cases H
  exact gw_vret dX9_readFactors_47 rfl (by decide) (by decide) hK
set_option maxRecDepth 100000 in
set_option maxHeartbeats 4000000 in
theorem w_X9_bound {Φ : gwC} {hb : gwHp} {M : Nat} {sh : Nat → Option gSh} {th : Nat} {c : W0} {r : Int × W0} {K : Option Value → gwHp → Prop} (h0 : sM sh th) (H : f_X9_bound th c = some r) (hK : K (some (vI r.1)) (hp Φ hb M sh r.2)) : gw_Con Φ mX9_bound none [.ref (M + th)] (hp Φ hb M sh c) K := by
  unfold f_X9_bound at H
  refine gw_start okX9_bound (Nat.le_of_ble_eq_true rfl) ?_
  refine gw_aload_n dX9_bound_0 rfl rfl ?_
  refine gw_bipushZ dX9_bound_1 rfl (by decide) ?_
  refine gw_bipushZ dX9_bound_3 rfl (by decide) ?_
  obtain ⟨v1, c2, e_c2, H⟩ := cl_i H
  refine gw_V2 okX9_takes dX9_bound_5 kw_1615 kw_1617 kw_68 (hp_o (h0.1)) rfl ⟨by decide, by decide⟩ ⟨by decide, by decide⟩ (Nat.le_of_ble_eq_true rfl) (w_X9_takes (h0) e_c2 ?_)
  refine gw_istore_n dX9_bound_8 rfl (by decide) ?_
  refine gw_iload_n dX9_bound_9 rfl rfl ?_
  obtain ⟨g, H⟩ := gd_i H
  refine gw_if_leZ (tgt := 40) dX9_bound_10 rfl (by decide) g (fun q => ?_) (fun q => ?_)
  · have H := bq_t q H
    refine gw_iload_n dX9_bound_40 rfl rfl ?_
    cases H
    exact gw_iret dX9_bound_41 rfl (by decide) (by decide) hK
  · have H := bq_f q H
    refine gw_aload_n dX9_bound_13 rfl rfl ?_
    refine gw_bipushZ dX9_bound_14 rfl (by decide) ?_
    refine gw_bipushZ dX9_bound_16 rfl (by decide) ?_
    obtain ⟨v3, e_v3, H⟩ := cv_i H
    refine gw_V2 okX9_isNext dX9_bound_18 kw_1619 kw_1621 kw_69 (hp_o (h0.1)) rfl ⟨by decide, by decide⟩ ⟨by decide, by decide⟩ (Nat.le_of_ble_eq_true rfl) (w_X9_isNext (h0) e_v3 ?_)
    obtain ⟨g, H⟩ := gd_i H
    refine gw_if_eqZ (tgt := 40) dX9_bound_21 rfl (by decide) g (fun q => ?_) (fun q => ?_)
    · have H := bq_t q H
      refine gw_iload_n dX9_bound_40 rfl rfl ?_
      cases H
      exact gw_iret dX9_bound_41 rfl (by decide) (by decide) hK
    · have H := bq_f q H
      refine gw_bipushZ dX9_bound_24 rfl (by decide) ?_
      refine gw_iload_n dX9_bound_26 rfl rfl ?_
      refine gw_imulZ dX9_bound_27 rfl ?_
      refine gw_aload_n dX9_bound_28 rfl rfl ?_
      refine gw_bipushZ dX9_bound_29 rfl (by decide) ?_
      refine gw_bipushZ dX9_bound_31 rfl (by decide) ?_
      obtain ⟨v4, c5, e_c5, H⟩ := cl_i H
      refine gw_V2 okX9_takes dX9_bound_33 kw_1615 kw_1617 kw_68 (hp_o (h0.1)) rfl ⟨by decide, by decide⟩ ⟨by decide, by decide⟩ (Nat.le_of_ble_eq_true rfl) (w_X9_takes (h0) e_c5 ?_)
      refine gw_iaddZ dX9_bound_36 rfl ?_
      refine gw_goto (tgt := 41) dX9_bound_37 (by decide) ?_
      cases H
      exact gw_iret dX9_bound_41 rfl (by decide) (by decide) hK
end FW
