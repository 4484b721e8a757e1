section NW
abbrev nL_areBasesSo : gwY := (yL_areBasesSo, cL_areBasesSo, 7, (Option.some Jvm.ClassFile.FieldType.boolean), { frames := 7, cells := 0, slots := 0, locals := 189 }, [])
theorem oknL_areBasesSo : gw_ok nL_areBasesSo 1 := ⟨by decide +kernel, kw_835, kw_16, by decide +kernel, rfl⟩
set_option maxRecDepth 100000 in
set_option maxHeartbeats 4000000 in
theorem l_L_areBasesSo_82 {Φ : gwC} {hb : gwHp} {M : Nat} {sh : Nat → Option gSh} {p1 : Nat} {κ : Int → W0 → Option (Int × W0)} {r : Int × W0} {K : Option Value → gwHp → Prop} (h0 : sD sh p1) (hK : K (some (vI r.1)) (hp Φ hb M sh r.2)) (hκ : ∀ (x3 : Int) (c : W0), κ x3 c = some r → G Φ nL_areBasesSo (gw_M Φ nL_areBasesSo K) none 0 0 157 [(3, vI x3)] [] (hp Φ hb M sh c)) : ∀ (n : Nat) (l3 : Int) (l4 : Int) (c : W0), f_L_areBasesSo_82 p1 κ n l3 l4 c = some r → G Φ nL_areBasesSo (gw_M Φ nL_areBasesSo K) none 0 0 82 [(0, .ref (M + p1)), (3, vI l3), (4, vI l4)] [] (hp Φ hb M sh c) := by
  intro n
  induction n with
  | zero => intro l3 l4 c H; cases H
  | succ n ih =>
    intro l3 l4 c H
    have H : b_L_areBasesSo_82 p1 κ (f_L_areBasesSo_82 p1 κ n) l3 l4 c = some r := H
    unfold b_L_areBasesSo_82 at H
    refine gw_iload dL_areBasesSo_82 rfl rfl ?_
    refine gw_aload_n dL_areBasesSo_84 rfl rfl ?_
    obtain ⟨v1, e_v1, H⟩ := cv_i H
    refine gw_V0 okX8_constraints dL_areBasesSo_85 kw_373 kw_374 kw_375 (hp_o (h0.1)) rfl ⟨by decide, by decide⟩ ⟨by decide, by decide⟩ (Nat.le_of_ble_eq_true rfl) (w_X8_constraints (h0) e_v1 ?_)
    obtain ⟨g, H⟩ := gd_i H
    refine gw_icmp_geZ (tgt := 157) dL_areBasesSo_88 rfl (by decide) g.1 g.2 (fun q => ?_) (fun q => ?_)
    · have H := bq_t q H
      exact gw_L (hκ _ _ H) ((lvA_c rfl lvA_n))
    · have H := bq_f q H
      refine gw_aload_n dL_areBasesSo_91 rfl rfl ?_
      refine gw_iload dL_areBasesSo_92 rfl rfl ?_
      obtain ⟨v2, c3, e_c3, H⟩ := cn_i H
      refine gw_V1 oknX8_leastBound dL_areBasesSo_94 kw_892 kw_893 kw_894 (hp_o (h0.1)) rfl ⟨by decide, by decide⟩ ⟨by decide, by decide⟩ (Nat.le_of_ble_eq_true rfl) (n_X8_leastBound (h0) e_c3 rfl ?_)
      refine gw_istore dL_areBasesSo_97 rfl (by decide) ?_
      refine gw_aload_n dL_areBasesSo_99 rfl rfl ?_
      refine gw_iload dL_areBasesSo_100 rfl rfl ?_
      obtain ⟨v4, c5, e_c5, H⟩ := cn_i H
      refine gw_V1 oknX8_greatestBound dL_areBasesSo_102 kw_909 kw_910 kw_911 (hp_o (h0.1)) rfl ⟨by decide, by decide⟩ ⟨by decide, by decide⟩ (Nat.le_of_ble_eq_true rfl) (n_X8_greatestBound (h0) e_c5 rfl ?_)
      refine gw_istore dL_areBasesSo_105 rfl (by decide) ?_
      refine gw_iload_n dL_areBasesSo_107 rfl rfl ?_
      obtain ⟨g, H⟩ := gd_i H
      refine gw_if_eqZ (tgt := 149) dL_areBasesSo_108 rfl (by decide) g (fun q => ?_) (fun q => ?_)
      · have H := bq_t q H
        refine gw_iconstZ dL_areBasesSo_149 rfl ?_
        refine gw_istore_n dL_areBasesSo_150 rfl (by decide) ?_
        refine gw_iincZ dL_areBasesSo_151 rfl rfl (by decide) ?_
        refine gw_goto (tgt := 82) dL_areBasesSo_154 (by decide) ?_
        exact gw_L (ih _ _ _ H) ((lvA_c rfl (lvA_c rfl (lvA_c rfl lvA_n))))
      · have H := bq_f q H
        refine gw_iload dL_areBasesSo_111 rfl rfl ?_
        obtain ⟨g, H⟩ := gd_i H
        refine gw_if_ltZ (tgt := 149) dL_areBasesSo_113 rfl (by decide) g (fun q => ?_) (fun q => ?_)
        · have H := bq_t q H
          refine gw_iconstZ dL_areBasesSo_149 rfl ?_
          refine gw_istore_n dL_areBasesSo_150 rfl (by decide) ?_
          refine gw_iincZ dL_areBasesSo_151 rfl rfl (by decide) ?_
          refine gw_goto (tgt := 82) dL_areBasesSo_154 (by decide) ?_
          exact gw_L (ih _ _ _ H) ((lvA_c rfl (lvA_c rfl (lvA_c rfl lvA_n))))
        · have H := bq_f q H
          refine gw_iload dL_areBasesSo_116 rfl rfl ?_
          refine gw_aload_n dL_areBasesSo_118 rfl rfl ?_
          refine gw_iload dL_areBasesSo_119 rfl rfl ?_
          obtain ⟨v6, c7, e_c7, H⟩ := cn_i H
          refine gw_V1 oknX8_boundOf dL_areBasesSo_121 kw_672 kw_673 kw_674 (hp_o (h0.1)) rfl ⟨by decide, by decide⟩ ⟨by decide, by decide⟩ (Nat.le_of_ble_eq_true rfl) (n_X8_boundOf (h0) e_c7 rfl ?_)
          obtain ⟨g, H⟩ := gd_i H
          refine gw_icmp_gtZ (tgt := 149) dL_areBasesSo_124 rfl (by decide) g.1 g.2 (fun q => ?_) (fun q => ?_)
          · have H := bq_t q H
            refine gw_iconstZ dL_areBasesSo_149 rfl ?_
            refine gw_istore_n dL_areBasesSo_150 rfl (by decide) ?_
            refine gw_iincZ dL_areBasesSo_151 rfl rfl (by decide) ?_
            refine gw_goto (tgt := 82) dL_areBasesSo_154 (by decide) ?_
            exact gw_L (ih _ _ _ H) ((lvA_c rfl (lvA_c rfl (lvA_c rfl lvA_n))))
          · have H := bq_f q H
            refine gw_iload dL_areBasesSo_127 rfl rfl ?_
            refine gw_aload_n dL_areBasesSo_129 rfl rfl ?_
            refine gw_iload dL_areBasesSo_130 rfl rfl ?_
            obtain ⟨v8, c9, e_c9, H⟩ := cn_i H
            refine gw_V1 oknX8_boundOf dL_areBasesSo_132 kw_672 kw_673 kw_674 (hp_o (h0.1)) rfl ⟨by decide, by decide⟩ ⟨by decide, by decide⟩ (Nat.le_of_ble_eq_true rfl) (n_X8_boundOf (h0) e_c9 rfl ?_)
            obtain ⟨g, H⟩ := gd_i H
            refine gw_icmp_ltZ (tgt := 149) dL_areBasesSo_135 rfl (by decide) g.1 g.2 (fun q => ?_) (fun q => ?_)
            · have H := bq_t q H
              refine gw_iconstZ dL_areBasesSo_149 rfl ?_
              refine gw_istore_n dL_areBasesSo_150 rfl (by decide) ?_
              refine gw_iincZ dL_areBasesSo_151 rfl rfl (by decide) ?_
              refine gw_goto (tgt := 82) dL_areBasesSo_154 (by decide) ?_
              exact gw_L (ih _ _ _ H) ((lvA_c rfl (lvA_c rfl (lvA_c rfl lvA_n))))
            · have H := bq_f q H
              refine gw_iload dL_areBasesSo_138 rfl rfl ?_
              refine gw_bipushZ dL_areBasesSo_140 rfl (by decide) ?_
              obtain ⟨g, H⟩ := gd_i H
              refine gw_icmp_geZ (tgt := 149) dL_areBasesSo_142 rfl (by decide) g (by decide) (fun q => ?_) (fun q => ?_)
              · have H := bq_t q H
                refine gw_iconstZ dL_areBasesSo_149 rfl ?_
                refine gw_istore_n dL_areBasesSo_150 rfl (by decide) ?_
                refine gw_iincZ dL_areBasesSo_151 rfl rfl (by decide) ?_
                refine gw_goto (tgt := 82) dL_areBasesSo_154 (by decide) ?_
                exact gw_L (ih _ _ _ H) ((lvA_c rfl (lvA_c rfl (lvA_c rfl lvA_n))))
              · have H := bq_f q H
                refine gw_iconstZ dL_areBasesSo_145 rfl ?_
                refine gw_goto (tgt := 150) dL_areBasesSo_146 (by decide) ?_
                refine gw_istore_n dL_areBasesSo_150 rfl (by decide) ?_
                refine gw_iincZ dL_areBasesSo_151 rfl rfl (by decide) ?_
                refine gw_goto (tgt := 82) dL_areBasesSo_154 (by decide) ?_
                exact gw_L (ih _ _ _ H) ((lvA_c rfl (lvA_c rfl (lvA_c rfl lvA_n))))
set_option maxRecDepth 100000 in
set_option maxHeartbeats 4000000 in
theorem w_L_areBasesSo {Φ : gwC} {hb : gwHp} {M : Nat} {sh : Nat → Option gSh} {p1 : Nat} {c : W0} {r : Int × W0} {K : Option Value → gwHp → Prop} (h0 : sD sh p1) (H : f_L_areBasesSo p1 c = some r) (hK : K (some (vI r.1)) (hp Φ hb M sh r.2)) : gw_Con Φ nL_areBasesSo none [.ref (M + p1)] (hp Φ hb M sh c) K := by
  unfold f_L_areBasesSo at H
  refine gw_start oknL_areBasesSo (Nat.le_of_ble_eq_true rfl) ?_
  refine gw_aload_n dL_areBasesSo_0 rfl rfl ?_
  obtain ⟨v1, c2, e_c2, H⟩ := cl_i H
  refine gw_V0 okX8_bestNumerator dL_areBasesSo_1 kw_836 kw_837 kw_838 (hp_o (h0.1)) rfl ⟨by decide, by decide⟩ ⟨by decide, by decide⟩ (Nat.le_of_ble_eq_true rfl) (w_X8_bestNumerator (h0) e_c2 ?_)
  refine gw_aload_n dL_areBasesSo_4 rfl rfl ?_
  obtain ⟨v3, e_v3, H⟩ := cv_i H
  refine gw_V0 okX8_valueDenominator dL_areBasesSo_5 kw_722 kw_723 kw_724 (hp_o (h0.1)) rfl ⟨by decide, by decide⟩ ⟨by decide, by decide⟩ (Nat.le_of_ble_eq_true rfl) (w_X8_valueDenominator (h0) e_v3 ?_)
  refine gw_lmulZ dL_areBasesSo_8 rfl ?_
  refine gw_aload_n dL_areBasesSo_9 rfl rfl ?_
  obtain ⟨v4, e_v4, H⟩ := cv_i H
  refine gw_V0 okX8_valueNumerator dL_areBasesSo_10 kw_714 kw_715 kw_716 (hp_o (h0.1)) rfl ⟨by decide, by decide⟩ ⟨by decide, by decide⟩ (Nat.le_of_ble_eq_true rfl) (w_X8_valueNumerator (h0) e_v4 ?_)
  refine gw_aload_n dL_areBasesSo_13 rfl rfl ?_
  obtain ⟨v5, c6, e_c6, H⟩ := cl_i H
  refine gw_V0 okX8_bestDenominator dL_areBasesSo_14 kw_880 kw_881 kw_882 (hp_o (h0.1)) rfl ⟨by decide, by decide⟩ ⟨by decide, by decide⟩ (Nat.le_of_ble_eq_true rfl) (w_X8_bestDenominator (h0) e_c6 ?_)
  refine gw_lmulZ dL_areBasesSo_17 rfl ?_
  refine gw_lsubZ dL_areBasesSo_18 rfl ?_
  refine gw_lstore_n dL_areBasesSo_19 rfl (by decide) ?_
  refine gw_lload_n dL_areBasesSo_20 rfl rfl ?_
  refine gw_lconst0Z dL_areBasesSo_21 rfl ?_
  obtain ⟨g, H⟩ := gd_i H
  obtain ⟨k7, e_k7, H⟩ := jn_i H
  have hJ_k7 : ∀ (c8 : W0), k7 c8 = some r → G Φ nL_areBasesSo (gw_M Φ nL_areBasesSo K) none 0 0 77 [(0, .ref (M + p1))] [] (hp Φ hb M sh c8) := by
    intro c8 H
    subst e_k7
    refine gw_iconstZ dL_areBasesSo_77 rfl ?_
    refine gw_istore_n dL_areBasesSo_78 rfl (by decide) ?_
    refine gw_iconstZ dL_areBasesSo_79 rfl ?_
    refine gw_istore dL_areBasesSo_80 rfl (by decide) ?_
    refine gw_L (l_L_areBasesSo_82 h0 hK (fun v9 c10 H => ?_) LF _ _ _ H) ((lvA_c rfl (lvA_c rfl (lvA_c rfl lvA_n))))
    refine gw_iload_n dL_areBasesSo_157 rfl rfl ?_
    obtain ⟨g, H⟩ := gd_i H
    cases H
    exact gw_zret (gs_nz g) dL_areBasesSo_158 rfl (by decide) (by decide) hK
  refine gw_lc_ltZ (tgt := 77) dL_areBasesSo_22 rfl dL_areBasesSo_23 rfl (by decide) g (by decide) (fun q => ?_) (fun q => ?_)
  · have H := bq_t q H
    exact gw_L (hJ_k7 _ H) ((lvA_c rfl lvA_n))
  · have H := bq_f q H
    refine gw_aload_n dL_areBasesSo_26 rfl rfl ?_
    obtain ⟨v11, e_v11, H⟩ := cv_i H
    refine gw_V0 okX8_isOptimal dL_areBasesSo_27 kw_809 kw_810 kw_811 (hp_o (h0.1)) rfl ⟨by decide, by decide⟩ ⟨by decide, by decide⟩ (Nat.le_of_ble_eq_true rfl) (w_X8_isOptimal (h0) e_v11 ?_)
    obtain ⟨g, H⟩ := gd_i H
    obtain ⟨k12, e_k12, H⟩ := jn_i H
    have hJ_k12 : ∀ (u13 : Unit), k12 u13 = some r → G Φ nL_areBasesSo (gw_M Φ nL_areBasesSo K) none 0 0 39 [(0, .ref (M + p1))] [] (hp Φ hb M sh c6) := by
      intro u13 H
      subst e_k12
      refine gw_aload_n dL_areBasesSo_39 rfl rfl ?_
      obtain ⟨v14, c15, e_c15, H⟩ := cl_i H
      refine gw_V0 okX8_feasibleBases dL_areBasesSo_40 kw_884 kw_885 kw_886 (hp_o (h0.1)) rfl ⟨by decide, by decide⟩ ⟨by decide, by decide⟩ (Nat.le_of_ble_eq_true rfl) (w_X8_feasibleBases (h0) e_c15 ?_)
      obtain ⟨g, H⟩ := gd_i H
      refine gw_if_leZ (tgt := 77) dL_areBasesSo_43 rfl (by decide) g (fun q => ?_) (fun q => ?_)
      · have H := bq_t q H
        exact gw_L (hJ_k7 _ H) ((lvA_c rfl lvA_n))
      · have H := bq_f q H
        refine gw_aload_n dL_areBasesSo_46 rfl rfl ?_
        obtain ⟨v16, c17, e_c17, H⟩ := cl_i H
        refine gw_V0 okX8_unlikeValues dL_areBasesSo_47 kw_888 kw_889 kw_890 (hp_o (h0.1)) rfl ⟨by decide, by decide⟩ ⟨by decide, by decide⟩ (Nat.le_of_ble_eq_true rfl) (w_X8_unlikeValues (h0) e_c17 ?_)
        obtain ⟨g, H⟩ := gd_i H
        refine gw_if_leZ (tgt := 77) dL_areBasesSo_50 rfl (by decide) g (fun q => ?_) (fun q => ?_)
        · have H := bq_t q H
          exact gw_L (hJ_k7 _ H) ((lvA_c rfl lvA_n))
        · have H := bq_f q H
          refine gw_aload_n dL_areBasesSo_53 rfl rfl ?_
          obtain ⟨v18, c19, e_c19, H⟩ := cl_i H
          refine gw_V0 okX8_unlikeValues dL_areBasesSo_54 kw_888 kw_889 kw_890 (hp_o (h0.1)) rfl ⟨by decide, by decide⟩ ⟨by decide, by decide⟩ (Nat.le_of_ble_eq_true rfl) (w_X8_unlikeValues (h0) e_c19 ?_)
          refine gw_aload_n dL_areBasesSo_57 rfl rfl ?_
          obtain ⟨v20, c21, e_c21, H⟩ := cl_i H
          refine gw_V0 okX8_feasibleBases dL_areBasesSo_58 kw_884 kw_885 kw_886 (hp_o (h0.1)) rfl ⟨by decide, by decide⟩ ⟨by decide, by decide⟩ (Nat.le_of_ble_eq_true rfl) (w_X8_feasibleBases (h0) e_c21 ?_)
          obtain ⟨g, H⟩ := gd_i H
          refine gw_icmp_gtZ (tgt := 77) dL_areBasesSo_61 rfl (by decide) g.1 g.2 (fun q => ?_) (fun q => ?_)
          · have H := bq_t q H
            exact gw_L (hJ_k7 _ H) ((lvA_c rfl lvA_n))
          · have H := bq_f q H
            refine gw_aload_n dL_areBasesSo_64 rfl rfl ?_
            obtain ⟨v22, c23, e_c23, H⟩ := cl_i H
            refine gw_V0 okX8_feasibleBases dL_areBasesSo_65 kw_884 kw_885 kw_886 (hp_o (h0.1)) rfl ⟨by decide, by decide⟩ ⟨by decide, by decide⟩ (Nat.le_of_ble_eq_true rfl) (w_X8_feasibleBases (h0) e_c23 ?_)
            refine gw_bipushZ dL_areBasesSo_68 rfl (by decide) ?_
            obtain ⟨g, H⟩ := gd_i H
            refine gw_icmp_gtZ (tgt := 77) dL_areBasesSo_70 rfl (by decide) g (by decide) (fun q => ?_) (fun q => ?_)
            · have H := bq_t q H
              exact gw_L (hJ_k7 _ H) ((lvA_c rfl lvA_n))
            · have H := bq_f q H
              refine gw_iconstZ dL_areBasesSo_73 rfl ?_
              refine gw_goto (tgt := 78) dL_areBasesSo_74 (by decide) ?_
              refine gw_istore_n dL_areBasesSo_78 rfl (by decide) ?_
              refine gw_iconstZ dL_areBasesSo_79 rfl ?_
              refine gw_istore dL_areBasesSo_80 rfl (by decide) ?_
              refine gw_L (l_L_areBasesSo_82 h0 hK (fun v24 c25 H => ?_) LF _ _ _ H) ((lvA_c rfl (lvA_c rfl (lvA_c rfl lvA_n))))
              refine gw_iload_n dL_areBasesSo_157 rfl rfl ?_
              obtain ⟨g, H⟩ := gd_i H
              cases H
              exact gw_zret (gs_nz g) dL_areBasesSo_158 rfl (by decide) (by decide) hK
    refine gw_if_eqZ (tgt := 39) dL_areBasesSo_30 rfl (by decide) g (fun q => ?_) (fun q => ?_)
    · have H := bq_t q H
      exact gw_L (hJ_k12 _ H) ((lvA_c rfl lvA_n))
    · have H := bq_f q H
      refine gw_lload_n dL_areBasesSo_33 rfl rfl ?_
      refine gw_lconst0Z dL_areBasesSo_34 rfl ?_
      obtain ⟨g, H⟩ := gd_i H
      refine gw_lc_neZ (tgt := 77) dL_areBasesSo_35 rfl dL_areBasesSo_36 rfl (by decide) g (by decide) (fun q => ?_) (fun q => ?_)
      · have H := bq_f q H
        exact gw_L (hJ_k7 _ H) ((lvA_c rfl lvA_n))
      · have H := bq_t q H
        exact gw_L (hJ_k12 _ H) ((lvA_c rfl lvA_n))
end NW
