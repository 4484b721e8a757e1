section NW
abbrev nL_isSolutionSo : gwY := (yL_isSolutionSo, cL_isSolutionSo, 14, (Option.some Jvm.ClassFile.FieldType.boolean), { frames := 6, cells := 0, slots := 0, locals := 156 }, [])
theorem oknL_isSolutionSo : gw_ok nL_isSolutionSo 1 := ⟨by decide +kernel, kw_686, kw_16, by decide +kernel, rfl⟩
set_option maxRecDepth 100000 in
set_option maxHeartbeats 4000000 in
theorem l_L_isSolutionSo_32 {Φ : gwC} {hb : gwHp} {M : Nat} {sh : Nat → Option gSh} {p1 : Nat} {l1 : Int} {l7 : Int} {κ : Int → Int → Int → W0 → Option (Int × W0)} {r : Int × W0} {K : Option Value → gwHp → Prop} (h0 : sD sh p1) (hK : K (some (vI r.1)) (hp Φ hb M sh r.2)) (hκ : ∀ (x2 : Int) (x3 : Int) (x5 : Int) (c : W0), κ x2 x3 x5 c = some r → G Φ nL_isSolutionSo (gw_M Φ nL_isSolutionSo K) none 0 0 166 [(0, .ref (M + p1)), (1, vI l1), (2, vI x2), (3, vL x3), (5, vL x5), (7, vI l7)] [] (hp Φ hb M sh c)) : ∀ (n : Nat) (l2 : Int) (l3 : Int) (l5 : Int) (l8 : Int) (c : W0), f_L_isSolutionSo_32 p1 l1 l7 κ n l2 l3 l5 l8 c = some r → G Φ nL_isSolutionSo (gw_M Φ nL_isSolutionSo K) none 0 0 32 [(0, .ref (M + p1)), (1, vI l1), (2, vI l2), (3, vL l3), (5, vL l5), (7, vI l7), (8, vI l8)] [] (hp Φ hb M sh c) := by
  intro n
  induction n with
  | zero => intro l2 l3 l5 l8 c H; cases H
  | succ n ih =>
    intro l2 l3 l5 l8 c H
    have H : b_L_isSolutionSo_32 p1 l1 l7 κ (f_L_isSolutionSo_32 p1 l1 l7 κ n) l2 l3 l5 l8 c = some r := H
    unfold b_L_isSolutionSo_32 at H
    refine gw_iload dL_isSolutionSo_32 rfl rfl ?_
    refine gw_iload_n dL_isSolutionSo_34 rfl rfl ?_
    obtain ⟨g, H⟩ := gd_i H
    refine gw_icmp_geZ (tgt := 166) dL_isSolutionSo_35 rfl (by decide) g.1 g.2 (fun q => ?_) (fun q => ?_)
    · have H := bq_t q H
      exact gw_L (hκ _ _ _ _ H) ((lvA_c rfl (lvA_c rfl (lvA_c rfl (lvA_c rfl (lvA_c rfl (lvA_c rfl lvA_n)))))))
    · have H := bq_f q H
      refine gw_iload dL_isSolutionSo_38 rfl rfl ?_
      obtain ⟨g, H⟩ := gd_i H
      obtain ⟨k1, e_k1, H⟩ := jn_i H
      have hJ_k1 : ∀ (v2 : Int) (c3 : W0), k1 v2 c3 = some r → G Φ nL_isSolutionSo (gw_M Φ nL_isSolutionSo K) none 0 0 60 [(0, .ref (M + p1)), (1, vI l1), (2, vI l2), (3, vL l3), (5, vL l5), (7, vI l7), (8, vI l8)] [vI v2] (hp Φ hb M sh c3) := by
        intro v2 c3 H
        subst e_k1
        refine gw_istore dL_isSolutionSo_60 rfl (by decide) ?_
        refine gw_aload_n dL_isSolutionSo_62 rfl rfl ?_
        refine gw_iload dL_isSolutionSo_63 rfl rfl ?_
        obtain ⟨v4, c5, e_c5, H⟩ := cn_i H
        refine gw_V1 oknX8_givenDenominator dL_isSolutionSo_65 kw_687 kw_688 kw_689 (hp_o (h0.1)) rfl ⟨by decide, by decide⟩ ⟨by decide, by decide⟩ (Nat.le_of_ble_eq_true rfl) (n_X8_givenDenominator (h0) e_c5 rfl ?_)
        refine gw_lstore dL_isSolutionSo_68 rfl (by decide) ?_
        refine gw_lload_n dL_isSolutionSo_70 rfl rfl ?_
        refine gw_lload dL_isSolutionSo_71 rfl rfl ?_
        refine gw_lmulZ dL_isSolutionSo_73 rfl ?_
        refine gw_iload dL_isSolutionSo_74 rfl rfl ?_
        obtain ⟨g, H⟩ := gd_i H
        refine gw_i2lZ dL_isSolutionSo_76 rfl g ?_
        refine gw_aload_n dL_isSolutionSo_77 rfl rfl ?_
        refine gw_iload dL_isSolutionSo_78 rfl rfl ?_
        obtain ⟨v6, c7, e_c7, H⟩ := cn_i H
        refine gw_V1 oknX8_givenNumerator dL_isSolutionSo_80 kw_704 kw_705 kw_706 (hp_o (h0.1)) rfl ⟨by decide, by decide⟩ ⟨by decide, by decide⟩ (Nat.le_of_ble_eq_true rfl) (n_X8_givenNumerator (h0) e_c7 rfl ?_)
        refine gw_lmulZ dL_isSolutionSo_83 rfl ?_
        refine gw_lload dL_isSolutionSo_84 rfl rfl ?_
        refine gw_lmulZ dL_isSolutionSo_86 rfl ?_
        refine gw_laddZ dL_isSolutionSo_87 rfl ?_
        refine gw_lstore_n dL_isSolutionSo_88 rfl (by decide) ?_
        refine gw_lload dL_isSolutionSo_89 rfl rfl ?_
        refine gw_lload dL_isSolutionSo_91 rfl rfl ?_
        refine gw_lmulZ dL_isSolutionSo_93 rfl ?_
        refine gw_lstore dL_isSolutionSo_94 rfl (by decide) ?_
        refine gw_lload_n dL_isSolutionSo_96 rfl rfl ?_
        refine gw_lload dL_isSolutionSo_97 rfl rfl ?_
        obtain ⟨v8, e_v8, H⟩ := cv_i H
        refine gw_S2 oknL_divisor dL_isSolutionSo_99 kw_711 kw_712 ⟨by decide, by decide⟩ ⟨by decide, by decide⟩ (Nat.le_of_ble_eq_true rfl) (w_L_divisor  e_v8 ?_)
        refine gw_lstore dL_isSolutionSo_102 rfl (by decide) ?_
        refine gw_lload_n dL_isSolutionSo_104 rfl rfl ?_
        refine gw_lload dL_isSolutionSo_105 rfl rfl ?_
        obtain ⟨g, H⟩ := gd_i H
        refine gw_ldivZ dL_isSolutionSo_107 rfl g.1 g.2.1 g.2.2 ?_
        refine gw_lstore_n dL_isSolutionSo_108 rfl (by decide) ?_
        refine gw_lload dL_isSolutionSo_109 rfl rfl ?_
        refine gw_lload dL_isSolutionSo_111 rfl rfl ?_
        obtain ⟨g, H⟩ := gd_i H
        refine gw_ldivZ dL_isSolutionSo_113 rfl g.1 g.2.1 g.2.2 ?_
        refine gw_lstore dL_isSolutionSo_114 rfl (by decide) ?_
        refine gw_iload_n dL_isSolutionSo_116 rfl rfl ?_
        obtain ⟨g, H⟩ := gd_i H
        refine gw_if_eqZ (tgt := 158) dL_isSolutionSo_117 rfl (by decide) g (fun q => ?_) (fun q => ?_)
        · have H := bq_t q H
          refine gw_iconstZ dL_isSolutionSo_158 rfl ?_
          refine gw_istore_n dL_isSolutionSo_159 rfl (by decide) ?_
          refine gw_iincZ dL_isSolutionSo_160 rfl rfl (by decide) ?_
          refine gw_goto (tgt := 32) dL_isSolutionSo_163 (by decide) ?_
          exact gw_L (ih _ _ _ _ _ H) ((lvA_c rfl (lvA_c rfl (lvA_c rfl (lvA_c rfl (lvA_c rfl (lvA_c rfl (lvA_c rfl lvA_n))))))))
        · have H := bq_f q H
          refine gw_aload_n dL_isSolutionSo_120 rfl rfl ?_
          refine gw_iload dL_isSolutionSo_121 rfl rfl ?_
          obtain ⟨v9, c10, e_c10, H⟩ := cn_i H
          refine gw_V1 oknX8_givenNumerator dL_isSolutionSo_123 kw_704 kw_705 kw_706 (hp_o (h0.1)) rfl ⟨by decide, by decide⟩ ⟨by decide, by decide⟩ (Nat.le_of_ble_eq_true rfl) (n_X8_givenNumerator (h0) e_c10 rfl ?_)
          refine gw_lconst0Z dL_isSolutionSo_126 rfl ?_
          obtain ⟨g, H⟩ := gd_i H
          refine gw_lc_ltZ (tgt := 158) dL_isSolutionSo_127 rfl dL_isSolutionSo_128 rfl (by decide) g (by decide) (fun q => ?_) (fun q => ?_)
          · have H := bq_t q H
            refine gw_iconstZ dL_isSolutionSo_158 rfl ?_
            refine gw_istore_n dL_isSolutionSo_159 rfl (by decide) ?_
            refine gw_iincZ dL_isSolutionSo_160 rfl rfl (by decide) ?_
            refine gw_goto (tgt := 32) dL_isSolutionSo_163 (by decide) ?_
            exact gw_L (ih _ _ _ _ _ H) ((lvA_c rfl (lvA_c rfl (lvA_c rfl (lvA_c rfl (lvA_c rfl (lvA_c rfl (lvA_c rfl lvA_n))))))))
          · have H := bq_f q H
            refine gw_lload dL_isSolutionSo_131 rfl rfl ?_
            refine gw_lconst0Z dL_isSolutionSo_133 rfl ?_
            obtain ⟨g, H⟩ := gd_i H
            refine gw_lc_leZ (tgt := 158) dL_isSolutionSo_134 rfl dL_isSolutionSo_135 rfl (by decide) g (by decide) (fun q => ?_) (fun q => ?_)
            · have H := bq_t q H
              refine gw_iconstZ dL_isSolutionSo_158 rfl ?_
              refine gw_istore_n dL_isSolutionSo_159 rfl (by decide) ?_
              refine gw_iincZ dL_isSolutionSo_160 rfl rfl (by decide) ?_
              refine gw_goto (tgt := 32) dL_isSolutionSo_163 (by decide) ?_
              exact gw_L (ih _ _ _ _ _ H) ((lvA_c rfl (lvA_c rfl (lvA_c rfl (lvA_c rfl (lvA_c rfl (lvA_c rfl (lvA_c rfl lvA_n))))))))
            · have H := bq_f q H
              refine gw_aload_n dL_isSolutionSo_138 rfl rfl ?_
              refine gw_iload dL_isSolutionSo_139 rfl rfl ?_
              obtain ⟨v11, c12, e_c12, H⟩ := cn_i H
              refine gw_V1 oknX8_givenNumerator dL_isSolutionSo_141 kw_704 kw_705 kw_706 (hp_o (h0.1)) rfl ⟨by decide, by decide⟩ ⟨by decide, by decide⟩ (Nat.le_of_ble_eq_true rfl) (n_X8_givenNumerator (h0) e_c12 rfl ?_)
              refine gw_lload dL_isSolutionSo_144 rfl rfl ?_
              obtain ⟨v13, e_v13, H⟩ := cv_i H
              refine gw_S2 oknL_divisor dL_isSolutionSo_146 kw_711 kw_712 ⟨by decide, by decide⟩ ⟨by decide, by decide⟩ (Nat.le_of_ble_eq_true rfl) (w_L_divisor  e_v13 ?_)
              refine gw_lconst1Z dL_isSolutionSo_149 rfl ?_
              obtain ⟨g, H⟩ := gd_i H
              refine gw_lc_neZ (tgt := 158) dL_isSolutionSo_150 rfl dL_isSolutionSo_151 rfl (by decide) g (by decide) (fun q => ?_) (fun q => ?_)
              · have H := bq_f q H
                refine gw_iconstZ dL_isSolutionSo_158 rfl ?_
                refine gw_istore_n dL_isSolutionSo_159 rfl (by decide) ?_
                refine gw_iincZ dL_isSolutionSo_160 rfl rfl (by decide) ?_
                refine gw_goto (tgt := 32) dL_isSolutionSo_163 (by decide) ?_
                exact gw_L (ih _ _ _ _ _ H) ((lvA_c rfl (lvA_c rfl (lvA_c rfl (lvA_c rfl (lvA_c rfl (lvA_c rfl (lvA_c rfl lvA_n))))))))
              · have H := bq_t q H
                refine gw_iconstZ dL_isSolutionSo_154 rfl ?_
                refine gw_goto (tgt := 159) dL_isSolutionSo_155 (by decide) ?_
                refine gw_istore_n dL_isSolutionSo_159 rfl (by decide) ?_
                refine gw_iincZ dL_isSolutionSo_160 rfl rfl (by decide) ?_
                refine gw_goto (tgt := 32) dL_isSolutionSo_163 (by decide) ?_
                exact gw_L (ih _ _ _ _ _ H) ((lvA_c rfl (lvA_c rfl (lvA_c rfl (lvA_c rfl (lvA_c rfl (lvA_c rfl (lvA_c rfl lvA_n))))))))
      refine gw_if_geZ (tgt := 52) dL_isSolutionSo_40 rfl (by decide) g (fun q => ?_) (fun q => ?_)
      · have H := bq_t q H
        refine gw_aload_n dL_isSolutionSo_52 rfl rfl ?_
        refine gw_iload dL_isSolutionSo_53 rfl rfl ?_
        refine gw_iload dL_isSolutionSo_55 rfl rfl ?_
        obtain ⟨v14, c15, e_c15, H⟩ := cn_i H
        refine gw_V2 oknX8_coefficientOf dL_isSolutionSo_57 kw_680 kw_681 kw_682 (hp_o (h0.1)) rfl ⟨by decide, by decide⟩ ⟨by decide, by decide⟩ (Nat.le_of_ble_eq_true rfl) (n_X8_coefficientOf (h0) e_c15 rfl ?_)
        exact gw_L (hJ_k1 _ _ H) ((lvA_c rfl (lvA_c rfl (lvA_c rfl (lvA_c rfl (lvA_c rfl (lvA_c rfl (lvA_c rfl lvA_n))))))))
      · have H := bq_f q H
        refine gw_aload_n dL_isSolutionSo_43 rfl rfl ?_
        refine gw_iload dL_isSolutionSo_44 rfl rfl ?_
        obtain ⟨v16, c17, e_c17, H⟩ := cn_i H
        refine gw_V1 oknX8_profitOf dL_isSolutionSo_46 kw_668 kw_669 kw_670 (hp_o (h0.1)) rfl ⟨by decide, by decide⟩ ⟨by decide, by decide⟩ (Nat.le_of_ble_eq_true rfl) (n_X8_profitOf (h0) e_c17 rfl ?_)
        refine gw_goto (tgt := 60) dL_isSolutionSo_49 (by decide) ?_
        exact gw_L (hJ_k1 _ _ H) ((lvA_c rfl (lvA_c rfl (lvA_c rfl (lvA_c rfl (lvA_c rfl (lvA_c rfl (lvA_c rfl lvA_n))))))))
set_option maxRecDepth 100000 in
set_option maxHeartbeats 4000000 in
theorem l_L_isSolutionSo_15 {Φ : gwC} {hb : gwHp} {M : Nat} {sh : Nat → Option gSh} {p1 : Nat} {l1 : Int} {κ : Int → W0 → Option (Int × W0)} {r : Int × W0} {K : Option Value → gwHp → Prop} (h0 : sD sh p1) (hK : K (some (vI r.1)) (hp Φ hb M sh r.2)) (hκ : ∀ (x2 : Int) (c : W0), κ x2 c = some r → G Φ nL_isSolutionSo (gw_M Φ nL_isSolutionSo K) none 0 0 258 [(0, .ref (M + p1)), (2, vI x2)] [] (hp Φ hb M sh c)) : ∀ (n : Nat) (l2 : Int) (l7 : Int) (c : W0), f_L_isSolutionSo_15 p1 l1 κ n l2 l7 c = some r → G Φ nL_isSolutionSo (gw_M Φ nL_isSolutionSo K) none 0 0 15 [(0, .ref (M + p1)), (1, vI l1), (2, vI l2), (7, vI l7)] [] (hp Φ hb M sh c) := by
  intro n
  induction n with
  | zero => intro l2 l7 c H; cases H
  | succ n ih =>
    intro l2 l7 c H
    have H : b_L_isSolutionSo_15 p1 l1 κ (f_L_isSolutionSo_15 p1 l1 κ n) l2 l7 c = some r := H
    unfold b_L_isSolutionSo_15 at H
    refine gw_iload dL_isSolutionSo_15 rfl rfl ?_
    refine gw_aload_n dL_isSolutionSo_17 rfl rfl ?_
    obtain ⟨v1, e_v1, H⟩ := cv_i H
    refine gw_V0 okX8_constraints dL_isSolutionSo_18 kw_373 kw_374 kw_375 (hp_o (h0.1)) rfl ⟨by decide, by decide⟩ ⟨by decide, by decide⟩ (Nat.le_of_ble_eq_true rfl) (w_X8_constraints (h0) e_v1 ?_)
    obtain ⟨g, H⟩ := gd_i H
    refine gw_icmp_geZ (tgt := 258) dL_isSolutionSo_21 rfl (by decide) g.1 g.2 (fun q => ?_) (fun q => ?_)
    · have H := bq_t q H
      exact gw_L (hκ _ _ H) ((lvA_c rfl (lvA_c rfl lvA_n)))
    · have H := bq_f q H
      refine gw_lconst0Z dL_isSolutionSo_24 rfl ?_
      refine gw_lstore_n dL_isSolutionSo_25 rfl (by decide) ?_
      refine gw_lconst1Z dL_isSolutionSo_26 rfl ?_
      refine gw_lstore dL_isSolutionSo_27 rfl (by decide) ?_
      refine gw_iconstZ dL_isSolutionSo_29 rfl ?_
      refine gw_istore dL_isSolutionSo_30 rfl (by decide) ?_
      refine gw_L (l_L_isSolutionSo_32 h0 hK (fun v2 v3 v4 c5 H => ?_) LF _ _ _ _ _ H) ((lvA_c rfl (lvA_c rfl (lvA_c rfl (lvA_c rfl (lvA_c rfl (lvA_c rfl (lvA_c rfl lvA_n))))))))
      refine gw_iload_n dL_isSolutionSo_166 rfl rfl ?_
      obtain ⟨g, H⟩ := gd_i H
      refine gw_if_eqZ (tgt := 250) dL_isSolutionSo_167 rfl (by decide) g (fun q => ?_) (fun q => ?_)
      · have H := bq_t q H
        refine gw_iconstZ dL_isSolutionSo_250 rfl ?_
        refine gw_istore_n dL_isSolutionSo_251 rfl (by decide) ?_
        refine gw_iincZ dL_isSolutionSo_252 rfl rfl (by decide) ?_
        refine gw_goto (tgt := 15) dL_isSolutionSo_255 (by decide) ?_
        exact gw_L (ih _ _ _ H) ((lvA_c rfl (lvA_c rfl (lvA_c rfl (lvA_c rfl lvA_n)))))
      · have H := bq_f q H
        refine gw_iload dL_isSolutionSo_170 rfl rfl ?_
        obtain ⟨g, H⟩ := gd_i H
        obtain ⟨k6, e_k6, H⟩ := jn_i H
        have hJ_k6 : ∀ (c7 : W0), k6 c7 = some r → G Φ nL_isSolutionSo (gw_M Φ nL_isSolutionSo K) none 0 0 246 [(0, .ref (M + p1)), (1, vI l1), (7, vI l7)] [] (hp Φ hb M sh c7) := by
          intro c7 H
          subst e_k6
          refine gw_iconstZ dL_isSolutionSo_246 rfl ?_
          refine gw_goto (tgt := 251) dL_isSolutionSo_247 (by decide) ?_
          refine gw_istore_n dL_isSolutionSo_251 rfl (by decide) ?_
          refine gw_iincZ dL_isSolutionSo_252 rfl rfl (by decide) ?_
          refine gw_goto (tgt := 15) dL_isSolutionSo_255 (by decide) ?_
          exact gw_L (ih _ _ _ H) ((lvA_c rfl (lvA_c rfl (lvA_c rfl (lvA_c rfl lvA_n)))))
        refine gw_if_geZ (tgt := 197) dL_isSolutionSo_172 rfl (by decide) g (fun q => ?_) (fun q => ?_)
        · have H := bq_t q H
          refine gw_aload_n dL_isSolutionSo_197 rfl rfl ?_
          refine gw_iload dL_isSolutionSo_198 rfl rfl ?_
          obtain ⟨v8, c9, e_c9, H⟩ := cn_i H
          refine gw_V1 oknX8_boundOf dL_isSolutionSo_200 kw_672 kw_673 kw_674 (hp_o (h0.1)) rfl ⟨by decide, by decide⟩ ⟨by decide, by decide⟩ (Nat.le_of_ble_eq_true rfl) (n_X8_boundOf (h0) e_c9 rfl ?_)
          obtain ⟨g, H⟩ := gd_i H
          refine gw_i2lZ dL_isSolutionSo_203 rfl g ?_
          refine gw_lload dL_isSolutionSo_204 rfl rfl ?_
          refine gw_lmulZ dL_isSolutionSo_206 rfl ?_
          refine gw_lload_n dL_isSolutionSo_207 rfl rfl ?_
          refine gw_lsubZ dL_isSolutionSo_208 rfl ?_
          refine gw_aload_n dL_isSolutionSo_209 rfl rfl ?_
          refine gw_iload_n dL_isSolutionSo_210 rfl rfl ?_
          refine gw_iload dL_isSolutionSo_211 rfl rfl ?_
          refine gw_iaddZ dL_isSolutionSo_213 rfl ?_
          obtain ⟨v10, c11, e_c11, H⟩ := cn_i H
          refine gw_V1 oknX8_givenDenominator dL_isSolutionSo_214 kw_687 kw_688 kw_689 (hp_o (h0.1)) rfl ⟨by decide, by decide⟩ ⟨by decide, by decide⟩ (Nat.le_of_ble_eq_true rfl) (n_X8_givenDenominator (h0) e_c11 rfl ?_)
          refine gw_lmulZ dL_isSolutionSo_217 rfl ?_
          refine gw_aload_n dL_isSolutionSo_218 rfl rfl ?_
          refine gw_iload_n dL_isSolutionSo_219 rfl rfl ?_
          refine gw_iload dL_isSolutionSo_220 rfl rfl ?_
          refine gw_iaddZ dL_isSolutionSo_222 rfl ?_
          obtain ⟨v12, c13, e_c13, H⟩ := cn_i H
          refine gw_V1 oknX8_givenNumerator dL_isSolutionSo_223 kw_704 kw_705 kw_706 (hp_o (h0.1)) rfl ⟨by decide, by decide⟩ ⟨by decide, by decide⟩ (Nat.le_of_ble_eq_true rfl) (n_X8_givenNumerator (h0) e_c13 rfl ?_)
          refine gw_lload dL_isSolutionSo_226 rfl rfl ?_
          refine gw_lmulZ dL_isSolutionSo_228 rfl ?_
          obtain ⟨g, H⟩ := gd_i H
          refine gw_lc_neZ (tgt := 250) dL_isSolutionSo_229 rfl dL_isSolutionSo_230 rfl (by decide) g.1 g.2 (fun q => ?_) (fun q => ?_)
          · have H := bq_f q H
            refine gw_iconstZ dL_isSolutionSo_250 rfl ?_
            refine gw_istore_n dL_isSolutionSo_251 rfl (by decide) ?_
            refine gw_iincZ dL_isSolutionSo_252 rfl rfl (by decide) ?_
            refine gw_goto (tgt := 15) dL_isSolutionSo_255 (by decide) ?_
            exact gw_L (ih _ _ _ H) ((lvA_c rfl (lvA_c rfl (lvA_c rfl (lvA_c rfl lvA_n)))))
          · have H := bq_t q H
            refine gw_aload_n dL_isSolutionSo_233 rfl rfl ?_
            refine gw_iload_n dL_isSolutionSo_234 rfl rfl ?_
            refine gw_iload dL_isSolutionSo_235 rfl rfl ?_
            refine gw_iaddZ dL_isSolutionSo_237 rfl ?_
            obtain ⟨v14, c15, e_c15, H⟩ := cn_i H
            refine gw_V1 oknX8_givenNumerator dL_isSolutionSo_238 kw_704 kw_705 kw_706 (hp_o (h0.1)) rfl ⟨by decide, by decide⟩ ⟨by decide, by decide⟩ (Nat.le_of_ble_eq_true rfl) (n_X8_givenNumerator (h0) e_c15 rfl ?_)
            refine gw_lconst0Z dL_isSolutionSo_241 rfl ?_
            obtain ⟨g, H⟩ := gd_i H
            refine gw_lc_ltZ (tgt := 250) dL_isSolutionSo_242 rfl dL_isSolutionSo_243 rfl (by decide) g (by decide) (fun q => ?_) (fun q => ?_)
            · have H := bq_t q H
              refine gw_iconstZ dL_isSolutionSo_250 rfl ?_
              refine gw_istore_n dL_isSolutionSo_251 rfl (by decide) ?_
              refine gw_iincZ dL_isSolutionSo_252 rfl rfl (by decide) ?_
              refine gw_goto (tgt := 15) dL_isSolutionSo_255 (by decide) ?_
              exact gw_L (ih _ _ _ H) ((lvA_c rfl (lvA_c rfl (lvA_c rfl (lvA_c rfl lvA_n)))))
            · have H := bq_f q H
              exact gw_L (hJ_k6 _ H) ((lvA_c rfl (lvA_c rfl (lvA_c rfl lvA_n))))
        · have H := bq_f q H
          refine gw_lload_n dL_isSolutionSo_175 rfl rfl ?_
          refine gw_aload_n dL_isSolutionSo_176 rfl rfl ?_
          obtain ⟨v16, e_v16, H⟩ := cv_i H
          refine gw_V0 okX8_valueNumerator dL_isSolutionSo_177 kw_714 kw_715 kw_716 (hp_o (h0.1)) rfl ⟨by decide, by decide⟩ ⟨by decide, by decide⟩ (Nat.le_of_ble_eq_true rfl) (w_X8_valueNumerator (h0) e_v16 ?_)
          obtain ⟨g, H⟩ := gd_i H
          refine gw_lc_neZ (tgt := 250) dL_isSolutionSo_180 rfl dL_isSolutionSo_181 rfl (by decide) g.1 g.2 (fun q => ?_) (fun q => ?_)
          · have H := bq_f q H
            refine gw_iconstZ dL_isSolutionSo_250 rfl ?_
            refine gw_istore_n dL_isSolutionSo_251 rfl (by decide) ?_
            refine gw_iincZ dL_isSolutionSo_252 rfl rfl (by decide) ?_
            refine gw_goto (tgt := 15) dL_isSolutionSo_255 (by decide) ?_
            exact gw_L (ih _ _ _ H) ((lvA_c rfl (lvA_c rfl (lvA_c rfl (lvA_c rfl lvA_n)))))
          · have H := bq_t q H
            refine gw_lload dL_isSolutionSo_184 rfl rfl ?_
            refine gw_aload_n dL_isSolutionSo_186 rfl rfl ?_
            obtain ⟨v17, e_v17, H⟩ := cv_i H
            refine gw_V0 okX8_valueDenominator dL_isSolutionSo_187 kw_722 kw_723 kw_724 (hp_o (h0.1)) rfl ⟨by decide, by decide⟩ ⟨by decide, by decide⟩ (Nat.le_of_ble_eq_true rfl) (w_X8_valueDenominator (h0) e_v17 ?_)
            obtain ⟨g, H⟩ := gd_i H
            refine gw_lc_neZ (tgt := 250) dL_isSolutionSo_190 rfl dL_isSolutionSo_191 rfl (by decide) g.1 g.2 (fun q => ?_) (fun q => ?_)
            · have H := bq_f q H
              refine gw_iconstZ dL_isSolutionSo_250 rfl ?_
              refine gw_istore_n dL_isSolutionSo_251 rfl (by decide) ?_
              refine gw_iincZ dL_isSolutionSo_252 rfl rfl (by decide) ?_
              refine gw_goto (tgt := 15) dL_isSolutionSo_255 (by decide) ?_
              exact gw_L (ih _ _ _ H) ((lvA_c rfl (lvA_c rfl (lvA_c rfl (lvA_c rfl lvA_n)))))
            · have H := bq_t q H
              refine gw_goto (tgt := 246) dL_isSolutionSo_194 (by decide) ?_
              exact gw_L (hJ_k6 _ H) ((lvA_c rfl (lvA_c rfl (lvA_c rfl lvA_n))))
set_option maxRecDepth 100000 in
set_option maxHeartbeats 4000000 in
theorem w_L_isSolutionSo {Φ : gwC} {hb : gwHp} {M : Nat} {sh : Nat → Option gSh} {p1 : Nat} {c : W0} {r : Int × W0} {K : Option Value → gwHp → Prop} (h0 : sD sh p1) (H : f_L_isSolutionSo p1 c = some r) (hK : K (some (vI r.1)) (hp Φ hb M sh r.2)) : gw_Con Φ nL_isSolutionSo none [.ref (M + p1)] (hp Φ hb M sh c) K := by
  unfold f_L_isSolutionSo at H
  refine gw_start oknL_isSolutionSo (Nat.le_of_ble_eq_true rfl) ?_
  refine gw_aload_n dL_isSolutionSo_0 rfl rfl ?_
  obtain ⟨v1, e_v1, H⟩ := cv_i H
  refine gw_V0 okX8_variables dL_isSolutionSo_1 kw_377 kw_378 kw_379 (hp_o (h0.1)) rfl ⟨by decide, by decide⟩ ⟨by decide, by decide⟩ (Nat.le_of_ble_eq_true rfl) (w_X8_variables (h0) e_v1 ?_)
  refine gw_istore_n dL_isSolutionSo_4 rfl (by decide) ?_
  refine gw_iconstZ dL_isSolutionSo_5 rfl ?_
  refine gw_istore_n dL_isSolutionSo_6 rfl (by decide) ?_
  refine gw_lconst0Z dL_isSolutionSo_7 rfl ?_
  refine gw_lstore_n dL_isSolutionSo_8 rfl (by decide) ?_
  refine gw_lconst1Z dL_isSolutionSo_9 rfl ?_
  refine gw_lstore dL_isSolutionSo_10 rfl (by decide) ?_
  refine gw_iconstZ dL_isSolutionSo_12 rfl ?_
  refine gw_istore dL_isSolutionSo_13 rfl (by decide) ?_
  refine gw_L (l_L_isSolutionSo_15 h0 hK (fun v2 c3 H => ?_) LF _ _ _ H) ((lvA_c rfl (lvA_c rfl (lvA_c rfl (lvA_c rfl lvA_n)))))
  refine gw_iload_n dL_isSolutionSo_258 rfl rfl ?_
  obtain ⟨g, H⟩ := gd_i H
  refine gw_if_eqZ (tgt := 296) dL_isSolutionSo_259 rfl (by decide) g (fun q => ?_) (fun q => ?_)
  · have H := bq_t q H
    refine gw_iconstZ dL_isSolutionSo_296 rfl ?_
    cases H
    exact gw_zret rfl dL_isSolutionSo_297 rfl (by decide) (by decide) hK
  · have H := bq_f q H
    refine gw_aload_n dL_isSolutionSo_262 rfl rfl ?_
    obtain ⟨v4, e_v4, H⟩ := cv_i H
    refine gw_V0 okX8_value dL_isSolutionSo_263 kw_726 kw_727 kw_728 (hp_o (h0.1)) rfl ⟨by decide, by decide⟩ ⟨by decide, by decide⟩ (Nat.le_of_ble_eq_true rfl) (w_X8_value (h0) e_v4 ?_)
    refine gw_aload_n dL_isSolutionSo_266 rfl rfl ?_
    obtain ⟨v5, e_v5, H⟩ := cv_i H
    refine gw_V0 okX8_valueNumerator dL_isSolutionSo_267 kw_714 kw_715 kw_716 (hp_o (h0.1)) rfl ⟨by decide, by decide⟩ ⟨by decide, by decide⟩ (Nat.le_of_ble_eq_true rfl) (w_X8_valueNumerator (h0) e_v5 ?_)
    refine gw_l2d dL_isSolutionSo_270 rfl ?_
    refine gw_dconst1 dL_isSolutionSo_271 rfl ?_
    obtain ⟨g, H⟩ := gd_i H
    refine gw_dmul dL_isSolutionSo_272 rfl g ?_
    refine gw_aload_n dL_isSolutionSo_273 rfl rfl ?_
    obtain ⟨v6, e_v6, H⟩ := cv_i H
    refine gw_V0 okX8_valueDenominator dL_isSolutionSo_274 kw_722 kw_723 kw_724 (hp_o (h0.1)) rfl ⟨by decide, by decide⟩ ⟨by decide, by decide⟩ (Nat.le_of_ble_eq_true rfl) (w_X8_valueDenominator (h0) e_v6 ?_)
    refine gw_l2d dL_isSolutionSo_277 rfl ?_
    obtain ⟨g, H⟩ := gd_i H
    refine gw_ddiv dL_isSolutionSo_278 rfl g ?_
    refine gw_dcmp dL_isSolutionSo_279 rfl ?_
    refine gw_dif_ne (tgt := 296) dL_isSolutionSo_280 rfl (by decide) (fun q => ?_) (fun q => ?_)
    · have H := bq_f q H
      refine gw_iconstZ dL_isSolutionSo_296 rfl ?_
      cases H
      exact gw_zret rfl dL_isSolutionSo_297 rfl (by decide) (by decide) hK
    · have H := bq_t q H
      refine gw_aload_n dL_isSolutionSo_283 rfl rfl ?_
      obtain ⟨v7, e_v7, H⟩ := cv_i H
      refine gw_V0 okX8_valueNumerator dL_isSolutionSo_284 kw_714 kw_715 kw_716 (hp_o (h0.1)) rfl ⟨by decide, by decide⟩ ⟨by decide, by decide⟩ (Nat.le_of_ble_eq_true rfl) (w_X8_valueNumerator (h0) e_v7 ?_)
      refine gw_lconst0Z dL_isSolutionSo_287 rfl ?_
      obtain ⟨g, H⟩ := gd_i H
      refine gw_lc_ltZ (tgt := 296) dL_isSolutionSo_288 rfl dL_isSolutionSo_289 rfl (by decide) g (by decide) (fun q => ?_) (fun q => ?_)
      · have H := bq_t q H
        refine gw_iconstZ dL_isSolutionSo_296 rfl ?_
        cases H
        exact gw_zret rfl dL_isSolutionSo_297 rfl (by decide) (by decide) hK
      · have H := bq_f q H
        refine gw_iconstZ dL_isSolutionSo_292 rfl ?_
        refine gw_goto (tgt := 297) dL_isSolutionSo_293 (by decide) ?_
        cases H
        exact gw_zret rfl dL_isSolutionSo_297 rfl (by decide) (by decide) hK
end NW
