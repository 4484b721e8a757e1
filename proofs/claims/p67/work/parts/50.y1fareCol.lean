section NW
abbrev nL_areColumnsSo : gwY := (yL_areColumnsSo, cL_areColumnsSo, 13, (Option.some Jvm.ClassFile.FieldType.boolean), { frames := 6, cells := 0, slots := 0, locals := 166 }, [])
theorem oknL_areColumnsSo : gw_ok nL_areColumnsSo 1 := ⟨by decide +kernel, kw_734, kw_16, by decide +kernel, rfl⟩
set_option maxRecDepth 100000 in
set_option maxHeartbeats 4000000 in
theorem l_L_areColumnsSo_46 {Φ : gwC} {hb : gwHp} {M : Nat} {sh : Nat → Option gSh} {p1 : Nat} {l1 : Int} {l2 : Int} {l4 : Int} {l5 : Int} {l6 : Int} {l9 : Int} {κ : Int → Int → Int → W0 → Option (Int × W0)} {r : Int × W0} {K : Option Value → gwHp → Prop} (h0 : sD sh p1) (hK : K (some (vI r.1)) (hp Φ hb M sh r.2)) (hκ : ∀ (x3 : Int) (x7 : Int) (x8 : Int) (c : W0), κ x3 x7 x8 c = some r → G Φ nL_areColumnsSo (gw_M Φ nL_areColumnsSo K) none 0 0 250 [(0, .ref (M + p1)), (1, vI l1), (2, vI l2), (3, vI x3), (4, vI l4), (5, vI l5), (6, vI l6), (7, vI x7), (8, vI x8), (9, vL l9)] [] (hp Φ hb M sh c)) : ∀ (n : Nat) (l3 : Int) (l7 : Int) (l8 : Int) (l11 : Int) (c : W0), f_L_areColumnsSo_46 p1 l1 l2 l4 l5 l6 l9 κ n l3 l7 l8 l11 c = some r → G Φ nL_areColumnsSo (gw_M Φ nL_areColumnsSo K) none 0 0 46 [(0, .ref (M + p1)), (1, vI l1), (2, vI l2), (3, vI l3), (4, vI l4), (5, vI l5), (6, vI l6), (7, vI l7), (8, vI l8), (9, vL l9), (11, vI l11)] [] (hp Φ hb M sh c) := by
  intro n
  induction n with
  | zero => intro l3 l7 l8 l11 c H; cases H
  | succ n ih =>
    intro l3 l7 l8 l11 c H
    have H : b_L_areColumnsSo_46 p1 l1 l2 l4 l5 l6 l9 κ (f_L_areColumnsSo_46 p1 l1 l2 l4 l5 l6 l9 κ n) l3 l7 l8 l11 c = some r := H
    unfold b_L_areColumnsSo_46 at H
    refine gw_iload dL_areColumnsSo_46 rfl rfl ?_
    refine gw_iload_n dL_areColumnsSo_48 rfl rfl ?_
    obtain ⟨g, H⟩ := gd_i H
    refine gw_icmp_geZ (tgt := 250) dL_areColumnsSo_49 rfl (by decide) g.1 g.2 (fun q => ?_) (fun q => ?_)
    · have H := bq_t q H
      exact gw_L (hκ _ _ _ _ H) ((lvA_c rfl (lvA_c rfl (lvA_c rfl (lvA_c rfl (lvA_c rfl (lvA_c rfl (lvA_c rfl (lvA_c rfl (lvA_c rfl (lvA_c rfl lvA_n)))))))))))
    · have H := bq_f q H
      refine gw_aload_n dL_areColumnsSo_52 rfl rfl ?_
      refine gw_iload dL_areColumnsSo_53 rfl rfl ?_
      obtain ⟨v1, c2, e_c2, H⟩ := cn_i H
      refine gw_V1 oknX8_columnOf dL_areColumnsSo_55 kw_676 kw_677 kw_678 (hp_o (h0.1)) rfl ⟨by decide, by decide⟩ ⟨by decide, by decide⟩ (Nat.le_of_ble_eq_true rfl) (n_X8_columnOf (h0) e_c2 rfl ?_)
      refine gw_iload dL_areColumnsSo_58 rfl rfl ?_
      obtain ⟨g, H⟩ := gd_i H
      obtain ⟨k3, e_k3, H⟩ := jn_i H
      have hJ_k3 : ∀ (v4 : Int), k3 v4 = some r → G Φ nL_areColumnsSo (gw_M Φ nL_areColumnsSo K) none 0 0 70 [(0, .ref (M + p1)), (1, vI l1), (2, vI l2), (3, vI l3), (4, vI l4), (5, vI l5), (6, vI l6), (8, vI l8), (9, vL l9), (11, vI l11)] [vI v4] (hp Φ hb M sh c2) := by
        intro v4 H
        subst e_k3
        refine gw_istore dL_areColumnsSo_70 rfl (by decide) ?_
        refine gw_iload dL_areColumnsSo_72 rfl rfl ?_
        obtain ⟨g, H⟩ := gd_i H
        obtain ⟨k5, e_k5, H⟩ := jn_i H
        have hJ_k5 : ∀ (c6 : W0), k5 c6 = some r → G Φ nL_areColumnsSo (gw_M Φ nL_areColumnsSo K) none 0 0 90 [(0, .ref (M + p1)), (1, vI l1), (2, vI l2), (3, vI l3), (4, vI l4), (5, vI l5), (6, vI l6), (7, vI v4), (9, vL l9), (11, vI l11)] [] (hp Φ hb M sh c6) := by
          intro c6 H
          subst e_k5
          refine gw_iconstZ dL_areColumnsSo_90 rfl ?_
          refine gw_goto (tgt := 95) dL_areColumnsSo_91 (by decide) ?_
          refine gw_istore dL_areColumnsSo_95 rfl (by decide) ?_
          refine gw_aload_n dL_areColumnsSo_97 rfl rfl ?_
          refine gw_iload dL_areColumnsSo_98 rfl rfl ?_
          refine gw_iload dL_areColumnsSo_100 rfl rfl ?_
          obtain ⟨v7, c8, e_c8, H⟩ := cn_i H
          refine gw_V2 oknX8_whyNoPivot dL_areColumnsSo_102 kw_745 kw_746 kw_747 (hp_o (h0.1)) rfl ⟨by decide, by decide⟩ ⟨by decide, by decide⟩ (Nat.le_of_ble_eq_true rfl) (n_X8_whyNoPivot (h0) e_c8 rfl ?_)
          refine gw_istore dL_areColumnsSo_105 rfl (by decide) ?_
          refine gw_iload_n dL_areColumnsSo_107 rfl rfl ?_
          obtain ⟨g, H⟩ := gd_i H
          refine gw_if_eqZ (tgt := 242) dL_areColumnsSo_108 rfl (by decide) g (fun q => ?_) (fun q => ?_)
          · have H := bq_t q H
            refine gw_iconstZ dL_areColumnsSo_242 rfl ?_
            refine gw_istore_n dL_areColumnsSo_243 rfl (by decide) ?_
            refine gw_iincZ dL_areColumnsSo_244 rfl rfl (by decide) ?_
            refine gw_goto (tgt := 46) dL_areColumnsSo_247 (by decide) ?_
            exact gw_L (ih _ _ _ _ _ H) ((lvA_c rfl (lvA_c rfl (lvA_c rfl (lvA_c rfl (lvA_c rfl (lvA_c rfl (lvA_c rfl (lvA_c rfl (lvA_c rfl (lvA_c rfl (lvA_c rfl lvA_n))))))))))))
          · have H := bq_f q H
            refine gw_aload_n dL_areColumnsSo_111 rfl rfl ?_
            refine gw_iload dL_areColumnsSo_112 rfl rfl ?_
            refine gw_iload dL_areColumnsSo_114 rfl rfl ?_
            obtain ⟨v9, c10, e_c10, H⟩ := cn_i H
            refine gw_V2 oknX8_entryDenominator dL_areColumnsSo_116 kw_749 kw_750 kw_751 (hp_o (h0.1)) rfl ⟨by decide, by decide⟩ ⟨by decide, by decide⟩ (Nat.le_of_ble_eq_true rfl) (n_X8_entryDenominator (h0) e_c10 rfl ?_)
            refine gw_lconst0Z dL_areColumnsSo_119 rfl ?_
            obtain ⟨g, H⟩ := gd_i H
            refine gw_lc_leZ (tgt := 242) dL_areColumnsSo_120 rfl dL_areColumnsSo_121 rfl (by decide) g (by decide) (fun q => ?_) (fun q => ?_)
            · have H := bq_t q H
              refine gw_iconstZ dL_areColumnsSo_242 rfl ?_
              refine gw_istore_n dL_areColumnsSo_243 rfl (by decide) ?_
              refine gw_iincZ dL_areColumnsSo_244 rfl rfl (by decide) ?_
              refine gw_goto (tgt := 46) dL_areColumnsSo_247 (by decide) ?_
              exact gw_L (ih _ _ _ _ _ H) ((lvA_c rfl (lvA_c rfl (lvA_c rfl (lvA_c rfl (lvA_c rfl (lvA_c rfl (lvA_c rfl (lvA_c rfl (lvA_c rfl (lvA_c rfl (lvA_c rfl lvA_n))))))))))))
            · have H := bq_f q H
              refine gw_aload_n dL_areColumnsSo_124 rfl rfl ?_
              refine gw_iload dL_areColumnsSo_125 rfl rfl ?_
              refine gw_iload dL_areColumnsSo_127 rfl rfl ?_
              obtain ⟨v11, c12, e_c12, H⟩ := cn_i H
              refine gw_V2 oknX8_entryNumerator dL_areColumnsSo_129 kw_740 kw_741 kw_742 (hp_o (h0.1)) rfl ⟨by decide, by decide⟩ ⟨by decide, by decide⟩ (Nat.le_of_ble_eq_true rfl) (n_X8_entryNumerator (h0) e_c12 rfl ?_)
              refine gw_aload_n dL_areColumnsSo_132 rfl rfl ?_
              refine gw_iload dL_areColumnsSo_133 rfl rfl ?_
              refine gw_iload dL_areColumnsSo_135 rfl rfl ?_
              obtain ⟨v13, c14, e_c14, H⟩ := cn_i H
              refine gw_V2 oknX8_entryDenominator dL_areColumnsSo_137 kw_749 kw_750 kw_751 (hp_o (h0.1)) rfl ⟨by decide, by decide⟩ ⟨by decide, by decide⟩ (Nat.le_of_ble_eq_true rfl) (n_X8_entryDenominator (h0) e_c14 rfl ?_)
              obtain ⟨v15, e_v15, H⟩ := cv_i H
              refine gw_S2 oknL_divisor dL_areColumnsSo_140 kw_711 kw_712 ⟨by decide, by decide⟩ ⟨by decide, by decide⟩ (Nat.le_of_ble_eq_true rfl) (w_L_divisor  e_v15 ?_)
              refine gw_lconst1Z dL_areColumnsSo_143 rfl ?_
              obtain ⟨g, H⟩ := gd_i H
              refine gw_lc_neZ (tgt := 242) dL_areColumnsSo_144 rfl dL_areColumnsSo_145 rfl (by decide) g (by decide) (fun q => ?_) (fun q => ?_)
              · have H := bq_f q H
                refine gw_iconstZ dL_areColumnsSo_242 rfl ?_
                refine gw_istore_n dL_areColumnsSo_243 rfl (by decide) ?_
                refine gw_iincZ dL_areColumnsSo_244 rfl rfl (by decide) ?_
                refine gw_goto (tgt := 46) dL_areColumnsSo_247 (by decide) ?_
                exact gw_L (ih _ _ _ _ _ H) ((lvA_c rfl (lvA_c rfl (lvA_c rfl (lvA_c rfl (lvA_c rfl (lvA_c rfl (lvA_c rfl (lvA_c rfl (lvA_c rfl (lvA_c rfl (lvA_c rfl lvA_n))))))))))))
              · have H := bq_t q H
                refine gw_iload dL_areColumnsSo_148 rfl rfl ?_
                refine gw_iconstZ dL_areColumnsSo_150 rfl ?_
                obtain ⟨g, H⟩ := gd_i H
                obtain ⟨k16, e_k16, H⟩ := jn_i H
                have hJ_k16 : ∀ (v17 : Int), k16 v17 = some r → G Φ nL_areColumnsSo (gw_M Φ nL_areColumnsSo K) none 0 0 159 [(0, .ref (M + p1)), (1, vI l1), (2, vI l2), (4, vI l4), (5, vI l5), (6, vI l6), (7, vI v4), (8, vI 1), (9, vL l9), (11, vI l11), (12, vI v7)] [vI v17] (hp Φ hb M sh c14) := by
                  intro v17 H
                  subst e_k16
                  refine gw_aload_n dL_areColumnsSo_159 rfl rfl ?_
                  refine gw_iload dL_areColumnsSo_160 rfl rfl ?_
                  obtain ⟨v18, c19, e_c19, H⟩ := cn_i H
                  refine gw_V1 oknX8_isNamed dL_areColumnsSo_162 kw_753 kw_754 kw_755 (hp_o (h0.1)) rfl ⟨by decide, by decide⟩ ⟨by decide, by decide⟩ (Nat.le_of_ble_eq_true rfl) (n_X8_isNamed (h0) e_c19 rfl ?_)
                  obtain ⟨g, H⟩ := gd_i H
                  refine gw_icmp_neZ (tgt := 242) dL_areColumnsSo_165 rfl (by decide) g.1 g.2 (fun q => ?_) (fun q => ?_)
                  · have H := bq_f q H
                    refine gw_iconstZ dL_areColumnsSo_242 rfl ?_
                    refine gw_istore_n dL_areColumnsSo_243 rfl (by decide) ?_
                    refine gw_iincZ dL_areColumnsSo_244 rfl rfl (by decide) ?_
                    refine gw_goto (tgt := 46) dL_areColumnsSo_247 (by decide) ?_
                    exact gw_L (ih _ _ _ _ _ H) ((lvA_c rfl (lvA_c rfl (lvA_c rfl (lvA_c rfl (lvA_c rfl (lvA_c rfl (lvA_c rfl (lvA_c rfl (lvA_c rfl (lvA_c rfl (lvA_c rfl lvA_n))))))))))))
                  · have H := bq_t q H
                    refine gw_iload dL_areColumnsSo_168 rfl rfl ?_
                    refine gw_iconstZ dL_areColumnsSo_170 rfl ?_
                    obtain ⟨g, H⟩ := gd_i H
                    obtain ⟨k20, e_k20, H⟩ := jn_i H
                    have hJ_k20 : ∀ (u21 : Unit), k20 u21 = some r → G Φ nL_areColumnsSo (gw_M Φ nL_areColumnsSo K) none 0 0 181 [(0, .ref (M + p1)), (1, vI l1), (2, vI l2), (4, vI l4), (5, vI l5), (6, vI l6), (7, vI v4), (8, vI 1), (9, vL l9), (11, vI l11), (12, vI v7)] [] (hp Φ hb M sh c19) := by
                      intro u21 H
                      subst e_k20
                      refine gw_iload dL_areColumnsSo_181 rfl rfl ?_
                      refine gw_iconstZ dL_areColumnsSo_183 rfl ?_
                      obtain ⟨g, H⟩ := gd_i H
                      obtain ⟨k22, e_k22, H⟩ := jn_i H
                      have hJ_k22 : ∀ (c23 : W0), k22 c23 = some r → G Φ nL_areColumnsSo (gw_M Φ nL_areColumnsSo K) none 0 0 207 [(0, .ref (M + p1)), (1, vI l1), (2, vI l2), (4, vI l4), (5, vI l5), (6, vI l6), (7, vI v4), (8, vI 1), (9, vL l9), (11, vI l11), (12, vI v7)] [] (hp Φ hb M sh c23) := by
                        intro c23 H
                        subst e_k22
                        refine gw_iload dL_areColumnsSo_207 rfl rfl ?_
                        refine gw_iconstZ dL_areColumnsSo_209 rfl ?_
                        obtain ⟨g, H⟩ := gd_i H
                        obtain ⟨k24, e_k24, H⟩ := jn_i H
                        have hJ_k24 : ∀ (u25 : Unit), k24 u25 = some r → G Φ nL_areColumnsSo (gw_M Φ nL_areColumnsSo K) none 0 0 218 [(0, .ref (M + p1)), (1, vI l1), (2, vI l2), (4, vI l4), (5, vI l5), (6, vI l6), (7, vI v4), (8, vI 1), (9, vL l9), (11, vI l11)] [] (hp Φ hb M sh c23) := by
                          intro u25 H
                          subst e_k24
                          refine gw_lload dL_areColumnsSo_218 rfl rfl ?_
                          refine gw_lconst0Z dL_areColumnsSo_220 rfl ?_
                          obtain ⟨g, H⟩ := gd_i H
                          refine gw_lc_leZ (tgt := 242) dL_areColumnsSo_221 rfl dL_areColumnsSo_222 rfl (by decide) g (by decide) (fun q => ?_) (fun q => ?_)
                          · have H := bq_t q H
                            refine gw_iconstZ dL_areColumnsSo_242 rfl ?_
                            refine gw_istore_n dL_areColumnsSo_243 rfl (by decide) ?_
                            refine gw_iincZ dL_areColumnsSo_244 rfl rfl (by decide) ?_
                            refine gw_goto (tgt := 46) dL_areColumnsSo_247 (by decide) ?_
                            exact gw_L (ih _ _ _ _ _ H) ((lvA_c rfl (lvA_c rfl (lvA_c rfl (lvA_c rfl (lvA_c rfl (lvA_c rfl (lvA_c rfl (lvA_c rfl (lvA_c rfl (lvA_c rfl (lvA_c rfl lvA_n))))))))))))
                          · have H := bq_f q H
                            refine gw_aload_n dL_areColumnsSo_225 rfl rfl ?_
                            refine gw_iload dL_areColumnsSo_226 rfl rfl ?_
                            refine gw_iload dL_areColumnsSo_228 rfl rfl ?_
                            obtain ⟨v26, c27, e_c27, H⟩ := cn_i H
                            refine gw_V2 oknX8_entryNumerator dL_areColumnsSo_230 kw_740 kw_741 kw_742 (hp_o (h0.1)) rfl ⟨by decide, by decide⟩ ⟨by decide, by decide⟩ (Nat.le_of_ble_eq_true rfl) (n_X8_entryNumerator (h0) e_c27 rfl ?_)
                            refine gw_lconst0Z dL_areColumnsSo_233 rfl ?_
                            obtain ⟨g, H⟩ := gd_i H
                            refine gw_lc_leZ (tgt := 242) dL_areColumnsSo_234 rfl dL_areColumnsSo_235 rfl (by decide) g (by decide) (fun q => ?_) (fun q => ?_)
                            · have H := bq_t q H
                              refine gw_iconstZ dL_areColumnsSo_242 rfl ?_
                              refine gw_istore_n dL_areColumnsSo_243 rfl (by decide) ?_
                              refine gw_iincZ dL_areColumnsSo_244 rfl rfl (by decide) ?_
                              refine gw_goto (tgt := 46) dL_areColumnsSo_247 (by decide) ?_
                              exact gw_L (ih _ _ _ _ _ H) ((lvA_c rfl (lvA_c rfl (lvA_c rfl (lvA_c rfl (lvA_c rfl (lvA_c rfl (lvA_c rfl (lvA_c rfl (lvA_c rfl (lvA_c rfl (lvA_c rfl lvA_n))))))))))))
                            · have H := bq_f q H
                              refine gw_iconstZ dL_areColumnsSo_238 rfl ?_
                              refine gw_goto (tgt := 243) dL_areColumnsSo_239 (by decide) ?_
                              refine gw_istore_n dL_areColumnsSo_243 rfl (by decide) ?_
                              refine gw_iincZ dL_areColumnsSo_244 rfl rfl (by decide) ?_
                              refine gw_goto (tgt := 46) dL_areColumnsSo_247 (by decide) ?_
                              exact gw_L (ih _ _ _ _ _ H) ((lvA_c rfl (lvA_c rfl (lvA_c rfl (lvA_c rfl (lvA_c rfl (lvA_c rfl (lvA_c rfl (lvA_c rfl (lvA_c rfl (lvA_c rfl (lvA_c rfl lvA_n))))))))))))
                        refine gw_icmp_eqZ (tgt := 218) dL_areColumnsSo_210 rfl (by decide) g (by decide) (fun q => ?_) (fun q => ?_)
                        · have H := bq_t q H
                          exact gw_L (hJ_k24 _ H) ((lvA_c rfl (lvA_c rfl (lvA_c rfl (lvA_c rfl (lvA_c rfl (lvA_c rfl (lvA_c rfl (lvA_c rfl (lvA_c rfl (lvA_c rfl lvA_n)))))))))))
                        · have H := bq_f q H
                          refine gw_iload dL_areColumnsSo_213 rfl rfl ?_
                          obtain ⟨g, H⟩ := gd_i H
                          refine gw_if_neZ (tgt := 238) dL_areColumnsSo_215 rfl (by decide) g (fun q => ?_) (fun q => ?_)
                          · have H := bq_f q H
                            refine gw_iconstZ dL_areColumnsSo_238 rfl ?_
                            refine gw_goto (tgt := 243) dL_areColumnsSo_239 (by decide) ?_
                            refine gw_istore_n dL_areColumnsSo_243 rfl (by decide) ?_
                            refine gw_iincZ dL_areColumnsSo_244 rfl rfl (by decide) ?_
                            refine gw_goto (tgt := 46) dL_areColumnsSo_247 (by decide) ?_
                            exact gw_L (ih _ _ _ _ _ H) ((lvA_c rfl (lvA_c rfl (lvA_c rfl (lvA_c rfl (lvA_c rfl (lvA_c rfl (lvA_c rfl (lvA_c rfl (lvA_c rfl (lvA_c rfl (lvA_c rfl lvA_n))))))))))))
                          · have H := bq_t q H
                            exact gw_L (hJ_k24 _ H) ((lvA_c rfl (lvA_c rfl (lvA_c rfl (lvA_c rfl (lvA_c rfl (lvA_c rfl (lvA_c rfl (lvA_c rfl (lvA_c rfl (lvA_c rfl lvA_n)))))))))))
                      refine gw_icmp_neZ (tgt := 207) dL_areColumnsSo_184 rfl (by decide) g (by decide) (fun q => ?_) (fun q => ?_)
                      · have H := bq_f q H
                        exact gw_L (hJ_k22 _ H) ((lvA_c rfl (lvA_c rfl (lvA_c rfl (lvA_c rfl (lvA_c rfl (lvA_c rfl (lvA_c rfl (lvA_c rfl (lvA_c rfl (lvA_c rfl (lvA_c rfl lvA_n))))))))))))
                      · have H := bq_t q H
                        refine gw_lload dL_areColumnsSo_187 rfl rfl ?_
                        refine gw_lconst0Z dL_areColumnsSo_189 rfl ?_
                        obtain ⟨g, H⟩ := gd_i H
                        refine gw_lc_leZ (tgt := 242) dL_areColumnsSo_190 rfl dL_areColumnsSo_191 rfl (by decide) g (by decide) (fun q => ?_) (fun q => ?_)
                        · have H := bq_t q H
                          refine gw_iconstZ dL_areColumnsSo_242 rfl ?_
                          refine gw_istore_n dL_areColumnsSo_243 rfl (by decide) ?_
                          refine gw_iincZ dL_areColumnsSo_244 rfl rfl (by decide) ?_
                          refine gw_goto (tgt := 46) dL_areColumnsSo_247 (by decide) ?_
                          exact gw_L (ih _ _ _ _ _ H) ((lvA_c rfl (lvA_c rfl (lvA_c rfl (lvA_c rfl (lvA_c rfl (lvA_c rfl (lvA_c rfl (lvA_c rfl (lvA_c rfl (lvA_c rfl (lvA_c rfl lvA_n))))))))))))
                        · have H := bq_f q H
                          refine gw_aload_n dL_areColumnsSo_194 rfl rfl ?_
                          refine gw_iload dL_areColumnsSo_195 rfl rfl ?_
                          refine gw_iload dL_areColumnsSo_197 rfl rfl ?_
                          obtain ⟨v28, c29, e_c29, H⟩ := cn_i H
                          refine gw_V2 oknX8_entryNumerator dL_areColumnsSo_199 kw_740 kw_741 kw_742 (hp_o (h0.1)) rfl ⟨by decide, by decide⟩ ⟨by decide, by decide⟩ (Nat.le_of_ble_eq_true rfl) (n_X8_entryNumerator (h0) e_c29 rfl ?_)
                          refine gw_lconst0Z dL_areColumnsSo_202 rfl ?_
                          obtain ⟨g, H⟩ := gd_i H
                          refine gw_lc_gtZ (tgt := 242) dL_areColumnsSo_203 rfl dL_areColumnsSo_204 rfl (by decide) g (by decide) (fun q => ?_) (fun q => ?_)
                          · have H := bq_t q H
                            refine gw_iconstZ dL_areColumnsSo_242 rfl ?_
                            refine gw_istore_n dL_areColumnsSo_243 rfl (by decide) ?_
                            refine gw_iincZ dL_areColumnsSo_244 rfl rfl (by decide) ?_
                            refine gw_goto (tgt := 46) dL_areColumnsSo_247 (by decide) ?_
                            exact gw_L (ih _ _ _ _ _ H) ((lvA_c rfl (lvA_c rfl (lvA_c rfl (lvA_c rfl (lvA_c rfl (lvA_c rfl (lvA_c rfl (lvA_c rfl (lvA_c rfl (lvA_c rfl (lvA_c rfl lvA_n))))))))))))
                          · have H := bq_f q H
                            exact gw_L (hJ_k22 _ H) ((lvA_c rfl (lvA_c rfl (lvA_c rfl (lvA_c rfl (lvA_c rfl (lvA_c rfl (lvA_c rfl (lvA_c rfl (lvA_c rfl (lvA_c rfl (lvA_c rfl lvA_n))))))))))))
                    refine gw_icmp_neZ (tgt := 181) dL_areColumnsSo_171 rfl (by decide) g (by decide) (fun q => ?_) (fun q => ?_)
                    · have H := bq_f q H
                      exact gw_L (hJ_k20 _ H) ((lvA_c rfl (lvA_c rfl (lvA_c rfl (lvA_c rfl (lvA_c rfl (lvA_c rfl (lvA_c rfl (lvA_c rfl (lvA_c rfl (lvA_c rfl (lvA_c rfl lvA_n))))))))))))
                    · have H := bq_t q H
                      refine gw_lload dL_areColumnsSo_174 rfl rfl ?_
                      refine gw_lconst0Z dL_areColumnsSo_176 rfl ?_
                      obtain ⟨g, H⟩ := gd_i H
                      refine gw_lc_gtZ (tgt := 242) dL_areColumnsSo_177 rfl dL_areColumnsSo_178 rfl (by decide) g (by decide) (fun q => ?_) (fun q => ?_)
                      · have H := bq_t q H
                        refine gw_iconstZ dL_areColumnsSo_242 rfl ?_
                        refine gw_istore_n dL_areColumnsSo_243 rfl (by decide) ?_
                        refine gw_iincZ dL_areColumnsSo_244 rfl rfl (by decide) ?_
                        refine gw_goto (tgt := 46) dL_areColumnsSo_247 (by decide) ?_
                        exact gw_L (ih _ _ _ _ _ H) ((lvA_c rfl (lvA_c rfl (lvA_c rfl (lvA_c rfl (lvA_c rfl (lvA_c rfl (lvA_c rfl (lvA_c rfl (lvA_c rfl (lvA_c rfl (lvA_c rfl lvA_n))))))))))))
                      · have H := bq_f q H
                        exact gw_L (hJ_k20 _ H) ((lvA_c rfl (lvA_c rfl (lvA_c rfl (lvA_c rfl (lvA_c rfl (lvA_c rfl (lvA_c rfl (lvA_c rfl (lvA_c rfl (lvA_c rfl (lvA_c rfl lvA_n))))))))))))
                refine gw_icmp_neZ (tgt := 158) dL_areColumnsSo_151 rfl (by decide) g (by decide) (fun q => ?_) (fun q => ?_)
                · have H := bq_f q H
                  refine gw_iconstZ dL_areColumnsSo_158 rfl ?_
                  exact gw_L (hJ_k16 _ H) ((lvA_c rfl (lvA_c rfl (lvA_c rfl (lvA_c rfl (lvA_c rfl (lvA_c rfl (lvA_c rfl (lvA_c rfl (lvA_c rfl (lvA_c rfl (lvA_c rfl lvA_n))))))))))))
                · have H := bq_t q H
                  refine gw_iconstZ dL_areColumnsSo_154 rfl ?_
                  refine gw_goto (tgt := 159) dL_areColumnsSo_155 (by decide) ?_
                  exact gw_L (hJ_k16 _ H) ((lvA_c rfl (lvA_c rfl (lvA_c rfl (lvA_c rfl (lvA_c rfl (lvA_c rfl (lvA_c rfl (lvA_c rfl (lvA_c rfl (lvA_c rfl (lvA_c rfl lvA_n))))))))))))
        refine gw_if_neZ (tgt := 90) dL_areColumnsSo_74 rfl (by decide) g (fun q => ?_) (fun q => ?_)
        · have H := bq_f q H
          exact gw_L (hJ_k5 _ H) ((lvA_c rfl (lvA_c rfl (lvA_c rfl (lvA_c rfl (lvA_c rfl (lvA_c rfl (lvA_c rfl (lvA_c rfl (lvA_c rfl (lvA_c rfl lvA_n)))))))))))
        · have H := bq_t q H
          refine gw_aload_n dL_areColumnsSo_77 rfl rfl ?_
          refine gw_iload dL_areColumnsSo_78 rfl rfl ?_
          refine gw_iload dL_areColumnsSo_80 rfl rfl ?_
          obtain ⟨v30, c31, e_c31, H⟩ := cn_i H
          refine gw_V2 oknX8_entryNumerator dL_areColumnsSo_82 kw_740 kw_741 kw_742 (hp_o (h0.1)) rfl ⟨by decide, by decide⟩ ⟨by decide, by decide⟩ (Nat.le_of_ble_eq_true rfl) (n_X8_entryNumerator (h0) e_c31 rfl ?_)
          refine gw_lconst0Z dL_areColumnsSo_85 rfl ?_
          obtain ⟨g, H⟩ := gd_i H
          refine gw_lc_leZ (tgt := 94) dL_areColumnsSo_86 rfl dL_areColumnsSo_87 rfl (by decide) g (by decide) (fun q => ?_) (fun q => ?_)
          · have H := bq_t q H
            refine gw_iconstZ dL_areColumnsSo_94 rfl ?_
            refine gw_istore dL_areColumnsSo_95 rfl (by decide) ?_
            refine gw_aload_n dL_areColumnsSo_97 rfl rfl ?_
            refine gw_iload dL_areColumnsSo_98 rfl rfl ?_
            refine gw_iload dL_areColumnsSo_100 rfl rfl ?_
            obtain ⟨v32, c33, e_c33, H⟩ := cn_i H
            refine gw_V2 oknX8_whyNoPivot dL_areColumnsSo_102 kw_745 kw_746 kw_747 (hp_o (h0.1)) rfl ⟨by decide, by decide⟩ ⟨by decide, by decide⟩ (Nat.le_of_ble_eq_true rfl) (n_X8_whyNoPivot (h0) e_c33 rfl ?_)
            refine gw_istore dL_areColumnsSo_105 rfl (by decide) ?_
            refine gw_iload_n dL_areColumnsSo_107 rfl rfl ?_
            obtain ⟨g, H⟩ := gd_i H
            refine gw_if_eqZ (tgt := 242) dL_areColumnsSo_108 rfl (by decide) g (fun q => ?_) (fun q => ?_)
            · have H := bq_t q H
              refine gw_iconstZ dL_areColumnsSo_242 rfl ?_
              refine gw_istore_n dL_areColumnsSo_243 rfl (by decide) ?_
              refine gw_iincZ dL_areColumnsSo_244 rfl rfl (by decide) ?_
              refine gw_goto (tgt := 46) dL_areColumnsSo_247 (by decide) ?_
              exact gw_L (ih _ _ _ _ _ H) ((lvA_c rfl (lvA_c rfl (lvA_c rfl (lvA_c rfl (lvA_c rfl (lvA_c rfl (lvA_c rfl (lvA_c rfl (lvA_c rfl (lvA_c rfl (lvA_c rfl lvA_n))))))))))))
            · have H := bq_f q H
              refine gw_aload_n dL_areColumnsSo_111 rfl rfl ?_
              refine gw_iload dL_areColumnsSo_112 rfl rfl ?_
              refine gw_iload dL_areColumnsSo_114 rfl rfl ?_
              obtain ⟨v34, c35, e_c35, H⟩ := cn_i H
              refine gw_V2 oknX8_entryDenominator dL_areColumnsSo_116 kw_749 kw_750 kw_751 (hp_o (h0.1)) rfl ⟨by decide, by decide⟩ ⟨by decide, by decide⟩ (Nat.le_of_ble_eq_true rfl) (n_X8_entryDenominator (h0) e_c35 rfl ?_)
              refine gw_lconst0Z dL_areColumnsSo_119 rfl ?_
              obtain ⟨g, H⟩ := gd_i H
              refine gw_lc_leZ (tgt := 242) dL_areColumnsSo_120 rfl dL_areColumnsSo_121 rfl (by decide) g (by decide) (fun q => ?_) (fun q => ?_)
              · have H := bq_t q H
                refine gw_iconstZ dL_areColumnsSo_242 rfl ?_
                refine gw_istore_n dL_areColumnsSo_243 rfl (by decide) ?_
                refine gw_iincZ dL_areColumnsSo_244 rfl rfl (by decide) ?_
                refine gw_goto (tgt := 46) dL_areColumnsSo_247 (by decide) ?_
                exact gw_L (ih _ _ _ _ _ H) ((lvA_c rfl (lvA_c rfl (lvA_c rfl (lvA_c rfl (lvA_c rfl (lvA_c rfl (lvA_c rfl (lvA_c rfl (lvA_c rfl (lvA_c rfl (lvA_c rfl lvA_n))))))))))))
              · have H := bq_f q H
                refine gw_aload_n dL_areColumnsSo_124 rfl rfl ?_
                refine gw_iload dL_areColumnsSo_125 rfl rfl ?_
                refine gw_iload dL_areColumnsSo_127 rfl rfl ?_
                obtain ⟨v36, c37, e_c37, H⟩ := cn_i H
                refine gw_V2 oknX8_entryNumerator dL_areColumnsSo_129 kw_740 kw_741 kw_742 (hp_o (h0.1)) rfl ⟨by decide, by decide⟩ ⟨by decide, by decide⟩ (Nat.le_of_ble_eq_true rfl) (n_X8_entryNumerator (h0) e_c37 rfl ?_)
                refine gw_aload_n dL_areColumnsSo_132 rfl rfl ?_
                refine gw_iload dL_areColumnsSo_133 rfl rfl ?_
                refine gw_iload dL_areColumnsSo_135 rfl rfl ?_
                obtain ⟨v38, c39, e_c39, H⟩ := cn_i H
                refine gw_V2 oknX8_entryDenominator dL_areColumnsSo_137 kw_749 kw_750 kw_751 (hp_o (h0.1)) rfl ⟨by decide, by decide⟩ ⟨by decide, by decide⟩ (Nat.le_of_ble_eq_true rfl) (n_X8_entryDenominator (h0) e_c39 rfl ?_)
                obtain ⟨v40, e_v40, H⟩ := cv_i H
                refine gw_S2 oknL_divisor dL_areColumnsSo_140 kw_711 kw_712 ⟨by decide, by decide⟩ ⟨by decide, by decide⟩ (Nat.le_of_ble_eq_true rfl) (w_L_divisor  e_v40 ?_)
                refine gw_lconst1Z dL_areColumnsSo_143 rfl ?_
                obtain ⟨g, H⟩ := gd_i H
                refine gw_lc_neZ (tgt := 242) dL_areColumnsSo_144 rfl dL_areColumnsSo_145 rfl (by decide) g (by decide) (fun q => ?_) (fun q => ?_)
                · have H := bq_f q H
                  refine gw_iconstZ dL_areColumnsSo_242 rfl ?_
                  refine gw_istore_n dL_areColumnsSo_243 rfl (by decide) ?_
                  refine gw_iincZ dL_areColumnsSo_244 rfl rfl (by decide) ?_
                  refine gw_goto (tgt := 46) dL_areColumnsSo_247 (by decide) ?_
                  exact gw_L (ih _ _ _ _ _ H) ((lvA_c rfl (lvA_c rfl (lvA_c rfl (lvA_c rfl (lvA_c rfl (lvA_c rfl (lvA_c rfl (lvA_c rfl (lvA_c rfl (lvA_c rfl (lvA_c rfl lvA_n))))))))))))
                · have H := bq_t q H
                  refine gw_iload dL_areColumnsSo_148 rfl rfl ?_
                  refine gw_iconstZ dL_areColumnsSo_150 rfl ?_
                  obtain ⟨g, H⟩ := gd_i H
                  obtain ⟨k41, e_k41, H⟩ := jn_i H
                  have hJ_k41 : ∀ (v42 : Int), k41 v42 = some r → G Φ nL_areColumnsSo (gw_M Φ nL_areColumnsSo K) none 0 0 159 [(0, .ref (M + p1)), (1, vI l1), (2, vI l2), (4, vI l4), (5, vI l5), (6, vI l6), (7, vI v4), (8, vI 0), (9, vL l9), (11, vI l11), (12, vI v32)] [vI v42] (hp Φ hb M sh c39) := by
                    intro v42 H
                    subst e_k41
                    refine gw_aload_n dL_areColumnsSo_159 rfl rfl ?_
                    refine gw_iload dL_areColumnsSo_160 rfl rfl ?_
                    obtain ⟨v43, c44, e_c44, H⟩ := cn_i H
                    refine gw_V1 oknX8_isNamed dL_areColumnsSo_162 kw_753 kw_754 kw_755 (hp_o (h0.1)) rfl ⟨by decide, by decide⟩ ⟨by decide, by decide⟩ (Nat.le_of_ble_eq_true rfl) (n_X8_isNamed (h0) e_c44 rfl ?_)
                    obtain ⟨g, H⟩ := gd_i H
                    refine gw_icmp_neZ (tgt := 242) dL_areColumnsSo_165 rfl (by decide) g.1 g.2 (fun q => ?_) (fun q => ?_)
                    · have H := bq_f q H
                      refine gw_iconstZ dL_areColumnsSo_242 rfl ?_
                      refine gw_istore_n dL_areColumnsSo_243 rfl (by decide) ?_
                      refine gw_iincZ dL_areColumnsSo_244 rfl rfl (by decide) ?_
                      refine gw_goto (tgt := 46) dL_areColumnsSo_247 (by decide) ?_
                      exact gw_L (ih _ _ _ _ _ H) ((lvA_c rfl (lvA_c rfl (lvA_c rfl (lvA_c rfl (lvA_c rfl (lvA_c rfl (lvA_c rfl (lvA_c rfl (lvA_c rfl (lvA_c rfl (lvA_c rfl lvA_n))))))))))))
                    · have H := bq_t q H
                      refine gw_iload dL_areColumnsSo_168 rfl rfl ?_
                      refine gw_iconstZ dL_areColumnsSo_170 rfl ?_
                      obtain ⟨g, H⟩ := gd_i H
                      obtain ⟨k45, e_k45, H⟩ := jn_i H
                      have hJ_k45 : ∀ (u46 : Unit), k45 u46 = some r → G Φ nL_areColumnsSo (gw_M Φ nL_areColumnsSo K) none 0 0 181 [(0, .ref (M + p1)), (1, vI l1), (2, vI l2), (4, vI l4), (5, vI l5), (6, vI l6), (7, vI v4), (8, vI 0), (9, vL l9), (11, vI l11), (12, vI v32)] [] (hp Φ hb M sh c44) := by
                        intro u46 H
                        subst e_k45
                        refine gw_iload dL_areColumnsSo_181 rfl rfl ?_
                        refine gw_iconstZ dL_areColumnsSo_183 rfl ?_
                        obtain ⟨g, H⟩ := gd_i H
                        obtain ⟨k47, e_k47, H⟩ := jn_i H
                        have hJ_k47 : ∀ (c48 : W0), k47 c48 = some r → G Φ nL_areColumnsSo (gw_M Φ nL_areColumnsSo K) none 0 0 207 [(0, .ref (M + p1)), (1, vI l1), (2, vI l2), (4, vI l4), (5, vI l5), (6, vI l6), (7, vI v4), (8, vI 0), (9, vL l9), (11, vI l11), (12, vI v32)] [] (hp Φ hb M sh c48) := by
                          intro c48 H
                          subst e_k47
                          refine gw_iload dL_areColumnsSo_207 rfl rfl ?_
                          refine gw_iconstZ dL_areColumnsSo_209 rfl ?_
                          obtain ⟨g, H⟩ := gd_i H
                          obtain ⟨k49, e_k49, H⟩ := jn_i H
                          have hJ_k49 : ∀ (u50 : Unit), k49 u50 = some r → G Φ nL_areColumnsSo (gw_M Φ nL_areColumnsSo K) none 0 0 218 [(0, .ref (M + p1)), (1, vI l1), (2, vI l2), (4, vI l4), (5, vI l5), (6, vI l6), (7, vI v4), (8, vI 0), (9, vL l9), (11, vI l11)] [] (hp Φ hb M sh c48) := by
                            intro u50 H
                            subst e_k49
                            refine gw_lload dL_areColumnsSo_218 rfl rfl ?_
                            refine gw_lconst0Z dL_areColumnsSo_220 rfl ?_
                            obtain ⟨g, H⟩ := gd_i H
                            refine gw_lc_leZ (tgt := 242) dL_areColumnsSo_221 rfl dL_areColumnsSo_222 rfl (by decide) g (by decide) (fun q => ?_) (fun q => ?_)
                            · have H := bq_t q H
                              refine gw_iconstZ dL_areColumnsSo_242 rfl ?_
                              refine gw_istore_n dL_areColumnsSo_243 rfl (by decide) ?_
                              refine gw_iincZ dL_areColumnsSo_244 rfl rfl (by decide) ?_
                              refine gw_goto (tgt := 46) dL_areColumnsSo_247 (by decide) ?_
                              exact gw_L (ih _ _ _ _ _ H) ((lvA_c rfl (lvA_c rfl (lvA_c rfl (lvA_c rfl (lvA_c rfl (lvA_c rfl (lvA_c rfl (lvA_c rfl (lvA_c rfl (lvA_c rfl (lvA_c rfl lvA_n))))))))))))
                            · have H := bq_f q H
                              refine gw_aload_n dL_areColumnsSo_225 rfl rfl ?_
                              refine gw_iload dL_areColumnsSo_226 rfl rfl ?_
                              refine gw_iload dL_areColumnsSo_228 rfl rfl ?_
                              obtain ⟨v51, c52, e_c52, H⟩ := cn_i H
                              refine gw_V2 oknX8_entryNumerator dL_areColumnsSo_230 kw_740 kw_741 kw_742 (hp_o (h0.1)) rfl ⟨by decide, by decide⟩ ⟨by decide, by decide⟩ (Nat.le_of_ble_eq_true rfl) (n_X8_entryNumerator (h0) e_c52 rfl ?_)
                              refine gw_lconst0Z dL_areColumnsSo_233 rfl ?_
                              obtain ⟨g, H⟩ := gd_i H
                              refine gw_lc_leZ (tgt := 242) dL_areColumnsSo_234 rfl dL_areColumnsSo_235 rfl (by decide) g (by decide) (fun q => ?_) (fun q => ?_)
                              · have H := bq_t q H
                                refine gw_iconstZ dL_areColumnsSo_242 rfl ?_
                                refine gw_istore_n dL_areColumnsSo_243 rfl (by decide) ?_
                                refine gw_iincZ dL_areColumnsSo_244 rfl rfl (by decide) ?_
                                refine gw_goto (tgt := 46) dL_areColumnsSo_247 (by decide) ?_
                                exact gw_L (ih _ _ _ _ _ H) ((lvA_c rfl (lvA_c rfl (lvA_c rfl (lvA_c rfl (lvA_c rfl (lvA_c rfl (lvA_c rfl (lvA_c rfl (lvA_c rfl (lvA_c rfl (lvA_c rfl lvA_n))))))))))))
                              · have H := bq_f q H
                                refine gw_iconstZ dL_areColumnsSo_238 rfl ?_
                                refine gw_goto (tgt := 243) dL_areColumnsSo_239 (by decide) ?_
                                refine gw_istore_n dL_areColumnsSo_243 rfl (by decide) ?_
                                refine gw_iincZ dL_areColumnsSo_244 rfl rfl (by decide) ?_
                                refine gw_goto (tgt := 46) dL_areColumnsSo_247 (by decide) ?_
                                exact gw_L (ih _ _ _ _ _ H) ((lvA_c rfl (lvA_c rfl (lvA_c rfl (lvA_c rfl (lvA_c rfl (lvA_c rfl (lvA_c rfl (lvA_c rfl (lvA_c rfl (lvA_c rfl (lvA_c rfl lvA_n))))))))))))
                          refine gw_icmp_eqZ (tgt := 218) dL_areColumnsSo_210 rfl (by decide) g (by decide) (fun q => ?_) (fun q => ?_)
                          · have H := bq_t q H
                            exact gw_L (hJ_k49 _ H) ((lvA_c rfl (lvA_c rfl (lvA_c rfl (lvA_c rfl (lvA_c rfl (lvA_c rfl (lvA_c rfl (lvA_c rfl (lvA_c rfl (lvA_c rfl lvA_n)))))))))))
                          · have H := bq_f q H
                            refine gw_iload dL_areColumnsSo_213 rfl rfl ?_
                            obtain ⟨g, H⟩ := gd_i H
                            refine gw_if_neZ (tgt := 238) dL_areColumnsSo_215 rfl (by decide) g (fun q => ?_) (fun q => ?_)
                            · have H := bq_f q H
                              refine gw_iconstZ dL_areColumnsSo_238 rfl ?_
                              refine gw_goto (tgt := 243) dL_areColumnsSo_239 (by decide) ?_
                              refine gw_istore_n dL_areColumnsSo_243 rfl (by decide) ?_
                              refine gw_iincZ dL_areColumnsSo_244 rfl rfl (by decide) ?_
                              refine gw_goto (tgt := 46) dL_areColumnsSo_247 (by decide) ?_
                              exact gw_L (ih _ _ _ _ _ H) ((lvA_c rfl (lvA_c rfl (lvA_c rfl (lvA_c rfl (lvA_c rfl (lvA_c rfl (lvA_c rfl (lvA_c rfl (lvA_c rfl (lvA_c rfl (lvA_c rfl lvA_n))))))))))))
                            · have H := bq_t q H
                              exact gw_L (hJ_k49 _ H) ((lvA_c rfl (lvA_c rfl (lvA_c rfl (lvA_c rfl (lvA_c rfl (lvA_c rfl (lvA_c rfl (lvA_c rfl (lvA_c rfl (lvA_c rfl lvA_n)))))))))))
                        refine gw_icmp_neZ (tgt := 207) dL_areColumnsSo_184 rfl (by decide) g (by decide) (fun q => ?_) (fun q => ?_)
                        · have H := bq_f q H
                          exact gw_L (hJ_k47 _ H) ((lvA_c rfl (lvA_c rfl (lvA_c rfl (lvA_c rfl (lvA_c rfl (lvA_c rfl (lvA_c rfl (lvA_c rfl (lvA_c rfl (lvA_c rfl (lvA_c rfl lvA_n))))))))))))
                        · have H := bq_t q H
                          refine gw_lload dL_areColumnsSo_187 rfl rfl ?_
                          refine gw_lconst0Z dL_areColumnsSo_189 rfl ?_
                          obtain ⟨g, H⟩ := gd_i H
                          refine gw_lc_leZ (tgt := 242) dL_areColumnsSo_190 rfl dL_areColumnsSo_191 rfl (by decide) g (by decide) (fun q => ?_) (fun q => ?_)
                          · have H := bq_t q H
                            refine gw_iconstZ dL_areColumnsSo_242 rfl ?_
                            refine gw_istore_n dL_areColumnsSo_243 rfl (by decide) ?_
                            refine gw_iincZ dL_areColumnsSo_244 rfl rfl (by decide) ?_
                            refine gw_goto (tgt := 46) dL_areColumnsSo_247 (by decide) ?_
                            exact gw_L (ih _ _ _ _ _ H) ((lvA_c rfl (lvA_c rfl (lvA_c rfl (lvA_c rfl (lvA_c rfl (lvA_c rfl (lvA_c rfl (lvA_c rfl (lvA_c rfl (lvA_c rfl (lvA_c rfl lvA_n))))))))))))
                          · have H := bq_f q H
                            refine gw_aload_n dL_areColumnsSo_194 rfl rfl ?_
                            refine gw_iload dL_areColumnsSo_195 rfl rfl ?_
                            refine gw_iload dL_areColumnsSo_197 rfl rfl ?_
                            obtain ⟨v53, c54, e_c54, H⟩ := cn_i H
                            refine gw_V2 oknX8_entryNumerator dL_areColumnsSo_199 kw_740 kw_741 kw_742 (hp_o (h0.1)) rfl ⟨by decide, by decide⟩ ⟨by decide, by decide⟩ (Nat.le_of_ble_eq_true rfl) (n_X8_entryNumerator (h0) e_c54 rfl ?_)
                            refine gw_lconst0Z dL_areColumnsSo_202 rfl ?_
                            obtain ⟨g, H⟩ := gd_i H
                            refine gw_lc_gtZ (tgt := 242) dL_areColumnsSo_203 rfl dL_areColumnsSo_204 rfl (by decide) g (by decide) (fun q => ?_) (fun q => ?_)
                            · have H := bq_t q H
                              refine gw_iconstZ dL_areColumnsSo_242 rfl ?_
                              refine gw_istore_n dL_areColumnsSo_243 rfl (by decide) ?_
                              refine gw_iincZ dL_areColumnsSo_244 rfl rfl (by decide) ?_
                              refine gw_goto (tgt := 46) dL_areColumnsSo_247 (by decide) ?_
                              exact gw_L (ih _ _ _ _ _ H) ((lvA_c rfl (lvA_c rfl (lvA_c rfl (lvA_c rfl (lvA_c rfl (lvA_c rfl (lvA_c rfl (lvA_c rfl (lvA_c rfl (lvA_c rfl (lvA_c rfl lvA_n))))))))))))
                            · have H := bq_f q H
                              exact gw_L (hJ_k47 _ H) ((lvA_c rfl (lvA_c rfl (lvA_c rfl (lvA_c rfl (lvA_c rfl (lvA_c rfl (lvA_c rfl (lvA_c rfl (lvA_c rfl (lvA_c rfl (lvA_c rfl lvA_n))))))))))))
                      refine gw_icmp_neZ (tgt := 181) dL_areColumnsSo_171 rfl (by decide) g (by decide) (fun q => ?_) (fun q => ?_)
                      · have H := bq_f q H
                        exact gw_L (hJ_k45 _ H) ((lvA_c rfl (lvA_c rfl (lvA_c rfl (lvA_c rfl (lvA_c rfl (lvA_c rfl (lvA_c rfl (lvA_c rfl (lvA_c rfl (lvA_c rfl (lvA_c rfl lvA_n))))))))))))
                      · have H := bq_t q H
                        refine gw_lload dL_areColumnsSo_174 rfl rfl ?_
                        refine gw_lconst0Z dL_areColumnsSo_176 rfl ?_
                        obtain ⟨g, H⟩ := gd_i H
                        refine gw_lc_gtZ (tgt := 242) dL_areColumnsSo_177 rfl dL_areColumnsSo_178 rfl (by decide) g (by decide) (fun q => ?_) (fun q => ?_)
                        · have H := bq_t q H
                          refine gw_iconstZ dL_areColumnsSo_242 rfl ?_
                          refine gw_istore_n dL_areColumnsSo_243 rfl (by decide) ?_
                          refine gw_iincZ dL_areColumnsSo_244 rfl rfl (by decide) ?_
                          refine gw_goto (tgt := 46) dL_areColumnsSo_247 (by decide) ?_
                          exact gw_L (ih _ _ _ _ _ H) ((lvA_c rfl (lvA_c rfl (lvA_c rfl (lvA_c rfl (lvA_c rfl (lvA_c rfl (lvA_c rfl (lvA_c rfl (lvA_c rfl (lvA_c rfl (lvA_c rfl lvA_n))))))))))))
                        · have H := bq_f q H
                          exact gw_L (hJ_k45 _ H) ((lvA_c rfl (lvA_c rfl (lvA_c rfl (lvA_c rfl (lvA_c rfl (lvA_c rfl (lvA_c rfl (lvA_c rfl (lvA_c rfl (lvA_c rfl (lvA_c rfl lvA_n))))))))))))
                  refine gw_icmp_neZ (tgt := 158) dL_areColumnsSo_151 rfl (by decide) g (by decide) (fun q => ?_) (fun q => ?_)
                  · have H := bq_f q H
                    refine gw_iconstZ dL_areColumnsSo_158 rfl ?_
                    exact gw_L (hJ_k41 _ H) ((lvA_c rfl (lvA_c rfl (lvA_c rfl (lvA_c rfl (lvA_c rfl (lvA_c rfl (lvA_c rfl (lvA_c rfl (lvA_c rfl (lvA_c rfl (lvA_c rfl lvA_n))))))))))))
                  · have H := bq_t q H
                    refine gw_iconstZ dL_areColumnsSo_154 rfl ?_
                    refine gw_goto (tgt := 159) dL_areColumnsSo_155 (by decide) ?_
                    exact gw_L (hJ_k41 _ H) ((lvA_c rfl (lvA_c rfl (lvA_c rfl (lvA_c rfl (lvA_c rfl (lvA_c rfl (lvA_c rfl (lvA_c rfl (lvA_c rfl (lvA_c rfl (lvA_c rfl lvA_n))))))))))))
          · have H := bq_f q H
            exact gw_L (hJ_k5 _ H) ((lvA_c rfl (lvA_c rfl (lvA_c rfl (lvA_c rfl (lvA_c rfl (lvA_c rfl (lvA_c rfl (lvA_c rfl (lvA_c rfl (lvA_c rfl lvA_n)))))))))))
      refine gw_icmp_neZ (tgt := 68) dL_areColumnsSo_60 rfl (by decide) g.1 g.2 (fun q => ?_) (fun q => ?_)
      · have H := bq_f q H
        refine gw_iload dL_areColumnsSo_68 rfl rfl ?_
        exact gw_L (hJ_k3 _ H) ((lvA_c rfl (lvA_c rfl (lvA_c rfl (lvA_c rfl (lvA_c rfl (lvA_c rfl (lvA_c rfl (lvA_c rfl (lvA_c rfl (lvA_c rfl lvA_n)))))))))))
      · have H := bq_t q H
        refine gw_iload dL_areColumnsSo_63 rfl rfl ?_
        refine gw_goto (tgt := 70) dL_areColumnsSo_65 (by decide) ?_
        exact gw_L (hJ_k3 _ H) ((lvA_c rfl (lvA_c rfl (lvA_c rfl (lvA_c rfl (lvA_c rfl (lvA_c rfl (lvA_c rfl (lvA_c rfl (lvA_c rfl (lvA_c rfl lvA_n)))))))))))
set_option maxRecDepth 100000 in
set_option maxHeartbeats 4000000 in
theorem l_L_areColumnsSo_253 {Φ : gwC} {hb : gwHp} {M : Nat} {sh : Nat → Option gSh} {p1 : Nat} {l1 : Int} {l2 : Int} {l4 : Int} {l5 : Int} {l6 : Int} {l7 : Int} {l8 : Int} {l9 : Int} {κ : Int → W0 → Option (Int × W0)} {r : Int × W0} {K : Option Value → gwHp → Prop} (h0 : sD sh p1) (hK : K (some (vI r.1)) (hp Φ hb M sh r.2)) (hκ : ∀ (x3 : Int) (c : W0), κ x3 c = some r → G Φ nL_areColumnsSo (gw_M Φ nL_areColumnsSo K) none 0 0 311 [(0, .ref (M + p1)), (1, vI l1), (2, vI l2), (3, vI x3), (4, vI l4), (5, vI l5), (6, vI l6), (7, vI l7), (8, vI l8), (9, vL l9)] [] (hp Φ hb M sh c)) : ∀ (n : Nat) (l3 : Int) (l11 : Int) (c : W0), f_L_areColumnsSo_253 p1 l1 l2 l4 l5 l6 l7 l8 l9 κ n l3 l11 c = some r → G Φ nL_areColumnsSo (gw_M Φ nL_areColumnsSo K) none 0 0 253 [(0, .ref (M + p1)), (1, vI l1), (2, vI l2), (3, vI l3), (4, vI l4), (5, vI l5), (6, vI l6), (7, vI l7), (8, vI l8), (9, vL l9), (11, vI l11)] [] (hp Φ hb M sh c) := by
  intro n
  induction n with
  | zero => intro l3 l11 c H; cases H
  | succ n ih =>
    intro l3 l11 c H
    have H : b_L_areColumnsSo_253 p1 l1 l2 l4 l5 l6 l7 l8 l9 κ (f_L_areColumnsSo_253 p1 l1 l2 l4 l5 l6 l7 l8 l9 κ n) l3 l11 c = some r := H
    unfold b_L_areColumnsSo_253 at H
    refine gw_iload dL_areColumnsSo_253 rfl rfl ?_
    refine gw_iload_n dL_areColumnsSo_255 rfl rfl ?_
    obtain ⟨g, H⟩ := gd_i H
    refine gw_icmp_geZ (tgt := 311) dL_areColumnsSo_256 rfl (by decide) g.1 g.2 (fun q => ?_) (fun q => ?_)
    · have H := bq_t q H
      exact gw_L (hκ _ _ H) ((lvA_c rfl (lvA_c rfl (lvA_c rfl (lvA_c rfl (lvA_c rfl (lvA_c rfl (lvA_c rfl (lvA_c rfl (lvA_c rfl (lvA_c rfl lvA_n)))))))))))
    · have H := bq_f q H
      refine gw_iload dL_areColumnsSo_259 rfl rfl ?_
      obtain ⟨g, H⟩ := gd_i H
      refine gw_if_ltZ (tgt := 311) dL_areColumnsSo_261 rfl (by decide) g (fun q => ?_) (fun q => ?_)
      · have H := bq_t q H
        exact gw_L (hκ _ _ H) ((lvA_c rfl (lvA_c rfl (lvA_c rfl (lvA_c rfl (lvA_c rfl (lvA_c rfl (lvA_c rfl (lvA_c rfl (lvA_c rfl (lvA_c rfl lvA_n)))))))))))
      · have H := bq_f q H
        refine gw_iload_n dL_areColumnsSo_264 rfl rfl ?_
        obtain ⟨g, H⟩ := gd_i H
        refine gw_if_eqZ (tgt := 303) dL_areColumnsSo_265 rfl (by decide) g (fun q => ?_) (fun q => ?_)
        · have H := bq_t q H
          refine gw_iconstZ dL_areColumnsSo_303 rfl ?_
          refine gw_istore_n dL_areColumnsSo_304 rfl (by decide) ?_
          refine gw_iincZ dL_areColumnsSo_305 rfl rfl (by decide) ?_
          refine gw_goto (tgt := 253) dL_areColumnsSo_308 (by decide) ?_
          exact gw_L (ih _ _ _ H) ((lvA_c rfl (lvA_c rfl (lvA_c rfl (lvA_c rfl (lvA_c rfl (lvA_c rfl (lvA_c rfl (lvA_c rfl (lvA_c rfl (lvA_c rfl (lvA_c rfl lvA_n))))))))))))
        · have H := bq_f q H
          refine gw_aload_n dL_areColumnsSo_268 rfl rfl ?_
          refine gw_iload dL_areColumnsSo_269 rfl rfl ?_
          refine gw_iload dL_areColumnsSo_271 rfl rfl ?_
          obtain ⟨v1, c2, e_c2, H⟩ := cn_i H
          refine gw_V2 oknX8_entryNumerator dL_areColumnsSo_273 kw_740 kw_741 kw_742 (hp_o (h0.1)) rfl ⟨by decide, by decide⟩ ⟨by decide, by decide⟩ (Nat.le_of_ble_eq_true rfl) (n_X8_entryNumerator (h0) e_c2 rfl ?_)
          refine gw_iload dL_areColumnsSo_276 rfl rfl ?_
          refine gw_iload dL_areColumnsSo_278 rfl rfl ?_
          obtain ⟨g, H⟩ := gd_i H
          obtain ⟨k3, e_k3, H⟩ := jn_i H
          have hJ_k3 : ∀ (v4 : Int), k3 v4 = some r → G Φ nL_areColumnsSo (gw_M Φ nL_areColumnsSo K) none 0 0 288 [(0, .ref (M + p1)), (1, vI l1), (2, vI l2), (4, vI l4), (5, vI l5), (6, vI l6), (7, vI l7), (8, vI l8), (9, vL l9), (11, vI l11)] [vL v4, vL v1] (hp Φ hb M sh c2) := by
            intro v4 H
            subst e_k3
            obtain ⟨g, H⟩ := gd_i H
            refine gw_lc_neZ (tgt := 303) dL_areColumnsSo_288 rfl dL_areColumnsSo_289 rfl (by decide) g.1 g.2 (fun q => ?_) (fun q => ?_)
            · have H := bq_f q H
              refine gw_iconstZ dL_areColumnsSo_303 rfl ?_
              refine gw_istore_n dL_areColumnsSo_304 rfl (by decide) ?_
              refine gw_iincZ dL_areColumnsSo_305 rfl rfl (by decide) ?_
              refine gw_goto (tgt := 253) dL_areColumnsSo_308 (by decide) ?_
              exact gw_L (ih _ _ _ H) ((lvA_c rfl (lvA_c rfl (lvA_c rfl (lvA_c rfl (lvA_c rfl (lvA_c rfl (lvA_c rfl (lvA_c rfl (lvA_c rfl (lvA_c rfl (lvA_c rfl lvA_n))))))))))))
            · have H := bq_t q H
              refine gw_lload dL_areColumnsSo_292 rfl rfl ?_
              refine gw_lconst0Z dL_areColumnsSo_294 rfl ?_
              obtain ⟨g, H⟩ := gd_i H
              refine gw_lc_neZ (tgt := 303) dL_areColumnsSo_295 rfl dL_areColumnsSo_296 rfl (by decide) g (by decide) (fun q => ?_) (fun q => ?_)
              · have H := bq_f q H
                refine gw_iconstZ dL_areColumnsSo_303 rfl ?_
                refine gw_istore_n dL_areColumnsSo_304 rfl (by decide) ?_
                refine gw_iincZ dL_areColumnsSo_305 rfl rfl (by decide) ?_
                refine gw_goto (tgt := 253) dL_areColumnsSo_308 (by decide) ?_
                exact gw_L (ih _ _ _ H) ((lvA_c rfl (lvA_c rfl (lvA_c rfl (lvA_c rfl (lvA_c rfl (lvA_c rfl (lvA_c rfl (lvA_c rfl (lvA_c rfl (lvA_c rfl (lvA_c rfl lvA_n))))))))))))
              · have H := bq_t q H
                refine gw_iconstZ dL_areColumnsSo_299 rfl ?_
                refine gw_goto (tgt := 304) dL_areColumnsSo_300 (by decide) ?_
                refine gw_istore_n dL_areColumnsSo_304 rfl (by decide) ?_
                refine gw_iincZ dL_areColumnsSo_305 rfl rfl (by decide) ?_
                refine gw_goto (tgt := 253) dL_areColumnsSo_308 (by decide) ?_
                exact gw_L (ih _ _ _ H) ((lvA_c rfl (lvA_c rfl (lvA_c rfl (lvA_c rfl (lvA_c rfl (lvA_c rfl (lvA_c rfl (lvA_c rfl (lvA_c rfl (lvA_c rfl (lvA_c rfl lvA_n))))))))))))
          refine gw_icmp_neZ (tgt := 287) dL_areColumnsSo_280 rfl (by decide) g.1 g.2 (fun q => ?_) (fun q => ?_)
          · have H := bq_f q H
            refine gw_lconst0Z dL_areColumnsSo_287 rfl ?_
            exact gw_L (hJ_k3 _ H) ((lvA_c rfl (lvA_c rfl (lvA_c rfl (lvA_c rfl (lvA_c rfl (lvA_c rfl (lvA_c rfl (lvA_c rfl (lvA_c rfl (lvA_c rfl lvA_n)))))))))))
          · have H := bq_t q H
            refine gw_lconst1Z dL_areColumnsSo_283 rfl ?_
            refine gw_goto (tgt := 288) dL_areColumnsSo_284 (by decide) ?_
            exact gw_L (hJ_k3 _ H) ((lvA_c rfl (lvA_c rfl (lvA_c rfl (lvA_c rfl (lvA_c rfl (lvA_c rfl (lvA_c rfl (lvA_c rfl (lvA_c rfl (lvA_c rfl lvA_n)))))))))))
set_option maxRecDepth 100000 in
set_option maxHeartbeats 4000000 in
theorem l_L_areColumnsSo_21 {Φ : gwC} {hb : gwHp} {M : Nat} {sh : Nat → Option gSh} {p1 : Nat} {l1 : Int} {l2 : Int} {κ : Int → Int → Int → W0 → Option (Int × W0)} {r : Int × W0} {K : Option Value → gwHp → Prop} (h0 : sD sh p1) (hK : K (some (vI r.1)) (hp Φ hb M sh r.2)) (hκ : ∀ (x3 : Int) (x4 : Int) (x5 : Int) (c : W0), κ x3 x4 x5 c = some r → G Φ nL_areColumnsSo (gw_M Φ nL_areColumnsSo K) none 0 0 477 [(0, .ref (M + p1)), (3, vI x3), (4, vI x4), (5, vI x5)] [] (hp Φ hb M sh c)) : ∀ (n : Nat) (l3 : Int) (l4 : Int) (l5 : Int) (l6 : Int) (c : W0), f_L_areColumnsSo_21 p1 l1 l2 κ n l3 l4 l5 l6 c = some r → G Φ nL_areColumnsSo (gw_M Φ nL_areColumnsSo K) none 0 0 21 [(0, .ref (M + p1)), (1, vI l1), (2, vI l2), (3, vI l3), (4, vI l4), (5, vI l5), (6, vI l6)] [] (hp Φ hb M sh c) := by
  intro n
  induction n with
  | zero => intro l3 l4 l5 l6 c H; cases H
  | succ n ih =>
    intro l3 l4 l5 l6 c H
    have H : b_L_areColumnsSo_21 p1 l1 l2 κ (f_L_areColumnsSo_21 p1 l1 l2 κ n) l3 l4 l5 l6 c = some r := H
    unfold b_L_areColumnsSo_21 at H
    refine gw_iload dL_areColumnsSo_21 rfl rfl ?_
    refine gw_iload_n dL_areColumnsSo_23 rfl rfl ?_
    refine gw_iload_n dL_areColumnsSo_24 rfl rfl ?_
    refine gw_iaddZ dL_areColumnsSo_25 rfl ?_
    obtain ⟨g, H⟩ := gd_i H
    refine gw_icmp_geZ (tgt := 477) dL_areColumnsSo_26 rfl (by decide) g.1 g.2 (fun q => ?_) (fun q => ?_)
    · have H := bq_t q H
      exact gw_L (hκ _ _ _ _ H) ((lvA_c rfl (lvA_c rfl (lvA_c rfl (lvA_c rfl lvA_n)))))
    · have H := bq_f q H
      refine gw_iconstZ dL_areColumnsSo_29 rfl ?_
      refine gw_istore dL_areColumnsSo_30 rfl (by decide) ?_
      refine gw_iconstZ dL_areColumnsSo_32 rfl ?_
      refine gw_istore dL_areColumnsSo_33 rfl (by decide) ?_
      refine gw_aload_n dL_areColumnsSo_35 rfl rfl ?_
      refine gw_iload dL_areColumnsSo_36 rfl rfl ?_
      obtain ⟨v1, c2, e_c2, H⟩ := cn_i H
      refine gw_V1 oknX8_reducedNumerator dL_areColumnsSo_38 kw_735 kw_736 kw_737 (hp_o (h0.1)) rfl ⟨by decide, by decide⟩ ⟨by decide, by decide⟩ (Nat.le_of_ble_eq_true rfl) (n_X8_reducedNumerator (h0) e_c2 rfl ?_)
      refine gw_lstore dL_areColumnsSo_41 rfl (by decide) ?_
      refine gw_iconstZ dL_areColumnsSo_43 rfl ?_
      refine gw_istore dL_areColumnsSo_44 rfl (by decide) ?_
      refine gw_L (l_L_areColumnsSo_46 h0 hK (fun v3 v4 v5 c6 H => ?_) LF _ _ _ _ _ H) ((lvA_c rfl (lvA_c rfl (lvA_c rfl (lvA_c rfl (lvA_c rfl (lvA_c rfl (lvA_c rfl (lvA_c rfl (lvA_c rfl (lvA_c rfl (lvA_c rfl lvA_n))))))))))))
      refine gw_iconstZ dL_areColumnsSo_250 rfl ?_
      refine gw_istore dL_areColumnsSo_251 rfl (by decide) ?_
      refine gw_L (l_L_areColumnsSo_253 h0 hK (fun v7 c8 H => ?_) LF _ _ _ H) ((lvA_c rfl (lvA_c rfl (lvA_c rfl (lvA_c rfl (lvA_c rfl (lvA_c rfl (lvA_c rfl (lvA_c rfl (lvA_c rfl (lvA_c rfl (lvA_c rfl lvA_n))))))))))))
      refine gw_iload dL_areColumnsSo_311 rfl rfl ?_
      obtain ⟨g, H⟩ := gd_i H
      obtain ⟨k9, e_k9, H⟩ := jn_i H
      have hJ_k9 : ∀ (u10 : Unit), k9 u10 = some r → G Φ nL_areColumnsSo (gw_M Φ nL_areColumnsSo K) none 0 0 327 [(0, .ref (M + p1)), (1, vI l1), (2, vI l2), (3, vI v7), (5, vI l5), (6, vI l6), (7, vI v4), (8, vI v5), (9, vL v1)] [] (hp Φ hb M sh c8) := by
        intro u10 H
        subst e_k9
        refine gw_iconstZ dL_areColumnsSo_327 rfl ?_
        refine gw_istore dL_areColumnsSo_328 rfl (by decide) ?_
        refine gw_iload dL_areColumnsSo_330 rfl rfl ?_
        obtain ⟨g, H⟩ := gd_i H
        obtain ⟨k11, e_k11, H⟩ := jn_i H
        have hJ_k11 : ∀ (u12 : Unit), k11 u12 = some r → G Φ nL_areColumnsSo (gw_M Φ nL_areColumnsSo K) none 0 0 347 [(0, .ref (M + p1)), (1, vI l1), (2, vI l2), (3, vI v7), (4, vI 0), (6, vI l6), (7, vI v4), (9, vL v1)] [] (hp Φ hb M sh c8) := by
          intro u12 H
          subst e_k11
          refine gw_iconstZ dL_areColumnsSo_347 rfl ?_
          refine gw_goto (tgt := 352) dL_areColumnsSo_348 (by decide) ?_
          refine gw_istore dL_areColumnsSo_352 rfl (by decide) ?_
          refine gw_iload_n dL_areColumnsSo_354 rfl rfl ?_
          obtain ⟨g, H⟩ := gd_i H
          refine gw_if_eqZ (tgt := 469) dL_areColumnsSo_355 rfl (by decide) g (fun q => ?_) (fun q => ?_)
          · have H := bq_t q H
            refine gw_iconstZ dL_areColumnsSo_469 rfl ?_
            refine gw_istore_n dL_areColumnsSo_470 rfl (by decide) ?_
            refine gw_iincZ dL_areColumnsSo_471 rfl rfl (by decide) ?_
            refine gw_goto (tgt := 21) dL_areColumnsSo_474 (by decide) ?_
            exact gw_L (ih _ _ _ _ _ H) ((lvA_c rfl (lvA_c rfl (lvA_c rfl (lvA_c rfl (lvA_c rfl (lvA_c rfl (lvA_c rfl lvA_n))))))))
          · have H := bq_f q H
            refine gw_aload_n dL_areColumnsSo_358 rfl rfl ?_
            refine gw_iload dL_areColumnsSo_359 rfl rfl ?_
            obtain ⟨v13, c14, e_c14, H⟩ := cn_i H
            refine gw_V1 oknX8_isNamed dL_areColumnsSo_361 kw_753 kw_754 kw_755 (hp_o (h0.1)) rfl ⟨by decide, by decide⟩ ⟨by decide, by decide⟩ (Nat.le_of_ble_eq_true rfl) (n_X8_isNamed (h0) e_c14 rfl ?_)
            refine gw_iload dL_areColumnsSo_364 rfl rfl ?_
            obtain ⟨g, H⟩ := gd_i H
            obtain ⟨k15, e_k15, H⟩ := jn_i H
            have hJ_k15 : ∀ (v16 : Int), k15 v16 = some r → G Φ nL_areColumnsSo (gw_M Φ nL_areColumnsSo K) none 0 0 374 [(0, .ref (M + p1)), (1, vI l1), (2, vI l2), (4, vI 0), (5, vI 1), (6, vI l6), (7, vI v4), (9, vL v1)] [vI v16, vI v13] (hp Φ hb M sh c14) := by
              intro v16 H
              subst e_k15
              obtain ⟨g, H⟩ := gd_i H
              refine gw_icmp_neZ (tgt := 469) dL_areColumnsSo_374 rfl (by decide) g.1 g.2 (fun q => ?_) (fun q => ?_)
              · have H := bq_f q H
                refine gw_iconstZ dL_areColumnsSo_469 rfl ?_
                refine gw_istore_n dL_areColumnsSo_470 rfl (by decide) ?_
                refine gw_iincZ dL_areColumnsSo_471 rfl rfl (by decide) ?_
                refine gw_goto (tgt := 21) dL_areColumnsSo_474 (by decide) ?_
                exact gw_L (ih _ _ _ _ _ H) ((lvA_c rfl (lvA_c rfl (lvA_c rfl (lvA_c rfl (lvA_c rfl (lvA_c rfl (lvA_c rfl lvA_n))))))))
              · have H := bq_t q H
                refine gw_iload dL_areColumnsSo_377 rfl rfl ?_
                obtain ⟨g, H⟩ := gd_i H
                obtain ⟨k17, e_k17, H⟩ := jn_i H
                have hJ_k17 : ∀ (c18 : W0), k17 c18 = some r → G Φ nL_areColumnsSo (gw_M Φ nL_areColumnsSo K) none 0 0 393 [(0, .ref (M + p1)), (1, vI l1), (2, vI l2), (4, vI 0), (5, vI 1), (6, vI l6), (9, vL v1)] [] (hp Φ hb M sh c18) := by
                  intro c18 H
                  subst e_k17
                  refine gw_iload dL_areColumnsSo_393 rfl rfl ?_
                  refine gw_iload_n dL_areColumnsSo_395 rfl rfl ?_
                  obtain ⟨g, H⟩ := gd_i H
                  obtain ⟨k19, e_k19, H⟩ := jn_i H
                  have hJ_k19 : ∀ (c20 : W0), k19 c20 = some r → G Φ nL_areColumnsSo (gw_M Φ nL_areColumnsSo K) none 0 0 465 [(0, .ref (M + p1)), (1, vI l1), (2, vI l2), (4, vI 0), (5, vI 1), (6, vI l6)] [] (hp Φ hb M sh c20) := by
                    intro c20 H
                    subst e_k19
                    refine gw_iconstZ dL_areColumnsSo_465 rfl ?_
                    refine gw_goto (tgt := 470) dL_areColumnsSo_466 (by decide) ?_
                    refine gw_istore_n dL_areColumnsSo_470 rfl (by decide) ?_
                    refine gw_iincZ dL_areColumnsSo_471 rfl rfl (by decide) ?_
                    refine gw_goto (tgt := 21) dL_areColumnsSo_474 (by decide) ?_
                    exact gw_L (ih _ _ _ _ _ H) ((lvA_c rfl (lvA_c rfl (lvA_c rfl (lvA_c rfl (lvA_c rfl (lvA_c rfl (lvA_c rfl lvA_n))))))))
                  refine gw_icmp_ltZ (tgt := 465) dL_areColumnsSo_396 rfl (by decide) g.1 g.2 (fun q => ?_) (fun q => ?_)
                  · have H := bq_t q H
                    exact gw_L (hJ_k19 _ H) ((lvA_c rfl (lvA_c rfl (lvA_c rfl (lvA_c rfl (lvA_c rfl (lvA_c rfl lvA_n)))))))
                  · have H := bq_f q H
                    refine gw_aload_n dL_areColumnsSo_399 rfl rfl ?_
                    refine gw_iload dL_areColumnsSo_400 rfl rfl ?_
                    refine gw_iload_n dL_areColumnsSo_402 rfl rfl ?_
                    refine gw_isubZ dL_areColumnsSo_403 rfl ?_
                    obtain ⟨v21, c22, e_c22, H⟩ := cn_i H
                    refine gw_V1 oknX8_dualNumerator dL_areColumnsSo_404 kw_758 kw_759 kw_760 (hp_o (h0.1)) rfl ⟨by decide, by decide⟩ ⟨by decide, by decide⟩ (Nat.le_of_ble_eq_true rfl) (n_X8_dualNumerator (h0) e_c22 rfl ?_)
                    refine gw_lload dL_areColumnsSo_407 rfl rfl ?_
                    refine gw_lnegZ dL_areColumnsSo_409 rfl ?_
                    obtain ⟨g, H⟩ := gd_i H
                    refine gw_lc_neZ (tgt := 469) dL_areColumnsSo_410 rfl dL_areColumnsSo_411 rfl (by decide) g.1 g.2 (fun q => ?_) (fun q => ?_)
                    · have H := bq_f q H
                      refine gw_iconstZ dL_areColumnsSo_469 rfl ?_
                      refine gw_istore_n dL_areColumnsSo_470 rfl (by decide) ?_
                      refine gw_iincZ dL_areColumnsSo_471 rfl rfl (by decide) ?_
                      refine gw_goto (tgt := 21) dL_areColumnsSo_474 (by decide) ?_
                      exact gw_L (ih _ _ _ _ _ H) ((lvA_c rfl (lvA_c rfl (lvA_c rfl (lvA_c rfl (lvA_c rfl (lvA_c rfl (lvA_c rfl lvA_n))))))))
                    · have H := bq_t q H
                      refine gw_aload_n dL_areColumnsSo_414 rfl rfl ?_
                      refine gw_iload dL_areColumnsSo_415 rfl rfl ?_
                      refine gw_iload_n dL_areColumnsSo_417 rfl rfl ?_
                      refine gw_isubZ dL_areColumnsSo_418 rfl ?_
                      obtain ⟨v23, c24, e_c24, H⟩ := cn_i H
                      refine gw_V1 oknX8_dualDenominator dL_areColumnsSo_419 kw_767 kw_768 kw_769 (hp_o (h0.1)) rfl ⟨by decide, by decide⟩ ⟨by decide, by decide⟩ (Nat.le_of_ble_eq_true rfl) (n_X8_dualDenominator (h0) e_c24 rfl ?_)
                      refine gw_aload_n dL_areColumnsSo_422 rfl rfl ?_
                      refine gw_iload dL_areColumnsSo_423 rfl rfl ?_
                      obtain ⟨v25, c26, e_c26, H⟩ := cn_i H
                      refine gw_V1 oknX8_reducedDenominator dL_areColumnsSo_425 kw_771 kw_772 kw_773 (hp_o (h0.1)) rfl ⟨by decide, by decide⟩ ⟨by decide, by decide⟩ (Nat.le_of_ble_eq_true rfl) (n_X8_reducedDenominator (h0) e_c26 rfl ?_)
                      obtain ⟨g, H⟩ := gd_i H
                      refine gw_lc_neZ (tgt := 469) dL_areColumnsSo_428 rfl dL_areColumnsSo_429 rfl (by decide) g.1 g.2 (fun q => ?_) (fun q => ?_)
                      · have H := bq_f q H
                        refine gw_iconstZ dL_areColumnsSo_469 rfl ?_
                        refine gw_istore_n dL_areColumnsSo_470 rfl (by decide) ?_
                        refine gw_iincZ dL_areColumnsSo_471 rfl rfl (by decide) ?_
                        refine gw_goto (tgt := 21) dL_areColumnsSo_474 (by decide) ?_
                        exact gw_L (ih _ _ _ _ _ H) ((lvA_c rfl (lvA_c rfl (lvA_c rfl (lvA_c rfl (lvA_c rfl (lvA_c rfl (lvA_c rfl lvA_n))))))))
                      · have H := bq_t q H
                        refine gw_aload_n dL_areColumnsSo_432 rfl rfl ?_
                        refine gw_iload dL_areColumnsSo_433 rfl rfl ?_
                        refine gw_iload_n dL_areColumnsSo_435 rfl rfl ?_
                        refine gw_isubZ dL_areColumnsSo_436 rfl ?_
                        obtain ⟨v27, c28, e_c28, H⟩ := cn_i H
                        refine gw_V1 oknX8_dualNumeratorByEquations dL_areColumnsSo_437 kw_775 kw_776 kw_777 (hp_o (h0.1)) rfl ⟨by decide, by decide⟩ ⟨by decide, by decide⟩ (Nat.le_of_ble_eq_true rfl) (n_X8_dualNumeratorByEquations (h0) e_c28 rfl ?_)
                        refine gw_lload dL_areColumnsSo_440 rfl rfl ?_
                        refine gw_lnegZ dL_areColumnsSo_442 rfl ?_
                        obtain ⟨g, H⟩ := gd_i H
                        refine gw_lc_neZ (tgt := 469) dL_areColumnsSo_443 rfl dL_areColumnsSo_444 rfl (by decide) g.1 g.2 (fun q => ?_) (fun q => ?_)
                        · have H := bq_f q H
                          refine gw_iconstZ dL_areColumnsSo_469 rfl ?_
                          refine gw_istore_n dL_areColumnsSo_470 rfl (by decide) ?_
                          refine gw_iincZ dL_areColumnsSo_471 rfl rfl (by decide) ?_
                          refine gw_goto (tgt := 21) dL_areColumnsSo_474 (by decide) ?_
                          exact gw_L (ih _ _ _ _ _ H) ((lvA_c rfl (lvA_c rfl (lvA_c rfl (lvA_c rfl (lvA_c rfl (lvA_c rfl (lvA_c rfl lvA_n))))))))
                        · have H := bq_t q H
                          refine gw_aload_n dL_areColumnsSo_447 rfl rfl ?_
                          refine gw_iload dL_areColumnsSo_448 rfl rfl ?_
                          refine gw_iload_n dL_areColumnsSo_450 rfl rfl ?_
                          refine gw_isubZ dL_areColumnsSo_451 rfl ?_
                          obtain ⟨v29, c30, e_c30, H⟩ := cn_i H
                          refine gw_V1 oknX8_dualDenominatorByEquations dL_areColumnsSo_452 kw_805 kw_806 kw_807 (hp_o (h0.1)) rfl ⟨by decide, by decide⟩ ⟨by decide, by decide⟩ (Nat.le_of_ble_eq_true rfl) (n_X8_dualDenominatorByEquations (h0) e_c30 rfl ?_)
                          refine gw_aload_n dL_areColumnsSo_455 rfl rfl ?_
                          refine gw_iload dL_areColumnsSo_456 rfl rfl ?_
                          obtain ⟨v31, c32, e_c32, H⟩ := cn_i H
                          refine gw_V1 oknX8_reducedDenominator dL_areColumnsSo_458 kw_771 kw_772 kw_773 (hp_o (h0.1)) rfl ⟨by decide, by decide⟩ ⟨by decide, by decide⟩ (Nat.le_of_ble_eq_true rfl) (n_X8_reducedDenominator (h0) e_c32 rfl ?_)
                          obtain ⟨g, H⟩ := gd_i H
                          refine gw_lc_neZ (tgt := 469) dL_areColumnsSo_461 rfl dL_areColumnsSo_462 rfl (by decide) g.1 g.2 (fun q => ?_) (fun q => ?_)
                          · have H := bq_f q H
                            refine gw_iconstZ dL_areColumnsSo_469 rfl ?_
                            refine gw_istore_n dL_areColumnsSo_470 rfl (by decide) ?_
                            refine gw_iincZ dL_areColumnsSo_471 rfl rfl (by decide) ?_
                            refine gw_goto (tgt := 21) dL_areColumnsSo_474 (by decide) ?_
                            exact gw_L (ih _ _ _ _ _ H) ((lvA_c rfl (lvA_c rfl (lvA_c rfl (lvA_c rfl (lvA_c rfl (lvA_c rfl (lvA_c rfl lvA_n))))))))
                          · have H := bq_t q H
                            exact gw_L (hJ_k19 _ H) ((lvA_c rfl (lvA_c rfl (lvA_c rfl (lvA_c rfl (lvA_c rfl (lvA_c rfl lvA_n)))))))
                refine gw_if_geZ (tgt := 393) dL_areColumnsSo_379 rfl (by decide) g (fun q => ?_) (fun q => ?_)
                · have H := bq_t q H
                  exact gw_L (hJ_k17 _ H) ((lvA_c rfl (lvA_c rfl (lvA_c rfl (lvA_c rfl (lvA_c rfl (lvA_c rfl (lvA_c rfl lvA_n))))))))
                · have H := bq_f q H
                  refine gw_aload_n dL_areColumnsSo_382 rfl rfl ?_
                  refine gw_iload dL_areColumnsSo_383 rfl rfl ?_
                  obtain ⟨v33, c34, e_c34, H⟩ := cn_i H
                  refine gw_V1 oknX8_givenNumerator dL_areColumnsSo_385 kw_704 kw_705 kw_706 (hp_o (h0.1)) rfl ⟨by decide, by decide⟩ ⟨by decide, by decide⟩ (Nat.le_of_ble_eq_true rfl) (n_X8_givenNumerator (h0) e_c34 rfl ?_)
                  refine gw_lconst0Z dL_areColumnsSo_388 rfl ?_
                  obtain ⟨g, H⟩ := gd_i H
                  refine gw_lc_neZ (tgt := 469) dL_areColumnsSo_389 rfl dL_areColumnsSo_390 rfl (by decide) g (by decide) (fun q => ?_) (fun q => ?_)
                  · have H := bq_f q H
                    refine gw_iconstZ dL_areColumnsSo_469 rfl ?_
                    refine gw_istore_n dL_areColumnsSo_470 rfl (by decide) ?_
                    refine gw_iincZ dL_areColumnsSo_471 rfl rfl (by decide) ?_
                    refine gw_goto (tgt := 21) dL_areColumnsSo_474 (by decide) ?_
                    exact gw_L (ih _ _ _ _ _ H) ((lvA_c rfl (lvA_c rfl (lvA_c rfl (lvA_c rfl (lvA_c rfl (lvA_c rfl (lvA_c rfl lvA_n))))))))
                  · have H := bq_t q H
                    exact gw_L (hJ_k17 _ H) ((lvA_c rfl (lvA_c rfl (lvA_c rfl (lvA_c rfl (lvA_c rfl (lvA_c rfl (lvA_c rfl lvA_n))))))))
            refine gw_if_ltZ (tgt := 373) dL_areColumnsSo_366 rfl (by decide) g (fun q => ?_) (fun q => ?_)
            · have H := bq_t q H
              refine gw_iconstZ dL_areColumnsSo_373 rfl ?_
              exact gw_L (hJ_k15 _ H) ((lvA_c rfl (lvA_c rfl (lvA_c rfl (lvA_c rfl (lvA_c rfl (lvA_c rfl (lvA_c rfl (lvA_c rfl lvA_n)))))))))
            · have H := bq_f q H
              refine gw_iconstZ dL_areColumnsSo_369 rfl ?_
              refine gw_goto (tgt := 374) dL_areColumnsSo_370 (by decide) ?_
              exact gw_L (hJ_k15 _ H) ((lvA_c rfl (lvA_c rfl (lvA_c rfl (lvA_c rfl (lvA_c rfl (lvA_c rfl (lvA_c rfl (lvA_c rfl lvA_n)))))))))
        refine gw_if_neZ (tgt := 347) dL_areColumnsSo_332 rfl (by decide) g (fun q => ?_) (fun q => ?_)
        · have H := bq_f q H
          exact gw_L (hJ_k11 _ H) ((lvA_c rfl (lvA_c rfl (lvA_c rfl (lvA_c rfl (lvA_c rfl (lvA_c rfl (lvA_c rfl (lvA_c rfl lvA_n)))))))))
        · have H := bq_t q H
          refine gw_lload dL_areColumnsSo_335 rfl rfl ?_
          refine gw_lconst0Z dL_areColumnsSo_337 rfl ?_
          obtain ⟨g, H⟩ := gd_i H
          obtain ⟨k35, e_k35, H⟩ := jn_i H
          have hJ_k35 : ∀ (u36 : Unit), k35 u36 = some r → G Φ nL_areColumnsSo (gw_M Φ nL_areColumnsSo K) none 0 0 351 [(0, .ref (M + p1)), (1, vI l1), (2, vI l2), (3, vI v7), (4, vI 0), (6, vI l6), (7, vI v4), (9, vL v1)] [] (hp Φ hb M sh c8) := by
            intro u36 H
            subst e_k35
            refine gw_iconstZ dL_areColumnsSo_351 rfl ?_
            refine gw_istore dL_areColumnsSo_352 rfl (by decide) ?_
            refine gw_iload_n dL_areColumnsSo_354 rfl rfl ?_
            obtain ⟨g, H⟩ := gd_i H
            refine gw_if_eqZ (tgt := 469) dL_areColumnsSo_355 rfl (by decide) g (fun q => ?_) (fun q => ?_)
            · have H := bq_t q H
              refine gw_iconstZ dL_areColumnsSo_469 rfl ?_
              refine gw_istore_n dL_areColumnsSo_470 rfl (by decide) ?_
              refine gw_iincZ dL_areColumnsSo_471 rfl rfl (by decide) ?_
              refine gw_goto (tgt := 21) dL_areColumnsSo_474 (by decide) ?_
              exact gw_L (ih _ _ _ _ _ H) ((lvA_c rfl (lvA_c rfl (lvA_c rfl (lvA_c rfl (lvA_c rfl (lvA_c rfl (lvA_c rfl lvA_n))))))))
            · have H := bq_f q H
              refine gw_aload_n dL_areColumnsSo_358 rfl rfl ?_
              refine gw_iload dL_areColumnsSo_359 rfl rfl ?_
              obtain ⟨v37, c38, e_c38, H⟩ := cn_i H
              refine gw_V1 oknX8_isNamed dL_areColumnsSo_361 kw_753 kw_754 kw_755 (hp_o (h0.1)) rfl ⟨by decide, by decide⟩ ⟨by decide, by decide⟩ (Nat.le_of_ble_eq_true rfl) (n_X8_isNamed (h0) e_c38 rfl ?_)
              refine gw_iload dL_areColumnsSo_364 rfl rfl ?_
              obtain ⟨g, H⟩ := gd_i H
              obtain ⟨k39, e_k39, H⟩ := jn_i H
              have hJ_k39 : ∀ (v40 : Int), k39 v40 = some r → G Φ nL_areColumnsSo (gw_M Φ nL_areColumnsSo K) none 0 0 374 [(0, .ref (M + p1)), (1, vI l1), (2, vI l2), (4, vI 0), (5, vI 0), (6, vI l6), (7, vI v4), (9, vL v1)] [vI v40, vI v37] (hp Φ hb M sh c38) := by
                intro v40 H
                subst e_k39
                obtain ⟨g, H⟩ := gd_i H
                refine gw_icmp_neZ (tgt := 469) dL_areColumnsSo_374 rfl (by decide) g.1 g.2 (fun q => ?_) (fun q => ?_)
                · have H := bq_f q H
                  refine gw_iconstZ dL_areColumnsSo_469 rfl ?_
                  refine gw_istore_n dL_areColumnsSo_470 rfl (by decide) ?_
                  refine gw_iincZ dL_areColumnsSo_471 rfl rfl (by decide) ?_
                  refine gw_goto (tgt := 21) dL_areColumnsSo_474 (by decide) ?_
                  exact gw_L (ih _ _ _ _ _ H) ((lvA_c rfl (lvA_c rfl (lvA_c rfl (lvA_c rfl (lvA_c rfl (lvA_c rfl (lvA_c rfl lvA_n))))))))
                · have H := bq_t q H
                  refine gw_iload dL_areColumnsSo_377 rfl rfl ?_
                  obtain ⟨g, H⟩ := gd_i H
                  obtain ⟨k41, e_k41, H⟩ := jn_i H
                  have hJ_k41 : ∀ (c42 : W0), k41 c42 = some r → G Φ nL_areColumnsSo (gw_M Φ nL_areColumnsSo K) none 0 0 393 [(0, .ref (M + p1)), (1, vI l1), (2, vI l2), (4, vI 0), (5, vI 0), (6, vI l6), (9, vL v1)] [] (hp Φ hb M sh c42) := by
                    intro c42 H
                    subst e_k41
                    refine gw_iload dL_areColumnsSo_393 rfl rfl ?_
                    refine gw_iload_n dL_areColumnsSo_395 rfl rfl ?_
                    obtain ⟨g, H⟩ := gd_i H
                    obtain ⟨k43, e_k43, H⟩ := jn_i H
                    have hJ_k43 : ∀ (c44 : W0), k43 c44 = some r → G Φ nL_areColumnsSo (gw_M Φ nL_areColumnsSo K) none 0 0 465 [(0, .ref (M + p1)), (1, vI l1), (2, vI l2), (4, vI 0), (5, vI 0), (6, vI l6)] [] (hp Φ hb M sh c44) := by
                      intro c44 H
                      subst e_k43
                      refine gw_iconstZ dL_areColumnsSo_465 rfl ?_
                      refine gw_goto (tgt := 470) dL_areColumnsSo_466 (by decide) ?_
                      refine gw_istore_n dL_areColumnsSo_470 rfl (by decide) ?_
                      refine gw_iincZ dL_areColumnsSo_471 rfl rfl (by decide) ?_
                      refine gw_goto (tgt := 21) dL_areColumnsSo_474 (by decide) ?_
                      exact gw_L (ih _ _ _ _ _ H) ((lvA_c rfl (lvA_c rfl (lvA_c rfl (lvA_c rfl (lvA_c rfl (lvA_c rfl (lvA_c rfl lvA_n))))))))
                    refine gw_icmp_ltZ (tgt := 465) dL_areColumnsSo_396 rfl (by decide) g.1 g.2 (fun q => ?_) (fun q => ?_)
                    · have H := bq_t q H
                      exact gw_L (hJ_k43 _ H) ((lvA_c rfl (lvA_c rfl (lvA_c rfl (lvA_c rfl (lvA_c rfl (lvA_c rfl lvA_n)))))))
                    · have H := bq_f q H
                      refine gw_aload_n dL_areColumnsSo_399 rfl rfl ?_
                      refine gw_iload dL_areColumnsSo_400 rfl rfl ?_
                      refine gw_iload_n dL_areColumnsSo_402 rfl rfl ?_
                      refine gw_isubZ dL_areColumnsSo_403 rfl ?_
                      obtain ⟨v45, c46, e_c46, H⟩ := cn_i H
                      refine gw_V1 oknX8_dualNumerator dL_areColumnsSo_404 kw_758 kw_759 kw_760 (hp_o (h0.1)) rfl ⟨by decide, by decide⟩ ⟨by decide, by decide⟩ (Nat.le_of_ble_eq_true rfl) (n_X8_dualNumerator (h0) e_c46 rfl ?_)
                      refine gw_lload dL_areColumnsSo_407 rfl rfl ?_
                      refine gw_lnegZ dL_areColumnsSo_409 rfl ?_
                      obtain ⟨g, H⟩ := gd_i H
                      refine gw_lc_neZ (tgt := 469) dL_areColumnsSo_410 rfl dL_areColumnsSo_411 rfl (by decide) g.1 g.2 (fun q => ?_) (fun q => ?_)
                      · have H := bq_f q H
                        refine gw_iconstZ dL_areColumnsSo_469 rfl ?_
                        refine gw_istore_n dL_areColumnsSo_470 rfl (by decide) ?_
                        refine gw_iincZ dL_areColumnsSo_471 rfl rfl (by decide) ?_
                        refine gw_goto (tgt := 21) dL_areColumnsSo_474 (by decide) ?_
                        exact gw_L (ih _ _ _ _ _ H) ((lvA_c rfl (lvA_c rfl (lvA_c rfl (lvA_c rfl (lvA_c rfl (lvA_c rfl (lvA_c rfl lvA_n))))))))
                      · have H := bq_t q H
                        refine gw_aload_n dL_areColumnsSo_414 rfl rfl ?_
                        refine gw_iload dL_areColumnsSo_415 rfl rfl ?_
                        refine gw_iload_n dL_areColumnsSo_417 rfl rfl ?_
                        refine gw_isubZ dL_areColumnsSo_418 rfl ?_
                        obtain ⟨v47, c48, e_c48, H⟩ := cn_i H
                        refine gw_V1 oknX8_dualDenominator dL_areColumnsSo_419 kw_767 kw_768 kw_769 (hp_o (h0.1)) rfl ⟨by decide, by decide⟩ ⟨by decide, by decide⟩ (Nat.le_of_ble_eq_true rfl) (n_X8_dualDenominator (h0) e_c48 rfl ?_)
                        refine gw_aload_n dL_areColumnsSo_422 rfl rfl ?_
                        refine gw_iload dL_areColumnsSo_423 rfl rfl ?_
                        obtain ⟨v49, c50, e_c50, H⟩ := cn_i H
                        refine gw_V1 oknX8_reducedDenominator dL_areColumnsSo_425 kw_771 kw_772 kw_773 (hp_o (h0.1)) rfl ⟨by decide, by decide⟩ ⟨by decide, by decide⟩ (Nat.le_of_ble_eq_true rfl) (n_X8_reducedDenominator (h0) e_c50 rfl ?_)
                        obtain ⟨g, H⟩ := gd_i H
                        refine gw_lc_neZ (tgt := 469) dL_areColumnsSo_428 rfl dL_areColumnsSo_429 rfl (by decide) g.1 g.2 (fun q => ?_) (fun q => ?_)
                        · have H := bq_f q H
                          refine gw_iconstZ dL_areColumnsSo_469 rfl ?_
                          refine gw_istore_n dL_areColumnsSo_470 rfl (by decide) ?_
                          refine gw_iincZ dL_areColumnsSo_471 rfl rfl (by decide) ?_
                          refine gw_goto (tgt := 21) dL_areColumnsSo_474 (by decide) ?_
                          exact gw_L (ih _ _ _ _ _ H) ((lvA_c rfl (lvA_c rfl (lvA_c rfl (lvA_c rfl (lvA_c rfl (lvA_c rfl (lvA_c rfl lvA_n))))))))
                        · have H := bq_t q H
                          refine gw_aload_n dL_areColumnsSo_432 rfl rfl ?_
                          refine gw_iload dL_areColumnsSo_433 rfl rfl ?_
                          refine gw_iload_n dL_areColumnsSo_435 rfl rfl ?_
                          refine gw_isubZ dL_areColumnsSo_436 rfl ?_
                          obtain ⟨v51, c52, e_c52, H⟩ := cn_i H
                          refine gw_V1 oknX8_dualNumeratorByEquations dL_areColumnsSo_437 kw_775 kw_776 kw_777 (hp_o (h0.1)) rfl ⟨by decide, by decide⟩ ⟨by decide, by decide⟩ (Nat.le_of_ble_eq_true rfl) (n_X8_dualNumeratorByEquations (h0) e_c52 rfl ?_)
                          refine gw_lload dL_areColumnsSo_440 rfl rfl ?_
                          refine gw_lnegZ dL_areColumnsSo_442 rfl ?_
                          obtain ⟨g, H⟩ := gd_i H
                          refine gw_lc_neZ (tgt := 469) dL_areColumnsSo_443 rfl dL_areColumnsSo_444 rfl (by decide) g.1 g.2 (fun q => ?_) (fun q => ?_)
                          · have H := bq_f q H
                            refine gw_iconstZ dL_areColumnsSo_469 rfl ?_
                            refine gw_istore_n dL_areColumnsSo_470 rfl (by decide) ?_
                            refine gw_iincZ dL_areColumnsSo_471 rfl rfl (by decide) ?_
                            refine gw_goto (tgt := 21) dL_areColumnsSo_474 (by decide) ?_
                            exact gw_L (ih _ _ _ _ _ H) ((lvA_c rfl (lvA_c rfl (lvA_c rfl (lvA_c rfl (lvA_c rfl (lvA_c rfl (lvA_c rfl lvA_n))))))))
                          · have H := bq_t q H
                            refine gw_aload_n dL_areColumnsSo_447 rfl rfl ?_
                            refine gw_iload dL_areColumnsSo_448 rfl rfl ?_
                            refine gw_iload_n dL_areColumnsSo_450 rfl rfl ?_
                            refine gw_isubZ dL_areColumnsSo_451 rfl ?_
                            obtain ⟨v53, c54, e_c54, H⟩ := cn_i H
                            refine gw_V1 oknX8_dualDenominatorByEquations dL_areColumnsSo_452 kw_805 kw_806 kw_807 (hp_o (h0.1)) rfl ⟨by decide, by decide⟩ ⟨by decide, by decide⟩ (Nat.le_of_ble_eq_true rfl) (n_X8_dualDenominatorByEquations (h0) e_c54 rfl ?_)
                            refine gw_aload_n dL_areColumnsSo_455 rfl rfl ?_
                            refine gw_iload dL_areColumnsSo_456 rfl rfl ?_
                            obtain ⟨v55, c56, e_c56, H⟩ := cn_i H
                            refine gw_V1 oknX8_reducedDenominator dL_areColumnsSo_458 kw_771 kw_772 kw_773 (hp_o (h0.1)) rfl ⟨by decide, by decide⟩ ⟨by decide, by decide⟩ (Nat.le_of_ble_eq_true rfl) (n_X8_reducedDenominator (h0) e_c56 rfl ?_)
                            obtain ⟨g, H⟩ := gd_i H
                            refine gw_lc_neZ (tgt := 469) dL_areColumnsSo_461 rfl dL_areColumnsSo_462 rfl (by decide) g.1 g.2 (fun q => ?_) (fun q => ?_)
                            · have H := bq_f q H
                              refine gw_iconstZ dL_areColumnsSo_469 rfl ?_
                              refine gw_istore_n dL_areColumnsSo_470 rfl (by decide) ?_
                              refine gw_iincZ dL_areColumnsSo_471 rfl rfl (by decide) ?_
                              refine gw_goto (tgt := 21) dL_areColumnsSo_474 (by decide) ?_
                              exact gw_L (ih _ _ _ _ _ H) ((lvA_c rfl (lvA_c rfl (lvA_c rfl (lvA_c rfl (lvA_c rfl (lvA_c rfl (lvA_c rfl lvA_n))))))))
                            · have H := bq_t q H
                              exact gw_L (hJ_k43 _ H) ((lvA_c rfl (lvA_c rfl (lvA_c rfl (lvA_c rfl (lvA_c rfl (lvA_c rfl lvA_n)))))))
                  refine gw_if_geZ (tgt := 393) dL_areColumnsSo_379 rfl (by decide) g (fun q => ?_) (fun q => ?_)
                  · have H := bq_t q H
                    exact gw_L (hJ_k41 _ H) ((lvA_c rfl (lvA_c rfl (lvA_c rfl (lvA_c rfl (lvA_c rfl (lvA_c rfl (lvA_c rfl lvA_n))))))))
                  · have H := bq_f q H
                    refine gw_aload_n dL_areColumnsSo_382 rfl rfl ?_
                    refine gw_iload dL_areColumnsSo_383 rfl rfl ?_
                    obtain ⟨v57, c58, e_c58, H⟩ := cn_i H
                    refine gw_V1 oknX8_givenNumerator dL_areColumnsSo_385 kw_704 kw_705 kw_706 (hp_o (h0.1)) rfl ⟨by decide, by decide⟩ ⟨by decide, by decide⟩ (Nat.le_of_ble_eq_true rfl) (n_X8_givenNumerator (h0) e_c58 rfl ?_)
                    refine gw_lconst0Z dL_areColumnsSo_388 rfl ?_
                    obtain ⟨g, H⟩ := gd_i H
                    refine gw_lc_neZ (tgt := 469) dL_areColumnsSo_389 rfl dL_areColumnsSo_390 rfl (by decide) g (by decide) (fun q => ?_) (fun q => ?_)
                    · have H := bq_f q H
                      refine gw_iconstZ dL_areColumnsSo_469 rfl ?_
                      refine gw_istore_n dL_areColumnsSo_470 rfl (by decide) ?_
                      refine gw_iincZ dL_areColumnsSo_471 rfl rfl (by decide) ?_
                      refine gw_goto (tgt := 21) dL_areColumnsSo_474 (by decide) ?_
                      exact gw_L (ih _ _ _ _ _ H) ((lvA_c rfl (lvA_c rfl (lvA_c rfl (lvA_c rfl (lvA_c rfl (lvA_c rfl (lvA_c rfl lvA_n))))))))
                    · have H := bq_t q H
                      exact gw_L (hJ_k41 _ H) ((lvA_c rfl (lvA_c rfl (lvA_c rfl (lvA_c rfl (lvA_c rfl (lvA_c rfl (lvA_c rfl lvA_n))))))))
              refine gw_if_ltZ (tgt := 373) dL_areColumnsSo_366 rfl (by decide) g (fun q => ?_) (fun q => ?_)
              · have H := bq_t q H
                refine gw_iconstZ dL_areColumnsSo_373 rfl ?_
                exact gw_L (hJ_k39 _ H) ((lvA_c rfl (lvA_c rfl (lvA_c rfl (lvA_c rfl (lvA_c rfl (lvA_c rfl (lvA_c rfl (lvA_c rfl lvA_n)))))))))
              · have H := bq_f q H
                refine gw_iconstZ dL_areColumnsSo_369 rfl ?_
                refine gw_goto (tgt := 374) dL_areColumnsSo_370 (by decide) ?_
                exact gw_L (hJ_k39 _ H) ((lvA_c rfl (lvA_c rfl (lvA_c rfl (lvA_c rfl (lvA_c rfl (lvA_c rfl (lvA_c rfl (lvA_c rfl lvA_n)))))))))
          refine gw_lc_leZ (tgt := 351) dL_areColumnsSo_338 rfl dL_areColumnsSo_339 rfl (by decide) g (by decide) (fun q => ?_) (fun q => ?_)
          · have H := bq_t q H
            exact gw_L (hJ_k35 _ H) ((lvA_c rfl (lvA_c rfl (lvA_c rfl (lvA_c rfl (lvA_c rfl (lvA_c rfl (lvA_c rfl (lvA_c rfl lvA_n)))))))))
          · have H := bq_f q H
            refine gw_iload dL_areColumnsSo_342 rfl rfl ?_
            obtain ⟨g, H⟩ := gd_i H
            refine gw_if_neZ (tgt := 351) dL_areColumnsSo_344 rfl (by decide) g (fun q => ?_) (fun q => ?_)
            · have H := bq_f q H
              exact gw_L (hJ_k35 _ H) ((lvA_c rfl (lvA_c rfl (lvA_c rfl (lvA_c rfl (lvA_c rfl (lvA_c rfl (lvA_c rfl (lvA_c rfl lvA_n)))))))))
            · have H := bq_t q H
              exact gw_L (hJ_k11 _ H) ((lvA_c rfl (lvA_c rfl (lvA_c rfl (lvA_c rfl (lvA_c rfl (lvA_c rfl (lvA_c rfl (lvA_c rfl lvA_n)))))))))
      refine gw_if_eqZ (tgt := 327) dL_areColumnsSo_313 rfl (by decide) g (fun q => ?_) (fun q => ?_)
      · have H := bq_t q H
        exact gw_L (hJ_k9 _ H) ((lvA_c rfl (lvA_c rfl (lvA_c rfl (lvA_c rfl (lvA_c rfl (lvA_c rfl (lvA_c rfl (lvA_c rfl (lvA_c rfl lvA_n))))))))))
      · have H := bq_f q H
        refine gw_lload dL_areColumnsSo_316 rfl rfl ?_
        refine gw_lconst0Z dL_areColumnsSo_318 rfl ?_
        obtain ⟨g, H⟩ := gd_i H
        refine gw_lc_gtZ (tgt := 327) dL_areColumnsSo_319 rfl dL_areColumnsSo_320 rfl (by decide) g (by decide) (fun q => ?_) (fun q => ?_)
        · have H := bq_t q H
          exact gw_L (hJ_k9 _ H) ((lvA_c rfl (lvA_c rfl (lvA_c rfl (lvA_c rfl (lvA_c rfl (lvA_c rfl (lvA_c rfl (lvA_c rfl (lvA_c rfl lvA_n))))))))))
        · have H := bq_f q H
          refine gw_iconstZ dL_areColumnsSo_323 rfl ?_
          refine gw_goto (tgt := 328) dL_areColumnsSo_324 (by decide) ?_
          refine gw_istore dL_areColumnsSo_328 rfl (by decide) ?_
          refine gw_iload dL_areColumnsSo_330 rfl rfl ?_
          obtain ⟨g, H⟩ := gd_i H
          obtain ⟨k59, e_k59, H⟩ := jn_i H
          have hJ_k59 : ∀ (u60 : Unit), k59 u60 = some r → G Φ nL_areColumnsSo (gw_M Φ nL_areColumnsSo K) none 0 0 347 [(0, .ref (M + p1)), (1, vI l1), (2, vI l2), (3, vI v7), (4, vI 1), (6, vI l6), (7, vI v4), (9, vL v1)] [] (hp Φ hb M sh c8) := by
            intro u60 H
            subst e_k59
            refine gw_iconstZ dL_areColumnsSo_347 rfl ?_
            refine gw_goto (tgt := 352) dL_areColumnsSo_348 (by decide) ?_
            refine gw_istore dL_areColumnsSo_352 rfl (by decide) ?_
            refine gw_iload_n dL_areColumnsSo_354 rfl rfl ?_
            obtain ⟨g, H⟩ := gd_i H
            refine gw_if_eqZ (tgt := 469) dL_areColumnsSo_355 rfl (by decide) g (fun q => ?_) (fun q => ?_)
            · have H := bq_t q H
              refine gw_iconstZ dL_areColumnsSo_469 rfl ?_
              refine gw_istore_n dL_areColumnsSo_470 rfl (by decide) ?_
              refine gw_iincZ dL_areColumnsSo_471 rfl rfl (by decide) ?_
              refine gw_goto (tgt := 21) dL_areColumnsSo_474 (by decide) ?_
              exact gw_L (ih _ _ _ _ _ H) ((lvA_c rfl (lvA_c rfl (lvA_c rfl (lvA_c rfl (lvA_c rfl (lvA_c rfl (lvA_c rfl lvA_n))))))))
            · have H := bq_f q H
              refine gw_aload_n dL_areColumnsSo_358 rfl rfl ?_
              refine gw_iload dL_areColumnsSo_359 rfl rfl ?_
              obtain ⟨v61, c62, e_c62, H⟩ := cn_i H
              refine gw_V1 oknX8_isNamed dL_areColumnsSo_361 kw_753 kw_754 kw_755 (hp_o (h0.1)) rfl ⟨by decide, by decide⟩ ⟨by decide, by decide⟩ (Nat.le_of_ble_eq_true rfl) (n_X8_isNamed (h0) e_c62 rfl ?_)
              refine gw_iload dL_areColumnsSo_364 rfl rfl ?_
              obtain ⟨g, H⟩ := gd_i H
              obtain ⟨k63, e_k63, H⟩ := jn_i H
              have hJ_k63 : ∀ (v64 : Int), k63 v64 = some r → G Φ nL_areColumnsSo (gw_M Φ nL_areColumnsSo K) none 0 0 374 [(0, .ref (M + p1)), (1, vI l1), (2, vI l2), (4, vI 1), (5, vI 1), (6, vI l6), (7, vI v4), (9, vL v1)] [vI v64, vI v61] (hp Φ hb M sh c62) := by
                intro v64 H
                subst e_k63
                obtain ⟨g, H⟩ := gd_i H
                refine gw_icmp_neZ (tgt := 469) dL_areColumnsSo_374 rfl (by decide) g.1 g.2 (fun q => ?_) (fun q => ?_)
                · have H := bq_f q H
                  refine gw_iconstZ dL_areColumnsSo_469 rfl ?_
                  refine gw_istore_n dL_areColumnsSo_470 rfl (by decide) ?_
                  refine gw_iincZ dL_areColumnsSo_471 rfl rfl (by decide) ?_
                  refine gw_goto (tgt := 21) dL_areColumnsSo_474 (by decide) ?_
                  exact gw_L (ih _ _ _ _ _ H) ((lvA_c rfl (lvA_c rfl (lvA_c rfl (lvA_c rfl (lvA_c rfl (lvA_c rfl (lvA_c rfl lvA_n))))))))
                · have H := bq_t q H
                  refine gw_iload dL_areColumnsSo_377 rfl rfl ?_
                  obtain ⟨g, H⟩ := gd_i H
                  obtain ⟨k65, e_k65, H⟩ := jn_i H
                  have hJ_k65 : ∀ (c66 : W0), k65 c66 = some r → G Φ nL_areColumnsSo (gw_M Φ nL_areColumnsSo K) none 0 0 393 [(0, .ref (M + p1)), (1, vI l1), (2, vI l2), (4, vI 1), (5, vI 1), (6, vI l6), (9, vL v1)] [] (hp Φ hb M sh c66) := by
                    intro c66 H
                    subst e_k65
                    refine gw_iload dL_areColumnsSo_393 rfl rfl ?_
                    refine gw_iload_n dL_areColumnsSo_395 rfl rfl ?_
                    obtain ⟨g, H⟩ := gd_i H
                    obtain ⟨k67, e_k67, H⟩ := jn_i H
                    have hJ_k67 : ∀ (c68 : W0), k67 c68 = some r → G Φ nL_areColumnsSo (gw_M Φ nL_areColumnsSo K) none 0 0 465 [(0, .ref (M + p1)), (1, vI l1), (2, vI l2), (4, vI 1), (5, vI 1), (6, vI l6)] [] (hp Φ hb M sh c68) := by
                      intro c68 H
                      subst e_k67
                      refine gw_iconstZ dL_areColumnsSo_465 rfl ?_
                      refine gw_goto (tgt := 470) dL_areColumnsSo_466 (by decide) ?_
                      refine gw_istore_n dL_areColumnsSo_470 rfl (by decide) ?_
                      refine gw_iincZ dL_areColumnsSo_471 rfl rfl (by decide) ?_
                      refine gw_goto (tgt := 21) dL_areColumnsSo_474 (by decide) ?_
                      exact gw_L (ih _ _ _ _ _ H) ((lvA_c rfl (lvA_c rfl (lvA_c rfl (lvA_c rfl (lvA_c rfl (lvA_c rfl (lvA_c rfl lvA_n))))))))
                    refine gw_icmp_ltZ (tgt := 465) dL_areColumnsSo_396 rfl (by decide) g.1 g.2 (fun q => ?_) (fun q => ?_)
                    · have H := bq_t q H
                      exact gw_L (hJ_k67 _ H) ((lvA_c rfl (lvA_c rfl (lvA_c rfl (lvA_c rfl (lvA_c rfl (lvA_c rfl lvA_n)))))))
                    · have H := bq_f q H
                      refine gw_aload_n dL_areColumnsSo_399 rfl rfl ?_
                      refine gw_iload dL_areColumnsSo_400 rfl rfl ?_
                      refine gw_iload_n dL_areColumnsSo_402 rfl rfl ?_
                      refine gw_isubZ dL_areColumnsSo_403 rfl ?_
                      obtain ⟨v69, c70, e_c70, H⟩ := cn_i H
                      refine gw_V1 oknX8_dualNumerator dL_areColumnsSo_404 kw_758 kw_759 kw_760 (hp_o (h0.1)) rfl ⟨by decide, by decide⟩ ⟨by decide, by decide⟩ (Nat.le_of_ble_eq_true rfl) (n_X8_dualNumerator (h0) e_c70 rfl ?_)
                      refine gw_lload dL_areColumnsSo_407 rfl rfl ?_
                      refine gw_lnegZ dL_areColumnsSo_409 rfl ?_
                      obtain ⟨g, H⟩ := gd_i H
                      refine gw_lc_neZ (tgt := 469) dL_areColumnsSo_410 rfl dL_areColumnsSo_411 rfl (by decide) g.1 g.2 (fun q => ?_) (fun q => ?_)
                      · have H := bq_f q H
                        refine gw_iconstZ dL_areColumnsSo_469 rfl ?_
                        refine gw_istore_n dL_areColumnsSo_470 rfl (by decide) ?_
                        refine gw_iincZ dL_areColumnsSo_471 rfl rfl (by decide) ?_
                        refine gw_goto (tgt := 21) dL_areColumnsSo_474 (by decide) ?_
                        exact gw_L (ih _ _ _ _ _ H) ((lvA_c rfl (lvA_c rfl (lvA_c rfl (lvA_c rfl (lvA_c rfl (lvA_c rfl (lvA_c rfl lvA_n))))))))
                      · have H := bq_t q H
                        refine gw_aload_n dL_areColumnsSo_414 rfl rfl ?_
                        refine gw_iload dL_areColumnsSo_415 rfl rfl ?_
                        refine gw_iload_n dL_areColumnsSo_417 rfl rfl ?_
                        refine gw_isubZ dL_areColumnsSo_418 rfl ?_
                        obtain ⟨v71, c72, e_c72, H⟩ := cn_i H
                        refine gw_V1 oknX8_dualDenominator dL_areColumnsSo_419 kw_767 kw_768 kw_769 (hp_o (h0.1)) rfl ⟨by decide, by decide⟩ ⟨by decide, by decide⟩ (Nat.le_of_ble_eq_true rfl) (n_X8_dualDenominator (h0) e_c72 rfl ?_)
                        refine gw_aload_n dL_areColumnsSo_422 rfl rfl ?_
                        refine gw_iload dL_areColumnsSo_423 rfl rfl ?_
                        obtain ⟨v73, c74, e_c74, H⟩ := cn_i H
                        refine gw_V1 oknX8_reducedDenominator dL_areColumnsSo_425 kw_771 kw_772 kw_773 (hp_o (h0.1)) rfl ⟨by decide, by decide⟩ ⟨by decide, by decide⟩ (Nat.le_of_ble_eq_true rfl) (n_X8_reducedDenominator (h0) e_c74 rfl ?_)
                        obtain ⟨g, H⟩ := gd_i H
                        refine gw_lc_neZ (tgt := 469) dL_areColumnsSo_428 rfl dL_areColumnsSo_429 rfl (by decide) g.1 g.2 (fun q => ?_) (fun q => ?_)
                        · have H := bq_f q H
                          refine gw_iconstZ dL_areColumnsSo_469 rfl ?_
                          refine gw_istore_n dL_areColumnsSo_470 rfl (by decide) ?_
                          refine gw_iincZ dL_areColumnsSo_471 rfl rfl (by decide) ?_
                          refine gw_goto (tgt := 21) dL_areColumnsSo_474 (by decide) ?_
                          exact gw_L (ih _ _ _ _ _ H) ((lvA_c rfl (lvA_c rfl (lvA_c rfl (lvA_c rfl (lvA_c rfl (lvA_c rfl (lvA_c rfl lvA_n))))))))
                        · have H := bq_t q H
                          refine gw_aload_n dL_areColumnsSo_432 rfl rfl ?_
                          refine gw_iload dL_areColumnsSo_433 rfl rfl ?_
                          refine gw_iload_n dL_areColumnsSo_435 rfl rfl ?_
                          refine gw_isubZ dL_areColumnsSo_436 rfl ?_
                          obtain ⟨v75, c76, e_c76, H⟩ := cn_i H
                          refine gw_V1 oknX8_dualNumeratorByEquations dL_areColumnsSo_437 kw_775 kw_776 kw_777 (hp_o (h0.1)) rfl ⟨by decide, by decide⟩ ⟨by decide, by decide⟩ (Nat.le_of_ble_eq_true rfl) (n_X8_dualNumeratorByEquations (h0) e_c76 rfl ?_)
                          refine gw_lload dL_areColumnsSo_440 rfl rfl ?_
                          refine gw_lnegZ dL_areColumnsSo_442 rfl ?_
                          obtain ⟨g, H⟩ := gd_i H
                          refine gw_lc_neZ (tgt := 469) dL_areColumnsSo_443 rfl dL_areColumnsSo_444 rfl (by decide) g.1 g.2 (fun q => ?_) (fun q => ?_)
                          · have H := bq_f q H
                            refine gw_iconstZ dL_areColumnsSo_469 rfl ?_
                            refine gw_istore_n dL_areColumnsSo_470 rfl (by decide) ?_
                            refine gw_iincZ dL_areColumnsSo_471 rfl rfl (by decide) ?_
                            refine gw_goto (tgt := 21) dL_areColumnsSo_474 (by decide) ?_
                            exact gw_L (ih _ _ _ _ _ H) ((lvA_c rfl (lvA_c rfl (lvA_c rfl (lvA_c rfl (lvA_c rfl (lvA_c rfl (lvA_c rfl lvA_n))))))))
                          · have H := bq_t q H
                            refine gw_aload_n dL_areColumnsSo_447 rfl rfl ?_
                            refine gw_iload dL_areColumnsSo_448 rfl rfl ?_
                            refine gw_iload_n dL_areColumnsSo_450 rfl rfl ?_
                            refine gw_isubZ dL_areColumnsSo_451 rfl ?_
                            obtain ⟨v77, c78, e_c78, H⟩ := cn_i H
                            refine gw_V1 oknX8_dualDenominatorByEquations dL_areColumnsSo_452 kw_805 kw_806 kw_807 (hp_o (h0.1)) rfl ⟨by decide, by decide⟩ ⟨by decide, by decide⟩ (Nat.le_of_ble_eq_true rfl) (n_X8_dualDenominatorByEquations (h0) e_c78 rfl ?_)
                            refine gw_aload_n dL_areColumnsSo_455 rfl rfl ?_
                            refine gw_iload dL_areColumnsSo_456 rfl rfl ?_
                            obtain ⟨v79, c80, e_c80, H⟩ := cn_i H
                            refine gw_V1 oknX8_reducedDenominator dL_areColumnsSo_458 kw_771 kw_772 kw_773 (hp_o (h0.1)) rfl ⟨by decide, by decide⟩ ⟨by decide, by decide⟩ (Nat.le_of_ble_eq_true rfl) (n_X8_reducedDenominator (h0) e_c80 rfl ?_)
                            obtain ⟨g, H⟩ := gd_i H
                            refine gw_lc_neZ (tgt := 469) dL_areColumnsSo_461 rfl dL_areColumnsSo_462 rfl (by decide) g.1 g.2 (fun q => ?_) (fun q => ?_)
                            · have H := bq_f q H
                              refine gw_iconstZ dL_areColumnsSo_469 rfl ?_
                              refine gw_istore_n dL_areColumnsSo_470 rfl (by decide) ?_
                              refine gw_iincZ dL_areColumnsSo_471 rfl rfl (by decide) ?_
                              refine gw_goto (tgt := 21) dL_areColumnsSo_474 (by decide) ?_
                              exact gw_L (ih _ _ _ _ _ H) ((lvA_c rfl (lvA_c rfl (lvA_c rfl (lvA_c rfl (lvA_c rfl (lvA_c rfl (lvA_c rfl lvA_n))))))))
                            · have H := bq_t q H
                              exact gw_L (hJ_k67 _ H) ((lvA_c rfl (lvA_c rfl (lvA_c rfl (lvA_c rfl (lvA_c rfl (lvA_c rfl lvA_n)))))))
                  refine gw_if_geZ (tgt := 393) dL_areColumnsSo_379 rfl (by decide) g (fun q => ?_) (fun q => ?_)
                  · have H := bq_t q H
                    exact gw_L (hJ_k65 _ H) ((lvA_c rfl (lvA_c rfl (lvA_c rfl (lvA_c rfl (lvA_c rfl (lvA_c rfl (lvA_c rfl lvA_n))))))))
                  · have H := bq_f q H
                    refine gw_aload_n dL_areColumnsSo_382 rfl rfl ?_
                    refine gw_iload dL_areColumnsSo_383 rfl rfl ?_
                    obtain ⟨v81, c82, e_c82, H⟩ := cn_i H
                    refine gw_V1 oknX8_givenNumerator dL_areColumnsSo_385 kw_704 kw_705 kw_706 (hp_o (h0.1)) rfl ⟨by decide, by decide⟩ ⟨by decide, by decide⟩ (Nat.le_of_ble_eq_true rfl) (n_X8_givenNumerator (h0) e_c82 rfl ?_)
                    refine gw_lconst0Z dL_areColumnsSo_388 rfl ?_
                    obtain ⟨g, H⟩ := gd_i H
                    refine gw_lc_neZ (tgt := 469) dL_areColumnsSo_389 rfl dL_areColumnsSo_390 rfl (by decide) g (by decide) (fun q => ?_) (fun q => ?_)
                    · have H := bq_f q H
                      refine gw_iconstZ dL_areColumnsSo_469 rfl ?_
                      refine gw_istore_n dL_areColumnsSo_470 rfl (by decide) ?_
                      refine gw_iincZ dL_areColumnsSo_471 rfl rfl (by decide) ?_
                      refine gw_goto (tgt := 21) dL_areColumnsSo_474 (by decide) ?_
                      exact gw_L (ih _ _ _ _ _ H) ((lvA_c rfl (lvA_c rfl (lvA_c rfl (lvA_c rfl (lvA_c rfl (lvA_c rfl (lvA_c rfl lvA_n))))))))
                    · have H := bq_t q H
                      exact gw_L (hJ_k65 _ H) ((lvA_c rfl (lvA_c rfl (lvA_c rfl (lvA_c rfl (lvA_c rfl (lvA_c rfl (lvA_c rfl lvA_n))))))))
              refine gw_if_ltZ (tgt := 373) dL_areColumnsSo_366 rfl (by decide) g (fun q => ?_) (fun q => ?_)
              · have H := bq_t q H
                refine gw_iconstZ dL_areColumnsSo_373 rfl ?_
                exact gw_L (hJ_k63 _ H) ((lvA_c rfl (lvA_c rfl (lvA_c rfl (lvA_c rfl (lvA_c rfl (lvA_c rfl (lvA_c rfl (lvA_c rfl lvA_n)))))))))
              · have H := bq_f q H
                refine gw_iconstZ dL_areColumnsSo_369 rfl ?_
                refine gw_goto (tgt := 374) dL_areColumnsSo_370 (by decide) ?_
                exact gw_L (hJ_k63 _ H) ((lvA_c rfl (lvA_c rfl (lvA_c rfl (lvA_c rfl (lvA_c rfl (lvA_c rfl (lvA_c rfl (lvA_c rfl lvA_n)))))))))
          refine gw_if_neZ (tgt := 347) dL_areColumnsSo_332 rfl (by decide) g (fun q => ?_) (fun q => ?_)
          · have H := bq_f q H
            exact gw_L (hJ_k59 _ H) ((lvA_c rfl (lvA_c rfl (lvA_c rfl (lvA_c rfl (lvA_c rfl (lvA_c rfl (lvA_c rfl (lvA_c rfl lvA_n)))))))))
          · have H := bq_t q H
            refine gw_lload dL_areColumnsSo_335 rfl rfl ?_
            refine gw_lconst0Z dL_areColumnsSo_337 rfl ?_
            obtain ⟨g, H⟩ := gd_i H
            obtain ⟨k83, e_k83, H⟩ := jn_i H
            have hJ_k83 : ∀ (u84 : Unit), k83 u84 = some r → G Φ nL_areColumnsSo (gw_M Φ nL_areColumnsSo K) none 0 0 351 [(0, .ref (M + p1)), (1, vI l1), (2, vI l2), (3, vI v7), (4, vI 1), (6, vI l6), (7, vI v4), (9, vL v1)] [] (hp Φ hb M sh c8) := by
              intro u84 H
              subst e_k83
              refine gw_iconstZ dL_areColumnsSo_351 rfl ?_
              refine gw_istore dL_areColumnsSo_352 rfl (by decide) ?_
              refine gw_iload_n dL_areColumnsSo_354 rfl rfl ?_
              obtain ⟨g, H⟩ := gd_i H
              refine gw_if_eqZ (tgt := 469) dL_areColumnsSo_355 rfl (by decide) g (fun q => ?_) (fun q => ?_)
              · have H := bq_t q H
                refine gw_iconstZ dL_areColumnsSo_469 rfl ?_
                refine gw_istore_n dL_areColumnsSo_470 rfl (by decide) ?_
                refine gw_iincZ dL_areColumnsSo_471 rfl rfl (by decide) ?_
                refine gw_goto (tgt := 21) dL_areColumnsSo_474 (by decide) ?_
                exact gw_L (ih _ _ _ _ _ H) ((lvA_c rfl (lvA_c rfl (lvA_c rfl (lvA_c rfl (lvA_c rfl (lvA_c rfl (lvA_c rfl lvA_n))))))))
              · have H := bq_f q H
                refine gw_aload_n dL_areColumnsSo_358 rfl rfl ?_
                refine gw_iload dL_areColumnsSo_359 rfl rfl ?_
                obtain ⟨v85, c86, e_c86, H⟩ := cn_i H
                refine gw_V1 oknX8_isNamed dL_areColumnsSo_361 kw_753 kw_754 kw_755 (hp_o (h0.1)) rfl ⟨by decide, by decide⟩ ⟨by decide, by decide⟩ (Nat.le_of_ble_eq_true rfl) (n_X8_isNamed (h0) e_c86 rfl ?_)
                refine gw_iload dL_areColumnsSo_364 rfl rfl ?_
                obtain ⟨g, H⟩ := gd_i H
                obtain ⟨k87, e_k87, H⟩ := jn_i H
                have hJ_k87 : ∀ (v88 : Int), k87 v88 = some r → G Φ nL_areColumnsSo (gw_M Φ nL_areColumnsSo K) none 0 0 374 [(0, .ref (M + p1)), (1, vI l1), (2, vI l2), (4, vI 1), (5, vI 0), (6, vI l6), (7, vI v4), (9, vL v1)] [vI v88, vI v85] (hp Φ hb M sh c86) := by
                  intro v88 H
                  subst e_k87
                  obtain ⟨g, H⟩ := gd_i H
                  refine gw_icmp_neZ (tgt := 469) dL_areColumnsSo_374 rfl (by decide) g.1 g.2 (fun q => ?_) (fun q => ?_)
                  · have H := bq_f q H
                    refine gw_iconstZ dL_areColumnsSo_469 rfl ?_
                    refine gw_istore_n dL_areColumnsSo_470 rfl (by decide) ?_
                    refine gw_iincZ dL_areColumnsSo_471 rfl rfl (by decide) ?_
                    refine gw_goto (tgt := 21) dL_areColumnsSo_474 (by decide) ?_
                    exact gw_L (ih _ _ _ _ _ H) ((lvA_c rfl (lvA_c rfl (lvA_c rfl (lvA_c rfl (lvA_c rfl (lvA_c rfl (lvA_c rfl lvA_n))))))))
                  · have H := bq_t q H
                    refine gw_iload dL_areColumnsSo_377 rfl rfl ?_
                    obtain ⟨g, H⟩ := gd_i H
                    obtain ⟨k89, e_k89, H⟩ := jn_i H
                    have hJ_k89 : ∀ (c90 : W0), k89 c90 = some r → G Φ nL_areColumnsSo (gw_M Φ nL_areColumnsSo K) none 0 0 393 [(0, .ref (M + p1)), (1, vI l1), (2, vI l2), (4, vI 1), (5, vI 0), (6, vI l6), (9, vL v1)] [] (hp Φ hb M sh c90) := by
                      intro c90 H
                      subst e_k89
                      refine gw_iload dL_areColumnsSo_393 rfl rfl ?_
                      refine gw_iload_n dL_areColumnsSo_395 rfl rfl ?_
                      obtain ⟨g, H⟩ := gd_i H
                      obtain ⟨k91, e_k91, H⟩ := jn_i H
                      have hJ_k91 : ∀ (c92 : W0), k91 c92 = some r → G Φ nL_areColumnsSo (gw_M Φ nL_areColumnsSo K) none 0 0 465 [(0, .ref (M + p1)), (1, vI l1), (2, vI l2), (4, vI 1), (5, vI 0), (6, vI l6)] [] (hp Φ hb M sh c92) := by
                        intro c92 H
                        subst e_k91
                        refine gw_iconstZ dL_areColumnsSo_465 rfl ?_
                        refine gw_goto (tgt := 470) dL_areColumnsSo_466 (by decide) ?_
                        refine gw_istore_n dL_areColumnsSo_470 rfl (by decide) ?_
                        refine gw_iincZ dL_areColumnsSo_471 rfl rfl (by decide) ?_
                        refine gw_goto (tgt := 21) dL_areColumnsSo_474 (by decide) ?_
                        exact gw_L (ih _ _ _ _ _ H) ((lvA_c rfl (lvA_c rfl (lvA_c rfl (lvA_c rfl (lvA_c rfl (lvA_c rfl (lvA_c rfl lvA_n))))))))
                      refine gw_icmp_ltZ (tgt := 465) dL_areColumnsSo_396 rfl (by decide) g.1 g.2 (fun q => ?_) (fun q => ?_)
                      · have H := bq_t q H
                        exact gw_L (hJ_k91 _ H) ((lvA_c rfl (lvA_c rfl (lvA_c rfl (lvA_c rfl (lvA_c rfl (lvA_c rfl lvA_n)))))))
                      · have H := bq_f q H
                        refine gw_aload_n dL_areColumnsSo_399 rfl rfl ?_
                        refine gw_iload dL_areColumnsSo_400 rfl rfl ?_
                        refine gw_iload_n dL_areColumnsSo_402 rfl rfl ?_
                        refine gw_isubZ dL_areColumnsSo_403 rfl ?_
                        obtain ⟨v93, c94, e_c94, H⟩ := cn_i H
                        refine gw_V1 oknX8_dualNumerator dL_areColumnsSo_404 kw_758 kw_759 kw_760 (hp_o (h0.1)) rfl ⟨by decide, by decide⟩ ⟨by decide, by decide⟩ (Nat.le_of_ble_eq_true rfl) (n_X8_dualNumerator (h0) e_c94 rfl ?_)
                        refine gw_lload dL_areColumnsSo_407 rfl rfl ?_
                        refine gw_lnegZ dL_areColumnsSo_409 rfl ?_
                        obtain ⟨g, H⟩ := gd_i H
                        refine gw_lc_neZ (tgt := 469) dL_areColumnsSo_410 rfl dL_areColumnsSo_411 rfl (by decide) g.1 g.2 (fun q => ?_) (fun q => ?_)
                        · have H := bq_f q H
                          refine gw_iconstZ dL_areColumnsSo_469 rfl ?_
                          refine gw_istore_n dL_areColumnsSo_470 rfl (by decide) ?_
                          refine gw_iincZ dL_areColumnsSo_471 rfl rfl (by decide) ?_
                          refine gw_goto (tgt := 21) dL_areColumnsSo_474 (by decide) ?_
                          exact gw_L (ih _ _ _ _ _ H) ((lvA_c rfl (lvA_c rfl (lvA_c rfl (lvA_c rfl (lvA_c rfl (lvA_c rfl (lvA_c rfl lvA_n))))))))
                        · have H := bq_t q H
                          refine gw_aload_n dL_areColumnsSo_414 rfl rfl ?_
                          refine gw_iload dL_areColumnsSo_415 rfl rfl ?_
                          refine gw_iload_n dL_areColumnsSo_417 rfl rfl ?_
                          refine gw_isubZ dL_areColumnsSo_418 rfl ?_
                          obtain ⟨v95, c96, e_c96, H⟩ := cn_i H
                          refine gw_V1 oknX8_dualDenominator dL_areColumnsSo_419 kw_767 kw_768 kw_769 (hp_o (h0.1)) rfl ⟨by decide, by decide⟩ ⟨by decide, by decide⟩ (Nat.le_of_ble_eq_true rfl) (n_X8_dualDenominator (h0) e_c96 rfl ?_)
                          refine gw_aload_n dL_areColumnsSo_422 rfl rfl ?_
                          refine gw_iload dL_areColumnsSo_423 rfl rfl ?_
                          obtain ⟨v97, c98, e_c98, H⟩ := cn_i H
                          refine gw_V1 oknX8_reducedDenominator dL_areColumnsSo_425 kw_771 kw_772 kw_773 (hp_o (h0.1)) rfl ⟨by decide, by decide⟩ ⟨by decide, by decide⟩ (Nat.le_of_ble_eq_true rfl) (n_X8_reducedDenominator (h0) e_c98 rfl ?_)
                          obtain ⟨g, H⟩ := gd_i H
                          refine gw_lc_neZ (tgt := 469) dL_areColumnsSo_428 rfl dL_areColumnsSo_429 rfl (by decide) g.1 g.2 (fun q => ?_) (fun q => ?_)
                          · have H := bq_f q H
                            refine gw_iconstZ dL_areColumnsSo_469 rfl ?_
                            refine gw_istore_n dL_areColumnsSo_470 rfl (by decide) ?_
                            refine gw_iincZ dL_areColumnsSo_471 rfl rfl (by decide) ?_
                            refine gw_goto (tgt := 21) dL_areColumnsSo_474 (by decide) ?_
                            exact gw_L (ih _ _ _ _ _ H) ((lvA_c rfl (lvA_c rfl (lvA_c rfl (lvA_c rfl (lvA_c rfl (lvA_c rfl (lvA_c rfl lvA_n))))))))
                          · have H := bq_t q H
                            refine gw_aload_n dL_areColumnsSo_432 rfl rfl ?_
                            refine gw_iload dL_areColumnsSo_433 rfl rfl ?_
                            refine gw_iload_n dL_areColumnsSo_435 rfl rfl ?_
                            refine gw_isubZ dL_areColumnsSo_436 rfl ?_
                            obtain ⟨v99, c100, e_c100, H⟩ := cn_i H
                            refine gw_V1 oknX8_dualNumeratorByEquations dL_areColumnsSo_437 kw_775 kw_776 kw_777 (hp_o (h0.1)) rfl ⟨by decide, by decide⟩ ⟨by decide, by decide⟩ (Nat.le_of_ble_eq_true rfl) (n_X8_dualNumeratorByEquations (h0) e_c100 rfl ?_)
                            refine gw_lload dL_areColumnsSo_440 rfl rfl ?_
                            refine gw_lnegZ dL_areColumnsSo_442 rfl ?_
                            obtain ⟨g, H⟩ := gd_i H
                            refine gw_lc_neZ (tgt := 469) dL_areColumnsSo_443 rfl dL_areColumnsSo_444 rfl (by decide) g.1 g.2 (fun q => ?_) (fun q => ?_)
                            · have H := bq_f q H
                              refine gw_iconstZ dL_areColumnsSo_469 rfl ?_
                              refine gw_istore_n dL_areColumnsSo_470 rfl (by decide) ?_
                              refine gw_iincZ dL_areColumnsSo_471 rfl rfl (by decide) ?_
                              refine gw_goto (tgt := 21) dL_areColumnsSo_474 (by decide) ?_
                              exact gw_L (ih _ _ _ _ _ H) ((lvA_c rfl (lvA_c rfl (lvA_c rfl (lvA_c rfl (lvA_c rfl (lvA_c rfl (lvA_c rfl lvA_n))))))))
                            · have H := bq_t q H
                              refine gw_aload_n dL_areColumnsSo_447 rfl rfl ?_
                              refine gw_iload dL_areColumnsSo_448 rfl rfl ?_
                              refine gw_iload_n dL_areColumnsSo_450 rfl rfl ?_
                              refine gw_isubZ dL_areColumnsSo_451 rfl ?_
                              obtain ⟨v101, c102, e_c102, H⟩ := cn_i H
                              refine gw_V1 oknX8_dualDenominatorByEquations dL_areColumnsSo_452 kw_805 kw_806 kw_807 (hp_o (h0.1)) rfl ⟨by decide, by decide⟩ ⟨by decide, by decide⟩ (Nat.le_of_ble_eq_true rfl) (n_X8_dualDenominatorByEquations (h0) e_c102 rfl ?_)
                              refine gw_aload_n dL_areColumnsSo_455 rfl rfl ?_
                              refine gw_iload dL_areColumnsSo_456 rfl rfl ?_
                              obtain ⟨v103, c104, e_c104, H⟩ := cn_i H
                              refine gw_V1 oknX8_reducedDenominator dL_areColumnsSo_458 kw_771 kw_772 kw_773 (hp_o (h0.1)) rfl ⟨by decide, by decide⟩ ⟨by decide, by decide⟩ (Nat.le_of_ble_eq_true rfl) (n_X8_reducedDenominator (h0) e_c104 rfl ?_)
                              obtain ⟨g, H⟩ := gd_i H
                              refine gw_lc_neZ (tgt := 469) dL_areColumnsSo_461 rfl dL_areColumnsSo_462 rfl (by decide) g.1 g.2 (fun q => ?_) (fun q => ?_)
                              · have H := bq_f q H
                                refine gw_iconstZ dL_areColumnsSo_469 rfl ?_
                                refine gw_istore_n dL_areColumnsSo_470 rfl (by decide) ?_
                                refine gw_iincZ dL_areColumnsSo_471 rfl rfl (by decide) ?_
                                refine gw_goto (tgt := 21) dL_areColumnsSo_474 (by decide) ?_
                                exact gw_L (ih _ _ _ _ _ H) ((lvA_c rfl (lvA_c rfl (lvA_c rfl (lvA_c rfl (lvA_c rfl (lvA_c rfl (lvA_c rfl lvA_n))))))))
                              · have H := bq_t q H
                                exact gw_L (hJ_k91 _ H) ((lvA_c rfl (lvA_c rfl (lvA_c rfl (lvA_c rfl (lvA_c rfl (lvA_c rfl lvA_n)))))))
                    refine gw_if_geZ (tgt := 393) dL_areColumnsSo_379 rfl (by decide) g (fun q => ?_) (fun q => ?_)
                    · have H := bq_t q H
                      exact gw_L (hJ_k89 _ H) ((lvA_c rfl (lvA_c rfl (lvA_c rfl (lvA_c rfl (lvA_c rfl (lvA_c rfl (lvA_c rfl lvA_n))))))))
                    · have H := bq_f q H
                      refine gw_aload_n dL_areColumnsSo_382 rfl rfl ?_
                      refine gw_iload dL_areColumnsSo_383 rfl rfl ?_
                      obtain ⟨v105, c106, e_c106, H⟩ := cn_i H
                      refine gw_V1 oknX8_givenNumerator dL_areColumnsSo_385 kw_704 kw_705 kw_706 (hp_o (h0.1)) rfl ⟨by decide, by decide⟩ ⟨by decide, by decide⟩ (Nat.le_of_ble_eq_true rfl) (n_X8_givenNumerator (h0) e_c106 rfl ?_)
                      refine gw_lconst0Z dL_areColumnsSo_388 rfl ?_
                      obtain ⟨g, H⟩ := gd_i H
                      refine gw_lc_neZ (tgt := 469) dL_areColumnsSo_389 rfl dL_areColumnsSo_390 rfl (by decide) g (by decide) (fun q => ?_) (fun q => ?_)
                      · have H := bq_f q H
                        refine gw_iconstZ dL_areColumnsSo_469 rfl ?_
                        refine gw_istore_n dL_areColumnsSo_470 rfl (by decide) ?_
                        refine gw_iincZ dL_areColumnsSo_471 rfl rfl (by decide) ?_
                        refine gw_goto (tgt := 21) dL_areColumnsSo_474 (by decide) ?_
                        exact gw_L (ih _ _ _ _ _ H) ((lvA_c rfl (lvA_c rfl (lvA_c rfl (lvA_c rfl (lvA_c rfl (lvA_c rfl (lvA_c rfl lvA_n))))))))
                      · have H := bq_t q H
                        exact gw_L (hJ_k89 _ H) ((lvA_c rfl (lvA_c rfl (lvA_c rfl (lvA_c rfl (lvA_c rfl (lvA_c rfl (lvA_c rfl lvA_n))))))))
                refine gw_if_ltZ (tgt := 373) dL_areColumnsSo_366 rfl (by decide) g (fun q => ?_) (fun q => ?_)
                · have H := bq_t q H
                  refine gw_iconstZ dL_areColumnsSo_373 rfl ?_
                  exact gw_L (hJ_k87 _ H) ((lvA_c rfl (lvA_c rfl (lvA_c rfl (lvA_c rfl (lvA_c rfl (lvA_c rfl (lvA_c rfl (lvA_c rfl lvA_n)))))))))
                · have H := bq_f q H
                  refine gw_iconstZ dL_areColumnsSo_369 rfl ?_
                  refine gw_goto (tgt := 374) dL_areColumnsSo_370 (by decide) ?_
                  exact gw_L (hJ_k87 _ H) ((lvA_c rfl (lvA_c rfl (lvA_c rfl (lvA_c rfl (lvA_c rfl (lvA_c rfl (lvA_c rfl (lvA_c rfl lvA_n)))))))))
            refine gw_lc_leZ (tgt := 351) dL_areColumnsSo_338 rfl dL_areColumnsSo_339 rfl (by decide) g (by decide) (fun q => ?_) (fun q => ?_)
            · have H := bq_t q H
              exact gw_L (hJ_k83 _ H) ((lvA_c rfl (lvA_c rfl (lvA_c rfl (lvA_c rfl (lvA_c rfl (lvA_c rfl (lvA_c rfl (lvA_c rfl lvA_n)))))))))
            · have H := bq_f q H
              refine gw_iload dL_areColumnsSo_342 rfl rfl ?_
              obtain ⟨g, H⟩ := gd_i H
              refine gw_if_neZ (tgt := 351) dL_areColumnsSo_344 rfl (by decide) g (fun q => ?_) (fun q => ?_)
              · have H := bq_f q H
                exact gw_L (hJ_k83 _ H) ((lvA_c rfl (lvA_c rfl (lvA_c rfl (lvA_c rfl (lvA_c rfl (lvA_c rfl (lvA_c rfl (lvA_c rfl lvA_n)))))))))
              · have H := bq_t q H
                exact gw_L (hJ_k59 _ H) ((lvA_c rfl (lvA_c rfl (lvA_c rfl (lvA_c rfl (lvA_c rfl (lvA_c rfl (lvA_c rfl (lvA_c rfl lvA_n)))))))))
set_option maxRecDepth 100000 in
set_option maxHeartbeats 4000000 in
theorem w_L_areColumnsSo {Φ : gwC} {hb : gwHp} {M : Nat} {sh : Nat → Option gSh} {p1 : Nat} {c : W0} {r : Int × W0} {K : Option Value → gwHp → Prop} (h0 : sD sh p1) (H : f_L_areColumnsSo p1 c = some r) (hK : K (some (vI r.1)) (hp Φ hb M sh r.2)) : gw_Con Φ nL_areColumnsSo none [.ref (M + p1)] (hp Φ hb M sh c) K := by
  unfold f_L_areColumnsSo at H
  refine gw_start oknL_areColumnsSo (Nat.le_of_ble_eq_true rfl) ?_
  refine gw_aload_n dL_areColumnsSo_0 rfl rfl ?_
  obtain ⟨v1, e_v1, H⟩ := cv_i H
  refine gw_V0 okX8_variables dL_areColumnsSo_1 kw_377 kw_378 kw_379 (hp_o (h0.1)) rfl ⟨by decide, by decide⟩ ⟨by decide, by decide⟩ (Nat.le_of_ble_eq_true rfl) (w_X8_variables (h0) e_v1 ?_)
  refine gw_istore_n dL_areColumnsSo_4 rfl (by decide) ?_
  refine gw_aload_n dL_areColumnsSo_5 rfl rfl ?_
  obtain ⟨v2, e_v2, H⟩ := cv_i H
  refine gw_V0 okX8_constraints dL_areColumnsSo_6 kw_373 kw_374 kw_375 (hp_o (h0.1)) rfl ⟨by decide, by decide⟩ ⟨by decide, by decide⟩ (Nat.le_of_ble_eq_true rfl) (w_X8_constraints (h0) e_v2 ?_)
  refine gw_istore_n dL_areColumnsSo_9 rfl (by decide) ?_
  refine gw_iconstZ dL_areColumnsSo_10 rfl ?_
  refine gw_istore_n dL_areColumnsSo_11 rfl (by decide) ?_
  refine gw_iconstZ dL_areColumnsSo_12 rfl ?_
  refine gw_istore dL_areColumnsSo_13 rfl (by decide) ?_
  refine gw_iconstZ dL_areColumnsSo_15 rfl ?_
  refine gw_istore dL_areColumnsSo_16 rfl (by decide) ?_
  refine gw_iconstZ dL_areColumnsSo_18 rfl ?_
  refine gw_istore dL_areColumnsSo_19 rfl (by decide) ?_
  refine gw_L (l_L_areColumnsSo_21 h0 hK (fun v3 v4 v5 c6 H => ?_) LF _ _ _ _ _ H) ((lvA_c rfl (lvA_c rfl (lvA_c rfl (lvA_c rfl (lvA_c rfl (lvA_c rfl (lvA_c rfl lvA_n))))))))
  refine gw_iload_n dL_areColumnsSo_477 rfl rfl ?_
  obtain ⟨g, H⟩ := gd_i H
  refine gw_if_eqZ (tgt := 527) dL_areColumnsSo_478 rfl (by decide) g (fun q => ?_) (fun q => ?_)
  · have H := bq_t q H
    refine gw_iconstZ dL_areColumnsSo_527 rfl ?_
    cases H
    exact gw_zret rfl dL_areColumnsSo_528 rfl (by decide) (by decide) hK
  · have H := bq_f q H
    refine gw_aload_n dL_areColumnsSo_481 rfl rfl ?_
    obtain ⟨v7, e_v7, H⟩ := cv_i H
    refine gw_V0 okX8_isOptimal dL_areColumnsSo_482 kw_809 kw_810 kw_811 (hp_o (h0.1)) rfl ⟨by decide, by decide⟩ ⟨by decide, by decide⟩ (Nat.le_of_ble_eq_true rfl) (w_X8_isOptimal (h0) e_v7 ?_)
    refine gw_iload dL_areColumnsSo_485 rfl rfl ?_
    obtain ⟨g, H⟩ := gd_i H
    refine gw_icmp_neZ (tgt := 527) dL_areColumnsSo_487 rfl (by decide) g.1 g.2 (fun q => ?_) (fun q => ?_)
    · have H := bq_f q H
      refine gw_iconstZ dL_areColumnsSo_527 rfl ?_
      cases H
      exact gw_zret rfl dL_areColumnsSo_528 rfl (by decide) (by decide) hK
    · have H := bq_t q H
      refine gw_aload_n dL_areColumnsSo_490 rfl rfl ?_
      obtain ⟨v8, e_v8, H⟩ := cv_i H
      refine gw_V0 okX8_hasRay dL_areColumnsSo_491 kw_814 kw_815 kw_816 (hp_o (h0.1)) rfl ⟨by decide, by decide⟩ ⟨by decide, by decide⟩ (Nat.le_of_ble_eq_true rfl) (w_X8_hasRay (h0) e_v8 ?_)
      refine gw_iload dL_areColumnsSo_494 rfl rfl ?_
      obtain ⟨g, H⟩ := gd_i H
      refine gw_icmp_neZ (tgt := 527) dL_areColumnsSo_496 rfl (by decide) g.1 g.2 (fun q => ?_) (fun q => ?_)
      · have H := bq_f q H
        refine gw_iconstZ dL_areColumnsSo_527 rfl ?_
        cases H
        exact gw_zret rfl dL_areColumnsSo_528 rfl (by decide) (by decide) hK
      · have H := bq_t q H
        refine gw_aload_n dL_areColumnsSo_499 rfl rfl ?_
        obtain ⟨v9, e_v9, H⟩ := cv_i H
        refine gw_V0 okX8_dualValueNumerator dL_areColumnsSo_500 kw_819 kw_820 kw_821 (hp_o (h0.1)) rfl ⟨by decide, by decide⟩ ⟨by decide, by decide⟩ (Nat.le_of_ble_eq_true rfl) (w_X8_dualValueNumerator (h0) e_v9 ?_)
        refine gw_aload_n dL_areColumnsSo_503 rfl rfl ?_
        obtain ⟨v10, e_v10, H⟩ := cv_i H
        refine gw_V0 okX8_valueNumerator dL_areColumnsSo_504 kw_714 kw_715 kw_716 (hp_o (h0.1)) rfl ⟨by decide, by decide⟩ ⟨by decide, by decide⟩ (Nat.le_of_ble_eq_true rfl) (w_X8_valueNumerator (h0) e_v10 ?_)
        obtain ⟨g, H⟩ := gd_i H
        refine gw_lc_neZ (tgt := 527) dL_areColumnsSo_507 rfl dL_areColumnsSo_508 rfl (by decide) g.1 g.2 (fun q => ?_) (fun q => ?_)
        · have H := bq_f q H
          refine gw_iconstZ dL_areColumnsSo_527 rfl ?_
          cases H
          exact gw_zret rfl dL_areColumnsSo_528 rfl (by decide) (by decide) hK
        · have H := bq_t q H
          refine gw_aload_n dL_areColumnsSo_511 rfl rfl ?_
          obtain ⟨v11, e_v11, H⟩ := cv_i H
          refine gw_V0 okX8_dualValueDenominator dL_areColumnsSo_512 kw_829 kw_830 kw_831 (hp_o (h0.1)) rfl ⟨by decide, by decide⟩ ⟨by decide, by decide⟩ (Nat.le_of_ble_eq_true rfl) (w_X8_dualValueDenominator (h0) e_v11 ?_)
          refine gw_aload_n dL_areColumnsSo_515 rfl rfl ?_
          obtain ⟨v12, e_v12, H⟩ := cv_i H
          refine gw_V0 okX8_valueDenominator dL_areColumnsSo_516 kw_722 kw_723 kw_724 (hp_o (h0.1)) rfl ⟨by decide, by decide⟩ ⟨by decide, by decide⟩ (Nat.le_of_ble_eq_true rfl) (w_X8_valueDenominator (h0) e_v12 ?_)
          obtain ⟨g, H⟩ := gd_i H
          refine gw_lc_neZ (tgt := 527) dL_areColumnsSo_519 rfl dL_areColumnsSo_520 rfl (by decide) g.1 g.2 (fun q => ?_) (fun q => ?_)
          · have H := bq_f q H
            refine gw_iconstZ dL_areColumnsSo_527 rfl ?_
            cases H
            exact gw_zret rfl dL_areColumnsSo_528 rfl (by decide) (by decide) hK
          · have H := bq_t q H
            refine gw_iconstZ dL_areColumnsSo_523 rfl ?_
            refine gw_goto (tgt := 528) dL_areColumnsSo_524 (by decide) ?_
            cases H
            exact gw_zret rfl dL_areColumnsSo_528 rfl (by decide) (by decide) hK
end NW
