section NW
abbrev nL_isStepSo : gwY := (yL_isStepSo, cL_isStepSo, 16, (Option.some Jvm.ClassFile.FieldType.boolean), { frames := 10, cells := 16, slots := 96, locals := 215 }, [])
theorem oknL_isStepSo : gw_ok nL_isStepSo 2 := ⟨by decide +kernel, kw_920, kw_16, by decide +kernel, rfl⟩
set_option maxRecDepth 100000 in
set_option maxHeartbeats 4000000 in
theorem w_L_isStepSo {Φ : gwC} {hb : gwHp} {M : Nat} {sh : Nat → Option gSh} {p1 : Nat} {p2 : Nat} {c : W0} {r : Int × W0} {K : Option Value → gwHp → Prop} (h0 : sD sh p1) (h1 : sh p2 = some (1, 1, [])) (H : f_L_isStepSo p1 p2 c = some r) (hK : K (some (vI r.1)) (hp Φ hb M sh r.2)) : gw_Con Φ nL_isStepSo none [.ref (M + p1), .ref (M + p2)] (hp Φ hb M sh c) K := by
  unfold f_L_isStepSo at H
  refine gw_start oknL_isStepSo (Nat.le_of_ble_eq_true rfl) ?_
  refine gw_aload_n dL_isStepSo_0 rfl rfl ?_
  obtain ⟨v1, e_v1, H⟩ := cv_i H
  refine gw_V0 okX8_isOptimal dL_isStepSo_1 kw_809 kw_810 kw_811 (hp_o (h0.1)) rfl ⟨by decide, by decide⟩ ⟨by decide, by decide⟩ (Nat.le_of_ble_eq_true rfl) (w_X8_isOptimal (h0) e_v1 ?_)
  obtain ⟨g, H⟩ := gd_i H
  obtain ⟨k2, e_k2, H⟩ := jn_i H
  have hJ_k2 : ∀ (u3 : Unit), k2 u3 = some r → G Φ nL_isStepSo (gw_M Φ nL_isStepSo K) none 0 0 14 [(0, .ref (M + p1)), (1, .ref (M + p2))] [] (hp Φ hb M sh c) := by
    intro u3 H
    subst e_k2
    refine gw_iconstZ dL_isStepSo_14 rfl ?_
    refine gw_goto (tgt := 19) dL_isStepSo_15 (by decide) ?_
    refine gw_istore_n dL_isStepSo_19 rfl (by decide) ?_
    refine gw_aload_n dL_isStepSo_20 rfl rfl ?_
    obtain ⟨v4, e_v4, H⟩ := cv_i H
    refine gw_V0 okX8_valueNumerator dL_isStepSo_21 kw_714 kw_715 kw_716 (hp_o (h0.1)) rfl ⟨by decide, by decide⟩ ⟨by decide, by decide⟩ (Nat.le_of_ble_eq_true rfl) (w_X8_valueNumerator (h0) e_v4 ?_)
    refine gw_lstore_n dL_isStepSo_24 rfl (by decide) ?_
    refine gw_aload_n dL_isStepSo_25 rfl rfl ?_
    obtain ⟨v5, e_v5, H⟩ := cv_i H
    refine gw_V0 okX8_valueDenominator dL_isStepSo_26 kw_722 kw_723 kw_724 (hp_o (h0.1)) rfl ⟨by decide, by decide⟩ ⟨by decide, by decide⟩ (Nat.le_of_ble_eq_true rfl) (w_X8_valueDenominator (h0) e_v5 ?_)
    refine gw_lstore dL_isStepSo_29 rfl (by decide) ?_
    refine gw_aload_n dL_isStepSo_31 rfl rfl ?_
    obtain ⟨v6, c7, e_c7, H⟩ := cl_i H
    refine gw_V0 okX8_pivotsLeft dL_isStepSo_32 kw_921 kw_922 kw_923 (hp_o (h0.1)) rfl ⟨by decide, by decide⟩ ⟨by decide, by decide⟩ (Nat.le_of_ble_eq_true rfl) (w_X8_pivotsLeft (h0) e_c7 ?_)
    refine gw_istore dL_isStepSo_35 rfl (by decide) ?_
    refine gw_aload_n dL_isStepSo_37 rfl rfl ?_
    obtain ⟨v8, e_v8, H⟩ := cv_i H
    refine gw_V0 okX8_pivots dL_isStepSo_38 kw_656 kw_657 kw_658 (hp_o (h0.1)) rfl ⟨by decide, by decide⟩ ⟨by decide, by decide⟩ (Nat.le_of_ble_eq_true rfl) (w_X8_pivots (h0) e_v8 ?_)
    refine gw_istore dL_isStepSo_41 rfl (by decide) ?_
    refine gw_iload_n dL_isStepSo_43 rfl rfl ?_
    refine gw_if_eqZ (tgt := 81) dL_isStepSo_44 rfl (by decide) (by decide) (fun q => ?_) (fun q => ?_)
    · have H := bq_t (by omega) H
      refine gw_aload_n dL_isStepSo_81 rfl rfl ?_
      obtain ⟨v9, c10, e_c10, H⟩ := cn_i H
      refine gw_V0 oknX8_nextColumn dL_isStepSo_82 kw_925 kw_926 kw_927 (hp_o (h0.1)) rfl ⟨by decide, by decide⟩ ⟨by decide, by decide⟩ (Nat.le_of_ble_eq_true rfl) (n_X8_nextColumn (h0) e_c10 rfl ?_)
      refine gw_istore dL_isStepSo_85 rfl (by decide) ?_
      refine gw_aload_n dL_isStepSo_87 rfl rfl ?_
      obtain ⟨v11, c12, e_c12, H⟩ := cn_i H
      refine gw_V0 oknX8_nextRow dL_isStepSo_88 kw_929 kw_930 kw_931 (hp_o (h0.1)) rfl ⟨by decide, by decide⟩ ⟨by decide, by decide⟩ (Nat.le_of_ble_eq_true rfl) (n_X8_nextRow (h0) e_c12 rfl ?_)
      refine gw_istore dL_isStepSo_91 rfl (by decide) ?_
      refine gw_aload_n dL_isStepSo_93 rfl rfl ?_
      refine gw_iload dL_isStepSo_94 rfl rfl ?_
      obtain ⟨v13, c14, e_c14, H⟩ := cn_i H
      refine gw_V1 oknX8_columnOf dL_isStepSo_96 kw_676 kw_677 kw_678 (hp_o (h0.1)) rfl ⟨by decide, by decide⟩ ⟨by decide, by decide⟩ (Nat.le_of_ble_eq_true rfl) (n_X8_columnOf (h0) e_c14 rfl ?_)
      refine gw_istore dL_isStepSo_99 rfl (by decide) ?_
      refine gw_aload_n dL_isStepSo_101 rfl rfl ?_
      obtain ⟨v15, e_v15, H⟩ := cv_i H
      refine gw_V0 okX8_idlePivots dL_isStepSo_102 kw_664 kw_665 kw_666 (hp_o (h0.1)) rfl ⟨by decide, by decide⟩ ⟨by decide, by decide⟩ (Nat.le_of_ble_eq_true rfl) (w_X8_idlePivots (h0) e_v15 ?_)
      refine gw_istore dL_isStepSo_105 rfl (by decide) ?_
      refine gw_aload_n dL_isStepSo_107 rfl rfl ?_
      refine gw_iload dL_isStepSo_108 rfl rfl ?_
      refine gw_iload dL_isStepSo_110 rfl rfl ?_
      obtain ⟨v16, c17, e_c17, H⟩ := cn_i H
      refine gw_V2 oknX8_whyNoPivot dL_isStepSo_112 kw_745 kw_746 kw_747 (hp_o (h0.1)) rfl ⟨by decide, by decide⟩ ⟨by decide, by decide⟩ (Nat.le_of_ble_eq_true rfl) (n_X8_whyNoPivot (h0) e_c17 rfl ?_)
      obtain ⟨g, H⟩ := gd_i H
      obtain ⟨k18, e_k18, H⟩ := jn_i H
      have hJ_k18 : ∀ (c19 : W0), k18 c19 = some r → G Φ nL_isStepSo (gw_M Φ nL_isStepSo K) none 0 0 157 [(0, .ref (M + p1)), (3, vL v4), (5, vL v5), (7, vI v6), (8, vI v8), (9, vI v9), (10, vI v11), (12, vI v15)] [] (hp Φ hb M sh c19) := by
        intro c19 H
        subst e_k18
        refine gw_iconstZ dL_isStepSo_157 rfl ?_
        refine gw_istore dL_isStepSo_158 rfl (by decide) ?_
        refine gw_aload_n dL_isStepSo_160 rfl rfl ?_
        obtain ⟨v20, e_v20, H⟩ := cv_i H
        refine gw_V0 okX8_valueNumerator dL_isStepSo_161 kw_714 kw_715 kw_716 (hp_o (h0.1)) rfl ⟨by decide, by decide⟩ ⟨by decide, by decide⟩ (Nat.le_of_ble_eq_true rfl) (w_X8_valueNumerator (h0) e_v20 ?_)
        refine gw_lload dL_isStepSo_164 rfl rfl ?_
        refine gw_lmulZ dL_isStepSo_166 rfl ?_
        refine gw_lload_n dL_isStepSo_167 rfl rfl ?_
        refine gw_aload_n dL_isStepSo_168 rfl rfl ?_
        obtain ⟨v21, e_v21, H⟩ := cv_i H
        refine gw_V0 okX8_valueDenominator dL_isStepSo_169 kw_722 kw_723 kw_724 (hp_o (h0.1)) rfl ⟨by decide, by decide⟩ ⟨by decide, by decide⟩ (Nat.le_of_ble_eq_true rfl) (w_X8_valueDenominator (h0) e_v21 ?_)
        refine gw_lmulZ dL_isStepSo_172 rfl ?_
        refine gw_lsubZ dL_isStepSo_173 rfl ?_
        refine gw_lstore dL_isStepSo_174 rfl (by decide) ?_
        refine gw_iload dL_isStepSo_176 rfl rfl ?_
        obtain ⟨k22, e_k22, H⟩ := jn_i H
        have hJ_k22 : ∀ (c23 : W0), k22 c23 = some r → G Φ nL_isStepSo (gw_M Φ nL_isStepSo K) none 0 0 266 [(0, .ref (M + p1)), (3, vL v4), (7, vI v6), (8, vI v8)] [] (hp Φ hb M sh c23) := by
          intro c23 H
          subst e_k22
          refine gw_iconstZ dL_isStepSo_266 rfl ?_
          refine gw_istore dL_isStepSo_267 rfl (by decide) ?_
          refine gw_iload dL_isStepSo_269 rfl rfl ?_
          refine gw_if_eqZ (tgt := 333) dL_isStepSo_271 rfl (by decide) (by decide) (fun q => ?_) (fun q => ?_)
          · have H := bq_t (by omega) H
            refine gw_iconstZ dL_isStepSo_333 rfl ?_
            cases H
            exact gw_zret rfl dL_isStepSo_334 rfl (by decide) (by decide) hK
          · have H := bq_f (by omega) H
            refine gw_aload_n dL_isStepSo_274 rfl rfl ?_
            obtain ⟨v24, c25, e_c25, H⟩ := cl_i H
            refine gw_V0 okX8_solve dL_isStepSo_275 kw_629 kw_630 kw_631 (hp_o (h0.1)) rfl ⟨by decide, by decide⟩ ⟨by decide, by decide⟩ (Nat.le_of_ble_eq_true rfl) (w_X8_solve (h0) e_c25 ?_)
            refine gw_iload dL_isStepSo_278 rfl rfl ?_
            obtain ⟨g, H⟩ := gd_i H
            refine gw_icmp_neZ (tgt := 333) dL_isStepSo_280 rfl (by decide) g.1 g.2 (fun q => ?_) (fun q => ?_)
            · have H := bq_f q H
              refine gw_iconstZ dL_isStepSo_333 rfl ?_
              cases H
              exact gw_zret rfl dL_isStepSo_334 rfl (by decide) (by decide) hK
            · have H := bq_t q H
              refine gw_iload dL_isStepSo_283 rfl rfl ?_
              refine gw_bipushZ dL_isStepSo_285 rfl (by decide) ?_
              obtain ⟨g, H⟩ := gd_i H
              obtain ⟨k26, e_k26, H⟩ := jn_i H
              have hJ_k26 : ∀ (u27 : Unit), k26 u27 = some r → G Φ nL_isStepSo (gw_M Φ nL_isStepSo K) none 0 0 304 [(0, .ref (M + p1)), (3, vL v4), (8, vI v8)] [] (hp Φ hb M sh c25) := by
                intro u27 H
                subst e_k26
                refine gw_aload_n dL_isStepSo_304 rfl rfl ?_
                obtain ⟨v28, c29, e_c29, H⟩ := cn_i H
                refine gw_V0 oknX8_undo dL_isStepSo_305 kw_267 kw_268 kw_269 (hp_o (h0.1)) rfl ⟨by decide, by decide⟩ ⟨by decide, by decide⟩ (Nat.le_of_ble_eq_true rfl) (n_X8_undo (h0) e_c29 rfl ?_)
                obtain ⟨g, H⟩ := gd_i H
                refine gw_if_ltZ (tgt := 333) dL_isStepSo_308 rfl (by decide) g (fun q => ?_) (fun q => ?_)
                · have H := bq_t q H
                  refine gw_iconstZ dL_isStepSo_333 rfl ?_
                  cases H
                  exact gw_zret rfl dL_isStepSo_334 rfl (by decide) (by decide) hK
                · have H := bq_f q H
                  refine gw_aload_n dL_isStepSo_311 rfl rfl ?_
                  obtain ⟨v30, e_v30, H⟩ := cv_i H
                  refine gw_V0 okX8_pivots dL_isStepSo_312 kw_656 kw_657 kw_658 (hp_o (h0.1)) rfl ⟨by decide, by decide⟩ ⟨by decide, by decide⟩ (Nat.le_of_ble_eq_true rfl) (w_X8_pivots (h0) e_v30 ?_)
                  refine gw_iload dL_isStepSo_315 rfl rfl ?_
                  obtain ⟨g, H⟩ := gd_i H
                  refine gw_icmp_neZ (tgt := 333) dL_isStepSo_317 rfl (by decide) g.1 g.2 (fun q => ?_) (fun q => ?_)
                  · have H := bq_f q H
                    refine gw_iconstZ dL_isStepSo_333 rfl ?_
                    cases H
                    exact gw_zret rfl dL_isStepSo_334 rfl (by decide) (by decide) hK
                  · have H := bq_t q H
                    refine gw_aload_n dL_isStepSo_320 rfl rfl ?_
                    obtain ⟨v31, e_v31, H⟩ := cv_i H
                    refine gw_V0 okX8_valueNumerator dL_isStepSo_321 kw_714 kw_715 kw_716 (hp_o (h0.1)) rfl ⟨by decide, by decide⟩ ⟨by decide, by decide⟩ (Nat.le_of_ble_eq_true rfl) (w_X8_valueNumerator (h0) e_v31 ?_)
                    refine gw_lload_n dL_isStepSo_324 rfl rfl ?_
                    obtain ⟨g, H⟩ := gd_i H
                    refine gw_lc_neZ (tgt := 333) dL_isStepSo_325 rfl dL_isStepSo_326 rfl (by decide) g.1 g.2 (fun q => ?_) (fun q => ?_)
                    · have H := bq_f q H
                      refine gw_iconstZ dL_isStepSo_333 rfl ?_
                      cases H
                      exact gw_zret rfl dL_isStepSo_334 rfl (by decide) (by decide) hK
                    · have H := bq_t q H
                      refine gw_iconstZ dL_isStepSo_329 rfl ?_
                      refine gw_goto (tgt := 334) dL_isStepSo_330 (by decide) ?_
                      cases H
                      exact gw_zret rfl dL_isStepSo_334 rfl (by decide) (by decide) hK
              refine gw_icmp_eqZ (tgt := 304) dL_isStepSo_287 rfl (by decide) g (by decide) (fun q => ?_) (fun q => ?_)
              · have H := bq_t q H
                exact gw_L (hJ_k26 _ H) ((lvA_c rfl (lvA_c rfl (lvA_c rfl lvA_n))))
              · have H := bq_f q H
                refine gw_aload_n dL_isStepSo_290 rfl rfl ?_
                obtain ⟨v32, e_v32, H⟩ := cv_i H
                refine gw_V0 okX8_isOptimal dL_isStepSo_291 kw_809 kw_810 kw_811 (hp_o (h0.1)) rfl ⟨by decide, by decide⟩ ⟨by decide, by decide⟩ (Nat.le_of_ble_eq_true rfl) (w_X8_isOptimal (h0) e_v32 ?_)
                obtain ⟨g, H⟩ := gd_i H
                refine gw_if_neZ (tgt := 304) dL_isStepSo_294 rfl (by decide) g (fun q => ?_) (fun q => ?_)
                · have H := bq_f q H
                  exact gw_L (hJ_k26 _ H) ((lvA_c rfl (lvA_c rfl (lvA_c rfl lvA_n))))
                · have H := bq_t q H
                  refine gw_aload_n dL_isStepSo_297 rfl rfl ?_
                  obtain ⟨v33, e_v33, H⟩ := cv_i H
                  refine gw_V0 okX8_hasRay dL_isStepSo_298 kw_814 kw_815 kw_816 (hp_o (h0.1)) rfl ⟨by decide, by decide⟩ ⟨by decide, by decide⟩ (Nat.le_of_ble_eq_true rfl) (w_X8_hasRay (h0) e_v33 ?_)
                  obtain ⟨g, H⟩ := gd_i H
                  refine gw_if_eqZ (tgt := 333) dL_isStepSo_301 rfl (by decide) g (fun q => ?_) (fun q => ?_)
                  · have H := bq_t q H
                    refine gw_iconstZ dL_isStepSo_333 rfl ?_
                    cases H
                    exact gw_zret rfl dL_isStepSo_334 rfl (by decide) (by decide) hK
                  · have H := bq_f q H
                    exact gw_L (hJ_k26 _ H) ((lvA_c rfl (lvA_c rfl (lvA_c rfl lvA_n))))
        refine gw_if_eqZ (tgt := 266) dL_isStepSo_178 rfl (by decide) (by decide) (fun q => ?_) (fun q => ?_)
        · have H := bq_t (by omega) H
          exact gw_L (hJ_k22 _ H) ((lvA_c rfl (lvA_c rfl (lvA_c rfl (lvA_c rfl lvA_n)))))
        · have H := bq_f (by omega) H
          refine gw_lload dL_isStepSo_181 rfl rfl ?_
          refine gw_lconst0Z dL_isStepSo_183 rfl ?_
          obtain ⟨g, H⟩ := gd_i H
          refine gw_lc_ltZ (tgt := 266) dL_isStepSo_184 rfl dL_isStepSo_185 rfl (by decide) g (by decide) (fun q => ?_) (fun q => ?_)
          · have H := bq_t q H
            exact gw_L (hJ_k22 _ H) ((lvA_c rfl (lvA_c rfl (lvA_c rfl (lvA_c rfl lvA_n)))))
          · have H := bq_f q H
            refine gw_aload_n dL_isStepSo_188 rfl rfl ?_
            obtain ⟨v34, e_v34, H⟩ := cv_i H
            refine gw_V0 okX8_idlePivots dL_isStepSo_189 kw_664 kw_665 kw_666 (hp_o (h0.1)) rfl ⟨by decide, by decide⟩ ⟨by decide, by decide⟩ (Nat.le_of_ble_eq_true rfl) (w_X8_idlePivots (h0) e_v34 ?_)
            refine gw_iload dL_isStepSo_192 rfl rfl ?_
            refine gw_lload dL_isStepSo_194 rfl rfl ?_
            refine gw_lconst0Z dL_isStepSo_196 rfl ?_
            obtain ⟨g, H⟩ := gd_i H
            obtain ⟨k35, e_k35, H⟩ := jn_i H
            have hJ_k35 : ∀ (v36 : Int), k35 v36 = some r → G Φ nL_isStepSo (gw_M Φ nL_isStepSo K) none 0 0 206 [(0, .ref (M + p1)), (3, vL v4), (7, vI v6), (8, vI v8), (9, vI v9), (10, vI v11)] [vI v36, vI v15, vI v34] (hp Φ hb M sh c19) := by
              intro v36 H
              subst e_k35
              refine gw_iaddZ dL_isStepSo_206 rfl ?_
              obtain ⟨g, H⟩ := gd_i H
              refine gw_icmp_neZ (tgt := 266) dL_isStepSo_207 rfl (by decide) g.1 g.2 (fun q => ?_) (fun q => ?_)
              · have H := bq_f q H
                exact gw_L (hJ_k22 _ H) ((lvA_c rfl (lvA_c rfl (lvA_c rfl (lvA_c rfl lvA_n)))))
              · have H := bq_t q H
                refine gw_iload dL_isStepSo_210 rfl rfl ?_
                refine gw_bipushZ dL_isStepSo_212 rfl (by decide) ?_
                obtain ⟨g, H⟩ := gd_i H
                obtain ⟨k37, e_k37, H⟩ := jn_i H
                have hJ_k37 : ∀ (c38 : W0), k37 c38 = some r → G Φ nL_isStepSo (gw_M Φ nL_isStepSo K) none 0 0 228 [(0, .ref (M + p1)), (3, vL v4), (7, vI v6), (8, vI v8), (9, vI v9), (10, vI v11)] [] (hp Φ hb M sh c38) := by
                  intro c38 H
                  subst e_k37
                  refine gw_aload_n dL_isStepSo_228 rfl rfl ?_
                  obtain ⟨v39, c40, e_c40, H⟩ := cn_i H
                  refine gw_V0 oknX8_undo dL_isStepSo_229 kw_267 kw_268 kw_269 (hp_o (h0.1)) rfl ⟨by decide, by decide⟩ ⟨by decide, by decide⟩ (Nat.le_of_ble_eq_true rfl) (n_X8_undo (h0) e_c40 rfl ?_)
                  obtain ⟨g, H⟩ := gd_i H
                  refine gw_if_ltZ (tgt := 266) dL_isStepSo_232 rfl (by decide) g (fun q => ?_) (fun q => ?_)
                  · have H := bq_t q H
                    exact gw_L (hJ_k22 _ H) ((lvA_c rfl (lvA_c rfl (lvA_c rfl (lvA_c rfl lvA_n)))))
                  · have H := bq_f q H
                    refine gw_aload_n dL_isStepSo_235 rfl rfl ?_
                    obtain ⟨v41, c42, e_c42, H⟩ := cn_i H
                    refine gw_V0 oknX8_step dL_isStepSo_236 kw_595 kw_596 kw_597 (hp_o (h0.1)) rfl ⟨by decide, by decide⟩ ⟨by decide, by decide⟩ (Nat.le_of_ble_eq_true rfl) (n_X8_step (h0) e_c42 rfl ?_)
                    refine gw_iload dL_isStepSo_239 rfl rfl ?_
                    obtain ⟨g, H⟩ := gd_i H
                    refine gw_icmp_neZ (tgt := 266) dL_isStepSo_241 rfl (by decide) g.1 g.2 (fun q => ?_) (fun q => ?_)
                    · have H := bq_f q H
                      exact gw_L (hJ_k22 _ H) ((lvA_c rfl (lvA_c rfl (lvA_c rfl (lvA_c rfl lvA_n)))))
                    · have H := bq_t q H
                      refine gw_aload_n dL_isStepSo_244 rfl rfl ?_
                      refine gw_iload dL_isStepSo_245 rfl rfl ?_
                      obtain ⟨v43, c44, e_c44, H⟩ := cn_i H
                      refine gw_V1 oknX8_columnOf dL_isStepSo_247 kw_676 kw_677 kw_678 (hp_o (h0.1)) rfl ⟨by decide, by decide⟩ ⟨by decide, by decide⟩ (Nat.le_of_ble_eq_true rfl) (n_X8_columnOf (h0) e_c44 rfl ?_)
                      refine gw_iload dL_isStepSo_250 rfl rfl ?_
                      obtain ⟨g, H⟩ := gd_i H
                      refine gw_icmp_neZ (tgt := 266) dL_isStepSo_252 rfl (by decide) g.1 g.2 (fun q => ?_) (fun q => ?_)
                      · have H := bq_f q H
                        exact gw_L (hJ_k22 _ H) ((lvA_c rfl (lvA_c rfl (lvA_c rfl (lvA_c rfl lvA_n)))))
                      · have H := bq_t q H
                        refine gw_aload_n dL_isStepSo_255 rfl rfl ?_
                        obtain ⟨v45, c46, e_c46, H⟩ := cn_i H
                        refine gw_V0 oknX8_undo dL_isStepSo_256 kw_267 kw_268 kw_269 (hp_o (h0.1)) rfl ⟨by decide, by decide⟩ ⟨by decide, by decide⟩ (Nat.le_of_ble_eq_true rfl) (n_X8_undo (h0) e_c46 rfl ?_)
                        obtain ⟨g, H⟩ := gd_i H
                        refine gw_if_ltZ (tgt := 266) dL_isStepSo_259 rfl (by decide) g (fun q => ?_) (fun q => ?_)
                        · have H := bq_t q H
                          exact gw_L (hJ_k22 _ H) ((lvA_c rfl (lvA_c rfl (lvA_c rfl (lvA_c rfl lvA_n)))))
                        · have H := bq_f q H
                          refine gw_iconstZ dL_isStepSo_262 rfl ?_
                          refine gw_goto (tgt := 267) dL_isStepSo_263 (by decide) ?_
                          refine gw_istore dL_isStepSo_267 rfl (by decide) ?_
                          refine gw_iload dL_isStepSo_269 rfl rfl ?_
                          refine gw_if_eqZ (tgt := 333) dL_isStepSo_271 rfl (by decide) (by decide) (fun q => ?_) (fun q => ?_)
                          · have H := bq_t (by omega) H
                            refine gw_iconstZ dL_isStepSo_333 rfl ?_
                            cases H
                            exact gw_zret rfl dL_isStepSo_334 rfl (by decide) (by decide) hK
                          · have H := bq_f (by omega) H
                            refine gw_aload_n dL_isStepSo_274 rfl rfl ?_
                            obtain ⟨v47, c48, e_c48, H⟩ := cl_i H
                            refine gw_V0 okX8_solve dL_isStepSo_275 kw_629 kw_630 kw_631 (hp_o (h0.1)) rfl ⟨by decide, by decide⟩ ⟨by decide, by decide⟩ (Nat.le_of_ble_eq_true rfl) (w_X8_solve (h0) e_c48 ?_)
                            refine gw_iload dL_isStepSo_278 rfl rfl ?_
                            obtain ⟨g, H⟩ := gd_i H
                            refine gw_icmp_neZ (tgt := 333) dL_isStepSo_280 rfl (by decide) g.1 g.2 (fun q => ?_) (fun q => ?_)
                            · have H := bq_f q H
                              refine gw_iconstZ dL_isStepSo_333 rfl ?_
                              cases H
                              exact gw_zret rfl dL_isStepSo_334 rfl (by decide) (by decide) hK
                            · have H := bq_t q H
                              refine gw_iload dL_isStepSo_283 rfl rfl ?_
                              refine gw_bipushZ dL_isStepSo_285 rfl (by decide) ?_
                              obtain ⟨g, H⟩ := gd_i H
                              obtain ⟨k49, e_k49, H⟩ := jn_i H
                              have hJ_k49 : ∀ (u50 : Unit), k49 u50 = some r → G Φ nL_isStepSo (gw_M Φ nL_isStepSo K) none 0 0 304 [(0, .ref (M + p1)), (3, vL v4), (8, vI v8)] [] (hp Φ hb M sh c48) := by
                                intro u50 H
                                subst e_k49
                                refine gw_aload_n dL_isStepSo_304 rfl rfl ?_
                                obtain ⟨v51, c52, e_c52, H⟩ := cn_i H
                                refine gw_V0 oknX8_undo dL_isStepSo_305 kw_267 kw_268 kw_269 (hp_o (h0.1)) rfl ⟨by decide, by decide⟩ ⟨by decide, by decide⟩ (Nat.le_of_ble_eq_true rfl) (n_X8_undo (h0) e_c52 rfl ?_)
                                obtain ⟨g, H⟩ := gd_i H
                                refine gw_if_ltZ (tgt := 333) dL_isStepSo_308 rfl (by decide) g (fun q => ?_) (fun q => ?_)
                                · have H := bq_t q H
                                  refine gw_iconstZ dL_isStepSo_333 rfl ?_
                                  cases H
                                  exact gw_zret rfl dL_isStepSo_334 rfl (by decide) (by decide) hK
                                · have H := bq_f q H
                                  refine gw_aload_n dL_isStepSo_311 rfl rfl ?_
                                  obtain ⟨v53, e_v53, H⟩ := cv_i H
                                  refine gw_V0 okX8_pivots dL_isStepSo_312 kw_656 kw_657 kw_658 (hp_o (h0.1)) rfl ⟨by decide, by decide⟩ ⟨by decide, by decide⟩ (Nat.le_of_ble_eq_true rfl) (w_X8_pivots (h0) e_v53 ?_)
                                  refine gw_iload dL_isStepSo_315 rfl rfl ?_
                                  obtain ⟨g, H⟩ := gd_i H
                                  refine gw_icmp_neZ (tgt := 333) dL_isStepSo_317 rfl (by decide) g.1 g.2 (fun q => ?_) (fun q => ?_)
                                  · have H := bq_f q H
                                    refine gw_iconstZ dL_isStepSo_333 rfl ?_
                                    cases H
                                    exact gw_zret rfl dL_isStepSo_334 rfl (by decide) (by decide) hK
                                  · have H := bq_t q H
                                    refine gw_aload_n dL_isStepSo_320 rfl rfl ?_
                                    obtain ⟨v54, e_v54, H⟩ := cv_i H
                                    refine gw_V0 okX8_valueNumerator dL_isStepSo_321 kw_714 kw_715 kw_716 (hp_o (h0.1)) rfl ⟨by decide, by decide⟩ ⟨by decide, by decide⟩ (Nat.le_of_ble_eq_true rfl) (w_X8_valueNumerator (h0) e_v54 ?_)
                                    refine gw_lload_n dL_isStepSo_324 rfl rfl ?_
                                    obtain ⟨g, H⟩ := gd_i H
                                    refine gw_lc_neZ (tgt := 333) dL_isStepSo_325 rfl dL_isStepSo_326 rfl (by decide) g.1 g.2 (fun q => ?_) (fun q => ?_)
                                    · have H := bq_f q H
                                      refine gw_iconstZ dL_isStepSo_333 rfl ?_
                                      cases H
                                      exact gw_zret rfl dL_isStepSo_334 rfl (by decide) (by decide) hK
                                    · have H := bq_t q H
                                      refine gw_iconstZ dL_isStepSo_329 rfl ?_
                                      refine gw_goto (tgt := 334) dL_isStepSo_330 (by decide) ?_
                                      cases H
                                      exact gw_zret rfl dL_isStepSo_334 rfl (by decide) (by decide) hK
                              refine gw_icmp_eqZ (tgt := 304) dL_isStepSo_287 rfl (by decide) g (by decide) (fun q => ?_) (fun q => ?_)
                              · have H := bq_t q H
                                exact gw_L (hJ_k49 _ H) ((lvA_c rfl (lvA_c rfl (lvA_c rfl lvA_n))))
                              · have H := bq_f q H
                                refine gw_aload_n dL_isStepSo_290 rfl rfl ?_
                                obtain ⟨v55, e_v55, H⟩ := cv_i H
                                refine gw_V0 okX8_isOptimal dL_isStepSo_291 kw_809 kw_810 kw_811 (hp_o (h0.1)) rfl ⟨by decide, by decide⟩ ⟨by decide, by decide⟩ (Nat.le_of_ble_eq_true rfl) (w_X8_isOptimal (h0) e_v55 ?_)
                                obtain ⟨g, H⟩ := gd_i H
                                refine gw_if_neZ (tgt := 304) dL_isStepSo_294 rfl (by decide) g (fun q => ?_) (fun q => ?_)
                                · have H := bq_f q H
                                  exact gw_L (hJ_k49 _ H) ((lvA_c rfl (lvA_c rfl (lvA_c rfl lvA_n))))
                                · have H := bq_t q H
                                  refine gw_aload_n dL_isStepSo_297 rfl rfl ?_
                                  obtain ⟨v56, e_v56, H⟩ := cv_i H
                                  refine gw_V0 okX8_hasRay dL_isStepSo_298 kw_814 kw_815 kw_816 (hp_o (h0.1)) rfl ⟨by decide, by decide⟩ ⟨by decide, by decide⟩ (Nat.le_of_ble_eq_true rfl) (w_X8_hasRay (h0) e_v56 ?_)
                                  obtain ⟨g, H⟩ := gd_i H
                                  refine gw_if_eqZ (tgt := 333) dL_isStepSo_301 rfl (by decide) g (fun q => ?_) (fun q => ?_)
                                  · have H := bq_t q H
                                    refine gw_iconstZ dL_isStepSo_333 rfl ?_
                                    cases H
                                    exact gw_zret rfl dL_isStepSo_334 rfl (by decide) (by decide) hK
                                  · have H := bq_f q H
                                    exact gw_L (hJ_k49 _ H) ((lvA_c rfl (lvA_c rfl (lvA_c rfl lvA_n))))
                refine gw_icmp_eqZ (tgt := 228) dL_isStepSo_214 rfl (by decide) g (by decide) (fun q => ?_) (fun q => ?_)
                · have H := bq_t q H
                  exact gw_L (hJ_k37 _ H) ((lvA_c rfl (lvA_c rfl (lvA_c rfl (lvA_c rfl (lvA_c rfl (lvA_c rfl lvA_n)))))))
                · have H := bq_f q H
                  refine gw_aload_n dL_isStepSo_217 rfl rfl ?_
                  obtain ⟨v57, c58, e_c58, H⟩ := cl_i H
                  refine gw_V0 okX8_pivotsLeft dL_isStepSo_218 kw_921 kw_922 kw_923 (hp_o (h0.1)) rfl ⟨by decide, by decide⟩ ⟨by decide, by decide⟩ (Nat.le_of_ble_eq_true rfl) (w_X8_pivotsLeft (h0) e_c58 ?_)
                  refine gw_iload dL_isStepSo_221 rfl rfl ?_
                  refine gw_iconstZ dL_isStepSo_223 rfl ?_
                  refine gw_isubZ dL_isStepSo_224 rfl ?_
                  obtain ⟨g, H⟩ := gd_i H
                  refine gw_icmp_neZ (tgt := 266) dL_isStepSo_225 rfl (by decide) g.1 g.2 (fun q => ?_) (fun q => ?_)
                  · have H := bq_f q H
                    exact gw_L (hJ_k22 _ H) ((lvA_c rfl (lvA_c rfl (lvA_c rfl (lvA_c rfl lvA_n)))))
                  · have H := bq_t q H
                    exact gw_L (hJ_k37 _ H) ((lvA_c rfl (lvA_c rfl (lvA_c rfl (lvA_c rfl (lvA_c rfl (lvA_c rfl lvA_n)))))))
            refine gw_lc_neZ (tgt := 205) dL_isStepSo_197 rfl dL_isStepSo_198 rfl (by decide) g (by decide) (fun q => ?_) (fun q => ?_)
            · have H := bq_f q H
              refine gw_iconstZ dL_isStepSo_205 rfl ?_
              exact gw_L (hJ_k35 _ H) ((lvA_c rfl (lvA_c rfl (lvA_c rfl (lvA_c rfl (lvA_c rfl (lvA_c rfl lvA_n)))))))
            · have H := bq_t q H
              refine gw_iconstZ dL_isStepSo_201 rfl ?_
              refine gw_goto (tgt := 206) dL_isStepSo_202 (by decide) ?_
              exact gw_L (hJ_k35 _ H) ((lvA_c rfl (lvA_c rfl (lvA_c rfl (lvA_c rfl (lvA_c rfl (lvA_c rfl lvA_n)))))))
      refine gw_if_neZ (tgt := 157) dL_isStepSo_115 rfl (by decide) g (fun q => ?_) (fun q => ?_)
      · have H := bq_f q H
        exact gw_L (hJ_k18 _ H) ((lvA_c rfl (lvA_c rfl (lvA_c rfl (lvA_c rfl (lvA_c rfl (lvA_c rfl (lvA_c rfl (lvA_c rfl lvA_n)))))))))
      · have H := bq_t q H
        refine gw_aload_n dL_isStepSo_118 rfl rfl ?_
        refine gw_iload dL_isStepSo_119 rfl rfl ?_
        refine gw_iload dL_isStepSo_121 rfl rfl ?_
        obtain ⟨v59, c60, e_c60, H⟩ := cn_i H
        refine gw_V2 oknX8_pivot dL_isStepSo_123 kw_535 kw_536 kw_537 (hp_o (h0.1)) rfl ⟨by decide, by decide⟩ ⟨by decide, by decide⟩ (Nat.le_of_ble_eq_true rfl) (n_X8_pivot (h0) e_c60 rfl ?_)
        refine gw_iload dL_isStepSo_126 rfl rfl ?_
        obtain ⟨g, H⟩ := gd_i H
        refine gw_icmp_neZ (tgt := 157) dL_isStepSo_128 rfl (by decide) g.1 g.2 (fun q => ?_) (fun q => ?_)
        · have H := bq_f q H
          exact gw_L (hJ_k18 _ H) ((lvA_c rfl (lvA_c rfl (lvA_c rfl (lvA_c rfl (lvA_c rfl (lvA_c rfl (lvA_c rfl (lvA_c rfl lvA_n)))))))))
        · have H := bq_t q H
          refine gw_aload_n dL_isStepSo_131 rfl rfl ?_
          refine gw_iload dL_isStepSo_132 rfl rfl ?_
          obtain ⟨v61, c62, e_c62, H⟩ := cn_i H
          refine gw_V1 oknX8_columnOf dL_isStepSo_134 kw_676 kw_677 kw_678 (hp_o (h0.1)) rfl ⟨by decide, by decide⟩ ⟨by decide, by decide⟩ (Nat.le_of_ble_eq_true rfl) (n_X8_columnOf (h0) e_c62 rfl ?_)
          refine gw_iload dL_isStepSo_137 rfl rfl ?_
          obtain ⟨g, H⟩ := gd_i H
          refine gw_icmp_neZ (tgt := 157) dL_isStepSo_139 rfl (by decide) g.1 g.2 (fun q => ?_) (fun q => ?_)
          · have H := bq_f q H
            exact gw_L (hJ_k18 _ H) ((lvA_c rfl (lvA_c rfl (lvA_c rfl (lvA_c rfl (lvA_c rfl (lvA_c rfl (lvA_c rfl (lvA_c rfl lvA_n)))))))))
          · have H := bq_t q H
            refine gw_aload_n dL_isStepSo_142 rfl rfl ?_
            obtain ⟨v63, e_v63, H⟩ := cv_i H
            refine gw_V0 okX8_pivots dL_isStepSo_143 kw_656 kw_657 kw_658 (hp_o (h0.1)) rfl ⟨by decide, by decide⟩ ⟨by decide, by decide⟩ (Nat.le_of_ble_eq_true rfl) (w_X8_pivots (h0) e_v63 ?_)
            refine gw_iload dL_isStepSo_146 rfl rfl ?_
            refine gw_iconstZ dL_isStepSo_148 rfl ?_
            refine gw_iaddZ dL_isStepSo_149 rfl ?_
            obtain ⟨g, H⟩ := gd_i H
            refine gw_icmp_neZ (tgt := 157) dL_isStepSo_150 rfl (by decide) g.1 g.2 (fun q => ?_) (fun q => ?_)
            · have H := bq_f q H
              exact gw_L (hJ_k18 _ H) ((lvA_c rfl (lvA_c rfl (lvA_c rfl (lvA_c rfl (lvA_c rfl (lvA_c rfl (lvA_c rfl (lvA_c rfl lvA_n)))))))))
            · have H := bq_t q H
              refine gw_iconstZ dL_isStepSo_153 rfl ?_
              refine gw_goto (tgt := 158) dL_isStepSo_154 (by decide) ?_
              refine gw_istore dL_isStepSo_158 rfl (by decide) ?_
              refine gw_aload_n dL_isStepSo_160 rfl rfl ?_
              obtain ⟨v64, e_v64, H⟩ := cv_i H
              refine gw_V0 okX8_valueNumerator dL_isStepSo_161 kw_714 kw_715 kw_716 (hp_o (h0.1)) rfl ⟨by decide, by decide⟩ ⟨by decide, by decide⟩ (Nat.le_of_ble_eq_true rfl) (w_X8_valueNumerator (h0) e_v64 ?_)
              refine gw_lload dL_isStepSo_164 rfl rfl ?_
              refine gw_lmulZ dL_isStepSo_166 rfl ?_
              refine gw_lload_n dL_isStepSo_167 rfl rfl ?_
              refine gw_aload_n dL_isStepSo_168 rfl rfl ?_
              obtain ⟨v65, e_v65, H⟩ := cv_i H
              refine gw_V0 okX8_valueDenominator dL_isStepSo_169 kw_722 kw_723 kw_724 (hp_o (h0.1)) rfl ⟨by decide, by decide⟩ ⟨by decide, by decide⟩ (Nat.le_of_ble_eq_true rfl) (w_X8_valueDenominator (h0) e_v65 ?_)
              refine gw_lmulZ dL_isStepSo_172 rfl ?_
              refine gw_lsubZ dL_isStepSo_173 rfl ?_
              refine gw_lstore dL_isStepSo_174 rfl (by decide) ?_
              refine gw_iload dL_isStepSo_176 rfl rfl ?_
              obtain ⟨k66, e_k66, H⟩ := jn_i H
              have hJ_k66 : ∀ (c67 : W0), k66 c67 = some r → G Φ nL_isStepSo (gw_M Φ nL_isStepSo K) none 0 0 266 [(0, .ref (M + p1)), (3, vL v4), (7, vI v6), (8, vI v8)] [] (hp Φ hb M sh c67) := by
                intro c67 H
                subst e_k66
                refine gw_iconstZ dL_isStepSo_266 rfl ?_
                refine gw_istore dL_isStepSo_267 rfl (by decide) ?_
                refine gw_iload dL_isStepSo_269 rfl rfl ?_
                refine gw_if_eqZ (tgt := 333) dL_isStepSo_271 rfl (by decide) (by decide) (fun q => ?_) (fun q => ?_)
                · have H := bq_t (by omega) H
                  refine gw_iconstZ dL_isStepSo_333 rfl ?_
                  cases H
                  exact gw_zret rfl dL_isStepSo_334 rfl (by decide) (by decide) hK
                · have H := bq_f (by omega) H
                  refine gw_aload_n dL_isStepSo_274 rfl rfl ?_
                  obtain ⟨v68, c69, e_c69, H⟩ := cl_i H
                  refine gw_V0 okX8_solve dL_isStepSo_275 kw_629 kw_630 kw_631 (hp_o (h0.1)) rfl ⟨by decide, by decide⟩ ⟨by decide, by decide⟩ (Nat.le_of_ble_eq_true rfl) (w_X8_solve (h0) e_c69 ?_)
                  refine gw_iload dL_isStepSo_278 rfl rfl ?_
                  obtain ⟨g, H⟩ := gd_i H
                  refine gw_icmp_neZ (tgt := 333) dL_isStepSo_280 rfl (by decide) g.1 g.2 (fun q => ?_) (fun q => ?_)
                  · have H := bq_f q H
                    refine gw_iconstZ dL_isStepSo_333 rfl ?_
                    cases H
                    exact gw_zret rfl dL_isStepSo_334 rfl (by decide) (by decide) hK
                  · have H := bq_t q H
                    refine gw_iload dL_isStepSo_283 rfl rfl ?_
                    refine gw_bipushZ dL_isStepSo_285 rfl (by decide) ?_
                    obtain ⟨g, H⟩ := gd_i H
                    obtain ⟨k70, e_k70, H⟩ := jn_i H
                    have hJ_k70 : ∀ (u71 : Unit), k70 u71 = some r → G Φ nL_isStepSo (gw_M Φ nL_isStepSo K) none 0 0 304 [(0, .ref (M + p1)), (3, vL v4), (8, vI v8)] [] (hp Φ hb M sh c69) := by
                      intro u71 H
                      subst e_k70
                      refine gw_aload_n dL_isStepSo_304 rfl rfl ?_
                      obtain ⟨v72, c73, e_c73, H⟩ := cn_i H
                      refine gw_V0 oknX8_undo dL_isStepSo_305 kw_267 kw_268 kw_269 (hp_o (h0.1)) rfl ⟨by decide, by decide⟩ ⟨by decide, by decide⟩ (Nat.le_of_ble_eq_true rfl) (n_X8_undo (h0) e_c73 rfl ?_)
                      obtain ⟨g, H⟩ := gd_i H
                      refine gw_if_ltZ (tgt := 333) dL_isStepSo_308 rfl (by decide) g (fun q => ?_) (fun q => ?_)
                      · have H := bq_t q H
                        refine gw_iconstZ dL_isStepSo_333 rfl ?_
                        cases H
                        exact gw_zret rfl dL_isStepSo_334 rfl (by decide) (by decide) hK
                      · have H := bq_f q H
                        refine gw_aload_n dL_isStepSo_311 rfl rfl ?_
                        obtain ⟨v74, e_v74, H⟩ := cv_i H
                        refine gw_V0 okX8_pivots dL_isStepSo_312 kw_656 kw_657 kw_658 (hp_o (h0.1)) rfl ⟨by decide, by decide⟩ ⟨by decide, by decide⟩ (Nat.le_of_ble_eq_true rfl) (w_X8_pivots (h0) e_v74 ?_)
                        refine gw_iload dL_isStepSo_315 rfl rfl ?_
                        obtain ⟨g, H⟩ := gd_i H
                        refine gw_icmp_neZ (tgt := 333) dL_isStepSo_317 rfl (by decide) g.1 g.2 (fun q => ?_) (fun q => ?_)
                        · have H := bq_f q H
                          refine gw_iconstZ dL_isStepSo_333 rfl ?_
                          cases H
                          exact gw_zret rfl dL_isStepSo_334 rfl (by decide) (by decide) hK
                        · have H := bq_t q H
                          refine gw_aload_n dL_isStepSo_320 rfl rfl ?_
                          obtain ⟨v75, e_v75, H⟩ := cv_i H
                          refine gw_V0 okX8_valueNumerator dL_isStepSo_321 kw_714 kw_715 kw_716 (hp_o (h0.1)) rfl ⟨by decide, by decide⟩ ⟨by decide, by decide⟩ (Nat.le_of_ble_eq_true rfl) (w_X8_valueNumerator (h0) e_v75 ?_)
                          refine gw_lload_n dL_isStepSo_324 rfl rfl ?_
                          obtain ⟨g, H⟩ := gd_i H
                          refine gw_lc_neZ (tgt := 333) dL_isStepSo_325 rfl dL_isStepSo_326 rfl (by decide) g.1 g.2 (fun q => ?_) (fun q => ?_)
                          · have H := bq_f q H
                            refine gw_iconstZ dL_isStepSo_333 rfl ?_
                            cases H
                            exact gw_zret rfl dL_isStepSo_334 rfl (by decide) (by decide) hK
                          · have H := bq_t q H
                            refine gw_iconstZ dL_isStepSo_329 rfl ?_
                            refine gw_goto (tgt := 334) dL_isStepSo_330 (by decide) ?_
                            cases H
                            exact gw_zret rfl dL_isStepSo_334 rfl (by decide) (by decide) hK
                    refine gw_icmp_eqZ (tgt := 304) dL_isStepSo_287 rfl (by decide) g (by decide) (fun q => ?_) (fun q => ?_)
                    · have H := bq_t q H
                      exact gw_L (hJ_k70 _ H) ((lvA_c rfl (lvA_c rfl (lvA_c rfl lvA_n))))
                    · have H := bq_f q H
                      refine gw_aload_n dL_isStepSo_290 rfl rfl ?_
                      obtain ⟨v76, e_v76, H⟩ := cv_i H
                      refine gw_V0 okX8_isOptimal dL_isStepSo_291 kw_809 kw_810 kw_811 (hp_o (h0.1)) rfl ⟨by decide, by decide⟩ ⟨by decide, by decide⟩ (Nat.le_of_ble_eq_true rfl) (w_X8_isOptimal (h0) e_v76 ?_)
                      obtain ⟨g, H⟩ := gd_i H
                      refine gw_if_neZ (tgt := 304) dL_isStepSo_294 rfl (by decide) g (fun q => ?_) (fun q => ?_)
                      · have H := bq_f q H
                        exact gw_L (hJ_k70 _ H) ((lvA_c rfl (lvA_c rfl (lvA_c rfl lvA_n))))
                      · have H := bq_t q H
                        refine gw_aload_n dL_isStepSo_297 rfl rfl ?_
                        obtain ⟨v77, e_v77, H⟩ := cv_i H
                        refine gw_V0 okX8_hasRay dL_isStepSo_298 kw_814 kw_815 kw_816 (hp_o (h0.1)) rfl ⟨by decide, by decide⟩ ⟨by decide, by decide⟩ (Nat.le_of_ble_eq_true rfl) (w_X8_hasRay (h0) e_v77 ?_)
                        obtain ⟨g, H⟩ := gd_i H
                        refine gw_if_eqZ (tgt := 333) dL_isStepSo_301 rfl (by decide) g (fun q => ?_) (fun q => ?_)
                        · have H := bq_t q H
                          refine gw_iconstZ dL_isStepSo_333 rfl ?_
                          cases H
                          exact gw_zret rfl dL_isStepSo_334 rfl (by decide) (by decide) hK
                        · have H := bq_f q H
                          exact gw_L (hJ_k70 _ H) ((lvA_c rfl (lvA_c rfl (lvA_c rfl lvA_n))))
              refine gw_if_eqZ (tgt := 266) dL_isStepSo_178 rfl (by decide) (by decide) (fun q => ?_) (fun q => ?_)
              · have H := bq_t (by omega) H
                exact gw_L (hJ_k66 _ H) ((lvA_c rfl (lvA_c rfl (lvA_c rfl (lvA_c rfl lvA_n)))))
              · have H := bq_f (by omega) H
                refine gw_lload dL_isStepSo_181 rfl rfl ?_
                refine gw_lconst0Z dL_isStepSo_183 rfl ?_
                obtain ⟨g, H⟩ := gd_i H
                refine gw_lc_ltZ (tgt := 266) dL_isStepSo_184 rfl dL_isStepSo_185 rfl (by decide) g (by decide) (fun q => ?_) (fun q => ?_)
                · have H := bq_t q H
                  exact gw_L (hJ_k66 _ H) ((lvA_c rfl (lvA_c rfl (lvA_c rfl (lvA_c rfl lvA_n)))))
                · have H := bq_f q H
                  refine gw_aload_n dL_isStepSo_188 rfl rfl ?_
                  obtain ⟨v78, e_v78, H⟩ := cv_i H
                  refine gw_V0 okX8_idlePivots dL_isStepSo_189 kw_664 kw_665 kw_666 (hp_o (h0.1)) rfl ⟨by decide, by decide⟩ ⟨by decide, by decide⟩ (Nat.le_of_ble_eq_true rfl) (w_X8_idlePivots (h0) e_v78 ?_)
                  refine gw_iload dL_isStepSo_192 rfl rfl ?_
                  refine gw_lload dL_isStepSo_194 rfl rfl ?_
                  refine gw_lconst0Z dL_isStepSo_196 rfl ?_
                  obtain ⟨g, H⟩ := gd_i H
                  obtain ⟨k79, e_k79, H⟩ := jn_i H
                  have hJ_k79 : ∀ (v80 : Int), k79 v80 = some r → G Φ nL_isStepSo (gw_M Φ nL_isStepSo K) none 0 0 206 [(0, .ref (M + p1)), (3, vL v4), (7, vI v6), (8, vI v8), (9, vI v9), (10, vI v11)] [vI v80, vI v15, vI v78] (hp Φ hb M sh c62) := by
                    intro v80 H
                    subst e_k79
                    refine gw_iaddZ dL_isStepSo_206 rfl ?_
                    obtain ⟨g, H⟩ := gd_i H
                    refine gw_icmp_neZ (tgt := 266) dL_isStepSo_207 rfl (by decide) g.1 g.2 (fun q => ?_) (fun q => ?_)
                    · have H := bq_f q H
                      exact gw_L (hJ_k66 _ H) ((lvA_c rfl (lvA_c rfl (lvA_c rfl (lvA_c rfl lvA_n)))))
                    · have H := bq_t q H
                      refine gw_iload dL_isStepSo_210 rfl rfl ?_
                      refine gw_bipushZ dL_isStepSo_212 rfl (by decide) ?_
                      obtain ⟨g, H⟩ := gd_i H
                      obtain ⟨k81, e_k81, H⟩ := jn_i H
                      have hJ_k81 : ∀ (c82 : W0), k81 c82 = some r → G Φ nL_isStepSo (gw_M Φ nL_isStepSo K) none 0 0 228 [(0, .ref (M + p1)), (3, vL v4), (7, vI v6), (8, vI v8), (9, vI v9), (10, vI v11)] [] (hp Φ hb M sh c82) := by
                        intro c82 H
                        subst e_k81
                        refine gw_aload_n dL_isStepSo_228 rfl rfl ?_
                        obtain ⟨v83, c84, e_c84, H⟩ := cn_i H
                        refine gw_V0 oknX8_undo dL_isStepSo_229 kw_267 kw_268 kw_269 (hp_o (h0.1)) rfl ⟨by decide, by decide⟩ ⟨by decide, by decide⟩ (Nat.le_of_ble_eq_true rfl) (n_X8_undo (h0) e_c84 rfl ?_)
                        obtain ⟨g, H⟩ := gd_i H
                        refine gw_if_ltZ (tgt := 266) dL_isStepSo_232 rfl (by decide) g (fun q => ?_) (fun q => ?_)
                        · have H := bq_t q H
                          exact gw_L (hJ_k66 _ H) ((lvA_c rfl (lvA_c rfl (lvA_c rfl (lvA_c rfl lvA_n)))))
                        · have H := bq_f q H
                          refine gw_aload_n dL_isStepSo_235 rfl rfl ?_
                          obtain ⟨v85, c86, e_c86, H⟩ := cn_i H
                          refine gw_V0 oknX8_step dL_isStepSo_236 kw_595 kw_596 kw_597 (hp_o (h0.1)) rfl ⟨by decide, by decide⟩ ⟨by decide, by decide⟩ (Nat.le_of_ble_eq_true rfl) (n_X8_step (h0) e_c86 rfl ?_)
                          refine gw_iload dL_isStepSo_239 rfl rfl ?_
                          obtain ⟨g, H⟩ := gd_i H
                          refine gw_icmp_neZ (tgt := 266) dL_isStepSo_241 rfl (by decide) g.1 g.2 (fun q => ?_) (fun q => ?_)
                          · have H := bq_f q H
                            exact gw_L (hJ_k66 _ H) ((lvA_c rfl (lvA_c rfl (lvA_c rfl (lvA_c rfl lvA_n)))))
                          · have H := bq_t q H
                            refine gw_aload_n dL_isStepSo_244 rfl rfl ?_
                            refine gw_iload dL_isStepSo_245 rfl rfl ?_
                            obtain ⟨v87, c88, e_c88, H⟩ := cn_i H
                            refine gw_V1 oknX8_columnOf dL_isStepSo_247 kw_676 kw_677 kw_678 (hp_o (h0.1)) rfl ⟨by decide, by decide⟩ ⟨by decide, by decide⟩ (Nat.le_of_ble_eq_true rfl) (n_X8_columnOf (h0) e_c88 rfl ?_)
                            refine gw_iload dL_isStepSo_250 rfl rfl ?_
                            obtain ⟨g, H⟩ := gd_i H
                            refine gw_icmp_neZ (tgt := 266) dL_isStepSo_252 rfl (by decide) g.1 g.2 (fun q => ?_) (fun q => ?_)
                            · have H := bq_f q H
                              exact gw_L (hJ_k66 _ H) ((lvA_c rfl (lvA_c rfl (lvA_c rfl (lvA_c rfl lvA_n)))))
                            · have H := bq_t q H
                              refine gw_aload_n dL_isStepSo_255 rfl rfl ?_
                              obtain ⟨v89, c90, e_c90, H⟩ := cn_i H
                              refine gw_V0 oknX8_undo dL_isStepSo_256 kw_267 kw_268 kw_269 (hp_o (h0.1)) rfl ⟨by decide, by decide⟩ ⟨by decide, by decide⟩ (Nat.le_of_ble_eq_true rfl) (n_X8_undo (h0) e_c90 rfl ?_)
                              obtain ⟨g, H⟩ := gd_i H
                              refine gw_if_ltZ (tgt := 266) dL_isStepSo_259 rfl (by decide) g (fun q => ?_) (fun q => ?_)
                              · have H := bq_t q H
                                exact gw_L (hJ_k66 _ H) ((lvA_c rfl (lvA_c rfl (lvA_c rfl (lvA_c rfl lvA_n)))))
                              · have H := bq_f q H
                                refine gw_iconstZ dL_isStepSo_262 rfl ?_
                                refine gw_goto (tgt := 267) dL_isStepSo_263 (by decide) ?_
                                refine gw_istore dL_isStepSo_267 rfl (by decide) ?_
                                refine gw_iload dL_isStepSo_269 rfl rfl ?_
                                refine gw_if_eqZ (tgt := 333) dL_isStepSo_271 rfl (by decide) (by decide) (fun q => ?_) (fun q => ?_)
                                · have H := bq_t (by omega) H
                                  refine gw_iconstZ dL_isStepSo_333 rfl ?_
                                  cases H
                                  exact gw_zret rfl dL_isStepSo_334 rfl (by decide) (by decide) hK
                                · have H := bq_f (by omega) H
                                  refine gw_aload_n dL_isStepSo_274 rfl rfl ?_
                                  obtain ⟨v91, c92, e_c92, H⟩ := cl_i H
                                  refine gw_V0 okX8_solve dL_isStepSo_275 kw_629 kw_630 kw_631 (hp_o (h0.1)) rfl ⟨by decide, by decide⟩ ⟨by decide, by decide⟩ (Nat.le_of_ble_eq_true rfl) (w_X8_solve (h0) e_c92 ?_)
                                  refine gw_iload dL_isStepSo_278 rfl rfl ?_
                                  obtain ⟨g, H⟩ := gd_i H
                                  refine gw_icmp_neZ (tgt := 333) dL_isStepSo_280 rfl (by decide) g.1 g.2 (fun q => ?_) (fun q => ?_)
                                  · have H := bq_f q H
                                    refine gw_iconstZ dL_isStepSo_333 rfl ?_
                                    cases H
                                    exact gw_zret rfl dL_isStepSo_334 rfl (by decide) (by decide) hK
                                  · have H := bq_t q H
                                    refine gw_iload dL_isStepSo_283 rfl rfl ?_
                                    refine gw_bipushZ dL_isStepSo_285 rfl (by decide) ?_
                                    obtain ⟨g, H⟩ := gd_i H
                                    obtain ⟨k93, e_k93, H⟩ := jn_i H
                                    have hJ_k93 : ∀ (u94 : Unit), k93 u94 = some r → G Φ nL_isStepSo (gw_M Φ nL_isStepSo K) none 0 0 304 [(0, .ref (M + p1)), (3, vL v4), (8, vI v8)] [] (hp Φ hb M sh c92) := by
                                      intro u94 H
                                      subst e_k93
                                      refine gw_aload_n dL_isStepSo_304 rfl rfl ?_
                                      obtain ⟨v95, c96, e_c96, H⟩ := cn_i H
                                      refine gw_V0 oknX8_undo dL_isStepSo_305 kw_267 kw_268 kw_269 (hp_o (h0.1)) rfl ⟨by decide, by decide⟩ ⟨by decide, by decide⟩ (Nat.le_of_ble_eq_true rfl) (n_X8_undo (h0) e_c96 rfl ?_)
                                      obtain ⟨g, H⟩ := gd_i H
                                      refine gw_if_ltZ (tgt := 333) dL_isStepSo_308 rfl (by decide) g (fun q => ?_) (fun q => ?_)
                                      · have H := bq_t q H
                                        refine gw_iconstZ dL_isStepSo_333 rfl ?_
                                        cases H
                                        exact gw_zret rfl dL_isStepSo_334 rfl (by decide) (by decide) hK
                                      · have H := bq_f q H
                                        refine gw_aload_n dL_isStepSo_311 rfl rfl ?_
                                        obtain ⟨v97, e_v97, H⟩ := cv_i H
                                        refine gw_V0 okX8_pivots dL_isStepSo_312 kw_656 kw_657 kw_658 (hp_o (h0.1)) rfl ⟨by decide, by decide⟩ ⟨by decide, by decide⟩ (Nat.le_of_ble_eq_true rfl) (w_X8_pivots (h0) e_v97 ?_)
                                        refine gw_iload dL_isStepSo_315 rfl rfl ?_
                                        obtain ⟨g, H⟩ := gd_i H
                                        refine gw_icmp_neZ (tgt := 333) dL_isStepSo_317 rfl (by decide) g.1 g.2 (fun q => ?_) (fun q => ?_)
                                        · have H := bq_f q H
                                          refine gw_iconstZ dL_isStepSo_333 rfl ?_
                                          cases H
                                          exact gw_zret rfl dL_isStepSo_334 rfl (by decide) (by decide) hK
                                        · have H := bq_t q H
                                          refine gw_aload_n dL_isStepSo_320 rfl rfl ?_
                                          obtain ⟨v98, e_v98, H⟩ := cv_i H
                                          refine gw_V0 okX8_valueNumerator dL_isStepSo_321 kw_714 kw_715 kw_716 (hp_o (h0.1)) rfl ⟨by decide, by decide⟩ ⟨by decide, by decide⟩ (Nat.le_of_ble_eq_true rfl) (w_X8_valueNumerator (h0) e_v98 ?_)
                                          refine gw_lload_n dL_isStepSo_324 rfl rfl ?_
                                          obtain ⟨g, H⟩ := gd_i H
                                          refine gw_lc_neZ (tgt := 333) dL_isStepSo_325 rfl dL_isStepSo_326 rfl (by decide) g.1 g.2 (fun q => ?_) (fun q => ?_)
                                          · have H := bq_f q H
                                            refine gw_iconstZ dL_isStepSo_333 rfl ?_
                                            cases H
                                            exact gw_zret rfl dL_isStepSo_334 rfl (by decide) (by decide) hK
                                          · have H := bq_t q H
                                            refine gw_iconstZ dL_isStepSo_329 rfl ?_
                                            refine gw_goto (tgt := 334) dL_isStepSo_330 (by decide) ?_
                                            cases H
                                            exact gw_zret rfl dL_isStepSo_334 rfl (by decide) (by decide) hK
                                    refine gw_icmp_eqZ (tgt := 304) dL_isStepSo_287 rfl (by decide) g (by decide) (fun q => ?_) (fun q => ?_)
                                    · have H := bq_t q H
                                      exact gw_L (hJ_k93 _ H) ((lvA_c rfl (lvA_c rfl (lvA_c rfl lvA_n))))
                                    · have H := bq_f q H
                                      refine gw_aload_n dL_isStepSo_290 rfl rfl ?_
                                      obtain ⟨v99, e_v99, H⟩ := cv_i H
                                      refine gw_V0 okX8_isOptimal dL_isStepSo_291 kw_809 kw_810 kw_811 (hp_o (h0.1)) rfl ⟨by decide, by decide⟩ ⟨by decide, by decide⟩ (Nat.le_of_ble_eq_true rfl) (w_X8_isOptimal (h0) e_v99 ?_)
                                      obtain ⟨g, H⟩ := gd_i H
                                      refine gw_if_neZ (tgt := 304) dL_isStepSo_294 rfl (by decide) g (fun q => ?_) (fun q => ?_)
                                      · have H := bq_f q H
                                        exact gw_L (hJ_k93 _ H) ((lvA_c rfl (lvA_c rfl (lvA_c rfl lvA_n))))
                                      · have H := bq_t q H
                                        refine gw_aload_n dL_isStepSo_297 rfl rfl ?_
                                        obtain ⟨v100, e_v100, H⟩ := cv_i H
                                        refine gw_V0 okX8_hasRay dL_isStepSo_298 kw_814 kw_815 kw_816 (hp_o (h0.1)) rfl ⟨by decide, by decide⟩ ⟨by decide, by decide⟩ (Nat.le_of_ble_eq_true rfl) (w_X8_hasRay (h0) e_v100 ?_)
                                        obtain ⟨g, H⟩ := gd_i H
                                        refine gw_if_eqZ (tgt := 333) dL_isStepSo_301 rfl (by decide) g (fun q => ?_) (fun q => ?_)
                                        · have H := bq_t q H
                                          refine gw_iconstZ dL_isStepSo_333 rfl ?_
                                          cases H
                                          exact gw_zret rfl dL_isStepSo_334 rfl (by decide) (by decide) hK
                                        · have H := bq_f q H
                                          exact gw_L (hJ_k93 _ H) ((lvA_c rfl (lvA_c rfl (lvA_c rfl lvA_n))))
                      refine gw_icmp_eqZ (tgt := 228) dL_isStepSo_214 rfl (by decide) g (by decide) (fun q => ?_) (fun q => ?_)
                      · have H := bq_t q H
                        exact gw_L (hJ_k81 _ H) ((lvA_c rfl (lvA_c rfl (lvA_c rfl (lvA_c rfl (lvA_c rfl (lvA_c rfl lvA_n)))))))
                      · have H := bq_f q H
                        refine gw_aload_n dL_isStepSo_217 rfl rfl ?_
                        obtain ⟨v101, c102, e_c102, H⟩ := cl_i H
                        refine gw_V0 okX8_pivotsLeft dL_isStepSo_218 kw_921 kw_922 kw_923 (hp_o (h0.1)) rfl ⟨by decide, by decide⟩ ⟨by decide, by decide⟩ (Nat.le_of_ble_eq_true rfl) (w_X8_pivotsLeft (h0) e_c102 ?_)
                        refine gw_iload dL_isStepSo_221 rfl rfl ?_
                        refine gw_iconstZ dL_isStepSo_223 rfl ?_
                        refine gw_isubZ dL_isStepSo_224 rfl ?_
                        obtain ⟨g, H⟩ := gd_i H
                        refine gw_icmp_neZ (tgt := 266) dL_isStepSo_225 rfl (by decide) g.1 g.2 (fun q => ?_) (fun q => ?_)
                        · have H := bq_f q H
                          exact gw_L (hJ_k66 _ H) ((lvA_c rfl (lvA_c rfl (lvA_c rfl (lvA_c rfl lvA_n)))))
                        · have H := bq_t q H
                          exact gw_L (hJ_k81 _ H) ((lvA_c rfl (lvA_c rfl (lvA_c rfl (lvA_c rfl (lvA_c rfl (lvA_c rfl lvA_n)))))))
                  refine gw_lc_neZ (tgt := 205) dL_isStepSo_197 rfl dL_isStepSo_198 rfl (by decide) g (by decide) (fun q => ?_) (fun q => ?_)
                  · have H := bq_f q H
                    refine gw_iconstZ dL_isStepSo_205 rfl ?_
                    exact gw_L (hJ_k79 _ H) ((lvA_c rfl (lvA_c rfl (lvA_c rfl (lvA_c rfl (lvA_c rfl (lvA_c rfl lvA_n)))))))
                  · have H := bq_t q H
                    refine gw_iconstZ dL_isStepSo_201 rfl ?_
                    refine gw_goto (tgt := 206) dL_isStepSo_202 (by decide) ?_
                    exact gw_L (hJ_k79 _ H) ((lvA_c rfl (lvA_c rfl (lvA_c rfl (lvA_c rfl (lvA_c rfl (lvA_c rfl lvA_n)))))))
    · have H := bq_f (by omega) H
      refine gw_iload dL_isStepSo_47 rfl rfl ?_
      obtain ⟨g, H⟩ := gd_i H
      refine gw_if_neZ (tgt := 79) dL_isStepSo_49 rfl (by decide) g (fun q => ?_) (fun q => ?_)
      · have H := bq_f q H
        refine gw_iconstZ dL_isStepSo_79 rfl ?_
        cases H
        exact gw_zret rfl dL_isStepSo_80 rfl (by decide) (by decide) hK
      · have H := bq_t q H
        refine gw_aload_n dL_isStepSo_52 rfl rfl ?_
        refine gw_bipushZ dL_isStepSo_53 rfl (by decide) ?_
        refine gw_iconstZ dL_isStepSo_55 rfl ?_
        refine gw_iconstZ dL_isStepSo_56 rfl ?_
        refine gw_iconstZ dL_isStepSo_57 rfl ?_
        refine gw_aload_n dL_isStepSo_58 rfl rfl ?_
        obtain ⟨v103, c104, e_c104, H⟩ := cl_i H
        refine gw_SH6 okL_changes dL_isStepSo_59 kw_381 kw_382 ⟨by decide, by decide⟩ ⟨by decide, by decide⟩ (Nat.le_of_ble_eq_true rfl) (w_L_changes (h0) (h1) e_c104 ?_)
        refine gw_iconstZ dL_isStepSo_62 rfl ?_
        obtain ⟨g, H⟩ := gd_i H
        refine gw_icmp_neZ (tgt := 79) dL_isStepSo_63 rfl (by decide) g (by decide) (fun q => ?_) (fun q => ?_)
        · have H := bq_f q H
          refine gw_iconstZ dL_isStepSo_79 rfl ?_
          cases H
          exact gw_zret rfl dL_isStepSo_80 rfl (by decide) (by decide) hK
        · have H := bq_t q H
          refine gw_aload_n dL_isStepSo_66 rfl rfl ?_
          obtain ⟨v105, e_v105, H⟩ := cv_i H
          refine gw_V0 okX8_pivots dL_isStepSo_67 kw_656 kw_657 kw_658 (hp_o (h0.1)) rfl ⟨by decide, by decide⟩ ⟨by decide, by decide⟩ (Nat.le_of_ble_eq_true rfl) (w_X8_pivots (h0) e_v105 ?_)
          refine gw_iload dL_isStepSo_70 rfl rfl ?_
          obtain ⟨g, H⟩ := gd_i H
          refine gw_icmp_neZ (tgt := 79) dL_isStepSo_72 rfl (by decide) g.1 g.2 (fun q => ?_) (fun q => ?_)
          · have H := bq_f q H
            refine gw_iconstZ dL_isStepSo_79 rfl ?_
            cases H
            exact gw_zret rfl dL_isStepSo_80 rfl (by decide) (by decide) hK
          · have H := bq_t q H
            refine gw_iconstZ dL_isStepSo_75 rfl ?_
            refine gw_goto (tgt := 80) dL_isStepSo_76 (by decide) ?_
            cases H
            exact gw_zret rfl dL_isStepSo_80 rfl (by decide) (by decide) hK
  refine gw_if_neZ (tgt := 14) dL_isStepSo_4 rfl (by decide) g (fun q => ?_) (fun q => ?_)
  · have H := bq_f q H
    exact gw_L (hJ_k2 _ H) ((lvA_c rfl (lvA_c rfl lvA_n)))
  · have H := bq_t q H
    refine gw_aload_n dL_isStepSo_7 rfl rfl ?_
    obtain ⟨v106, e_v106, H⟩ := cv_i H
    refine gw_V0 okX8_hasRay dL_isStepSo_8 kw_814 kw_815 kw_816 (hp_o (h0.1)) rfl ⟨by decide, by decide⟩ ⟨by decide, by decide⟩ (Nat.le_of_ble_eq_true rfl) (w_X8_hasRay (h0) e_v106 ?_)
    obtain ⟨g, H⟩ := gd_i H
    refine gw_if_eqZ (tgt := 18) dL_isStepSo_11 rfl (by decide) g (fun q => ?_) (fun q => ?_)
    · have H := bq_t q H
      refine gw_iconstZ dL_isStepSo_18 rfl ?_
      refine gw_istore_n dL_isStepSo_19 rfl (by decide) ?_
      refine gw_aload_n dL_isStepSo_20 rfl rfl ?_
      obtain ⟨v107, e_v107, H⟩ := cv_i H
      refine gw_V0 okX8_valueNumerator dL_isStepSo_21 kw_714 kw_715 kw_716 (hp_o (h0.1)) rfl ⟨by decide, by decide⟩ ⟨by decide, by decide⟩ (Nat.le_of_ble_eq_true rfl) (w_X8_valueNumerator (h0) e_v107 ?_)
      refine gw_lstore_n dL_isStepSo_24 rfl (by decide) ?_
      refine gw_aload_n dL_isStepSo_25 rfl rfl ?_
      obtain ⟨v108, e_v108, H⟩ := cv_i H
      refine gw_V0 okX8_valueDenominator dL_isStepSo_26 kw_722 kw_723 kw_724 (hp_o (h0.1)) rfl ⟨by decide, by decide⟩ ⟨by decide, by decide⟩ (Nat.le_of_ble_eq_true rfl) (w_X8_valueDenominator (h0) e_v108 ?_)
      refine gw_lstore dL_isStepSo_29 rfl (by decide) ?_
      refine gw_aload_n dL_isStepSo_31 rfl rfl ?_
      obtain ⟨v109, c110, e_c110, H⟩ := cl_i H
      refine gw_V0 okX8_pivotsLeft dL_isStepSo_32 kw_921 kw_922 kw_923 (hp_o (h0.1)) rfl ⟨by decide, by decide⟩ ⟨by decide, by decide⟩ (Nat.le_of_ble_eq_true rfl) (w_X8_pivotsLeft (h0) e_c110 ?_)
      refine gw_istore dL_isStepSo_35 rfl (by decide) ?_
      refine gw_aload_n dL_isStepSo_37 rfl rfl ?_
      obtain ⟨v111, e_v111, H⟩ := cv_i H
      refine gw_V0 okX8_pivots dL_isStepSo_38 kw_656 kw_657 kw_658 (hp_o (h0.1)) rfl ⟨by decide, by decide⟩ ⟨by decide, by decide⟩ (Nat.le_of_ble_eq_true rfl) (w_X8_pivots (h0) e_v111 ?_)
      refine gw_istore dL_isStepSo_41 rfl (by decide) ?_
      refine gw_iload_n dL_isStepSo_43 rfl rfl ?_
      refine gw_if_eqZ (tgt := 81) dL_isStepSo_44 rfl (by decide) (by decide) (fun q => ?_) (fun q => ?_)
      · have H := bq_t (by omega) H
        refine gw_aload_n dL_isStepSo_81 rfl rfl ?_
        obtain ⟨v112, c113, e_c113, H⟩ := cn_i H
        refine gw_V0 oknX8_nextColumn dL_isStepSo_82 kw_925 kw_926 kw_927 (hp_o (h0.1)) rfl ⟨by decide, by decide⟩ ⟨by decide, by decide⟩ (Nat.le_of_ble_eq_true rfl) (n_X8_nextColumn (h0) e_c113 rfl ?_)
        refine gw_istore dL_isStepSo_85 rfl (by decide) ?_
        refine gw_aload_n dL_isStepSo_87 rfl rfl ?_
        obtain ⟨v114, c115, e_c115, H⟩ := cn_i H
        refine gw_V0 oknX8_nextRow dL_isStepSo_88 kw_929 kw_930 kw_931 (hp_o (h0.1)) rfl ⟨by decide, by decide⟩ ⟨by decide, by decide⟩ (Nat.le_of_ble_eq_true rfl) (n_X8_nextRow (h0) e_c115 rfl ?_)
        refine gw_istore dL_isStepSo_91 rfl (by decide) ?_
        refine gw_aload_n dL_isStepSo_93 rfl rfl ?_
        refine gw_iload dL_isStepSo_94 rfl rfl ?_
        obtain ⟨v116, c117, e_c117, H⟩ := cn_i H
        refine gw_V1 oknX8_columnOf dL_isStepSo_96 kw_676 kw_677 kw_678 (hp_o (h0.1)) rfl ⟨by decide, by decide⟩ ⟨by decide, by decide⟩ (Nat.le_of_ble_eq_true rfl) (n_X8_columnOf (h0) e_c117 rfl ?_)
        refine gw_istore dL_isStepSo_99 rfl (by decide) ?_
        refine gw_aload_n dL_isStepSo_101 rfl rfl ?_
        obtain ⟨v118, e_v118, H⟩ := cv_i H
        refine gw_V0 okX8_idlePivots dL_isStepSo_102 kw_664 kw_665 kw_666 (hp_o (h0.1)) rfl ⟨by decide, by decide⟩ ⟨by decide, by decide⟩ (Nat.le_of_ble_eq_true rfl) (w_X8_idlePivots (h0) e_v118 ?_)
        refine gw_istore dL_isStepSo_105 rfl (by decide) ?_
        refine gw_aload_n dL_isStepSo_107 rfl rfl ?_
        refine gw_iload dL_isStepSo_108 rfl rfl ?_
        refine gw_iload dL_isStepSo_110 rfl rfl ?_
        obtain ⟨v119, c120, e_c120, H⟩ := cn_i H
        refine gw_V2 oknX8_whyNoPivot dL_isStepSo_112 kw_745 kw_746 kw_747 (hp_o (h0.1)) rfl ⟨by decide, by decide⟩ ⟨by decide, by decide⟩ (Nat.le_of_ble_eq_true rfl) (n_X8_whyNoPivot (h0) e_c120 rfl ?_)
        obtain ⟨g, H⟩ := gd_i H
        obtain ⟨k121, e_k121, H⟩ := jn_i H
        have hJ_k121 : ∀ (c122 : W0), k121 c122 = some r → G Φ nL_isStepSo (gw_M Φ nL_isStepSo K) none 0 0 157 [(0, .ref (M + p1)), (3, vL v107), (5, vL v108), (7, vI v109), (8, vI v111), (9, vI v112), (10, vI v114), (12, vI v118)] [] (hp Φ hb M sh c122) := by
          intro c122 H
          subst e_k121
          refine gw_iconstZ dL_isStepSo_157 rfl ?_
          refine gw_istore dL_isStepSo_158 rfl (by decide) ?_
          refine gw_aload_n dL_isStepSo_160 rfl rfl ?_
          obtain ⟨v123, e_v123, H⟩ := cv_i H
          refine gw_V0 okX8_valueNumerator dL_isStepSo_161 kw_714 kw_715 kw_716 (hp_o (h0.1)) rfl ⟨by decide, by decide⟩ ⟨by decide, by decide⟩ (Nat.le_of_ble_eq_true rfl) (w_X8_valueNumerator (h0) e_v123 ?_)
          refine gw_lload dL_isStepSo_164 rfl rfl ?_
          refine gw_lmulZ dL_isStepSo_166 rfl ?_
          refine gw_lload_n dL_isStepSo_167 rfl rfl ?_
          refine gw_aload_n dL_isStepSo_168 rfl rfl ?_
          obtain ⟨v124, e_v124, H⟩ := cv_i H
          refine gw_V0 okX8_valueDenominator dL_isStepSo_169 kw_722 kw_723 kw_724 (hp_o (h0.1)) rfl ⟨by decide, by decide⟩ ⟨by decide, by decide⟩ (Nat.le_of_ble_eq_true rfl) (w_X8_valueDenominator (h0) e_v124 ?_)
          refine gw_lmulZ dL_isStepSo_172 rfl ?_
          refine gw_lsubZ dL_isStepSo_173 rfl ?_
          refine gw_lstore dL_isStepSo_174 rfl (by decide) ?_
          refine gw_iload dL_isStepSo_176 rfl rfl ?_
          obtain ⟨k125, e_k125, H⟩ := jn_i H
          have hJ_k125 : ∀ (c126 : W0), k125 c126 = some r → G Φ nL_isStepSo (gw_M Φ nL_isStepSo K) none 0 0 266 [(0, .ref (M + p1)), (3, vL v107), (7, vI v109), (8, vI v111)] [] (hp Φ hb M sh c126) := by
            intro c126 H
            subst e_k125
            refine gw_iconstZ dL_isStepSo_266 rfl ?_
            refine gw_istore dL_isStepSo_267 rfl (by decide) ?_
            refine gw_iload dL_isStepSo_269 rfl rfl ?_
            refine gw_if_eqZ (tgt := 333) dL_isStepSo_271 rfl (by decide) (by decide) (fun q => ?_) (fun q => ?_)
            · have H := bq_t (by omega) H
              refine gw_iconstZ dL_isStepSo_333 rfl ?_
              cases H
              exact gw_zret rfl dL_isStepSo_334 rfl (by decide) (by decide) hK
            · have H := bq_f (by omega) H
              refine gw_aload_n dL_isStepSo_274 rfl rfl ?_
              obtain ⟨v127, c128, e_c128, H⟩ := cl_i H
              refine gw_V0 okX8_solve dL_isStepSo_275 kw_629 kw_630 kw_631 (hp_o (h0.1)) rfl ⟨by decide, by decide⟩ ⟨by decide, by decide⟩ (Nat.le_of_ble_eq_true rfl) (w_X8_solve (h0) e_c128 ?_)
              refine gw_iload dL_isStepSo_278 rfl rfl ?_
              obtain ⟨g, H⟩ := gd_i H
              refine gw_icmp_neZ (tgt := 333) dL_isStepSo_280 rfl (by decide) g.1 g.2 (fun q => ?_) (fun q => ?_)
              · have H := bq_f q H
                refine gw_iconstZ dL_isStepSo_333 rfl ?_
                cases H
                exact gw_zret rfl dL_isStepSo_334 rfl (by decide) (by decide) hK
              · have H := bq_t q H
                refine gw_iload dL_isStepSo_283 rfl rfl ?_
                refine gw_bipushZ dL_isStepSo_285 rfl (by decide) ?_
                obtain ⟨g, H⟩ := gd_i H
                obtain ⟨k129, e_k129, H⟩ := jn_i H
                have hJ_k129 : ∀ (u130 : Unit), k129 u130 = some r → G Φ nL_isStepSo (gw_M Φ nL_isStepSo K) none 0 0 304 [(0, .ref (M + p1)), (3, vL v107), (8, vI v111)] [] (hp Φ hb M sh c128) := by
                  intro u130 H
                  subst e_k129
                  refine gw_aload_n dL_isStepSo_304 rfl rfl ?_
                  obtain ⟨v131, c132, e_c132, H⟩ := cn_i H
                  refine gw_V0 oknX8_undo dL_isStepSo_305 kw_267 kw_268 kw_269 (hp_o (h0.1)) rfl ⟨by decide, by decide⟩ ⟨by decide, by decide⟩ (Nat.le_of_ble_eq_true rfl) (n_X8_undo (h0) e_c132 rfl ?_)
                  obtain ⟨g, H⟩ := gd_i H
                  refine gw_if_ltZ (tgt := 333) dL_isStepSo_308 rfl (by decide) g (fun q => ?_) (fun q => ?_)
                  · have H := bq_t q H
                    refine gw_iconstZ dL_isStepSo_333 rfl ?_
                    cases H
                    exact gw_zret rfl dL_isStepSo_334 rfl (by decide) (by decide) hK
                  · have H := bq_f q H
                    refine gw_aload_n dL_isStepSo_311 rfl rfl ?_
                    obtain ⟨v133, e_v133, H⟩ := cv_i H
                    refine gw_V0 okX8_pivots dL_isStepSo_312 kw_656 kw_657 kw_658 (hp_o (h0.1)) rfl ⟨by decide, by decide⟩ ⟨by decide, by decide⟩ (Nat.le_of_ble_eq_true rfl) (w_X8_pivots (h0) e_v133 ?_)
                    refine gw_iload dL_isStepSo_315 rfl rfl ?_
                    obtain ⟨g, H⟩ := gd_i H
                    refine gw_icmp_neZ (tgt := 333) dL_isStepSo_317 rfl (by decide) g.1 g.2 (fun q => ?_) (fun q => ?_)
                    · have H := bq_f q H
                      refine gw_iconstZ dL_isStepSo_333 rfl ?_
                      cases H
                      exact gw_zret rfl dL_isStepSo_334 rfl (by decide) (by decide) hK
                    · have H := bq_t q H
                      refine gw_aload_n dL_isStepSo_320 rfl rfl ?_
                      obtain ⟨v134, e_v134, H⟩ := cv_i H
                      refine gw_V0 okX8_valueNumerator dL_isStepSo_321 kw_714 kw_715 kw_716 (hp_o (h0.1)) rfl ⟨by decide, by decide⟩ ⟨by decide, by decide⟩ (Nat.le_of_ble_eq_true rfl) (w_X8_valueNumerator (h0) e_v134 ?_)
                      refine gw_lload_n dL_isStepSo_324 rfl rfl ?_
                      obtain ⟨g, H⟩ := gd_i H
                      refine gw_lc_neZ (tgt := 333) dL_isStepSo_325 rfl dL_isStepSo_326 rfl (by decide) g.1 g.2 (fun q => ?_) (fun q => ?_)
                      · have H := bq_f q H
                        refine gw_iconstZ dL_isStepSo_333 rfl ?_
                        cases H
                        exact gw_zret rfl dL_isStepSo_334 rfl (by decide) (by decide) hK
                      · have H := bq_t q H
                        refine gw_iconstZ dL_isStepSo_329 rfl ?_
                        refine gw_goto (tgt := 334) dL_isStepSo_330 (by decide) ?_
                        cases H
                        exact gw_zret rfl dL_isStepSo_334 rfl (by decide) (by decide) hK
                refine gw_icmp_eqZ (tgt := 304) dL_isStepSo_287 rfl (by decide) g (by decide) (fun q => ?_) (fun q => ?_)
                · have H := bq_t q H
                  exact gw_L (hJ_k129 _ H) ((lvA_c rfl (lvA_c rfl (lvA_c rfl lvA_n))))
                · have H := bq_f q H
                  refine gw_aload_n dL_isStepSo_290 rfl rfl ?_
                  obtain ⟨v135, e_v135, H⟩ := cv_i H
                  refine gw_V0 okX8_isOptimal dL_isStepSo_291 kw_809 kw_810 kw_811 (hp_o (h0.1)) rfl ⟨by decide, by decide⟩ ⟨by decide, by decide⟩ (Nat.le_of_ble_eq_true rfl) (w_X8_isOptimal (h0) e_v135 ?_)
                  obtain ⟨g, H⟩ := gd_i H
                  refine gw_if_neZ (tgt := 304) dL_isStepSo_294 rfl (by decide) g (fun q => ?_) (fun q => ?_)
                  · have H := bq_f q H
                    exact gw_L (hJ_k129 _ H) ((lvA_c rfl (lvA_c rfl (lvA_c rfl lvA_n))))
                  · have H := bq_t q H
                    refine gw_aload_n dL_isStepSo_297 rfl rfl ?_
                    obtain ⟨v136, e_v136, H⟩ := cv_i H
                    refine gw_V0 okX8_hasRay dL_isStepSo_298 kw_814 kw_815 kw_816 (hp_o (h0.1)) rfl ⟨by decide, by decide⟩ ⟨by decide, by decide⟩ (Nat.le_of_ble_eq_true rfl) (w_X8_hasRay (h0) e_v136 ?_)
                    obtain ⟨g, H⟩ := gd_i H
                    refine gw_if_eqZ (tgt := 333) dL_isStepSo_301 rfl (by decide) g (fun q => ?_) (fun q => ?_)
                    · have H := bq_t q H
                      refine gw_iconstZ dL_isStepSo_333 rfl ?_
                      cases H
                      exact gw_zret rfl dL_isStepSo_334 rfl (by decide) (by decide) hK
                    · have H := bq_f q H
                      exact gw_L (hJ_k129 _ H) ((lvA_c rfl (lvA_c rfl (lvA_c rfl lvA_n))))
          refine gw_if_eqZ (tgt := 266) dL_isStepSo_178 rfl (by decide) (by decide) (fun q => ?_) (fun q => ?_)
          · have H := bq_t (by omega) H
            exact gw_L (hJ_k125 _ H) ((lvA_c rfl (lvA_c rfl (lvA_c rfl (lvA_c rfl lvA_n)))))
          · have H := bq_f (by omega) H
            refine gw_lload dL_isStepSo_181 rfl rfl ?_
            refine gw_lconst0Z dL_isStepSo_183 rfl ?_
            obtain ⟨g, H⟩ := gd_i H
            refine gw_lc_ltZ (tgt := 266) dL_isStepSo_184 rfl dL_isStepSo_185 rfl (by decide) g (by decide) (fun q => ?_) (fun q => ?_)
            · have H := bq_t q H
              exact gw_L (hJ_k125 _ H) ((lvA_c rfl (lvA_c rfl (lvA_c rfl (lvA_c rfl lvA_n)))))
            · have H := bq_f q H
              refine gw_aload_n dL_isStepSo_188 rfl rfl ?_
              obtain ⟨v137, e_v137, H⟩ := cv_i H
              refine gw_V0 okX8_idlePivots dL_isStepSo_189 kw_664 kw_665 kw_666 (hp_o (h0.1)) rfl ⟨by decide, by decide⟩ ⟨by decide, by decide⟩ (Nat.le_of_ble_eq_true rfl) (w_X8_idlePivots (h0) e_v137 ?_)
              refine gw_iload dL_isStepSo_192 rfl rfl ?_
              refine gw_lload dL_isStepSo_194 rfl rfl ?_
              refine gw_lconst0Z dL_isStepSo_196 rfl ?_
              obtain ⟨g, H⟩ := gd_i H
              obtain ⟨k138, e_k138, H⟩ := jn_i H
              have hJ_k138 : ∀ (v139 : Int), k138 v139 = some r → G Φ nL_isStepSo (gw_M Φ nL_isStepSo K) none 0 0 206 [(0, .ref (M + p1)), (3, vL v107), (7, vI v109), (8, vI v111), (9, vI v112), (10, vI v114)] [vI v139, vI v118, vI v137] (hp Φ hb M sh c122) := by
                intro v139 H
                subst e_k138
                refine gw_iaddZ dL_isStepSo_206 rfl ?_
                obtain ⟨g, H⟩ := gd_i H
                refine gw_icmp_neZ (tgt := 266) dL_isStepSo_207 rfl (by decide) g.1 g.2 (fun q => ?_) (fun q => ?_)
                · have H := bq_f q H
                  exact gw_L (hJ_k125 _ H) ((lvA_c rfl (lvA_c rfl (lvA_c rfl (lvA_c rfl lvA_n)))))
                · have H := bq_t q H
                  refine gw_iload dL_isStepSo_210 rfl rfl ?_
                  refine gw_bipushZ dL_isStepSo_212 rfl (by decide) ?_
                  obtain ⟨g, H⟩ := gd_i H
                  obtain ⟨k140, e_k140, H⟩ := jn_i H
                  have hJ_k140 : ∀ (c141 : W0), k140 c141 = some r → G Φ nL_isStepSo (gw_M Φ nL_isStepSo K) none 0 0 228 [(0, .ref (M + p1)), (3, vL v107), (7, vI v109), (8, vI v111), (9, vI v112), (10, vI v114)] [] (hp Φ hb M sh c141) := by
                    intro c141 H
                    subst e_k140
                    refine gw_aload_n dL_isStepSo_228 rfl rfl ?_
                    obtain ⟨v142, c143, e_c143, H⟩ := cn_i H
                    refine gw_V0 oknX8_undo dL_isStepSo_229 kw_267 kw_268 kw_269 (hp_o (h0.1)) rfl ⟨by decide, by decide⟩ ⟨by decide, by decide⟩ (Nat.le_of_ble_eq_true rfl) (n_X8_undo (h0) e_c143 rfl ?_)
                    obtain ⟨g, H⟩ := gd_i H
                    refine gw_if_ltZ (tgt := 266) dL_isStepSo_232 rfl (by decide) g (fun q => ?_) (fun q => ?_)
                    · have H := bq_t q H
                      exact gw_L (hJ_k125 _ H) ((lvA_c rfl (lvA_c rfl (lvA_c rfl (lvA_c rfl lvA_n)))))
                    · have H := bq_f q H
                      refine gw_aload_n dL_isStepSo_235 rfl rfl ?_
                      obtain ⟨v144, c145, e_c145, H⟩ := cn_i H
                      refine gw_V0 oknX8_step dL_isStepSo_236 kw_595 kw_596 kw_597 (hp_o (h0.1)) rfl ⟨by decide, by decide⟩ ⟨by decide, by decide⟩ (Nat.le_of_ble_eq_true rfl) (n_X8_step (h0) e_c145 rfl ?_)
                      refine gw_iload dL_isStepSo_239 rfl rfl ?_
                      obtain ⟨g, H⟩ := gd_i H
                      refine gw_icmp_neZ (tgt := 266) dL_isStepSo_241 rfl (by decide) g.1 g.2 (fun q => ?_) (fun q => ?_)
                      · have H := bq_f q H
                        exact gw_L (hJ_k125 _ H) ((lvA_c rfl (lvA_c rfl (lvA_c rfl (lvA_c rfl lvA_n)))))
                      · have H := bq_t q H
                        refine gw_aload_n dL_isStepSo_244 rfl rfl ?_
                        refine gw_iload dL_isStepSo_245 rfl rfl ?_
                        obtain ⟨v146, c147, e_c147, H⟩ := cn_i H
                        refine gw_V1 oknX8_columnOf dL_isStepSo_247 kw_676 kw_677 kw_678 (hp_o (h0.1)) rfl ⟨by decide, by decide⟩ ⟨by decide, by decide⟩ (Nat.le_of_ble_eq_true rfl) (n_X8_columnOf (h0) e_c147 rfl ?_)
                        refine gw_iload dL_isStepSo_250 rfl rfl ?_
                        obtain ⟨g, H⟩ := gd_i H
                        refine gw_icmp_neZ (tgt := 266) dL_isStepSo_252 rfl (by decide) g.1 g.2 (fun q => ?_) (fun q => ?_)
                        · have H := bq_f q H
                          exact gw_L (hJ_k125 _ H) ((lvA_c rfl (lvA_c rfl (lvA_c rfl (lvA_c rfl lvA_n)))))
                        · have H := bq_t q H
                          refine gw_aload_n dL_isStepSo_255 rfl rfl ?_
                          obtain ⟨v148, c149, e_c149, H⟩ := cn_i H
                          refine gw_V0 oknX8_undo dL_isStepSo_256 kw_267 kw_268 kw_269 (hp_o (h0.1)) rfl ⟨by decide, by decide⟩ ⟨by decide, by decide⟩ (Nat.le_of_ble_eq_true rfl) (n_X8_undo (h0) e_c149 rfl ?_)
                          obtain ⟨g, H⟩ := gd_i H
                          refine gw_if_ltZ (tgt := 266) dL_isStepSo_259 rfl (by decide) g (fun q => ?_) (fun q => ?_)
                          · have H := bq_t q H
                            exact gw_L (hJ_k125 _ H) ((lvA_c rfl (lvA_c rfl (lvA_c rfl (lvA_c rfl lvA_n)))))
                          · have H := bq_f q H
                            refine gw_iconstZ dL_isStepSo_262 rfl ?_
                            refine gw_goto (tgt := 267) dL_isStepSo_263 (by decide) ?_
                            refine gw_istore dL_isStepSo_267 rfl (by decide) ?_
                            refine gw_iload dL_isStepSo_269 rfl rfl ?_
                            refine gw_if_eqZ (tgt := 333) dL_isStepSo_271 rfl (by decide) (by decide) (fun q => ?_) (fun q => ?_)
                            · have H := bq_t (by omega) H
                              refine gw_iconstZ dL_isStepSo_333 rfl ?_
                              cases H
                              exact gw_zret rfl dL_isStepSo_334 rfl (by decide) (by decide) hK
                            · have H := bq_f (by omega) H
                              refine gw_aload_n dL_isStepSo_274 rfl rfl ?_
                              obtain ⟨v150, c151, e_c151, H⟩ := cl_i H
                              refine gw_V0 okX8_solve dL_isStepSo_275 kw_629 kw_630 kw_631 (hp_o (h0.1)) rfl ⟨by decide, by decide⟩ ⟨by decide, by decide⟩ (Nat.le_of_ble_eq_true rfl) (w_X8_solve (h0) e_c151 ?_)
                              refine gw_iload dL_isStepSo_278 rfl rfl ?_
                              obtain ⟨g, H⟩ := gd_i H
                              refine gw_icmp_neZ (tgt := 333) dL_isStepSo_280 rfl (by decide) g.1 g.2 (fun q => ?_) (fun q => ?_)
                              · have H := bq_f q H
                                refine gw_iconstZ dL_isStepSo_333 rfl ?_
                                cases H
                                exact gw_zret rfl dL_isStepSo_334 rfl (by decide) (by decide) hK
                              · have H := bq_t q H
                                refine gw_iload dL_isStepSo_283 rfl rfl ?_
                                refine gw_bipushZ dL_isStepSo_285 rfl (by decide) ?_
                                obtain ⟨g, H⟩ := gd_i H
                                obtain ⟨k152, e_k152, H⟩ := jn_i H
                                have hJ_k152 : ∀ (u153 : Unit), k152 u153 = some r → G Φ nL_isStepSo (gw_M Φ nL_isStepSo K) none 0 0 304 [(0, .ref (M + p1)), (3, vL v107), (8, vI v111)] [] (hp Φ hb M sh c151) := by
                                  intro u153 H
                                  subst e_k152
                                  refine gw_aload_n dL_isStepSo_304 rfl rfl ?_
                                  obtain ⟨v154, c155, e_c155, H⟩ := cn_i H
                                  refine gw_V0 oknX8_undo dL_isStepSo_305 kw_267 kw_268 kw_269 (hp_o (h0.1)) rfl ⟨by decide, by decide⟩ ⟨by decide, by decide⟩ (Nat.le_of_ble_eq_true rfl) (n_X8_undo (h0) e_c155 rfl ?_)
                                  obtain ⟨g, H⟩ := gd_i H
                                  refine gw_if_ltZ (tgt := 333) dL_isStepSo_308 rfl (by decide) g (fun q => ?_) (fun q => ?_)
                                  · have H := bq_t q H
                                    refine gw_iconstZ dL_isStepSo_333 rfl ?_
                                    cases H
                                    exact gw_zret rfl dL_isStepSo_334 rfl (by decide) (by decide) hK
                                  · have H := bq_f q H
                                    refine gw_aload_n dL_isStepSo_311 rfl rfl ?_
                                    obtain ⟨v156, e_v156, H⟩ := cv_i H
                                    refine gw_V0 okX8_pivots dL_isStepSo_312 kw_656 kw_657 kw_658 (hp_o (h0.1)) rfl ⟨by decide, by decide⟩ ⟨by decide, by decide⟩ (Nat.le_of_ble_eq_true rfl) (w_X8_pivots (h0) e_v156 ?_)
                                    refine gw_iload dL_isStepSo_315 rfl rfl ?_
                                    obtain ⟨g, H⟩ := gd_i H
                                    refine gw_icmp_neZ (tgt := 333) dL_isStepSo_317 rfl (by decide) g.1 g.2 (fun q => ?_) (fun q => ?_)
                                    · have H := bq_f q H
                                      refine gw_iconstZ dL_isStepSo_333 rfl ?_
                                      cases H
                                      exact gw_zret rfl dL_isStepSo_334 rfl (by decide) (by decide) hK
                                    · have H := bq_t q H
                                      refine gw_aload_n dL_isStepSo_320 rfl rfl ?_
                                      obtain ⟨v157, e_v157, H⟩ := cv_i H
                                      refine gw_V0 okX8_valueNumerator dL_isStepSo_321 kw_714 kw_715 kw_716 (hp_o (h0.1)) rfl ⟨by decide, by decide⟩ ⟨by decide, by decide⟩ (Nat.le_of_ble_eq_true rfl) (w_X8_valueNumerator (h0) e_v157 ?_)
                                      refine gw_lload_n dL_isStepSo_324 rfl rfl ?_
                                      obtain ⟨g, H⟩ := gd_i H
                                      refine gw_lc_neZ (tgt := 333) dL_isStepSo_325 rfl dL_isStepSo_326 rfl (by decide) g.1 g.2 (fun q => ?_) (fun q => ?_)
                                      · have H := bq_f q H
                                        refine gw_iconstZ dL_isStepSo_333 rfl ?_
                                        cases H
                                        exact gw_zret rfl dL_isStepSo_334 rfl (by decide) (by decide) hK
                                      · have H := bq_t q H
                                        refine gw_iconstZ dL_isStepSo_329 rfl ?_
                                        refine gw_goto (tgt := 334) dL_isStepSo_330 (by decide) ?_
                                        cases H
                                        exact gw_zret rfl dL_isStepSo_334 rfl (by decide) (by decide) hK
                                refine gw_icmp_eqZ (tgt := 304) dL_isStepSo_287 rfl (by decide) g (by decide) (fun q => ?_) (fun q => ?_)
                                · have H := bq_t q H
                                  exact gw_L (hJ_k152 _ H) ((lvA_c rfl (lvA_c rfl (lvA_c rfl lvA_n))))
                                · have H := bq_f q H
                                  refine gw_aload_n dL_isStepSo_290 rfl rfl ?_
                                  obtain ⟨v158, e_v158, H⟩ := cv_i H
                                  refine gw_V0 okX8_isOptimal dL_isStepSo_291 kw_809 kw_810 kw_811 (hp_o (h0.1)) rfl ⟨by decide, by decide⟩ ⟨by decide, by decide⟩ (Nat.le_of_ble_eq_true rfl) (w_X8_isOptimal (h0) e_v158 ?_)
                                  obtain ⟨g, H⟩ := gd_i H
                                  refine gw_if_neZ (tgt := 304) dL_isStepSo_294 rfl (by decide) g (fun q => ?_) (fun q => ?_)
                                  · have H := bq_f q H
                                    exact gw_L (hJ_k152 _ H) ((lvA_c rfl (lvA_c rfl (lvA_c rfl lvA_n))))
                                  · have H := bq_t q H
                                    refine gw_aload_n dL_isStepSo_297 rfl rfl ?_
                                    obtain ⟨v159, e_v159, H⟩ := cv_i H
                                    refine gw_V0 okX8_hasRay dL_isStepSo_298 kw_814 kw_815 kw_816 (hp_o (h0.1)) rfl ⟨by decide, by decide⟩ ⟨by decide, by decide⟩ (Nat.le_of_ble_eq_true rfl) (w_X8_hasRay (h0) e_v159 ?_)
                                    obtain ⟨g, H⟩ := gd_i H
                                    refine gw_if_eqZ (tgt := 333) dL_isStepSo_301 rfl (by decide) g (fun q => ?_) (fun q => ?_)
                                    · have H := bq_t q H
                                      refine gw_iconstZ dL_isStepSo_333 rfl ?_
                                      cases H
                                      exact gw_zret rfl dL_isStepSo_334 rfl (by decide) (by decide) hK
                                    · have H := bq_f q H
                                      exact gw_L (hJ_k152 _ H) ((lvA_c rfl (lvA_c rfl (lvA_c rfl lvA_n))))
                  refine gw_icmp_eqZ (tgt := 228) dL_isStepSo_214 rfl (by decide) g (by decide) (fun q => ?_) (fun q => ?_)
                  · have H := bq_t q H
                    exact gw_L (hJ_k140 _ H) ((lvA_c rfl (lvA_c rfl (lvA_c rfl (lvA_c rfl (lvA_c rfl (lvA_c rfl lvA_n)))))))
                  · have H := bq_f q H
                    refine gw_aload_n dL_isStepSo_217 rfl rfl ?_
                    obtain ⟨v160, c161, e_c161, H⟩ := cl_i H
                    refine gw_V0 okX8_pivotsLeft dL_isStepSo_218 kw_921 kw_922 kw_923 (hp_o (h0.1)) rfl ⟨by decide, by decide⟩ ⟨by decide, by decide⟩ (Nat.le_of_ble_eq_true rfl) (w_X8_pivotsLeft (h0) e_c161 ?_)
                    refine gw_iload dL_isStepSo_221 rfl rfl ?_
                    refine gw_iconstZ dL_isStepSo_223 rfl ?_
                    refine gw_isubZ dL_isStepSo_224 rfl ?_
                    obtain ⟨g, H⟩ := gd_i H
                    refine gw_icmp_neZ (tgt := 266) dL_isStepSo_225 rfl (by decide) g.1 g.2 (fun q => ?_) (fun q => ?_)
                    · have H := bq_f q H
                      exact gw_L (hJ_k125 _ H) ((lvA_c rfl (lvA_c rfl (lvA_c rfl (lvA_c rfl lvA_n)))))
                    · have H := bq_t q H
                      exact gw_L (hJ_k140 _ H) ((lvA_c rfl (lvA_c rfl (lvA_c rfl (lvA_c rfl (lvA_c rfl (lvA_c rfl lvA_n)))))))
              refine gw_lc_neZ (tgt := 205) dL_isStepSo_197 rfl dL_isStepSo_198 rfl (by decide) g (by decide) (fun q => ?_) (fun q => ?_)
              · have H := bq_f q H
                refine gw_iconstZ dL_isStepSo_205 rfl ?_
                exact gw_L (hJ_k138 _ H) ((lvA_c rfl (lvA_c rfl (lvA_c rfl (lvA_c rfl (lvA_c rfl (lvA_c rfl lvA_n)))))))
              · have H := bq_t q H
                refine gw_iconstZ dL_isStepSo_201 rfl ?_
                refine gw_goto (tgt := 206) dL_isStepSo_202 (by decide) ?_
                exact gw_L (hJ_k138 _ H) ((lvA_c rfl (lvA_c rfl (lvA_c rfl (lvA_c rfl (lvA_c rfl (lvA_c rfl lvA_n)))))))
        refine gw_if_neZ (tgt := 157) dL_isStepSo_115 rfl (by decide) g (fun q => ?_) (fun q => ?_)
        · have H := bq_f q H
          exact gw_L (hJ_k121 _ H) ((lvA_c rfl (lvA_c rfl (lvA_c rfl (lvA_c rfl (lvA_c rfl (lvA_c rfl (lvA_c rfl (lvA_c rfl lvA_n)))))))))
        · have H := bq_t q H
          refine gw_aload_n dL_isStepSo_118 rfl rfl ?_
          refine gw_iload dL_isStepSo_119 rfl rfl ?_
          refine gw_iload dL_isStepSo_121 rfl rfl ?_
          obtain ⟨v162, c163, e_c163, H⟩ := cn_i H
          refine gw_V2 oknX8_pivot dL_isStepSo_123 kw_535 kw_536 kw_537 (hp_o (h0.1)) rfl ⟨by decide, by decide⟩ ⟨by decide, by decide⟩ (Nat.le_of_ble_eq_true rfl) (n_X8_pivot (h0) e_c163 rfl ?_)
          refine gw_iload dL_isStepSo_126 rfl rfl ?_
          obtain ⟨g, H⟩ := gd_i H
          refine gw_icmp_neZ (tgt := 157) dL_isStepSo_128 rfl (by decide) g.1 g.2 (fun q => ?_) (fun q => ?_)
          · have H := bq_f q H
            exact gw_L (hJ_k121 _ H) ((lvA_c rfl (lvA_c rfl (lvA_c rfl (lvA_c rfl (lvA_c rfl (lvA_c rfl (lvA_c rfl (lvA_c rfl lvA_n)))))))))
          · have H := bq_t q H
            refine gw_aload_n dL_isStepSo_131 rfl rfl ?_
            refine gw_iload dL_isStepSo_132 rfl rfl ?_
            obtain ⟨v164, c165, e_c165, H⟩ := cn_i H
            refine gw_V1 oknX8_columnOf dL_isStepSo_134 kw_676 kw_677 kw_678 (hp_o (h0.1)) rfl ⟨by decide, by decide⟩ ⟨by decide, by decide⟩ (Nat.le_of_ble_eq_true rfl) (n_X8_columnOf (h0) e_c165 rfl ?_)
            refine gw_iload dL_isStepSo_137 rfl rfl ?_
            obtain ⟨g, H⟩ := gd_i H
            refine gw_icmp_neZ (tgt := 157) dL_isStepSo_139 rfl (by decide) g.1 g.2 (fun q => ?_) (fun q => ?_)
            · have H := bq_f q H
              exact gw_L (hJ_k121 _ H) ((lvA_c rfl (lvA_c rfl (lvA_c rfl (lvA_c rfl (lvA_c rfl (lvA_c rfl (lvA_c rfl (lvA_c rfl lvA_n)))))))))
            · have H := bq_t q H
              refine gw_aload_n dL_isStepSo_142 rfl rfl ?_
              obtain ⟨v166, e_v166, H⟩ := cv_i H
              refine gw_V0 okX8_pivots dL_isStepSo_143 kw_656 kw_657 kw_658 (hp_o (h0.1)) rfl ⟨by decide, by decide⟩ ⟨by decide, by decide⟩ (Nat.le_of_ble_eq_true rfl) (w_X8_pivots (h0) e_v166 ?_)
              refine gw_iload dL_isStepSo_146 rfl rfl ?_
              refine gw_iconstZ dL_isStepSo_148 rfl ?_
              refine gw_iaddZ dL_isStepSo_149 rfl ?_
              obtain ⟨g, H⟩ := gd_i H
              refine gw_icmp_neZ (tgt := 157) dL_isStepSo_150 rfl (by decide) g.1 g.2 (fun q => ?_) (fun q => ?_)
              · have H := bq_f q H
                exact gw_L (hJ_k121 _ H) ((lvA_c rfl (lvA_c rfl (lvA_c rfl (lvA_c rfl (lvA_c rfl (lvA_c rfl (lvA_c rfl (lvA_c rfl lvA_n)))))))))
              · have H := bq_t q H
                refine gw_iconstZ dL_isStepSo_153 rfl ?_
                refine gw_goto (tgt := 158) dL_isStepSo_154 (by decide) ?_
                refine gw_istore dL_isStepSo_158 rfl (by decide) ?_
                refine gw_aload_n dL_isStepSo_160 rfl rfl ?_
                obtain ⟨v167, e_v167, H⟩ := cv_i H
                refine gw_V0 okX8_valueNumerator dL_isStepSo_161 kw_714 kw_715 kw_716 (hp_o (h0.1)) rfl ⟨by decide, by decide⟩ ⟨by decide, by decide⟩ (Nat.le_of_ble_eq_true rfl) (w_X8_valueNumerator (h0) e_v167 ?_)
                refine gw_lload dL_isStepSo_164 rfl rfl ?_
                refine gw_lmulZ dL_isStepSo_166 rfl ?_
                refine gw_lload_n dL_isStepSo_167 rfl rfl ?_
                refine gw_aload_n dL_isStepSo_168 rfl rfl ?_
                obtain ⟨v168, e_v168, H⟩ := cv_i H
                refine gw_V0 okX8_valueDenominator dL_isStepSo_169 kw_722 kw_723 kw_724 (hp_o (h0.1)) rfl ⟨by decide, by decide⟩ ⟨by decide, by decide⟩ (Nat.le_of_ble_eq_true rfl) (w_X8_valueDenominator (h0) e_v168 ?_)
                refine gw_lmulZ dL_isStepSo_172 rfl ?_
                refine gw_lsubZ dL_isStepSo_173 rfl ?_
                refine gw_lstore dL_isStepSo_174 rfl (by decide) ?_
                refine gw_iload dL_isStepSo_176 rfl rfl ?_
                obtain ⟨k169, e_k169, H⟩ := jn_i H
                have hJ_k169 : ∀ (c170 : W0), k169 c170 = some r → G Φ nL_isStepSo (gw_M Φ nL_isStepSo K) none 0 0 266 [(0, .ref (M + p1)), (3, vL v107), (7, vI v109), (8, vI v111)] [] (hp Φ hb M sh c170) := by
                  intro c170 H
                  subst e_k169
                  refine gw_iconstZ dL_isStepSo_266 rfl ?_
                  refine gw_istore dL_isStepSo_267 rfl (by decide) ?_
                  refine gw_iload dL_isStepSo_269 rfl rfl ?_
                  refine gw_if_eqZ (tgt := 333) dL_isStepSo_271 rfl (by decide) (by decide) (fun q => ?_) (fun q => ?_)
                  · have H := bq_t (by omega) H
                    refine gw_iconstZ dL_isStepSo_333 rfl ?_
                    cases H
                    exact gw_zret rfl dL_isStepSo_334 rfl (by decide) (by decide) hK
                  · have H := bq_f (by omega) H
                    refine gw_aload_n dL_isStepSo_274 rfl rfl ?_
                    obtain ⟨v171, c172, e_c172, H⟩ := cl_i H
                    refine gw_V0 okX8_solve dL_isStepSo_275 kw_629 kw_630 kw_631 (hp_o (h0.1)) rfl ⟨by decide, by decide⟩ ⟨by decide, by decide⟩ (Nat.le_of_ble_eq_true rfl) (w_X8_solve (h0) e_c172 ?_)
                    refine gw_iload dL_isStepSo_278 rfl rfl ?_
                    obtain ⟨g, H⟩ := gd_i H
                    refine gw_icmp_neZ (tgt := 333) dL_isStepSo_280 rfl (by decide) g.1 g.2 (fun q => ?_) (fun q => ?_)
                    · have H := bq_f q H
                      refine gw_iconstZ dL_isStepSo_333 rfl ?_
                      cases H
                      exact gw_zret rfl dL_isStepSo_334 rfl (by decide) (by decide) hK
                    · have H := bq_t q H
                      refine gw_iload dL_isStepSo_283 rfl rfl ?_
                      refine gw_bipushZ dL_isStepSo_285 rfl (by decide) ?_
                      obtain ⟨g, H⟩ := gd_i H
                      obtain ⟨k173, e_k173, H⟩ := jn_i H
                      have hJ_k173 : ∀ (u174 : Unit), k173 u174 = some r → G Φ nL_isStepSo (gw_M Φ nL_isStepSo K) none 0 0 304 [(0, .ref (M + p1)), (3, vL v107), (8, vI v111)] [] (hp Φ hb M sh c172) := by
                        intro u174 H
                        subst e_k173
                        refine gw_aload_n dL_isStepSo_304 rfl rfl ?_
                        obtain ⟨v175, c176, e_c176, H⟩ := cn_i H
                        refine gw_V0 oknX8_undo dL_isStepSo_305 kw_267 kw_268 kw_269 (hp_o (h0.1)) rfl ⟨by decide, by decide⟩ ⟨by decide, by decide⟩ (Nat.le_of_ble_eq_true rfl) (n_X8_undo (h0) e_c176 rfl ?_)
                        obtain ⟨g, H⟩ := gd_i H
                        refine gw_if_ltZ (tgt := 333) dL_isStepSo_308 rfl (by decide) g (fun q => ?_) (fun q => ?_)
                        · have H := bq_t q H
                          refine gw_iconstZ dL_isStepSo_333 rfl ?_
                          cases H
                          exact gw_zret rfl dL_isStepSo_334 rfl (by decide) (by decide) hK
                        · have H := bq_f q H
                          refine gw_aload_n dL_isStepSo_311 rfl rfl ?_
                          obtain ⟨v177, e_v177, H⟩ := cv_i H
                          refine gw_V0 okX8_pivots dL_isStepSo_312 kw_656 kw_657 kw_658 (hp_o (h0.1)) rfl ⟨by decide, by decide⟩ ⟨by decide, by decide⟩ (Nat.le_of_ble_eq_true rfl) (w_X8_pivots (h0) e_v177 ?_)
                          refine gw_iload dL_isStepSo_315 rfl rfl ?_
                          obtain ⟨g, H⟩ := gd_i H
                          refine gw_icmp_neZ (tgt := 333) dL_isStepSo_317 rfl (by decide) g.1 g.2 (fun q => ?_) (fun q => ?_)
                          · have H := bq_f q H
                            refine gw_iconstZ dL_isStepSo_333 rfl ?_
                            cases H
                            exact gw_zret rfl dL_isStepSo_334 rfl (by decide) (by decide) hK
                          · have H := bq_t q H
                            refine gw_aload_n dL_isStepSo_320 rfl rfl ?_
                            obtain ⟨v178, e_v178, H⟩ := cv_i H
                            refine gw_V0 okX8_valueNumerator dL_isStepSo_321 kw_714 kw_715 kw_716 (hp_o (h0.1)) rfl ⟨by decide, by decide⟩ ⟨by decide, by decide⟩ (Nat.le_of_ble_eq_true rfl) (w_X8_valueNumerator (h0) e_v178 ?_)
                            refine gw_lload_n dL_isStepSo_324 rfl rfl ?_
                            obtain ⟨g, H⟩ := gd_i H
                            refine gw_lc_neZ (tgt := 333) dL_isStepSo_325 rfl dL_isStepSo_326 rfl (by decide) g.1 g.2 (fun q => ?_) (fun q => ?_)
                            · have H := bq_f q H
                              refine gw_iconstZ dL_isStepSo_333 rfl ?_
                              cases H
                              exact gw_zret rfl dL_isStepSo_334 rfl (by decide) (by decide) hK
                            · have H := bq_t q H
                              refine gw_iconstZ dL_isStepSo_329 rfl ?_
                              refine gw_goto (tgt := 334) dL_isStepSo_330 (by decide) ?_
                              cases H
                              exact gw_zret rfl dL_isStepSo_334 rfl (by decide) (by decide) hK
                      refine gw_icmp_eqZ (tgt := 304) dL_isStepSo_287 rfl (by decide) g (by decide) (fun q => ?_) (fun q => ?_)
                      · have H := bq_t q H
                        exact gw_L (hJ_k173 _ H) ((lvA_c rfl (lvA_c rfl (lvA_c rfl lvA_n))))
                      · have H := bq_f q H
                        refine gw_aload_n dL_isStepSo_290 rfl rfl ?_
                        obtain ⟨v179, e_v179, H⟩ := cv_i H
                        refine gw_V0 okX8_isOptimal dL_isStepSo_291 kw_809 kw_810 kw_811 (hp_o (h0.1)) rfl ⟨by decide, by decide⟩ ⟨by decide, by decide⟩ (Nat.le_of_ble_eq_true rfl) (w_X8_isOptimal (h0) e_v179 ?_)
                        obtain ⟨g, H⟩ := gd_i H
                        refine gw_if_neZ (tgt := 304) dL_isStepSo_294 rfl (by decide) g (fun q => ?_) (fun q => ?_)
                        · have H := bq_f q H
                          exact gw_L (hJ_k173 _ H) ((lvA_c rfl (lvA_c rfl (lvA_c rfl lvA_n))))
                        · have H := bq_t q H
                          refine gw_aload_n dL_isStepSo_297 rfl rfl ?_
                          obtain ⟨v180, e_v180, H⟩ := cv_i H
                          refine gw_V0 okX8_hasRay dL_isStepSo_298 kw_814 kw_815 kw_816 (hp_o (h0.1)) rfl ⟨by decide, by decide⟩ ⟨by decide, by decide⟩ (Nat.le_of_ble_eq_true rfl) (w_X8_hasRay (h0) e_v180 ?_)
                          obtain ⟨g, H⟩ := gd_i H
                          refine gw_if_eqZ (tgt := 333) dL_isStepSo_301 rfl (by decide) g (fun q => ?_) (fun q => ?_)
                          · have H := bq_t q H
                            refine gw_iconstZ dL_isStepSo_333 rfl ?_
                            cases H
                            exact gw_zret rfl dL_isStepSo_334 rfl (by decide) (by decide) hK
                          · have H := bq_f q H
                            exact gw_L (hJ_k173 _ H) ((lvA_c rfl (lvA_c rfl (lvA_c rfl lvA_n))))
                refine gw_if_eqZ (tgt := 266) dL_isStepSo_178 rfl (by decide) (by decide) (fun q => ?_) (fun q => ?_)
                · have H := bq_t (by omega) H
                  exact gw_L (hJ_k169 _ H) ((lvA_c rfl (lvA_c rfl (lvA_c rfl (lvA_c rfl lvA_n)))))
                · have H := bq_f (by omega) H
                  refine gw_lload dL_isStepSo_181 rfl rfl ?_
                  refine gw_lconst0Z dL_isStepSo_183 rfl ?_
                  obtain ⟨g, H⟩ := gd_i H
                  refine gw_lc_ltZ (tgt := 266) dL_isStepSo_184 rfl dL_isStepSo_185 rfl (by decide) g (by decide) (fun q => ?_) (fun q => ?_)
                  · have H := bq_t q H
                    exact gw_L (hJ_k169 _ H) ((lvA_c rfl (lvA_c rfl (lvA_c rfl (lvA_c rfl lvA_n)))))
                  · have H := bq_f q H
                    refine gw_aload_n dL_isStepSo_188 rfl rfl ?_
                    obtain ⟨v181, e_v181, H⟩ := cv_i H
                    refine gw_V0 okX8_idlePivots dL_isStepSo_189 kw_664 kw_665 kw_666 (hp_o (h0.1)) rfl ⟨by decide, by decide⟩ ⟨by decide, by decide⟩ (Nat.le_of_ble_eq_true rfl) (w_X8_idlePivots (h0) e_v181 ?_)
                    refine gw_iload dL_isStepSo_192 rfl rfl ?_
                    refine gw_lload dL_isStepSo_194 rfl rfl ?_
                    refine gw_lconst0Z dL_isStepSo_196 rfl ?_
                    obtain ⟨g, H⟩ := gd_i H
                    obtain ⟨k182, e_k182, H⟩ := jn_i H
                    have hJ_k182 : ∀ (v183 : Int), k182 v183 = some r → G Φ nL_isStepSo (gw_M Φ nL_isStepSo K) none 0 0 206 [(0, .ref (M + p1)), (3, vL v107), (7, vI v109), (8, vI v111), (9, vI v112), (10, vI v114)] [vI v183, vI v118, vI v181] (hp Φ hb M sh c165) := by
                      intro v183 H
                      subst e_k182
                      refine gw_iaddZ dL_isStepSo_206 rfl ?_
                      obtain ⟨g, H⟩ := gd_i H
                      refine gw_icmp_neZ (tgt := 266) dL_isStepSo_207 rfl (by decide) g.1 g.2 (fun q => ?_) (fun q => ?_)
                      · have H := bq_f q H
                        exact gw_L (hJ_k169 _ H) ((lvA_c rfl (lvA_c rfl (lvA_c rfl (lvA_c rfl lvA_n)))))
                      · have H := bq_t q H
                        refine gw_iload dL_isStepSo_210 rfl rfl ?_
                        refine gw_bipushZ dL_isStepSo_212 rfl (by decide) ?_
                        obtain ⟨g, H⟩ := gd_i H
                        obtain ⟨k184, e_k184, H⟩ := jn_i H
                        have hJ_k184 : ∀ (c185 : W0), k184 c185 = some r → G Φ nL_isStepSo (gw_M Φ nL_isStepSo K) none 0 0 228 [(0, .ref (M + p1)), (3, vL v107), (7, vI v109), (8, vI v111), (9, vI v112), (10, vI v114)] [] (hp Φ hb M sh c185) := by
                          intro c185 H
                          subst e_k184
                          refine gw_aload_n dL_isStepSo_228 rfl rfl ?_
                          obtain ⟨v186, c187, e_c187, H⟩ := cn_i H
                          refine gw_V0 oknX8_undo dL_isStepSo_229 kw_267 kw_268 kw_269 (hp_o (h0.1)) rfl ⟨by decide, by decide⟩ ⟨by decide, by decide⟩ (Nat.le_of_ble_eq_true rfl) (n_X8_undo (h0) e_c187 rfl ?_)
                          obtain ⟨g, H⟩ := gd_i H
                          refine gw_if_ltZ (tgt := 266) dL_isStepSo_232 rfl (by decide) g (fun q => ?_) (fun q => ?_)
                          · have H := bq_t q H
                            exact gw_L (hJ_k169 _ H) ((lvA_c rfl (lvA_c rfl (lvA_c rfl (lvA_c rfl lvA_n)))))
                          · have H := bq_f q H
                            refine gw_aload_n dL_isStepSo_235 rfl rfl ?_
                            obtain ⟨v188, c189, e_c189, H⟩ := cn_i H
                            refine gw_V0 oknX8_step dL_isStepSo_236 kw_595 kw_596 kw_597 (hp_o (h0.1)) rfl ⟨by decide, by decide⟩ ⟨by decide, by decide⟩ (Nat.le_of_ble_eq_true rfl) (n_X8_step (h0) e_c189 rfl ?_)
                            refine gw_iload dL_isStepSo_239 rfl rfl ?_
                            obtain ⟨g, H⟩ := gd_i H
                            refine gw_icmp_neZ (tgt := 266) dL_isStepSo_241 rfl (by decide) g.1 g.2 (fun q => ?_) (fun q => ?_)
                            · have H := bq_f q H
                              exact gw_L (hJ_k169 _ H) ((lvA_c rfl (lvA_c rfl (lvA_c rfl (lvA_c rfl lvA_n)))))
                            · have H := bq_t q H
                              refine gw_aload_n dL_isStepSo_244 rfl rfl ?_
                              refine gw_iload dL_isStepSo_245 rfl rfl ?_
                              obtain ⟨v190, c191, e_c191, H⟩ := cn_i H
                              refine gw_V1 oknX8_columnOf dL_isStepSo_247 kw_676 kw_677 kw_678 (hp_o (h0.1)) rfl ⟨by decide, by decide⟩ ⟨by decide, by decide⟩ (Nat.le_of_ble_eq_true rfl) (n_X8_columnOf (h0) e_c191 rfl ?_)
                              refine gw_iload dL_isStepSo_250 rfl rfl ?_
                              obtain ⟨g, H⟩ := gd_i H
                              refine gw_icmp_neZ (tgt := 266) dL_isStepSo_252 rfl (by decide) g.1 g.2 (fun q => ?_) (fun q => ?_)
                              · have H := bq_f q H
                                exact gw_L (hJ_k169 _ H) ((lvA_c rfl (lvA_c rfl (lvA_c rfl (lvA_c rfl lvA_n)))))
                              · have H := bq_t q H
                                refine gw_aload_n dL_isStepSo_255 rfl rfl ?_
                                obtain ⟨v192, c193, e_c193, H⟩ := cn_i H
                                refine gw_V0 oknX8_undo dL_isStepSo_256 kw_267 kw_268 kw_269 (hp_o (h0.1)) rfl ⟨by decide, by decide⟩ ⟨by decide, by decide⟩ (Nat.le_of_ble_eq_true rfl) (n_X8_undo (h0) e_c193 rfl ?_)
                                obtain ⟨g, H⟩ := gd_i H
                                refine gw_if_ltZ (tgt := 266) dL_isStepSo_259 rfl (by decide) g (fun q => ?_) (fun q => ?_)
                                · have H := bq_t q H
                                  exact gw_L (hJ_k169 _ H) ((lvA_c rfl (lvA_c rfl (lvA_c rfl (lvA_c rfl lvA_n)))))
                                · have H := bq_f q H
                                  refine gw_iconstZ dL_isStepSo_262 rfl ?_
                                  refine gw_goto (tgt := 267) dL_isStepSo_263 (by decide) ?_
                                  refine gw_istore dL_isStepSo_267 rfl (by decide) ?_
                                  refine gw_iload dL_isStepSo_269 rfl rfl ?_
                                  refine gw_if_eqZ (tgt := 333) dL_isStepSo_271 rfl (by decide) (by decide) (fun q => ?_) (fun q => ?_)
                                  · have H := bq_t (by omega) H
                                    refine gw_iconstZ dL_isStepSo_333 rfl ?_
                                    cases H
                                    exact gw_zret rfl dL_isStepSo_334 rfl (by decide) (by decide) hK
                                  · have H := bq_f (by omega) H
                                    refine gw_aload_n dL_isStepSo_274 rfl rfl ?_
                                    obtain ⟨v194, c195, e_c195, H⟩ := cl_i H
                                    refine gw_V0 okX8_solve dL_isStepSo_275 kw_629 kw_630 kw_631 (hp_o (h0.1)) rfl ⟨by decide, by decide⟩ ⟨by decide, by decide⟩ (Nat.le_of_ble_eq_true rfl) (w_X8_solve (h0) e_c195 ?_)
                                    refine gw_iload dL_isStepSo_278 rfl rfl ?_
                                    obtain ⟨g, H⟩ := gd_i H
                                    refine gw_icmp_neZ (tgt := 333) dL_isStepSo_280 rfl (by decide) g.1 g.2 (fun q => ?_) (fun q => ?_)
                                    · have H := bq_f q H
                                      refine gw_iconstZ dL_isStepSo_333 rfl ?_
                                      cases H
                                      exact gw_zret rfl dL_isStepSo_334 rfl (by decide) (by decide) hK
                                    · have H := bq_t q H
                                      refine gw_iload dL_isStepSo_283 rfl rfl ?_
                                      refine gw_bipushZ dL_isStepSo_285 rfl (by decide) ?_
                                      obtain ⟨g, H⟩ := gd_i H
                                      obtain ⟨k196, e_k196, H⟩ := jn_i H
                                      have hJ_k196 : ∀ (u197 : Unit), k196 u197 = some r → G Φ nL_isStepSo (gw_M Φ nL_isStepSo K) none 0 0 304 [(0, .ref (M + p1)), (3, vL v107), (8, vI v111)] [] (hp Φ hb M sh c195) := by
                                        intro u197 H
                                        subst e_k196
                                        refine gw_aload_n dL_isStepSo_304 rfl rfl ?_
                                        obtain ⟨v198, c199, e_c199, H⟩ := cn_i H
                                        refine gw_V0 oknX8_undo dL_isStepSo_305 kw_267 kw_268 kw_269 (hp_o (h0.1)) rfl ⟨by decide, by decide⟩ ⟨by decide, by decide⟩ (Nat.le_of_ble_eq_true rfl) (n_X8_undo (h0) e_c199 rfl ?_)
                                        obtain ⟨g, H⟩ := gd_i H
                                        refine gw_if_ltZ (tgt := 333) dL_isStepSo_308 rfl (by decide) g (fun q => ?_) (fun q => ?_)
                                        · have H := bq_t q H
                                          refine gw_iconstZ dL_isStepSo_333 rfl ?_
                                          cases H
                                          exact gw_zret rfl dL_isStepSo_334 rfl (by decide) (by decide) hK
                                        · have H := bq_f q H
                                          refine gw_aload_n dL_isStepSo_311 rfl rfl ?_
                                          obtain ⟨v200, e_v200, H⟩ := cv_i H
                                          refine gw_V0 okX8_pivots dL_isStepSo_312 kw_656 kw_657 kw_658 (hp_o (h0.1)) rfl ⟨by decide, by decide⟩ ⟨by decide, by decide⟩ (Nat.le_of_ble_eq_true rfl) (w_X8_pivots (h0) e_v200 ?_)
                                          refine gw_iload dL_isStepSo_315 rfl rfl ?_
                                          obtain ⟨g, H⟩ := gd_i H
                                          refine gw_icmp_neZ (tgt := 333) dL_isStepSo_317 rfl (by decide) g.1 g.2 (fun q => ?_) (fun q => ?_)
                                          · have H := bq_f q H
                                            refine gw_iconstZ dL_isStepSo_333 rfl ?_
                                            cases H
                                            exact gw_zret rfl dL_isStepSo_334 rfl (by decide) (by decide) hK
                                          · have H := bq_t q H
                                            refine gw_aload_n dL_isStepSo_320 rfl rfl ?_
                                            obtain ⟨v201, e_v201, H⟩ := cv_i H
                                            refine gw_V0 okX8_valueNumerator dL_isStepSo_321 kw_714 kw_715 kw_716 (hp_o (h0.1)) rfl ⟨by decide, by decide⟩ ⟨by decide, by decide⟩ (Nat.le_of_ble_eq_true rfl) (w_X8_valueNumerator (h0) e_v201 ?_)
                                            refine gw_lload_n dL_isStepSo_324 rfl rfl ?_
                                            obtain ⟨g, H⟩ := gd_i H
                                            refine gw_lc_neZ (tgt := 333) dL_isStepSo_325 rfl dL_isStepSo_326 rfl (by decide) g.1 g.2 (fun q => ?_) (fun q => ?_)
                                            · have H := bq_f q H
                                              refine gw_iconstZ dL_isStepSo_333 rfl ?_
                                              cases H
                                              exact gw_zret rfl dL_isStepSo_334 rfl (by decide) (by decide) hK
                                            · have H := bq_t q H
                                              refine gw_iconstZ dL_isStepSo_329 rfl ?_
                                              refine gw_goto (tgt := 334) dL_isStepSo_330 (by decide) ?_
                                              cases H
                                              exact gw_zret rfl dL_isStepSo_334 rfl (by decide) (by decide) hK
                                      refine gw_icmp_eqZ (tgt := 304) dL_isStepSo_287 rfl (by decide) g (by decide) (fun q => ?_) (fun q => ?_)
                                      · have H := bq_t q H
                                        exact gw_L (hJ_k196 _ H) ((lvA_c rfl (lvA_c rfl (lvA_c rfl lvA_n))))
                                      · have H := bq_f q H
                                        refine gw_aload_n dL_isStepSo_290 rfl rfl ?_
                                        obtain ⟨v202, e_v202, H⟩ := cv_i H
                                        refine gw_V0 okX8_isOptimal dL_isStepSo_291 kw_809 kw_810 kw_811 (hp_o (h0.1)) rfl ⟨by decide, by decide⟩ ⟨by decide, by decide⟩ (Nat.le_of_ble_eq_true rfl) (w_X8_isOptimal (h0) e_v202 ?_)
                                        obtain ⟨g, H⟩ := gd_i H
                                        refine gw_if_neZ (tgt := 304) dL_isStepSo_294 rfl (by decide) g (fun q => ?_) (fun q => ?_)
                                        · have H := bq_f q H
                                          exact gw_L (hJ_k196 _ H) ((lvA_c rfl (lvA_c rfl (lvA_c rfl lvA_n))))
                                        · have H := bq_t q H
                                          refine gw_aload_n dL_isStepSo_297 rfl rfl ?_
                                          obtain ⟨v203, e_v203, H⟩ := cv_i H
                                          refine gw_V0 okX8_hasRay dL_isStepSo_298 kw_814 kw_815 kw_816 (hp_o (h0.1)) rfl ⟨by decide, by decide⟩ ⟨by decide, by decide⟩ (Nat.le_of_ble_eq_true rfl) (w_X8_hasRay (h0) e_v203 ?_)
                                          obtain ⟨g, H⟩ := gd_i H
                                          refine gw_if_eqZ (tgt := 333) dL_isStepSo_301 rfl (by decide) g (fun q => ?_) (fun q => ?_)
                                          · have H := bq_t q H
                                            refine gw_iconstZ dL_isStepSo_333 rfl ?_
                                            cases H
                                            exact gw_zret rfl dL_isStepSo_334 rfl (by decide) (by decide) hK
                                          · have H := bq_f q H
                                            exact gw_L (hJ_k196 _ H) ((lvA_c rfl (lvA_c rfl (lvA_c rfl lvA_n))))
                        refine gw_icmp_eqZ (tgt := 228) dL_isStepSo_214 rfl (by decide) g (by decide) (fun q => ?_) (fun q => ?_)
                        · have H := bq_t q H
                          exact gw_L (hJ_k184 _ H) ((lvA_c rfl (lvA_c rfl (lvA_c rfl (lvA_c rfl (lvA_c rfl (lvA_c rfl lvA_n)))))))
                        · have H := bq_f q H
                          refine gw_aload_n dL_isStepSo_217 rfl rfl ?_
                          obtain ⟨v204, c205, e_c205, H⟩ := cl_i H
                          refine gw_V0 okX8_pivotsLeft dL_isStepSo_218 kw_921 kw_922 kw_923 (hp_o (h0.1)) rfl ⟨by decide, by decide⟩ ⟨by decide, by decide⟩ (Nat.le_of_ble_eq_true rfl) (w_X8_pivotsLeft (h0) e_c205 ?_)
                          refine gw_iload dL_isStepSo_221 rfl rfl ?_
                          refine gw_iconstZ dL_isStepSo_223 rfl ?_
                          refine gw_isubZ dL_isStepSo_224 rfl ?_
                          obtain ⟨g, H⟩ := gd_i H
                          refine gw_icmp_neZ (tgt := 266) dL_isStepSo_225 rfl (by decide) g.1 g.2 (fun q => ?_) (fun q => ?_)
                          · have H := bq_f q H
                            exact gw_L (hJ_k169 _ H) ((lvA_c rfl (lvA_c rfl (lvA_c rfl (lvA_c rfl lvA_n)))))
                          · have H := bq_t q H
                            exact gw_L (hJ_k184 _ H) ((lvA_c rfl (lvA_c rfl (lvA_c rfl (lvA_c rfl (lvA_c rfl (lvA_c rfl lvA_n)))))))
                    refine gw_lc_neZ (tgt := 205) dL_isStepSo_197 rfl dL_isStepSo_198 rfl (by decide) g (by decide) (fun q => ?_) (fun q => ?_)
                    · have H := bq_f q H
                      refine gw_iconstZ dL_isStepSo_205 rfl ?_
                      exact gw_L (hJ_k182 _ H) ((lvA_c rfl (lvA_c rfl (lvA_c rfl (lvA_c rfl (lvA_c rfl (lvA_c rfl lvA_n)))))))
                    · have H := bq_t q H
                      refine gw_iconstZ dL_isStepSo_201 rfl ?_
                      refine gw_goto (tgt := 206) dL_isStepSo_202 (by decide) ?_
                      exact gw_L (hJ_k182 _ H) ((lvA_c rfl (lvA_c rfl (lvA_c rfl (lvA_c rfl (lvA_c rfl (lvA_c rfl lvA_n)))))))
      · have H := bq_f (by omega) H
        refine gw_iload dL_isStepSo_47 rfl rfl ?_
        obtain ⟨g, H⟩ := gd_i H
        refine gw_if_neZ (tgt := 79) dL_isStepSo_49 rfl (by decide) g (fun q => ?_) (fun q => ?_)
        · have H := bq_f q H
          refine gw_iconstZ dL_isStepSo_79 rfl ?_
          cases H
          exact gw_zret rfl dL_isStepSo_80 rfl (by decide) (by decide) hK
        · have H := bq_t q H
          refine gw_aload_n dL_isStepSo_52 rfl rfl ?_
          refine gw_bipushZ dL_isStepSo_53 rfl (by decide) ?_
          refine gw_iconstZ dL_isStepSo_55 rfl ?_
          refine gw_iconstZ dL_isStepSo_56 rfl ?_
          refine gw_iconstZ dL_isStepSo_57 rfl ?_
          refine gw_aload_n dL_isStepSo_58 rfl rfl ?_
          obtain ⟨v206, c207, e_c207, H⟩ := cl_i H
          refine gw_SH6 okL_changes dL_isStepSo_59 kw_381 kw_382 ⟨by decide, by decide⟩ ⟨by decide, by decide⟩ (Nat.le_of_ble_eq_true rfl) (w_L_changes (h0) (h1) e_c207 ?_)
          refine gw_iconstZ dL_isStepSo_62 rfl ?_
          obtain ⟨g, H⟩ := gd_i H
          refine gw_icmp_neZ (tgt := 79) dL_isStepSo_63 rfl (by decide) g (by decide) (fun q => ?_) (fun q => ?_)
          · have H := bq_f q H
            refine gw_iconstZ dL_isStepSo_79 rfl ?_
            cases H
            exact gw_zret rfl dL_isStepSo_80 rfl (by decide) (by decide) hK
          · have H := bq_t q H
            refine gw_aload_n dL_isStepSo_66 rfl rfl ?_
            obtain ⟨v208, e_v208, H⟩ := cv_i H
            refine gw_V0 okX8_pivots dL_isStepSo_67 kw_656 kw_657 kw_658 (hp_o (h0.1)) rfl ⟨by decide, by decide⟩ ⟨by decide, by decide⟩ (Nat.le_of_ble_eq_true rfl) (w_X8_pivots (h0) e_v208 ?_)
            refine gw_iload dL_isStepSo_70 rfl rfl ?_
            obtain ⟨g, H⟩ := gd_i H
            refine gw_icmp_neZ (tgt := 79) dL_isStepSo_72 rfl (by decide) g.1 g.2 (fun q => ?_) (fun q => ?_)
            · have H := bq_f q H
              refine gw_iconstZ dL_isStepSo_79 rfl ?_
              cases H
              exact gw_zret rfl dL_isStepSo_80 rfl (by decide) (by decide) hK
            · have H := bq_t q H
              refine gw_iconstZ dL_isStepSo_75 rfl ?_
              refine gw_goto (tgt := 80) dL_isStepSo_76 (by decide) ?_
              cases H
              exact gw_zret rfl dL_isStepSo_80 rfl (by decide) (by decide) hK
    · have H := bq_f q H
      exact gw_L (hJ_k2 _ H) ((lvA_c rfl (lvA_c rfl lvA_n)))
end NW
