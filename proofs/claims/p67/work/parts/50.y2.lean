section NY
abbrev nL_isStepSo : gwY := (yL_isStepSo, cL_isStepSo, 16, (Option.some Jvm.ClassFile.FieldType.boolean), { frames := 10, cells := 16, slots := 96, locals := 215 }, [])
theorem oknL_isStepSo : gw_ok nL_isStepSo 2 := ⟨by decide +kernel, kw_920, kw_16, by decide +kernel, rfl⟩
noncomputable def f_L_isStepTo (p1 : Nat) (p2 : Nat) (c : W0) : Option (Int × W0) :=
  cv (f_X8_isOptimal p1 c) fun v1 =>
  gd (R32 v1) <|
  jn (fun (u3 : Unit) =>
      cv (f_X8_valueNumerator p1 c) fun v4 =>
      cv (f_X8_valueDenominator p1 c) fun v5 =>
      cl (f_X8_pivotsLeft p1 c) fun v6 c7 =>
      cv (f_X8_pivots p1 c7) fun v8 =>
      gd (R32 v6) <|
      bq (v6 = 0) (
        cl (f_L_changes p1 7 0 0 0 p2 c7) fun v9 c10 =>
        gd (R32 v9) <|
        bq (v9 = 3) (
          cv (f_X8_pivots p1 c10) fun v11 =>
          gd (R32 v11 ∧ R32 v8) <|
          bq (v11 = v8) (
            some ((1 : Int), c10)) (
            some ((0 : Int), c10))) (
          some ((0 : Int), c10))) (
        some ((0 : Int), c7))) fun k2 =>
  bq (v1 = 0) (
    cv (f_X8_hasRay p1 c) fun v12 =>
    gd (R32 v12) <|
    bq (v12 = 0) (
      cv (f_X8_valueNumerator p1 c) fun v13 =>
      cv (f_X8_valueDenominator p1 c) fun v14 =>
      cl (f_X8_pivotsLeft p1 c) fun v15 c16 =>
      cv (f_X8_pivots p1 c16) fun v17 =>
      cn (f_X8_nextColumn p1 c16) fun v18 c19 =>
      cn (f_X8_nextRow p1 c19) fun v20 c21 =>
      cn (f_X8_columnOf p1 v20 c21) fun v22 c23 =>
      cv (f_X8_idlePivots p1 c23) fun v24 =>
      cn (f_X8_whyNoPivot p1 v20 v18 c23) fun v25 c26 =>
      gd (R32 v25) <|
      jn (fun (c28 : W0) =>
          cv (f_X8_valueNumerator p1 c28) fun v29 =>
          cv (f_X8_valueDenominator p1 c28) fun v30 =>
          some ((0 : Int), c28)) fun k27 =>
      bq (v25 = 0) (
        cn (f_X8_pivot p1 v20 v18 c26) fun v31 c32 =>
        gd (R32 v31 ∧ R32 v22) <|
        bq (v31 = v22) (
          cn (f_X8_columnOf p1 v20 c32) fun v33 c34 =>
          gd (R32 v33 ∧ R32 v18) <|
          bq (v33 = v18) (
            cv (f_X8_pivots p1 c34) fun v35 =>
            gd (R32 v35 ∧ R32 (v17 + 1)) <|
            bq (v35 = (v17 + 1)) (
              cv (f_X8_valueNumerator p1 c34) fun v36 =>
              cv (f_X8_valueDenominator p1 c34) fun v37 =>
              gd (R64 ((v36 * v14) - (v13 * v37))) <|
              jn (fun (c39 : W0) =>
                  some ((0 : Int), c39)) fun k38 =>
              bq (((v36 * v14) - (v13 * v37)) < 0) (
                k38 c34) (
                cv (f_X8_idlePivots p1 c34) fun v40 =>
                gd (R64 ((v36 * v14) - (v13 * v37))) <|
                jn (fun (v42 : Int) =>
                    gd (R32 v40 ∧ R32 (v24 + v42)) <|
                    bq (v40 = (v24 + v42)) (
                      gd (R32 v15) <|
                      jn (fun (c44 : W0) =>
                          cn (f_X8_undo p1 c44) fun v45 c46 =>
                          gd (R32 v45) <|
                          bq (v45 < 0) (
                            k38 c46) (
                            cn (f_X8_step p1 c46) fun v47 c48 =>
                            gd (R32 v47 ∧ R32 v18) <|
                            bq (v47 = v18) (
                              cn (f_X8_columnOf p1 v20 c48) fun v49 c50 =>
                              gd (R32 v49 ∧ R32 v18) <|
                              bq (v49 = v18) (
                                cn (f_X8_undo p1 c50) fun v51 c52 =>
                                gd (R32 v51) <|
                                bq (v51 < 0) (
                                  k38 c52) (
                                  cl (f_X8_solve p1 c52) fun v53 c54 =>
                                  gd (R32 v53 ∧ R32 v15) <|
                                  bq (v53 = v15) (
                                    gd (R32 v15) <|
                                    jn (fun (u56 : Unit) =>
                                        cn (f_X8_undo p1 c54) fun v57 c58 =>
                                        gd (R32 v57) <|
                                        bq (v57 < 0) (
                                          some ((0 : Int), c58)) (
                                          cv (f_X8_pivots p1 c58) fun v59 =>
                                          gd (R32 v59 ∧ R32 v17) <|
                                          bq (v59 = v17) (
                                            cv (f_X8_valueNumerator p1 c58) fun v60 =>
                                            gd (R64 v60 ∧ R64 v13) <|
                                            bq (v60 = v13) (
                                              some ((1 : Int), c58)) (
                                              some ((0 : Int), c58))) (
                                            some ((0 : Int), c58)))) fun k55 =>
                                    bq (v15 = 40) (
                                      k55 ()) (
                                      cv (f_X8_isOptimal p1 c54) fun v61 =>
                                      gd (R32 v61) <|
                                      bq (v61 = 0) (
                                        cv (f_X8_hasRay p1 c54) fun v62 =>
                                        gd (R32 v62) <|
                                        bq (v62 = 0) (
                                          some ((0 : Int), c54)) (
                                          k55 ())) (
                                        k55 ()))) (
                                    some ((0 : Int), c54)))) (
                                k38 c50)) (
                              k38 c48))) fun k43 =>
                      bq (v15 = 40) (
                        k43 c34) (
                        cl (f_X8_pivotsLeft p1 c34) fun v63 c64 =>
                        gd (R32 v63 ∧ R32 (v15 - 1)) <|
                        bq (v63 = (v15 - 1)) (
                          k43 c64) (
                          k38 c64))) (
                      k38 c34)) fun k41 =>
                bq (((v36 * v14) - (v13 * v37)) = 0) (
                  k41 1) (
                  k41 0))) (
              k27 c34)) (
            k27 c34)) (
          k27 c32)) (
        k27 c26)) (
      k2 ())) (
    k2 ())
set_option maxRecDepth 100000 in
set_option maxHeartbeats 4000000 in
theorem w_L_isStepTo {Φ : gwC} {hb : gwHp} {M : Nat} {sh : Nat → Option gSh} {p1 : Nat} {p2 : Nat} {c : W0} {r : Int × W0} {K : Option Value → gwHp → Prop} (h0 : sD sh p1) (h1 : sh p2 = some (1, 1, [])) (H : f_L_isStepTo p1 p2 c = some r) (hK : K (some (vI r.1)) (hp Φ hb M sh r.2)) : gw_Con Φ nL_isStepSo none [.ref (M + p1), .ref (M + p2)] (hp Φ hb M sh c) K := by
  unfold f_L_isStepTo at H
  refine gw_start oknL_isStepSo (Nat.le_of_ble_eq_true rfl) ?_
  refine gw_aload_n dL_isStepSo_0 rfl rfl ?_
  obtain ⟨v1, e_v1, H⟩ := cv_i H
  refine gw_V0 okX8_isOptimal dL_isStepSo_1 kw_809 kw_810 kw_811 (hp_o (h0.1)) rfl ⟨by decide, by decide⟩ ⟨by decide, by decide⟩ (Nat.le_of_ble_eq_true rfl) (w_X8_isOptimal (h0) e_v1 ?_)
  obtain ⟨g, H⟩ := gd_i H
  obtain ⟨k2, e_k2, H⟩ := jn_i H
  have hJ_k2 : ∀ (u3 : Unit), k2 u3 = some r → G Φ nL_isStepSo (gw_M Φ nL_isStepSo K) none 0 0 14 [(0, .ref (M + p1)), (1, .ref (M + p2))] [] (hp Φ hb M sh c) := by
    intro u3 H
    subst e_k2
    refine gw_iconstZ dL_isStepSo_14 rfl ?_
    refine gw_goto (tgt := 19) dL_isStepSo_15 (by decide) ?_
    refine gw_istore_n dL_isStepSo_19 rfl (by decide) ?_
    refine gw_aload_n dL_isStepSo_20 rfl rfl ?_
    obtain ⟨v4, e_v4, H⟩ := cv_i H
    refine gw_V0 okX8_valueNumerator dL_isStepSo_21 kw_714 kw_715 kw_716 (hp_o (h0.1)) rfl ⟨by decide, by decide⟩ ⟨by decide, by decide⟩ (Nat.le_of_ble_eq_true rfl) (w_X8_valueNumerator (h0) e_v4 ?_)
    refine gw_lstore_n dL_isStepSo_24 rfl (by decide) ?_
    refine gw_aload_n dL_isStepSo_25 rfl rfl ?_
    obtain ⟨v5, e_v5, H⟩ := cv_i H
    refine gw_V0 okX8_valueDenominator dL_isStepSo_26 kw_722 kw_723 kw_724 (hp_o (h0.1)) rfl ⟨by decide, by decide⟩ ⟨by decide, by decide⟩ (Nat.le_of_ble_eq_true rfl) (w_X8_valueDenominator (h0) e_v5 ?_)
    refine gw_lstore dL_isStepSo_29 rfl (by decide) ?_
    refine gw_aload_n dL_isStepSo_31 rfl rfl ?_
    obtain ⟨v6, c7, e_c7, H⟩ := cl_i H
    refine gw_V0 okX8_pivotsLeft dL_isStepSo_32 kw_921 kw_922 kw_923 (hp_o (h0.1)) rfl ⟨by decide, by decide⟩ ⟨by decide, by decide⟩ (Nat.le_of_ble_eq_true rfl) (w_X8_pivotsLeft (h0) e_c7 ?_)
    refine gw_istore dL_isStepSo_35 rfl (by decide) ?_
    refine gw_aload_n dL_isStepSo_37 rfl rfl ?_
    obtain ⟨v8, e_v8, H⟩ := cv_i H
    refine gw_V0 okX8_pivots dL_isStepSo_38 kw_656 kw_657 kw_658 (hp_o (h0.1)) rfl ⟨by decide, by decide⟩ ⟨by decide, by decide⟩ (Nat.le_of_ble_eq_true rfl) (w_X8_pivots (h0) e_v8 ?_)
    refine gw_istore dL_isStepSo_41 rfl (by decide) ?_
    refine gw_iload_n dL_isStepSo_43 rfl rfl ?_
    refine gw_if_eqZ (tgt := 81) dL_isStepSo_44 rfl (by decide) (by decide) (fun q => absurd q (by omega)) (fun q => ?_)
    refine gw_iload dL_isStepSo_47 rfl rfl ?_
    obtain ⟨g, H⟩ := gd_i H
    refine gw_if_neZ (tgt := 79) dL_isStepSo_49 rfl (by decide) g (fun q => ?_) (fun q => ?_)
    · have H := bq_f q H
      refine gw_iconstZ dL_isStepSo_79 rfl ?_
      cases H
      exact gw_zret rfl dL_isStepSo_80 rfl (by decide) (by decide) hK
    · have H := bq_t q H
      refine gw_aload_n dL_isStepSo_52 rfl rfl ?_
      refine gw_bipushZ dL_isStepSo_53 rfl (by decide) ?_
      refine gw_iconstZ dL_isStepSo_55 rfl ?_
      refine gw_iconstZ dL_isStepSo_56 rfl ?_
      refine gw_iconstZ dL_isStepSo_57 rfl ?_
      refine gw_aload_n dL_isStepSo_58 rfl rfl ?_
      obtain ⟨v9, c10, e_c10, H⟩ := cl_i H
      refine gw_SH6 okL_changes dL_isStepSo_59 kw_381 kw_382 ⟨by decide, by decide⟩ ⟨by decide, by decide⟩ (Nat.le_of_ble_eq_true rfl) (w_L_changes (h0) (h1) e_c10 ?_)
      refine gw_iconstZ dL_isStepSo_62 rfl ?_
      obtain ⟨g, H⟩ := gd_i H
      refine gw_icmp_neZ (tgt := 79) dL_isStepSo_63 rfl (by decide) g (by decide) (fun q => ?_) (fun q => ?_)
      · have H := bq_f q H
        refine gw_iconstZ dL_isStepSo_79 rfl ?_
        cases H
        exact gw_zret rfl dL_isStepSo_80 rfl (by decide) (by decide) hK
      · have H := bq_t q H
        refine gw_aload_n dL_isStepSo_66 rfl rfl ?_
        obtain ⟨v11, e_v11, H⟩ := cv_i H
        refine gw_V0 okX8_pivots dL_isStepSo_67 kw_656 kw_657 kw_658 (hp_o (h0.1)) rfl ⟨by decide, by decide⟩ ⟨by decide, by decide⟩ (Nat.le_of_ble_eq_true rfl) (w_X8_pivots (h0) e_v11 ?_)
        refine gw_iload dL_isStepSo_70 rfl rfl ?_
        obtain ⟨g, H⟩ := gd_i H
        refine gw_icmp_neZ (tgt := 79) dL_isStepSo_72 rfl (by decide) g.1 g.2 (fun q => ?_) (fun q => ?_)
        · have H := bq_f q H
          refine gw_iconstZ dL_isStepSo_79 rfl ?_
          cases H
          exact gw_zret rfl dL_isStepSo_80 rfl (by decide) (by decide) hK
        · have H := bq_t q H
          refine gw_iconstZ dL_isStepSo_75 rfl ?_
          refine gw_goto (tgt := 80) dL_isStepSo_76 (by decide) ?_
          cases H
          exact gw_zret rfl dL_isStepSo_80 rfl (by decide) (by decide) hK
  refine gw_if_neZ (tgt := 14) dL_isStepSo_4 rfl (by decide) g (fun q => ?_) (fun q => ?_)
  · have H := bq_f q H
    exact gw_L (hJ_k2 _ H) ((lvA_c rfl (lvA_c rfl lvA_n)))
  · have H := bq_t q H
    refine gw_aload_n dL_isStepSo_7 rfl rfl ?_
    obtain ⟨v12, e_v12, H⟩ := cv_i H
    refine gw_V0 okX8_hasRay dL_isStepSo_8 kw_814 kw_815 kw_816 (hp_o (h0.1)) rfl ⟨by decide, by decide⟩ ⟨by decide, by decide⟩ (Nat.le_of_ble_eq_true rfl) (w_X8_hasRay (h0) e_v12 ?_)
    obtain ⟨g, H⟩ := gd_i H
    refine gw_if_eqZ (tgt := 18) dL_isStepSo_11 rfl (by decide) g (fun q => ?_) (fun q => ?_)
    · have H := bq_t q H
      refine gw_iconstZ dL_isStepSo_18 rfl ?_
      refine gw_istore_n dL_isStepSo_19 rfl (by decide) ?_
      refine gw_aload_n dL_isStepSo_20 rfl rfl ?_
      obtain ⟨v13, e_v13, H⟩ := cv_i H
      refine gw_V0 okX8_valueNumerator dL_isStepSo_21 kw_714 kw_715 kw_716 (hp_o (h0.1)) rfl ⟨by decide, by decide⟩ ⟨by decide, by decide⟩ (Nat.le_of_ble_eq_true rfl) (w_X8_valueNumerator (h0) e_v13 ?_)
      refine gw_lstore_n dL_isStepSo_24 rfl (by decide) ?_
      refine gw_aload_n dL_isStepSo_25 rfl rfl ?_
      obtain ⟨v14, e_v14, H⟩ := cv_i H
      refine gw_V0 okX8_valueDenominator dL_isStepSo_26 kw_722 kw_723 kw_724 (hp_o (h0.1)) rfl ⟨by decide, by decide⟩ ⟨by decide, by decide⟩ (Nat.le_of_ble_eq_true rfl) (w_X8_valueDenominator (h0) e_v14 ?_)
      refine gw_lstore dL_isStepSo_29 rfl (by decide) ?_
      refine gw_aload_n dL_isStepSo_31 rfl rfl ?_
      obtain ⟨v15, c16, e_c16, H⟩ := cl_i H
      refine gw_V0 okX8_pivotsLeft dL_isStepSo_32 kw_921 kw_922 kw_923 (hp_o (h0.1)) rfl ⟨by decide, by decide⟩ ⟨by decide, by decide⟩ (Nat.le_of_ble_eq_true rfl) (w_X8_pivotsLeft (h0) e_c16 ?_)
      refine gw_istore dL_isStepSo_35 rfl (by decide) ?_
      refine gw_aload_n dL_isStepSo_37 rfl rfl ?_
      obtain ⟨v17, e_v17, H⟩ := cv_i H
      refine gw_V0 okX8_pivots dL_isStepSo_38 kw_656 kw_657 kw_658 (hp_o (h0.1)) rfl ⟨by decide, by decide⟩ ⟨by decide, by decide⟩ (Nat.le_of_ble_eq_true rfl) (w_X8_pivots (h0) e_v17 ?_)
      refine gw_istore dL_isStepSo_41 rfl (by decide) ?_
      refine gw_iload_n dL_isStepSo_43 rfl rfl ?_
      refine gw_if_eqZ (tgt := 81) dL_isStepSo_44 rfl (by decide) (by decide) (fun q => ?_) (fun q => absurd q (by omega))
      refine gw_aload_n dL_isStepSo_81 rfl rfl ?_
      obtain ⟨v18, c19, e_c19, H⟩ := cn_i H
      refine gw_V0 oknX8_nextColumn dL_isStepSo_82 kw_925 kw_926 kw_927 (hp_o (h0.1)) rfl ⟨by decide, by decide⟩ ⟨by decide, by decide⟩ (Nat.le_of_ble_eq_true rfl) (n_X8_nextColumn (h0) e_c19 rfl ?_)
      refine gw_istore dL_isStepSo_85 rfl (by decide) ?_
      refine gw_aload_n dL_isStepSo_87 rfl rfl ?_
      obtain ⟨v20, c21, e_c21, H⟩ := cn_i H
      refine gw_V0 oknX8_nextRow dL_isStepSo_88 kw_929 kw_930 kw_931 (hp_o (h0.1)) rfl ⟨by decide, by decide⟩ ⟨by decide, by decide⟩ (Nat.le_of_ble_eq_true rfl) (n_X8_nextRow (h0) e_c21 rfl ?_)
      refine gw_istore dL_isStepSo_91 rfl (by decide) ?_
      refine gw_aload_n dL_isStepSo_93 rfl rfl ?_
      refine gw_iload dL_isStepSo_94 rfl rfl ?_
      obtain ⟨v22, c23, e_c23, H⟩ := cn_i H
      refine gw_V1 oknX8_columnOf dL_isStepSo_96 kw_676 kw_677 kw_678 (hp_o (h0.1)) rfl ⟨by decide, by decide⟩ ⟨by decide, by decide⟩ (Nat.le_of_ble_eq_true rfl) (n_X8_columnOf (h0) e_c23 rfl ?_)
      refine gw_istore dL_isStepSo_99 rfl (by decide) ?_
      refine gw_aload_n dL_isStepSo_101 rfl rfl ?_
      obtain ⟨v24, e_v24, H⟩ := cv_i H
      refine gw_V0 okX8_idlePivots dL_isStepSo_102 kw_664 kw_665 kw_666 (hp_o (h0.1)) rfl ⟨by decide, by decide⟩ ⟨by decide, by decide⟩ (Nat.le_of_ble_eq_true rfl) (w_X8_idlePivots (h0) e_v24 ?_)
      refine gw_istore dL_isStepSo_105 rfl (by decide) ?_
      refine gw_aload_n dL_isStepSo_107 rfl rfl ?_
      refine gw_iload dL_isStepSo_108 rfl rfl ?_
      refine gw_iload dL_isStepSo_110 rfl rfl ?_
      obtain ⟨v25, c26, e_c26, H⟩ := cn_i H
      refine gw_V2 oknX8_whyNoPivot dL_isStepSo_112 kw_745 kw_746 kw_747 (hp_o (h0.1)) rfl ⟨by decide, by decide⟩ ⟨by decide, by decide⟩ (Nat.le_of_ble_eq_true rfl) (n_X8_whyNoPivot (h0) e_c26 rfl ?_)
      obtain ⟨g, H⟩ := gd_i H
      obtain ⟨k27, e_k27, H⟩ := jn_i H
      have hJ_k27 : ∀ (c28 : W0), k27 c28 = some r → G Φ nL_isStepSo (gw_M Φ nL_isStepSo K) none 0 0 157 [(0, .ref (M + p1)), (3, vL v13), (5, vL v14), (7, vI v15), (8, vI v17), (9, vI v18), (10, vI v20), (12, vI v24)] [] (hp Φ hb M sh c28) := by
        intro c28 H
        subst e_k27
        refine gw_iconstZ dL_isStepSo_157 rfl ?_
        refine gw_istore dL_isStepSo_158 rfl (by decide) ?_
        refine gw_aload_n dL_isStepSo_160 rfl rfl ?_
        obtain ⟨v29, e_v29, H⟩ := cv_i H
        refine gw_V0 okX8_valueNumerator dL_isStepSo_161 kw_714 kw_715 kw_716 (hp_o (h0.1)) rfl ⟨by decide, by decide⟩ ⟨by decide, by decide⟩ (Nat.le_of_ble_eq_true rfl) (w_X8_valueNumerator (h0) e_v29 ?_)
        refine gw_lload dL_isStepSo_164 rfl rfl ?_
        refine gw_lmulZ dL_isStepSo_166 rfl ?_
        refine gw_lload_n dL_isStepSo_167 rfl rfl ?_
        refine gw_aload_n dL_isStepSo_168 rfl rfl ?_
        obtain ⟨v30, e_v30, H⟩ := cv_i H
        refine gw_V0 okX8_valueDenominator dL_isStepSo_169 kw_722 kw_723 kw_724 (hp_o (h0.1)) rfl ⟨by decide, by decide⟩ ⟨by decide, by decide⟩ (Nat.le_of_ble_eq_true rfl) (w_X8_valueDenominator (h0) e_v30 ?_)
        refine gw_lmulZ dL_isStepSo_172 rfl ?_
        refine gw_lsubZ dL_isStepSo_173 rfl ?_
        refine gw_lstore dL_isStepSo_174 rfl (by decide) ?_
        refine gw_iload dL_isStepSo_176 rfl rfl ?_
        refine gw_if_eqZ (tgt := 266) dL_isStepSo_178 rfl (by decide) (by decide) (fun q => ?_) (fun q => absurd q (by omega))
        refine gw_iconstZ dL_isStepSo_266 rfl ?_
        refine gw_istore dL_isStepSo_267 rfl (by decide) ?_
        refine gw_iload dL_isStepSo_269 rfl rfl ?_
        refine gw_if_eqZ (tgt := 333) dL_isStepSo_271 rfl (by decide) (by decide) (fun q => ?_) (fun q => absurd q (by omega))
        refine gw_iconstZ dL_isStepSo_333 rfl ?_
        cases H
        exact gw_zret rfl dL_isStepSo_334 rfl (by decide) (by decide) hK
      refine gw_if_neZ (tgt := 157) dL_isStepSo_115 rfl (by decide) g (fun q => ?_) (fun q => ?_)
      · have H := bq_f q H
        exact gw_L (hJ_k27 _ H) ((lvA_c rfl (lvA_c rfl (lvA_c rfl (lvA_c rfl (lvA_c rfl (lvA_c rfl (lvA_c rfl (lvA_c rfl lvA_n)))))))))
      · have H := bq_t q H
        refine gw_aload_n dL_isStepSo_118 rfl rfl ?_
        refine gw_iload dL_isStepSo_119 rfl rfl ?_
        refine gw_iload dL_isStepSo_121 rfl rfl ?_
        obtain ⟨v31, c32, e_c32, H⟩ := cn_i H
        refine gw_V2 oknX8_pivot dL_isStepSo_123 kw_535 kw_536 kw_537 (hp_o (h0.1)) rfl ⟨by decide, by decide⟩ ⟨by decide, by decide⟩ (Nat.le_of_ble_eq_true rfl) (n_X8_pivot (h0) e_c32 rfl ?_)
        refine gw_iload dL_isStepSo_126 rfl rfl ?_
        obtain ⟨g, H⟩ := gd_i H
        refine gw_icmp_neZ (tgt := 157) dL_isStepSo_128 rfl (by decide) g.1 g.2 (fun q => ?_) (fun q => ?_)
        · have H := bq_f q H
          exact gw_L (hJ_k27 _ H) ((lvA_c rfl (lvA_c rfl (lvA_c rfl (lvA_c rfl (lvA_c rfl (lvA_c rfl (lvA_c rfl (lvA_c rfl lvA_n)))))))))
        · have H := bq_t q H
          refine gw_aload_n dL_isStepSo_131 rfl rfl ?_
          refine gw_iload dL_isStepSo_132 rfl rfl ?_
          obtain ⟨v33, c34, e_c34, H⟩ := cn_i H
          refine gw_V1 oknX8_columnOf dL_isStepSo_134 kw_676 kw_677 kw_678 (hp_o (h0.1)) rfl ⟨by decide, by decide⟩ ⟨by decide, by decide⟩ (Nat.le_of_ble_eq_true rfl) (n_X8_columnOf (h0) e_c34 rfl ?_)
          refine gw_iload dL_isStepSo_137 rfl rfl ?_
          obtain ⟨g, H⟩ := gd_i H
          refine gw_icmp_neZ (tgt := 157) dL_isStepSo_139 rfl (by decide) g.1 g.2 (fun q => ?_) (fun q => ?_)
          · have H := bq_f q H
            exact gw_L (hJ_k27 _ H) ((lvA_c rfl (lvA_c rfl (lvA_c rfl (lvA_c rfl (lvA_c rfl (lvA_c rfl (lvA_c rfl (lvA_c rfl lvA_n)))))))))
          · have H := bq_t q H
            refine gw_aload_n dL_isStepSo_142 rfl rfl ?_
            obtain ⟨v35, e_v35, H⟩ := cv_i H
            refine gw_V0 okX8_pivots dL_isStepSo_143 kw_656 kw_657 kw_658 (hp_o (h0.1)) rfl ⟨by decide, by decide⟩ ⟨by decide, by decide⟩ (Nat.le_of_ble_eq_true rfl) (w_X8_pivots (h0) e_v35 ?_)
            refine gw_iload dL_isStepSo_146 rfl rfl ?_
            refine gw_iconstZ dL_isStepSo_148 rfl ?_
            refine gw_iaddZ dL_isStepSo_149 rfl ?_
            obtain ⟨g, H⟩ := gd_i H
            refine gw_icmp_neZ (tgt := 157) dL_isStepSo_150 rfl (by decide) g.1 g.2 (fun q => ?_) (fun q => ?_)
            · have H := bq_f q H
              exact gw_L (hJ_k27 _ H) ((lvA_c rfl (lvA_c rfl (lvA_c rfl (lvA_c rfl (lvA_c rfl (lvA_c rfl (lvA_c rfl (lvA_c rfl lvA_n)))))))))
            · have H := bq_t q H
              refine gw_iconstZ dL_isStepSo_153 rfl ?_
              refine gw_goto (tgt := 158) dL_isStepSo_154 (by decide) ?_
              refine gw_istore dL_isStepSo_158 rfl (by decide) ?_
              refine gw_aload_n dL_isStepSo_160 rfl rfl ?_
              obtain ⟨v36, e_v36, H⟩ := cv_i H
              refine gw_V0 okX8_valueNumerator dL_isStepSo_161 kw_714 kw_715 kw_716 (hp_o (h0.1)) rfl ⟨by decide, by decide⟩ ⟨by decide, by decide⟩ (Nat.le_of_ble_eq_true rfl) (w_X8_valueNumerator (h0) e_v36 ?_)
              refine gw_lload dL_isStepSo_164 rfl rfl ?_
              refine gw_lmulZ dL_isStepSo_166 rfl ?_
              refine gw_lload_n dL_isStepSo_167 rfl rfl ?_
              refine gw_aload_n dL_isStepSo_168 rfl rfl ?_
              obtain ⟨v37, e_v37, H⟩ := cv_i H
              refine gw_V0 okX8_valueDenominator dL_isStepSo_169 kw_722 kw_723 kw_724 (hp_o (h0.1)) rfl ⟨by decide, by decide⟩ ⟨by decide, by decide⟩ (Nat.le_of_ble_eq_true rfl) (w_X8_valueDenominator (h0) e_v37 ?_)
              refine gw_lmulZ dL_isStepSo_172 rfl ?_
              refine gw_lsubZ dL_isStepSo_173 rfl ?_
              refine gw_lstore dL_isStepSo_174 rfl (by decide) ?_
              refine gw_iload dL_isStepSo_176 rfl rfl ?_
              refine gw_if_eqZ (tgt := 266) dL_isStepSo_178 rfl (by decide) (by decide) (fun q => absurd q (by omega)) (fun q => ?_)
              refine gw_lload dL_isStepSo_181 rfl rfl ?_
              refine gw_lconst0Z dL_isStepSo_183 rfl ?_
              obtain ⟨g, H⟩ := gd_i H
              obtain ⟨k38, e_k38, H⟩ := jn_i H
              have hJ_k38 : ∀ (c39 : W0), k38 c39 = some r → G Φ nL_isStepSo (gw_M Φ nL_isStepSo K) none 0 0 266 [(0, .ref (M + p1)), (3, vL v13), (7, vI v15), (8, vI v17)] [] (hp Φ hb M sh c39) := by
                intro c39 H
                subst e_k38
                refine gw_iconstZ dL_isStepSo_266 rfl ?_
                refine gw_istore dL_isStepSo_267 rfl (by decide) ?_
                refine gw_iload dL_isStepSo_269 rfl rfl ?_
                refine gw_if_eqZ (tgt := 333) dL_isStepSo_271 rfl (by decide) (by decide) (fun q => ?_) (fun q => absurd q (by omega))
                refine gw_iconstZ dL_isStepSo_333 rfl ?_
                cases H
                exact gw_zret rfl dL_isStepSo_334 rfl (by decide) (by decide) hK
              refine gw_lc_ltZ (tgt := 266) dL_isStepSo_184 rfl dL_isStepSo_185 rfl (by decide) g (by decide) (fun q => ?_) (fun q => ?_)
              · have H := bq_t q H
                exact gw_L (hJ_k38 _ H) ((lvA_c rfl (lvA_c rfl (lvA_c rfl (lvA_c rfl lvA_n)))))
              · have H := bq_f q H
                refine gw_aload_n dL_isStepSo_188 rfl rfl ?_
                obtain ⟨v40, e_v40, H⟩ := cv_i H
                refine gw_V0 okX8_idlePivots dL_isStepSo_189 kw_664 kw_665 kw_666 (hp_o (h0.1)) rfl ⟨by decide, by decide⟩ ⟨by decide, by decide⟩ (Nat.le_of_ble_eq_true rfl) (w_X8_idlePivots (h0) e_v40 ?_)
                refine gw_iload dL_isStepSo_192 rfl rfl ?_
                refine gw_lload dL_isStepSo_194 rfl rfl ?_
                refine gw_lconst0Z dL_isStepSo_196 rfl ?_
                obtain ⟨g, H⟩ := gd_i H
                obtain ⟨k41, e_k41, H⟩ := jn_i H
                have hJ_k41 : ∀ (v42 : Int), k41 v42 = some r → G Φ nL_isStepSo (gw_M Φ nL_isStepSo K) none 0 0 206 [(0, .ref (M + p1)), (3, vL v13), (7, vI v15), (8, vI v17), (9, vI v18), (10, vI v20)] [vI v42, vI v24, vI v40] (hp Φ hb M sh c34) := by
                  intro v42 H
                  subst e_k41
                  refine gw_iaddZ dL_isStepSo_206 rfl ?_
                  obtain ⟨g, H⟩ := gd_i H
                  refine gw_icmp_neZ (tgt := 266) dL_isStepSo_207 rfl (by decide) g.1 g.2 (fun q => ?_) (fun q => ?_)
                  · have H := bq_f q H
                    exact gw_L (hJ_k38 _ H) ((lvA_c rfl (lvA_c rfl (lvA_c rfl (lvA_c rfl lvA_n)))))
                  · have H := bq_t q H
                    refine gw_iload dL_isStepSo_210 rfl rfl ?_
                    refine gw_bipushZ dL_isStepSo_212 rfl (by decide) ?_
                    obtain ⟨g, H⟩ := gd_i H
                    obtain ⟨k43, e_k43, H⟩ := jn_i H
                    have hJ_k43 : ∀ (c44 : W0), k43 c44 = some r → G Φ nL_isStepSo (gw_M Φ nL_isStepSo K) none 0 0 228 [(0, .ref (M + p1)), (3, vL v13), (7, vI v15), (8, vI v17), (9, vI v18), (10, vI v20)] [] (hp Φ hb M sh c44) := by
                      intro c44 H
                      subst e_k43
                      refine gw_aload_n dL_isStepSo_228 rfl rfl ?_
                      obtain ⟨v45, c46, e_c46, H⟩ := cn_i H
                      refine gw_V0 oknX8_undo dL_isStepSo_229 kw_267 kw_268 kw_269 (hp_o (h0.1)) rfl ⟨by decide, by decide⟩ ⟨by decide, by decide⟩ (Nat.le_of_ble_eq_true rfl) (n_X8_undo (h0) e_c46 rfl ?_)
                      obtain ⟨g, H⟩ := gd_i H
                      refine gw_if_ltZ (tgt := 266) dL_isStepSo_232 rfl (by decide) g (fun q => ?_) (fun q => ?_)
                      · have H := bq_t q H
                        exact gw_L (hJ_k38 _ H) ((lvA_c rfl (lvA_c rfl (lvA_c rfl (lvA_c rfl lvA_n)))))
                      · have H := bq_f q H
                        refine gw_aload_n dL_isStepSo_235 rfl rfl ?_
                        obtain ⟨v47, c48, e_c48, H⟩ := cn_i H
                        refine gw_V0 oknX8_step dL_isStepSo_236 kw_595 kw_596 kw_597 (hp_o (h0.1)) rfl ⟨by decide, by decide⟩ ⟨by decide, by decide⟩ (Nat.le_of_ble_eq_true rfl) (n_X8_step (h0) e_c48 rfl ?_)
                        refine gw_iload dL_isStepSo_239 rfl rfl ?_
                        obtain ⟨g, H⟩ := gd_i H
                        refine gw_icmp_neZ (tgt := 266) dL_isStepSo_241 rfl (by decide) g.1 g.2 (fun q => ?_) (fun q => ?_)
                        · have H := bq_f q H
                          exact gw_L (hJ_k38 _ H) ((lvA_c rfl (lvA_c rfl (lvA_c rfl (lvA_c rfl lvA_n)))))
                        · have H := bq_t q H
                          refine gw_aload_n dL_isStepSo_244 rfl rfl ?_
                          refine gw_iload dL_isStepSo_245 rfl rfl ?_
                          obtain ⟨v49, c50, e_c50, H⟩ := cn_i H
                          refine gw_V1 oknX8_columnOf dL_isStepSo_247 kw_676 kw_677 kw_678 (hp_o (h0.1)) rfl ⟨by decide, by decide⟩ ⟨by decide, by decide⟩ (Nat.le_of_ble_eq_true rfl) (n_X8_columnOf (h0) e_c50 rfl ?_)
                          refine gw_iload dL_isStepSo_250 rfl rfl ?_
                          obtain ⟨g, H⟩ := gd_i H
                          refine gw_icmp_neZ (tgt := 266) dL_isStepSo_252 rfl (by decide) g.1 g.2 (fun q => ?_) (fun q => ?_)
                          · have H := bq_f q H
                            exact gw_L (hJ_k38 _ H) ((lvA_c rfl (lvA_c rfl (lvA_c rfl (lvA_c rfl lvA_n)))))
                          · have H := bq_t q H
                            refine gw_aload_n dL_isStepSo_255 rfl rfl ?_
                            obtain ⟨v51, c52, e_c52, H⟩ := cn_i H
                            refine gw_V0 oknX8_undo dL_isStepSo_256 kw_267 kw_268 kw_269 (hp_o (h0.1)) rfl ⟨by decide, by decide⟩ ⟨by decide, by decide⟩ (Nat.le_of_ble_eq_true rfl) (n_X8_undo (h0) e_c52 rfl ?_)
                            obtain ⟨g, H⟩ := gd_i H
                            refine gw_if_ltZ (tgt := 266) dL_isStepSo_259 rfl (by decide) g (fun q => ?_) (fun q => ?_)
                            · have H := bq_t q H
                              exact gw_L (hJ_k38 _ H) ((lvA_c rfl (lvA_c rfl (lvA_c rfl (lvA_c rfl lvA_n)))))
                            · have H := bq_f q H
                              refine gw_iconstZ dL_isStepSo_262 rfl ?_
                              refine gw_goto (tgt := 267) dL_isStepSo_263 (by decide) ?_
                              refine gw_istore dL_isStepSo_267 rfl (by decide) ?_
                              refine gw_iload dL_isStepSo_269 rfl rfl ?_
                              refine gw_if_eqZ (tgt := 333) dL_isStepSo_271 rfl (by decide) (by decide) (fun q => absurd q (by omega)) (fun q => ?_)
                              refine gw_aload_n dL_isStepSo_274 rfl rfl ?_
                              obtain ⟨v53, c54, e_c54, H⟩ := cl_i H
                              refine gw_V0 okX8_solve dL_isStepSo_275 kw_629 kw_630 kw_631 (hp_o (h0.1)) rfl ⟨by decide, by decide⟩ ⟨by decide, by decide⟩ (Nat.le_of_ble_eq_true rfl) (w_X8_solve (h0) e_c54 ?_)
                              refine gw_iload dL_isStepSo_278 rfl rfl ?_
                              obtain ⟨g, H⟩ := gd_i H
                              refine gw_icmp_neZ (tgt := 333) dL_isStepSo_280 rfl (by decide) g.1 g.2 (fun q => ?_) (fun q => ?_)
                              · have H := bq_f q H
                                refine gw_iconstZ dL_isStepSo_333 rfl ?_
                                cases H
                                exact gw_zret rfl dL_isStepSo_334 rfl (by decide) (by decide) hK
                              · have H := bq_t q H
                                refine gw_iload dL_isStepSo_283 rfl rfl ?_
                                refine gw_bipushZ dL_isStepSo_285 rfl (by decide) ?_
                                obtain ⟨g, H⟩ := gd_i H
                                obtain ⟨k55, e_k55, H⟩ := jn_i H
                                have hJ_k55 : ∀ (u56 : Unit), k55 u56 = some r → G Φ nL_isStepSo (gw_M Φ nL_isStepSo K) none 0 0 304 [(0, .ref (M + p1)), (3, vL v13), (8, vI v17)] [] (hp Φ hb M sh c54) := by
                                  intro u56 H
                                  subst e_k55
                                  refine gw_aload_n dL_isStepSo_304 rfl rfl ?_
                                  obtain ⟨v57, c58, e_c58, H⟩ := cn_i H
                                  refine gw_V0 oknX8_undo dL_isStepSo_305 kw_267 kw_268 kw_269 (hp_o (h0.1)) rfl ⟨by decide, by decide⟩ ⟨by decide, by decide⟩ (Nat.le_of_ble_eq_true rfl) (n_X8_undo (h0) e_c58 rfl ?_)
                                  obtain ⟨g, H⟩ := gd_i H
                                  refine gw_if_ltZ (tgt := 333) dL_isStepSo_308 rfl (by decide) g (fun q => ?_) (fun q => ?_)
                                  · have H := bq_t q H
                                    refine gw_iconstZ dL_isStepSo_333 rfl ?_
                                    cases H
                                    exact gw_zret rfl dL_isStepSo_334 rfl (by decide) (by decide) hK
                                  · have H := bq_f q H
                                    refine gw_aload_n dL_isStepSo_311 rfl rfl ?_
                                    obtain ⟨v59, e_v59, H⟩ := cv_i H
                                    refine gw_V0 okX8_pivots dL_isStepSo_312 kw_656 kw_657 kw_658 (hp_o (h0.1)) rfl ⟨by decide, by decide⟩ ⟨by decide, by decide⟩ (Nat.le_of_ble_eq_true rfl) (w_X8_pivots (h0) e_v59 ?_)
                                    refine gw_iload dL_isStepSo_315 rfl rfl ?_
                                    obtain ⟨g, H⟩ := gd_i H
                                    refine gw_icmp_neZ (tgt := 333) dL_isStepSo_317 rfl (by decide) g.1 g.2 (fun q => ?_) (fun q => ?_)
                                    · have H := bq_f q H
                                      refine gw_iconstZ dL_isStepSo_333 rfl ?_
                                      cases H
                                      exact gw_zret rfl dL_isStepSo_334 rfl (by decide) (by decide) hK
                                    · have H := bq_t q H
                                      refine gw_aload_n dL_isStepSo_320 rfl rfl ?_
                                      obtain ⟨v60, e_v60, H⟩ := cv_i H
                                      refine gw_V0 okX8_valueNumerator dL_isStepSo_321 kw_714 kw_715 kw_716 (hp_o (h0.1)) rfl ⟨by decide, by decide⟩ ⟨by decide, by decide⟩ (Nat.le_of_ble_eq_true rfl) (w_X8_valueNumerator (h0) e_v60 ?_)
                                      refine gw_lload_n dL_isStepSo_324 rfl rfl ?_
                                      obtain ⟨g, H⟩ := gd_i H
                                      refine gw_lc_neZ (tgt := 333) dL_isStepSo_325 rfl dL_isStepSo_326 rfl (by decide) g.1 g.2 (fun q => ?_) (fun q => ?_)
                                      · have H := bq_f q H
                                        refine gw_iconstZ dL_isStepSo_333 rfl ?_
                                        cases H
                                        exact gw_zret rfl dL_isStepSo_334 rfl (by decide) (by decide) hK
                                      · have H := bq_t q H
                                        refine gw_iconstZ dL_isStepSo_329 rfl ?_
                                        refine gw_goto (tgt := 334) dL_isStepSo_330 (by decide) ?_
                                        cases H
                                        exact gw_zret rfl dL_isStepSo_334 rfl (by decide) (by decide) hK
                                refine gw_icmp_eqZ (tgt := 304) dL_isStepSo_287 rfl (by decide) g (by decide) (fun q => ?_) (fun q => ?_)
                                · have H := bq_t q H
                                  exact gw_L (hJ_k55 _ H) ((lvA_c rfl (lvA_c rfl (lvA_c rfl lvA_n))))
                                · have H := bq_f q H
                                  refine gw_aload_n dL_isStepSo_290 rfl rfl ?_
                                  obtain ⟨v61, e_v61, H⟩ := cv_i H
                                  refine gw_V0 okX8_isOptimal dL_isStepSo_291 kw_809 kw_810 kw_811 (hp_o (h0.1)) rfl ⟨by decide, by decide⟩ ⟨by decide, by decide⟩ (Nat.le_of_ble_eq_true rfl) (w_X8_isOptimal (h0) e_v61 ?_)
                                  obtain ⟨g, H⟩ := gd_i H
                                  refine gw_if_neZ (tgt := 304) dL_isStepSo_294 rfl (by decide) g (fun q => ?_) (fun q => ?_)
                                  · have H := bq_f q H
                                    exact gw_L (hJ_k55 _ H) ((lvA_c rfl (lvA_c rfl (lvA_c rfl lvA_n))))
                                  · have H := bq_t q H
                                    refine gw_aload_n dL_isStepSo_297 rfl rfl ?_
                                    obtain ⟨v62, e_v62, H⟩ := cv_i H
                                    refine gw_V0 okX8_hasRay dL_isStepSo_298 kw_814 kw_815 kw_816 (hp_o (h0.1)) rfl ⟨by decide, by decide⟩ ⟨by decide, by decide⟩ (Nat.le_of_ble_eq_true rfl) (w_X8_hasRay (h0) e_v62 ?_)
                                    obtain ⟨g, H⟩ := gd_i H
                                    refine gw_if_eqZ (tgt := 333) dL_isStepSo_301 rfl (by decide) g (fun q => ?_) (fun q => ?_)
                                    · have H := bq_t q H
                                      refine gw_iconstZ dL_isStepSo_333 rfl ?_
                                      cases H
                                      exact gw_zret rfl dL_isStepSo_334 rfl (by decide) (by decide) hK
                                    · have H := bq_f q H
                                      exact gw_L (hJ_k55 _ H) ((lvA_c rfl (lvA_c rfl (lvA_c rfl lvA_n))))
                    refine gw_icmp_eqZ (tgt := 228) dL_isStepSo_214 rfl (by decide) g (by decide) (fun q => ?_) (fun q => ?_)
                    · have H := bq_t q H
                      exact gw_L (hJ_k43 _ H) ((lvA_c rfl (lvA_c rfl (lvA_c rfl (lvA_c rfl (lvA_c rfl (lvA_c rfl lvA_n)))))))
                    · have H := bq_f q H
                      refine gw_aload_n dL_isStepSo_217 rfl rfl ?_
                      obtain ⟨v63, c64, e_c64, H⟩ := cl_i H
                      refine gw_V0 okX8_pivotsLeft dL_isStepSo_218 kw_921 kw_922 kw_923 (hp_o (h0.1)) rfl ⟨by decide, by decide⟩ ⟨by decide, by decide⟩ (Nat.le_of_ble_eq_true rfl) (w_X8_pivotsLeft (h0) e_c64 ?_)
                      refine gw_iload dL_isStepSo_221 rfl rfl ?_
                      refine gw_iconstZ dL_isStepSo_223 rfl ?_
                      refine gw_isubZ dL_isStepSo_224 rfl ?_
                      obtain ⟨g, H⟩ := gd_i H
                      refine gw_icmp_neZ (tgt := 266) dL_isStepSo_225 rfl (by decide) g.1 g.2 (fun q => ?_) (fun q => ?_)
                      · have H := bq_f q H
                        exact gw_L (hJ_k38 _ H) ((lvA_c rfl (lvA_c rfl (lvA_c rfl (lvA_c rfl lvA_n)))))
                      · have H := bq_t q H
                        exact gw_L (hJ_k43 _ H) ((lvA_c rfl (lvA_c rfl (lvA_c rfl (lvA_c rfl (lvA_c rfl (lvA_c rfl lvA_n)))))))
                refine gw_lc_neZ (tgt := 205) dL_isStepSo_197 rfl dL_isStepSo_198 rfl (by decide) g (by decide) (fun q => ?_) (fun q => ?_)
                · have H := bq_f q H
                  refine gw_iconstZ dL_isStepSo_205 rfl ?_
                  exact gw_L (hJ_k41 _ H) ((lvA_c rfl (lvA_c rfl (lvA_c rfl (lvA_c rfl (lvA_c rfl (lvA_c rfl lvA_n)))))))
                · have H := bq_t q H
                  refine gw_iconstZ dL_isStepSo_201 rfl ?_
                  refine gw_goto (tgt := 206) dL_isStepSo_202 (by decide) ?_
                  exact gw_L (hJ_k41 _ H) ((lvA_c rfl (lvA_c rfl (lvA_c rfl (lvA_c rfl (lvA_c rfl (lvA_c rfl lvA_n)))))))
    · have H := bq_f q H
      exact gw_L (hJ_k2 _ H) ((lvA_c rfl (lvA_c rfl lvA_n)))
end NY
