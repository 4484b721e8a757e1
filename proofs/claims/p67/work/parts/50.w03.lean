section FW
set_option maxRecDepth 100000 in
set_option maxHeartbeats 4000000 in
theorem w_X5_noteValue {Φ : gwC} {hb : gwHp} {M : Nat} {sh : Nat → Option gSh} {th : Nat} {p1 : Int} {p2 : Int} {c : W0} {r : Int × W0} {K : Option Value → gwHp → Prop} (h0 : sV sh th) (H : f_X5_noteValue th p1 p2 c = some r) (hK : K none (hp Φ hb M sh r.2)) : gw_Con Φ mX5_noteValue none [.ref (M + th), vL p1, vL p2] (hp Φ hb M sh c) K := by
  unfold f_X5_noteValue at H
  refine gw_start okX5_noteValue (Nat.le_of_ble_eq_true rfl) ?_
  refine gw_lload_n dX5_noteValue_0 rfl rfl ?_
  refine gw_lload_n dX5_noteValue_1 rfl rfl ?_
  obtain ⟨v1, e_v1, H⟩ := cv_i H
  refine gw_SN2 okX8_lowNumerator dX5_noteValue_2 kw_872 kw_709 ⟨by decide, by decide⟩ ⟨by decide, by decide⟩ (Nat.le_of_ble_eq_true rfl) (w_X8_lowNumerator  e_v1 ?_)
  refine gw_lstore dX5_noteValue_5 rfl (by decide) ?_
  refine gw_lload_n dX5_noteValue_7 rfl rfl ?_
  refine gw_lload_n dX5_noteValue_8 rfl rfl ?_
  obtain ⟨v2, e_v2, H⟩ := cv_i H
  refine gw_SN2 okX8_lowDenominator dX5_noteValue_9 kw_873 kw_696 ⟨by decide, by decide⟩ ⟨by decide, by decide⟩ (Nat.le_of_ble_eq_true rfl) (w_X8_lowDenominator  e_v2 ?_)
  refine gw_lstore dX5_noteValue_12 rfl (by decide) ?_
  refine gw_aload_n dX5_noteValue_14 rfl rfl ?_
  refine gw_lload dX5_noteValue_15 rfl rfl ?_
  refine gw_lload dX5_noteValue_17 rfl rfl ?_
  obtain ⟨v3, e_v3, H⟩ := cv_i H
  refine gw_V2 okX5_isNoted dX5_noteValue_19 kw_874 kw_876 kw_15 (hp_o (h0.1)) rfl ⟨by decide, by decide⟩ ⟨by decide, by decide⟩ (Nat.le_of_ble_eq_true rfl) (w_X5_isNoted (h0) e_v3 ?_)
  obtain ⟨g, H⟩ := gd_i H
  refine gw_if_eqZ (tgt := 26) dX5_noteValue_22 rfl (by decide) g (fun q => ?_) (fun q => ?_)
  · have H := bq_t q H
    refine gw_aload_n dX5_noteValue_26 rfl rfl ?_
    refine gs_getI cl5 3 3 dX5_noteValue_27 rfl kw_215 (by decide) (h0.1) rfl rfl ?_
    obtain ⟨g, H⟩ := gd_i H
    obtain ⟨k4, e_k4, H⟩ := jn_i H
    have hJ_k4 : ∀ (u5 : Unit), k4 u5 = some r → G Φ mX5_noteValue (gw_M Φ mX5_noteValue K) none 0 0 51 [(0, .ref (M + th)), (5, vL v1), (7, vL v2)] [] (hp Φ hb M sh c) := by
      intro u5 H
      subst e_k4
      refine gw_aload_n dX5_noteValue_51 rfl rfl ?_
      refine gw_lload dX5_noteValue_52 rfl rfl ?_
      obtain ⟨c6, e_c6, H⟩ := sto_i H
      refine gs_putLE cl5 4 4 dX5_noteValue_54 rfl kw_217 (by decide) rfl rfl (h0.1) rfl rfl e_c6 ?_
      refine gw_aload_n dX5_noteValue_57 rfl rfl ?_
      refine gw_lload dX5_noteValue_58 rfl rfl ?_
      obtain ⟨c7, e_c7, H⟩ := sto_i H
      refine gs_putLE cl5 5 5 dX5_noteValue_60 rfl kw_219 (by decide) rfl rfl (h0.1) rfl rfl e_c7 ?_
      refine gw_aload_n dX5_noteValue_63 rfl rfl ?_
      refine gs_getR cl5 1 dX5_noteValue_64 rfl kw_212 (by decide) (h0.1) rfl ?_
      refine gw_iconstZ dX5_noteValue_67 rfl ?_
      refine gw_aload_n dX5_noteValue_68 rfl rfl ?_
      refine gs_getI cl5 3 3 dX5_noteValue_69 rfl kw_215 (by decide) (h0.1) rfl rfl ?_
      refine gw_lload dX5_noteValue_72 rfl rfl ?_
      obtain ⟨g, H⟩ := gd_i H
      obtain ⟨c8, e_c8, H⟩ := sto_i H
      refine gw_V3 okX1_put dX5_noteValue_74 kw_879 kw_420 kw_421 (hp_o (h0.2.2.1)) rfl ⟨by decide, by decide⟩ ⟨by decide, by decide⟩ (Nat.le_of_ble_eq_true rfl) (k_put0E (h0.2.2) (by decide) (by omega) (by omega) (by decide) e_c8 ?_)
      refine gw_aload_n dX5_noteValue_77 rfl rfl ?_
      refine gs_getR cl5 1 dX5_noteValue_78 rfl kw_212 (by decide) (h0.1) rfl ?_
      refine gw_iconstZ dX5_noteValue_81 rfl ?_
      refine gw_aload_n dX5_noteValue_82 rfl rfl ?_
      refine gs_getI cl5 3 3 dX5_noteValue_83 rfl kw_215 (by decide) (h0.1) rfl rfl ?_
      refine gw_lload dX5_noteValue_86 rfl rfl ?_
      obtain ⟨g, H⟩ := gd_i H
      obtain ⟨c9, e_c9, H⟩ := sto_i H
      refine gw_V3 okX1_put dX5_noteValue_88 kw_879 kw_420 kw_421 (hp_o (h0.2.2.1)) rfl ⟨by decide, by decide⟩ ⟨by decide, by decide⟩ (Nat.le_of_ble_eq_true rfl) (k_putE (h0.2.2) (by decide) (by omega) (by omega) (by omega) (by decide) e_c9 ?_)
      refine gw_aload_n dX5_noteValue_91 rfl rfl ?_
      refine gw_dup dX5_noteValue_92 rfl rfl ?_
      refine gs_getI cl5 3 3 dX5_noteValue_93 rfl kw_215 (by decide) (h0.1) rfl rfl ?_
      refine gw_iconstZ dX5_noteValue_96 rfl ?_
      refine gw_iaddZ dX5_noteValue_97 rfl ?_
      obtain ⟨c10, e_c10, H⟩ := sto_i H
      refine gs_putIE cl5 3 3 dX5_noteValue_98 rfl kw_215 (by decide) rfl rfl (h0.1) rfl rfl e_c10 ?_
      cases H
      exact gw_vret dX5_noteValue_101 rfl (by decide) (by decide) hK
    refine gw_if_eqZ (tgt := 51) dX5_noteValue_30 rfl (by decide) g (fun q => ?_) (fun q => ?_)
    · have H := bq_t q H
      exact gw_L (hJ_k4 _ H) ((lvA_c rfl (lvA_c rfl (lvA_c rfl lvA_n))))
    · have H := bq_f q H
      refine gw_lload dX5_noteValue_33 rfl rfl ?_
      refine gw_aload_n dX5_noteValue_35 rfl rfl ?_
      refine gs_getL cl5 5 5 dX5_noteValue_36 rfl kw_219 (by decide) (h0.1) rfl rfl ?_
      refine gw_lmulZ dX5_noteValue_39 rfl ?_
      refine gw_aload_n dX5_noteValue_40 rfl rfl ?_
      refine gs_getL cl5 4 4 dX5_noteValue_41 rfl kw_217 (by decide) (h0.1) rfl rfl ?_
      refine gw_lload dX5_noteValue_44 rfl rfl ?_
      refine gw_lmulZ dX5_noteValue_46 rfl ?_
      obtain ⟨g, H⟩ := gd_i H
      refine gw_lc_leZ (tgt := 63) dX5_noteValue_47 rfl dX5_noteValue_48 rfl (by decide) g.1 g.2 (fun q => ?_) (fun q => ?_)
      · have H := bq_t q H
        refine gw_aload_n dX5_noteValue_63 rfl rfl ?_
        refine gs_getR cl5 1 dX5_noteValue_64 rfl kw_212 (by decide) (h0.1) rfl ?_
        refine gw_iconstZ dX5_noteValue_67 rfl ?_
        refine gw_aload_n dX5_noteValue_68 rfl rfl ?_
        refine gs_getI cl5 3 3 dX5_noteValue_69 rfl kw_215 (by decide) (h0.1) rfl rfl ?_
        refine gw_lload dX5_noteValue_72 rfl rfl ?_
        obtain ⟨g, H⟩ := gd_i H
        obtain ⟨c11, e_c11, H⟩ := sto_i H
        refine gw_V3 okX1_put dX5_noteValue_74 kw_879 kw_420 kw_421 (hp_o (h0.2.2.1)) rfl ⟨by decide, by decide⟩ ⟨by decide, by decide⟩ (Nat.le_of_ble_eq_true rfl) (k_put0E (h0.2.2) (by decide) (by omega) (by omega) (by decide) e_c11 ?_)
        refine gw_aload_n dX5_noteValue_77 rfl rfl ?_
        refine gs_getR cl5 1 dX5_noteValue_78 rfl kw_212 (by decide) (h0.1) rfl ?_
        refine gw_iconstZ dX5_noteValue_81 rfl ?_
        refine gw_aload_n dX5_noteValue_82 rfl rfl ?_
        refine gs_getI cl5 3 3 dX5_noteValue_83 rfl kw_215 (by decide) (h0.1) rfl rfl ?_
        refine gw_lload dX5_noteValue_86 rfl rfl ?_
        obtain ⟨g, H⟩ := gd_i H
        obtain ⟨c12, e_c12, H⟩ := sto_i H
        refine gw_V3 okX1_put dX5_noteValue_88 kw_879 kw_420 kw_421 (hp_o (h0.2.2.1)) rfl ⟨by decide, by decide⟩ ⟨by decide, by decide⟩ (Nat.le_of_ble_eq_true rfl) (k_putE (h0.2.2) (by decide) (by omega) (by omega) (by omega) (by decide) e_c12 ?_)
        refine gw_aload_n dX5_noteValue_91 rfl rfl ?_
        refine gw_dup dX5_noteValue_92 rfl rfl ?_
        refine gs_getI cl5 3 3 dX5_noteValue_93 rfl kw_215 (by decide) (h0.1) rfl rfl ?_
        refine gw_iconstZ dX5_noteValue_96 rfl ?_
        refine gw_iaddZ dX5_noteValue_97 rfl ?_
        obtain ⟨c13, e_c13, H⟩ := sto_i H
        refine gs_putIE cl5 3 3 dX5_noteValue_98 rfl kw_215 (by decide) rfl rfl (h0.1) rfl rfl e_c13 ?_
        cases H
        exact gw_vret dX5_noteValue_101 rfl (by decide) (by decide) hK
      · have H := bq_f q H
        exact gw_L (hJ_k4 _ H) ((lvA_c rfl (lvA_c rfl (lvA_c rfl lvA_n))))
  · have H := bq_f q H
    cases H
    exact gw_vret dX5_noteValue_25 rfl (by decide) (by decide) hK
set_option maxRecDepth 100000 in
set_option maxHeartbeats 4000000 in
theorem l_X5_look_34 {Φ : gwC} {hb : gwHp} {M : Nat} {sh : Nat → Option gSh} {th : Nat} {p1 : Nat} {l2 : Int} {κ : W0 → Option (Int × W0)} {r : Int × W0} {K : Option Value → gwHp → Prop} (h0 : sV sh th) (h1 : sP sh p1) (hK : K none (hp Φ hb M sh r.2)) (hκ : ∀ (c : W0), κ c = some r → G Φ mX5_look (gw_M Φ mX5_look K) none 0 0 102 [] [] (hp Φ hb M sh c)) : ∀ (n : Nat) (l3 : Int) (c : W0), f_X5_look_34 th p1 l2 κ n l3 c = some r → G Φ mX5_look (gw_M Φ mX5_look K) none 0 0 34 [(0, .ref (M + th)), (1, .ref (M + p1)), (2, vI l2), (3, vI l3)] [] (hp Φ hb M sh c) := by
  intro n
  induction n with
  | zero => intro l3 c H; cases H
  | succ n ih =>
    intro l3 c H
    have H : b_X5_look_34 th p1 l2 κ (f_X5_look_34 th p1 l2 κ n) l3 c = some r := H
    unfold b_X5_look_34 at H
    refine gw_iload_n dX5_look_34 rfl rfl ?_
    refine gw_iload_n dX5_look_35 rfl rfl ?_
    obtain ⟨g, H⟩ := gd_i H
    refine gw_icmp_geZ (tgt := 102) dX5_look_36 rfl (by decide) g.1 g.2 (fun q => ?_) (fun q => ?_)
    · have H := bq_t q H
      exact gw_L (hκ _ H) (lvA_n)
    · have H := bq_f q H
      refine gw_iload_n dX5_look_39 rfl rfl ?_
      obtain ⟨v1, e_v1, H⟩ := cv_i H
      refine gw_S1 okJ6_bitCount_0f7a4 dX5_look_40 kw_847 kw_848 ⟨by decide, by decide⟩ ⟨by decide, by decide⟩ (Nat.le_of_ble_eq_true rfl) (w_J6_bitCount_0f7a4  e_v1 ?_)
      refine gw_aload_n dX5_look_43 rfl rfl ?_
      refine gs_getIN cl2 1 1 dX5_look_44 rfl kw_79 (by decide) (h1.1) rfl rfl ?_
      obtain ⟨g, H⟩ := gd_i H
      refine gw_icmp_neZ (tgt := 96) dX5_look_47 rfl (by decide) g.1 g.2 (fun q => ?_) (fun q => ?_)
      · have H := bq_f q H
        refine gw_iincZ dX5_look_96 rfl rfl (by decide) ?_
        refine gw_goto (tgt := 34) dX5_look_99 (by decide) ?_
        exact gw_L (ih _ _ H) ((lvA_c rfl (lvA_c rfl (lvA_c rfl (lvA_c rfl lvA_n)))))
      · have H := bq_t q H
        refine gw_aload_n dX5_look_50 rfl rfl ?_
        refine gs_getR cl5 0 dX5_look_51 rfl kw_211 (by decide) (h0.1) rfl ?_
        refine gw_aload_n dX5_look_54 rfl rfl ?_
        refine gw_iload_n dX5_look_55 rfl rfl ?_
        obtain ⟨v2, c3, e_c3, H⟩ := cl_i H
        refine gw_V2 okX0_solveBasis dX5_look_56 kw_853 kw_854 kw_855 (hp_o (h0.2.1.1)) rfl ⟨by decide, by decide⟩ ⟨by decide, by decide⟩ (Nat.le_of_ble_eq_true rfl) (w_X0_solveBasis (h0.2.1) (h1) e_c3 ?_)
        obtain ⟨g, H⟩ := gd_i H
        refine gw_if_eqZ (tgt := 96) dX5_look_59 rfl (by decide) g (fun q => ?_) (fun q => ?_)
        · have H := bq_t q H
          refine gw_iincZ dX5_look_96 rfl rfl (by decide) ?_
          refine gw_goto (tgt := 34) dX5_look_99 (by decide) ?_
          exact gw_L (ih _ _ H) ((lvA_c rfl (lvA_c rfl (lvA_c rfl (lvA_c rfl lvA_n)))))
        · have H := bq_f q H
          refine gw_aload_n dX5_look_62 rfl rfl ?_
          obtain ⟨v4, e_v4, H⟩ := cv_i H
          refine gw_V0 okX5_isFeasible dX5_look_63 kw_858 kw_860 kw_12 (hp_o (h0.1)) rfl ⟨by decide, by decide⟩ ⟨by decide, by decide⟩ (Nat.le_of_ble_eq_true rfl) (w_X5_isFeasible (h0) e_v4 ?_)
          obtain ⟨g, H⟩ := gd_i H
          refine gw_if_eqZ (tgt := 96) dX5_look_66 rfl (by decide) g (fun q => ?_) (fun q => ?_)
          · have H := bq_t q H
            refine gw_iincZ dX5_look_96 rfl rfl (by decide) ?_
            refine gw_goto (tgt := 34) dX5_look_99 (by decide) ?_
            exact gw_L (ih _ _ H) ((lvA_c rfl (lvA_c rfl (lvA_c rfl (lvA_c rfl lvA_n)))))
          · have H := bq_f q H
            refine gw_aload_n dX5_look_69 rfl rfl ?_
            refine gw_dup dX5_look_70 rfl rfl ?_
            refine gs_getI cl5 2 2 dX5_look_71 rfl kw_213 (by decide) (h0.1) rfl rfl ?_
            refine gw_iconstZ dX5_look_74 rfl ?_
            refine gw_iaddZ dX5_look_75 rfl ?_
            obtain ⟨c5, e_c5, H⟩ := sto_i H
            refine gs_putIE cl5 2 2 dX5_look_76 rfl kw_213 (by decide) rfl rfl (h0.1) rfl rfl e_c5 ?_
            refine gw_aload_n dX5_look_79 rfl rfl ?_
            refine gw_aload_n dX5_look_80 rfl rfl ?_
            refine gw_aload_n dX5_look_81 rfl rfl ?_
            refine gw_iload_n dX5_look_82 rfl rfl ?_
            obtain ⟨v6, e_v6, H⟩ := cv_i H
            refine gw_V2 okX5_sumOfProfits dX5_look_83 kw_863 kw_865 kw_13 (hp_o (h0.1)) rfl ⟨by decide, by decide⟩ ⟨by decide, by decide⟩ (Nat.le_of_ble_eq_true rfl) (w_X5_sumOfProfits (h0) (h1) e_v6 ?_)
            refine gw_aload_n dX5_look_86 rfl rfl ?_
            refine gs_getR cl5 0 dX5_look_87 rfl kw_211 (by decide) (h0.1) rfl ?_
            refine gs_getLN cl0 1 1 dX5_look_90 rfl kw_191 (by decide) (h0.2.1.1) rfl rfl ?_
            obtain ⟨v8, c7, e_c7, H⟩ := cl_i H
            refine gw_V2 okX5_noteValue dX5_look_93 kw_868 kw_870 kw_14 (hp_o (h0.1)) rfl ⟨by decide, by decide⟩ ⟨by decide, by decide⟩ (Nat.le_of_ble_eq_true rfl) (w_X5_noteValue (h0) e_c7 ?_)
            refine gw_iincZ dX5_look_96 rfl rfl (by decide) ?_
            refine gw_goto (tgt := 34) dX5_look_99 (by decide) ?_
            exact gw_L (ih _ _ H) ((lvA_c rfl (lvA_c rfl (lvA_c rfl (lvA_c rfl lvA_n)))))
set_option maxRecDepth 100000 in
set_option maxHeartbeats 4000000 in
theorem w_X5_look {Φ : gwC} {hb : gwHp} {M : Nat} {sh : Nat → Option gSh} {th : Nat} {p1 : Nat} {c : W0} {r : Int × W0} {K : Option Value → gwHp → Prop} (h0 : sV sh th) (h1 : sP sh p1) (H : f_X5_look th p1 c = some r) (hK : K none (hp Φ hb M sh r.2)) : gw_Con Φ mX5_look none [.ref (M + th), .ref (M + p1)] (hp Φ hb M sh c) K := by
  unfold f_X5_look at H
  refine gw_start okX5_look (Nat.le_of_ble_eq_true rfl) ?_
  refine gw_aload_n dX5_look_0 rfl rfl ?_
  refine gw_iconstZ dX5_look_1 rfl ?_
  obtain ⟨c1, e_c1, H⟩ := sto_i H
  refine gs_putIE cl5 2 2 dX5_look_2 rfl kw_213 (by decide) rfl rfl (h0.1) rfl rfl e_c1 ?_
  refine gw_aload_n dX5_look_5 rfl rfl ?_
  refine gw_iconstZ dX5_look_6 rfl ?_
  obtain ⟨c2, e_c2, H⟩ := sto_i H
  refine gs_putIE cl5 3 3 dX5_look_7 rfl kw_215 (by decide) rfl rfl (h0.1) rfl rfl e_c2 ?_
  refine gw_aload_n dX5_look_10 rfl rfl ?_
  refine gw_ifnonnull (tgt := 15) dX5_look_11 (by decide) ?_
  refine gw_iconstZ dX5_look_15 rfl ?_
  refine gw_bipushZ dX5_look_16 rfl (by decide) ?_
  refine gw_aload_n dX5_look_18 rfl rfl ?_
  refine gs_getIN cl2 0 0 dX5_look_19 rfl kw_74 (by decide) (h1.1) rfl rfl ?_
  refine gw_aload_n dX5_look_22 rfl rfl ?_
  refine gs_getIN cl2 1 1 dX5_look_23 rfl kw_79 (by decide) (h1.1) rfl rfl ?_
  refine gw_iaddZ dX5_look_26 rfl ?_
  obtain ⟨g, H⟩ := gd_i H
  refine gw_mminZ dX5_look_27 rfl kw_844 kw_845 kw_21 kw_846 (by decide) (Nat.le_of_ble_eq_true rfl) (by decide) (by decide) (by decide) g ?_
  refine gw_ishlZ dX5_look_30 rfl ?_
  refine gw_istore_n dX5_look_31 rfl (by decide) ?_
  refine gw_iconstZ dX5_look_32 rfl ?_
  refine gw_istore_n dX5_look_33 rfl (by decide) ?_
  refine gw_L (l_X5_look_34 h0 h1 hK (fun c3 H => ?_) LF _ _ H) ((lvA_c rfl (lvA_c rfl (lvA_c rfl (lvA_c rfl lvA_n)))))
  cases H
  exact gw_vret dX5_look_102 rfl (by decide) (by decide) hK
set_option maxRecDepth 100000 in
set_option maxHeartbeats 4000000 in
theorem w_X6_worth {Φ : gwC} {hb : gwHp} {M : Nat} {sh : Nat → Option gSh} {th : Nat} {c : W0} {r : Int} {K : Option Value → gwHp → Prop} (h0 : sT sh th) (H : f_X6_worth th c = some r) (hK : K (some (vL r)) (hp Φ hb M sh c)) : gw_Con Φ mX6_worth none [.ref (M + th)] (hp Φ hb M sh c) K := by
  unfold f_X6_worth at H
  refine gw_start okX6_worth (Nat.le_of_ble_eq_true rfl) ?_
  refine gw_aload_n dX6_worth_0 rfl rfl ?_
  refine gs_getR cl6 4 dX6_worth_1 rfl kw_107 (by decide) (h0.1) rfl ?_
  refine gw_aload_n dX6_worth_4 rfl rfl ?_
  refine gs_getI cl6 0 0 dX6_worth_5 rfl kw_100 (by decide) (h0.1) rfl rfl ?_
  refine gw_aload_n dX6_worth_8 rfl rfl ?_
  refine gs_getI cl6 1 1 dX6_worth_9 rfl kw_102 (by decide) (h0.1) rfl rfl ?_
  obtain ⟨g, H⟩ := gd_i H
  refine gw_V2 okX1_at dX6_worth_12 kw_561 kw_441 kw_442 (hp_o (h0.2.2.1)) rfl ⟨by decide, by decide⟩ ⟨by decide, by decide⟩ (Nat.le_of_ble_eq_true rfl) (k_at (h0.2.2) (by decide) (by omega) (by omega) (by omega) (by decide) ?_)
  refine gw_lnegZ dX6_worth_15 rfl ?_
  cases H
  exact gw_lret dX6_worth_16 rfl (by decide) (by decide) hK
set_option maxRecDepth 100000 in
set_option maxHeartbeats 4000000 in
theorem l_X6_rowNaming_2 {Φ : gwC} {hb : gwHp} {M : Nat} {sh : Nat → Option gSh} {th : Nat} {p1 : Int} {c : W0} {κ : Option Int} {r : Int} {K : Option Value → gwHp → Prop} (h0 : sT sh th) (hK : K (some (vI r)) (hp Φ hb M sh c)) (hκ : κ  = some r → G Φ mX6_rowNaming (gw_M Φ mX6_rowNaming K) none 0 0 27 [] [] (hp Φ hb M sh c)) : ∀ (n : Nat) (l2 : Int), f_X6_rowNaming_2 th p1 c κ n l2 = some r → G Φ mX6_rowNaming (gw_M Φ mX6_rowNaming K) none 0 0 2 [(0, .ref (M + th)), (1, vI p1), (2, vI l2)] [] (hp Φ hb M sh c) := by
  intro n
  induction n with
  | zero => intro l2 H; cases H
  | succ n ih =>
    intro l2 H
    have H : b_X6_rowNaming_2 th p1 c κ (f_X6_rowNaming_2 th p1 c κ n) l2 = some r := H
    unfold b_X6_rowNaming_2 at H
    refine gw_iload_n dX6_rowNaming_2 rfl rfl ?_
    refine gw_aload_n dX6_rowNaming_3 rfl rfl ?_
    refine gs_getI cl6 0 0 dX6_rowNaming_4 rfl kw_100 (by decide) (h0.1) rfl rfl ?_
    obtain ⟨g, H⟩ := gd_i H
    refine gw_icmp_geZ (tgt := 27) dX6_rowNaming_7 rfl (by decide) g.1 g.2 (fun q => ?_) (fun q => ?_)
    · have H := bq_t q H
      exact gw_L (hκ H) (lvA_n)
    · have H := bq_f q H
      refine gw_aload_n dX6_rowNaming_10 rfl rfl ?_
      refine gw_iload_n dX6_rowNaming_11 rfl rfl ?_
      obtain ⟨v1, e_v1, H⟩ := cv_i H
      refine gw_V1 okX6_namedBy dX6_rowNaming_12 kw_557 kw_558 kw_559 (hp_o (h0.1)) rfl ⟨by decide, by decide⟩ ⟨by decide, by decide⟩ (Nat.le_of_ble_eq_true rfl) (w_X6_namedBy (h0) e_v1 ?_)
      refine gw_iload_n dX6_rowNaming_15 rfl rfl ?_
      obtain ⟨g, H⟩ := gd_i H
      refine gw_icmp_neZ (tgt := 21) dX6_rowNaming_16 rfl (by decide) g.1 g.2 (fun q => ?_) (fun q => ?_)
      · have H := bq_f q H
        refine gw_iincZ dX6_rowNaming_21 rfl rfl (by decide) ?_
        refine gw_goto (tgt := 2) dX6_rowNaming_24 (by decide) ?_
        exact gw_L (ih _ H) ((lvA_c rfl (lvA_c rfl (lvA_c rfl lvA_n))))
      · have H := bq_t q H
        refine gw_iload_n dX6_rowNaming_19 rfl rfl ?_
        cases H
        exact gw_iret dX6_rowNaming_20 rfl (by decide) (by decide) hK
set_option maxRecDepth 100000 in
set_option maxHeartbeats 4000000 in
theorem w_X6_rowNaming {Φ : gwC} {hb : gwHp} {M : Nat} {sh : Nat → Option gSh} {th : Nat} {p1 : Int} {c : W0} {r : Int} {K : Option Value → gwHp → Prop} (h0 : sT sh th) (H : f_X6_rowNaming th p1 c = some r) (hK : K (some (vI r)) (hp Φ hb M sh c)) : gw_Con Φ mX6_rowNaming none [.ref (M + th), vI p1] (hp Φ hb M sh c) K := by
  unfold f_X6_rowNaming at H
  refine gw_start okX6_rowNaming (Nat.le_of_ble_eq_true rfl) ?_
  refine gw_iconstZ dX6_rowNaming_0 rfl ?_
  refine gw_istore_n dX6_rowNaming_1 rfl (by decide) ?_
  refine gw_L (l_X6_rowNaming_2 h0 hK (fun H => ?_) LF _ H) ((lvA_c rfl (lvA_c rfl (lvA_c rfl lvA_n))))
  refine gw_iconstZ dX6_rowNaming_27 rfl ?_
  cases H
  exact gw_iret dX6_rowNaming_28 rfl (by decide) (by decide) hK
set_option maxRecDepth 100000 in
set_option maxHeartbeats 4000000 in
theorem w_X6_given {Φ : gwC} {hb : gwHp} {M : Nat} {sh : Nat → Option gSh} {th : Nat} {p1 : Int} {c : W0} {r : Int} {K : Option Value → gwHp → Prop} (h0 : sT sh th) (H : f_X6_given th p1 c = some r) (hK : K (some (vL r)) (hp Φ hb M sh c)) : gw_Con Φ mX6_given none [.ref (M + th), vI p1] (hp Φ hb M sh c) K := by
  unfold f_X6_given at H
  refine gw_start okX6_given (Nat.le_of_ble_eq_true rfl) ?_
  refine gw_aload_n dX6_given_0 rfl rfl ?_
  refine gw_iload_n dX6_given_1 rfl rfl ?_
  obtain ⟨v1, e_v1, H⟩ := cv_i H
  refine gw_V1 okX6_rowNaming dX6_given_2 kw_553 kw_554 kw_555 (hp_o (h0.1)) rfl ⟨by decide, by decide⟩ ⟨by decide, by decide⟩ (Nat.le_of_ble_eq_true rfl) (w_X6_rowNaming (h0) e_v1 ?_)
  refine gw_istore_n dX6_given_5 rfl (by decide) ?_
  refine gw_iload_n dX6_given_6 rfl rfl ?_
  obtain ⟨g, H⟩ := gd_i H
  refine gw_if_geZ (tgt := 14) dX6_given_7 rfl (by decide) g (fun q => ?_) (fun q => ?_)
  · have H := bq_t q H
    refine gw_aload_n dX6_given_14 rfl rfl ?_
    refine gw_iload_n dX6_given_15 rfl rfl ?_
    obtain ⟨v2, e_v2, H⟩ := cv_i H
    refine gw_V1 okX6_side dX6_given_16 kw_574 kw_575 kw_576 (hp_o (h0.1)) rfl ⟨by decide, by decide⟩ ⟨by decide, by decide⟩ (Nat.le_of_ble_eq_true rfl) (w_X6_side (h0) e_v2 ?_)
    cases H
    exact gw_lret dX6_given_19 rfl (by decide) (by decide) hK
  · have H := bq_f q H
    refine gw_lconst0Z dX6_given_10 rfl ?_
    refine gw_goto (tgt := 19) dX6_given_11 (by decide) ?_
    cases H
    exact gw_lret dX6_given_19 rfl (by decide) (by decide) hK
set_option maxRecDepth 100000 in
set_option maxHeartbeats 4000000 in
theorem w_X6_obstacle {Φ : gwC} {hb : gwHp} {M : Nat} {sh : Nat → Option gSh} {th : Nat} {p1 : Int} {p2 : Int} {c : W0} {r : Int} {K : Option Value → gwHp → Prop} (h0 : sT sh th) (H : f_X6_obstacle th p1 p2 c = some r) (hK : K (some (vI r)) (hp Φ hb M sh c)) : gw_Con Φ mX6_obstacle none [.ref (M + th), vI p1, vI p2] (hp Φ hb M sh c) K := by
  unfold f_X6_obstacle at H
  refine gw_start okX6_obstacle (Nat.le_of_ble_eq_true rfl) ?_
  refine gw_aload_n dX6_obstacle_0 rfl rfl ?_
  refine gw_iload_n dX6_obstacle_1 rfl rfl ?_
  obtain ⟨v1, e_v1, H⟩ := cv_i H
  refine gw_V1 okX6_rowNaming dX6_obstacle_2 kw_553 kw_554 kw_555 (hp_o (h0.1)) rfl ⟨by decide, by decide⟩ ⟨by decide, by decide⟩ (Nat.le_of_ble_eq_true rfl) (w_X6_rowNaming (h0) e_v1 ?_)
  obtain ⟨g, H⟩ := gd_i H
  refine gw_if_ltZ (tgt := 10) dX6_obstacle_5 rfl (by decide) g (fun q => ?_) (fun q => ?_)
  · have H := bq_t q H
    refine gw_aload_n dX6_obstacle_10 rfl rfl ?_
    refine gw_iload_n dX6_obstacle_11 rfl rfl ?_
    obtain ⟨v2, e_v2, H⟩ := cv_i H
    refine gw_V1 okX6_reduced dX6_obstacle_12 kw_562 kw_563 kw_564 (hp_o (h0.1)) rfl ⟨by decide, by decide⟩ ⟨by decide, by decide⟩ (Nat.le_of_ble_eq_true rfl) (w_X6_reduced (h0) e_v2 ?_)
    refine gw_lconst0Z dX6_obstacle_15 rfl ?_
    obtain ⟨g, H⟩ := gd_i H
    refine gw_lc_gtZ (tgt := 22) dX6_obstacle_16 rfl dX6_obstacle_17 rfl (by decide) g (by decide) (fun q => ?_) (fun q => ?_)
    · have H := bq_t q H
      refine gw_aload_n dX6_obstacle_22 rfl rfl ?_
      refine gw_iload_n dX6_obstacle_23 rfl rfl ?_
      refine gw_iload_n dX6_obstacle_24 rfl rfl ?_
      obtain ⟨v3, e_v3, H⟩ := cv_i H
      refine gw_V2 okX6_entry dX6_obstacle_25 kw_566 kw_567 kw_568 (hp_o (h0.1)) rfl ⟨by decide, by decide⟩ ⟨by decide, by decide⟩ (Nat.le_of_ble_eq_true rfl) (w_X6_entry (h0) e_v3 ?_)
      refine gw_lconst0Z dX6_obstacle_28 rfl ?_
      obtain ⟨g, H⟩ := gd_i H
      refine gw_lc_gtZ (tgt := 35) dX6_obstacle_29 rfl dX6_obstacle_30 rfl (by decide) g (by decide) (fun q => ?_) (fun q => ?_)
      · have H := bq_t q H
        refine gw_aload_n dX6_obstacle_35 rfl rfl ?_
        refine gw_iload_n dX6_obstacle_36 rfl rfl ?_
        obtain ⟨v4, e_v4, H⟩ := cv_i H
        refine gw_V1 okX6_leastRow dX6_obstacle_37 kw_570 kw_571 kw_572 (hp_o (h0.1)) rfl ⟨by decide, by decide⟩ ⟨by decide, by decide⟩ (Nat.le_of_ble_eq_true rfl) (w_X6_leastRow (h0) e_v4 ?_)
        refine gw_istore_n dX6_obstacle_40 rfl (by decide) ?_
        refine gw_aload_n dX6_obstacle_41 rfl rfl ?_
        refine gw_iload_n dX6_obstacle_42 rfl rfl ?_
        obtain ⟨v5, e_v5, H⟩ := cv_i H
        refine gw_V1 okX6_side dX6_obstacle_43 kw_574 kw_575 kw_576 (hp_o (h0.1)) rfl ⟨by decide, by decide⟩ ⟨by decide, by decide⟩ (Nat.le_of_ble_eq_true rfl) (w_X6_side (h0) e_v5 ?_)
        refine gw_aload_n dX6_obstacle_46 rfl rfl ?_
        refine gw_iload_n dX6_obstacle_47 rfl rfl ?_
        refine gw_iload_n dX6_obstacle_48 rfl rfl ?_
        obtain ⟨v6, e_v6, H⟩ := cv_i H
        refine gw_V2 okX6_entry dX6_obstacle_49 kw_566 kw_567 kw_568 (hp_o (h0.1)) rfl ⟨by decide, by decide⟩ ⟨by decide, by decide⟩ (Nat.le_of_ble_eq_true rfl) (w_X6_entry (h0) e_v6 ?_)
        refine gw_lmulZ dX6_obstacle_52 rfl ?_
        refine gw_aload_n dX6_obstacle_53 rfl rfl ?_
        refine gw_iload_n dX6_obstacle_54 rfl rfl ?_
        obtain ⟨v7, e_v7, H⟩ := cv_i H
        refine gw_V1 okX6_side dX6_obstacle_55 kw_574 kw_575 kw_576 (hp_o (h0.1)) rfl ⟨by decide, by decide⟩ ⟨by decide, by decide⟩ (Nat.le_of_ble_eq_true rfl) (w_X6_side (h0) e_v7 ?_)
        refine gw_aload_n dX6_obstacle_58 rfl rfl ?_
        refine gw_iload_n dX6_obstacle_59 rfl rfl ?_
        refine gw_iload_n dX6_obstacle_60 rfl rfl ?_
        obtain ⟨v8, e_v8, H⟩ := cv_i H
        refine gw_V2 okX6_entry dX6_obstacle_61 kw_566 kw_567 kw_568 (hp_o (h0.1)) rfl ⟨by decide, by decide⟩ ⟨by decide, by decide⟩ (Nat.le_of_ble_eq_true rfl) (w_X6_entry (h0) e_v8 ?_)
        refine gw_lmulZ dX6_obstacle_64 rfl ?_
        obtain ⟨g, H⟩ := gd_i H
        refine gw_lc_geZ (tgt := 73) dX6_obstacle_65 rfl dX6_obstacle_66 rfl (by decide) g.1 g.2 (fun q => ?_) (fun q => ?_)
        · have H := bq_t q H
          refine gw_iconstZ dX6_obstacle_73 rfl ?_
          cases H
          exact gw_iret dX6_obstacle_74 rfl (by decide) (by decide) hK
        · have H := bq_f q H
          refine gw_iconstZ dX6_obstacle_69 rfl ?_
          refine gw_goto (tgt := 74) dX6_obstacle_70 (by decide) ?_
          cases H
          exact gw_iret dX6_obstacle_74 rfl (by decide) (by decide) hK
      · have H := bq_f q H
        refine gw_iconstZ dX6_obstacle_33 rfl ?_
        cases H
        exact gw_iret dX6_obstacle_34 rfl (by decide) (by decide) hK
    · have H := bq_f q H
      refine gw_iconstZ dX6_obstacle_20 rfl ?_
      cases H
      exact gw_iret dX6_obstacle_21 rfl (by decide) (by decide) hK
  · have H := bq_f q H
    refine gw_iconstZ dX6_obstacle_8 rfl ?_
    cases H
    exact gw_iret dX6_obstacle_9 rfl (by decide) (by decide) hK
set_option maxRecDepth 100000 in
set_option maxHeartbeats 4000000 in
theorem l_X8_dropOldest_2 {Φ : gwC} {hb : gwHp} {M : Nat} {sh : Nat → Option gSh} {th : Nat} {κ : W0 → Option (Int × W0)} {r : Int × W0} {K : Option Value → gwHp → Prop} (h0 : sD sh th) (hK : K none (hp Φ hb M sh r.2)) (hκ : ∀ (c : W0), κ c = some r → G Φ mX8_dropOldest (gw_M Φ mX8_dropOldest K) none 0 0 49 [(0, .ref (M + th))] [] (hp Φ hb M sh c)) : ∀ (n : Nat) (l1 : Int) (c : W0), f_X8_dropOldest_2 th κ n l1 c = some r → G Φ mX8_dropOldest (gw_M Φ mX8_dropOldest K) none 0 0 2 [(0, .ref (M + th)), (1, vI l1)] [] (hp Φ hb M sh c) := by
  intro n
  induction n with
  | zero => intro l1 c H; cases H
  | succ n ih =>
    intro l1 c H
    have H : b_X8_dropOldest_2 th κ (f_X8_dropOldest_2 th κ n) l1 c = some r := H
    unfold b_X8_dropOldest_2 at H
    refine gw_iload_n dX8_dropOldest_2 rfl rfl ?_
    refine gw_iconstZ dX8_dropOldest_3 rfl ?_
    refine gw_iaddZ dX8_dropOldest_4 rfl ?_
    refine gw_aload_n dX8_dropOldest_5 rfl rfl ?_
    refine gs_getR cl8 3 dX8_dropOldest_6 rfl kw_237 (by decide) (h0.1) rfl ?_
    refine gs_alenR dX8_dropOldest_9 rfl (h0.2.2.2.2.1) ?_
    obtain ⟨g, H⟩ := gd_i H
    refine gw_icmp_geZ (tgt := 49) dX8_dropOldest_10 rfl (by decide) g (by decide) (fun q => ?_) (fun q => ?_)
    · have H := bq_t q H
      exact gw_L (hκ _ H) ((lvA_c rfl lvA_n))
    · have H := bq_f q H
      refine gw_aload_n dX8_dropOldest_13 rfl rfl ?_
      refine gs_getR cl8 3 dX8_dropOldest_14 rfl kw_237 (by decide) (h0.1) rfl ?_
      refine gw_iload_n dX8_dropOldest_17 rfl rfl ?_
      refine gw_iconstZ dX8_dropOldest_18 rfl ?_
      refine gw_iaddZ dX8_dropOldest_19 rfl ?_
      obtain ⟨g, H⟩ := gd_i H
      refine gs_aaldZ dX8_dropOldest_20 rfl (h0.2.2.2.2.1) g (by decide) ?_
      obtain ⟨hz1, H⟩ := gd_i H
      have hz1 := stP_s h0 hz1
      refine gw_astore_n dX8_dropOldest_21 rfl (by decide) ?_
      refine gw_aload_n dX8_dropOldest_22 rfl rfl ?_
      refine gs_getR cl8 3 dX8_dropOldest_23 rfl kw_237 (by decide) (h0.1) rfl ?_
      refine gw_iload_n dX8_dropOldest_26 rfl rfl ?_
      refine gw_iconstZ dX8_dropOldest_27 rfl ?_
      refine gw_iaddZ dX8_dropOldest_28 rfl ?_
      refine gw_aload_n dX8_dropOldest_29 rfl rfl ?_
      refine gs_getR cl8 3 dX8_dropOldest_30 rfl kw_237 (by decide) (h0.1) rfl ?_
      refine gw_iload_n dX8_dropOldest_33 rfl rfl ?_
      obtain ⟨g, H⟩ := gd_i H
      refine gs_aaldZ dX8_dropOldest_34 rfl (h0.2.2.2.2.1) g (by decide) ?_
      obtain ⟨hz2, H⟩ := gd_i H
      have hz2 := stP_s h0 hz2
      obtain ⟨g, H⟩ := gd_i H
      obtain ⟨c3, e_c3, H⟩ := sto_i H
      refine gs_aastZE dX8_dropOldest_35 rfl (h0.2.2.2.2.1) (hz2.1) g (by decide) e_c3 ?_
      refine gw_aload_n dX8_dropOldest_36 rfl rfl ?_
      refine gs_getR cl8 3 dX8_dropOldest_37 rfl kw_237 (by decide) (h0.1) rfl ?_
      refine gw_iload_n dX8_dropOldest_40 rfl rfl ?_
      refine gw_aload_n dX8_dropOldest_41 rfl rfl ?_
      obtain ⟨g, H⟩ := gd_i H
      obtain ⟨c4, e_c4, H⟩ := sto_i H
      refine gs_aastZE dX8_dropOldest_42 rfl (h0.2.2.2.2.1) (hz1.1) g (by decide) e_c4 ?_
      refine gw_iincZ dX8_dropOldest_43 rfl rfl (by decide) ?_
      refine gw_goto (tgt := 2) dX8_dropOldest_46 (by decide) ?_
      exact gw_L (ih _ _ H) ((lvA_c rfl (lvA_c rfl lvA_n)))
set_option maxRecDepth 100000 in
set_option maxHeartbeats 4000000 in
theorem w_X8_dropOldest {Φ : gwC} {hb : gwHp} {M : Nat} {sh : Nat → Option gSh} {th : Nat} {c : W0} {r : Int × W0} {K : Option Value → gwHp → Prop} (h0 : sD sh th) (H : f_X8_dropOldest th c = some r) (hK : K none (hp Φ hb M sh r.2)) : gw_Con Φ mX8_dropOldest none [.ref (M + th)] (hp Φ hb M sh c) K := by
  unfold f_X8_dropOldest at H
  refine gw_start okX8_dropOldest (Nat.le_of_ble_eq_true rfl) ?_
  refine gw_iconstZ dX8_dropOldest_0 rfl ?_
  refine gw_istore_n dX8_dropOldest_1 rfl (by decide) ?_
  refine gw_L (l_X8_dropOldest_2 h0 hK (fun c1 H => ?_) LF _ _ H) ((lvA_c rfl (lvA_c rfl lvA_n)))
  refine gw_aload_n dX8_dropOldest_49 rfl rfl ?_
  refine gw_dup dX8_dropOldest_50 rfl rfl ?_
  refine gs_getI cl8 10 10 dX8_dropOldest_51 rfl kw_243 (by decide) (h0.1) rfl rfl ?_
  refine gw_iconstZ dX8_dropOldest_54 rfl ?_
  refine gw_isubZ dX8_dropOldest_55 rfl ?_
  obtain ⟨c2, e_c2, H⟩ := sto_i H
  refine gs_putIE cl8 10 10 dX8_dropOldest_56 rfl kw_243 (by decide) rfl rfl (h0.1) rfl rfl e_c2 ?_
  cases H
  exact gw_vret dX8_dropOldest_59 rfl (by decide) (by decide) hK
set_option maxRecDepth 100000 in
set_option maxHeartbeats 4000000 in
theorem w_X8_saveState {Φ : gwC} {hb : gwHp} {M : Nat} {sh : Nat → Option gSh} {th : Nat} {c : W0} {r : Int × W0} {K : Option Value → gwHp → Prop} (h0 : sD sh th) (H : f_X8_saveState th c = some r) (hK : K none (hp Φ hb M sh r.2)) : gw_Con Φ mX8_saveState none [.ref (M + th)] (hp Φ hb M sh c) K := by
  unfold f_X8_saveState at H
  refine gw_start okX8_saveState (Nat.le_of_ble_eq_true rfl) ?_
  refine gw_aload_n dX8_saveState_0 rfl rfl ?_
  refine gs_getI cl8 10 10 dX8_saveState_1 rfl kw_243 (by decide) (h0.1) rfl rfl ?_
  refine gw_aload_n dX8_saveState_4 rfl rfl ?_
  refine gs_getR cl8 3 dX8_saveState_5 rfl kw_237 (by decide) (h0.1) rfl ?_
  refine gs_alenR dX8_saveState_8 rfl (h0.2.2.2.2.1) ?_
  obtain ⟨g, H⟩ := gd_i H
  obtain ⟨k1, e_k1, H⟩ := jn_i H
  have hJ_k1 : ∀ (c2 : W0), k1 c2 = some r → G Φ mX8_saveState (gw_M Φ mX8_saveState K) none 0 0 16 [(0, .ref (M + th))] [] (hp Φ hb M sh c2) := by
    intro c2 H
    subst e_k1
    refine gw_aload_n dX8_saveState_16 rfl rfl ?_
    refine gs_getI cl8 10 10 dX8_saveState_17 rfl kw_243 (by decide) (h0.1) rfl rfl ?_
    obtain ⟨g, H⟩ := gd_i H
    refine gw_if_ltZ (tgt := 67) dX8_saveState_20 rfl (by decide) g (fun q => ?_) (fun q => ?_)
    · have H := bq_t q H
      cases H
      exact gw_vret dX8_saveState_67 rfl (by decide) (by decide) hK
    · have H := bq_f q H
      refine gw_aload_n dX8_saveState_23 rfl rfl ?_
      refine gs_getI cl8 10 10 dX8_saveState_24 rfl kw_243 (by decide) (h0.1) rfl rfl ?_
      refine gw_aload_n dX8_saveState_27 rfl rfl ?_
      refine gs_getR cl8 3 dX8_saveState_28 rfl kw_237 (by decide) (h0.1) rfl ?_
      refine gs_alenR dX8_saveState_31 rfl (h0.2.2.2.2.1) ?_
      obtain ⟨g, H⟩ := gd_i H
      refine gw_icmp_geZ (tgt := 67) dX8_saveState_32 rfl (by decide) g (by decide) (fun q => ?_) (fun q => ?_)
      · have H := bq_t q H
        cases H
        exact gw_vret dX8_saveState_67 rfl (by decide) (by decide) hK
      · have H := bq_f q H
        refine gw_aload_n dX8_saveState_35 rfl rfl ?_
        refine gs_getR cl8 3 dX8_saveState_36 rfl kw_237 (by decide) (h0.1) rfl ?_
        refine gw_aload_n dX8_saveState_39 rfl rfl ?_
        refine gs_getI cl8 10 10 dX8_saveState_40 rfl kw_243 (by decide) (h0.1) rfl rfl ?_
        obtain ⟨g, H⟩ := gd_i H
        refine gs_aaldZ dX8_saveState_43 rfl (h0.2.2.2.2.1) g (by decide) ?_
        obtain ⟨hz3, H⟩ := gd_i H
        have hz3 := stP_s h0 hz3
        refine gw_astore_n dX8_saveState_44 rfl (by decide) ?_
        refine gw_aload_n dX8_saveState_45 rfl rfl ?_
        refine gw_ifnull dX8_saveState_46 rfl ?_
        refine gw_aload_n dX8_saveState_49 rfl rfl ?_
        refine gw_aload_n dX8_saveState_50 rfl rfl ?_
        refine gs_getR cl8 0 dX8_saveState_51 rfl kw_234 (by decide) (h0.1) rfl ?_
        obtain ⟨v5, c4, e_c4, H⟩ := cl_i H
        refine gw_V1 okX4_copy dX8_saveState_54 kw_339 kw_340 kw_341 (hp_o (hz3.1)) rfl ⟨by decide, by decide⟩ ⟨by decide, by decide⟩ (Nat.le_of_ble_eq_true rfl) (w_X4_copy (hz3) (h0.2.1) e_c4 ?_)
        refine gw_aload_n dX8_saveState_57 rfl rfl ?_
        refine gw_dup dX8_saveState_58 rfl rfl ?_
        refine gs_getI cl8 10 10 dX8_saveState_59 rfl kw_243 (by decide) (h0.1) rfl rfl ?_
        refine gw_iconstZ dX8_saveState_62 rfl ?_
        refine gw_iaddZ dX8_saveState_63 rfl ?_
        obtain ⟨c6, e_c6, H⟩ := sto_i H
        refine gs_putIE cl8 10 10 dX8_saveState_64 rfl kw_243 (by decide) rfl rfl (h0.1) rfl rfl e_c6 ?_
        cases H
        exact gw_vret dX8_saveState_67 rfl (by decide) (by decide) hK
  refine gw_icmp_ltZ (tgt := 16) dX8_saveState_9 rfl (by decide) g (by decide) (fun q => ?_) (fun q => ?_)
  · have H := bq_t q H
    exact gw_L (hJ_k1 _ H) ((lvA_c rfl lvA_n))
  · have H := bq_f q H
    refine gw_aload_n dX8_saveState_12 rfl rfl ?_
    obtain ⟨v8, c7, e_c7, H⟩ := cl_i H
    refine gw_V0 okX8_dropOldest dX8_saveState_13 kw_411 kw_413 kw_2 (hp_o (h0.1)) rfl ⟨by decide, by decide⟩ ⟨by decide, by decide⟩ (Nat.le_of_ble_eq_true rfl) (w_X8_dropOldest (h0) e_c7 ?_)
    exact gw_L (hJ_k1 _ H) ((lvA_c rfl lvA_n))
set_option maxRecDepth 100000 in
set_option maxHeartbeats 4000000 in
theorem w_X8_setVariables {Φ : gwC} {hb : gwHp} {M : Nat} {sh : Nat → Option gSh} {th : Nat} {p1 : Int} {c : W0} {r : Int × Int × W0} {K : Option Value → gwHp → Prop} {KX : String → gwHp → Prop} (h0 : sD sh th) (H : f_X8_setVariables th p1 c = some r) (hK : r.1 = 0 → K (some (vI r.2.1)) (hp Φ hb M sh r.2.2)) (hKX : ¬ r.1 = 0 → KX (xnm r.1) (hp Φ hb M sh r.2.2)) : gw_ConX Φ mX8_setVariables [.ref (M + th), vI p1] (hp Φ hb M sh c) K KX := by
  unfold f_X8_setVariables at H
  refine gw_startX okX8_setVariables (Nat.le_of_ble_eq_true rfl) ?_
  refine gw_iload_n dX8_setVariables_0 rfl rfl ?_
  refine gw_iconstZ dX8_setVariables_1 rfl ?_
  obtain ⟨g, H⟩ := gd_i H
  obtain ⟨k1, e_k1, H⟩ := jn_i H
  have hJ_k1 : ∀ (u2 : Unit), k1 u2 = some r → G Φ mX8_setVariables (gw_MX Φ mX8_setVariables K KX) none 0 0 10 [] [] (hp Φ hb M sh c) := by
    intro u2 H
    subst e_k1
    cases H
    exact gw_throw (text := "a problem has 1 to 4 variables") (by decide +kernel) gw_nms_ok kw_391 kw_30 thw_IA (by decide +kernel) dX8_setVariables_10 dX8_setVariables_13 dX8_setVariables_14 dX8_setVariables_16 dX8_setVariables_19 rfl (by decide) (by decide) (by decide) (by decide) (hKX (show ¬ (1 : Int) = 0 by decide))
  refine gw_icmp_ltZ (tgt := 10) dX8_setVariables_2 rfl (by decide) g (by decide) (fun q => ?_) (fun q => ?_)
  · have H := bq_t q H
    exact gw_L (hJ_k1 _ H) (lvA_n)
  · have H := bq_f q H
    refine gw_iload_n dX8_setVariables_5 rfl rfl ?_
    refine gw_iconstZ dX8_setVariables_6 rfl ?_
    obtain ⟨g, H⟩ := gd_i H
    refine gw_icmp_leZ (tgt := 20) dX8_setVariables_7 rfl (by decide) g (by decide) (fun q => ?_) (fun q => ?_)
    · have H := bq_t q H
      refine gw_aload_n dX8_setVariables_20 rfl rfl ?_
      obtain ⟨v4, c3, e_c3, H⟩ := cl_i H
      refine gw_V0 okX8_saveState dX8_setVariables_21 kw_407 kw_409 kw_1 (hp_o (h0.1)) rfl ⟨by decide, by decide⟩ ⟨by decide, by decide⟩ (Nat.le_of_ble_eq_true rfl) (w_X8_saveState (h0) e_c3 ?_)
      refine gw_aload_n dX8_setVariables_24 rfl rfl ?_
      refine gs_getR cl8 0 dX8_setVariables_25 rfl kw_234 (by decide) (h0.1) rfl ?_
      refine gs_getRN cl4 0 dX8_setVariables_28 rfl kw_120 (by decide) (h0.2.1.1) rfl ?_
      refine gs_getIN cl2 0 0 dX8_setVariables_31 rfl kw_75 (by decide) (h0.2.1.2.1.1) rfl rfl ?_
      refine gw_istore_n dX8_setVariables_34 rfl (by decide) ?_
      refine gw_aload_n dX8_setVariables_35 rfl rfl ?_
      refine gs_getR cl8 0 dX8_setVariables_36 rfl kw_234 (by decide) (h0.1) rfl ?_
      refine gs_getRN cl4 0 dX8_setVariables_39 rfl kw_120 (by decide) (h0.2.1.1) rfl ?_
      refine gw_iload_n dX8_setVariables_42 rfl rfl ?_
      obtain ⟨v6, c5, e_c5, H⟩ := cl_i H
      refine gw_V1 okX2_resize dX8_setVariables_43 kw_415 kw_416 kw_417 (hp_o (h0.2.1.2.1.1)) rfl ⟨by decide, by decide⟩ ⟨by decide, by decide⟩ (Nat.le_of_ble_eq_true rfl) (w_X2_resize (h0.2.1.2.1) e_c5 ?_)
      refine gw_aload_n dX8_setVariables_46 rfl rfl ?_
      refine gs_getR cl8 0 dX8_setVariables_47 rfl kw_234 (by decide) (h0.1) rfl ?_
      obtain ⟨v8, c7, e_c7, H⟩ := cl_i H
      refine gw_V0 okX4_start dX8_setVariables_50 kw_423 kw_424 kw_425 (hp_o (h0.2.1.1)) rfl ⟨by decide, by decide⟩ ⟨by decide, by decide⟩ (Nat.le_of_ble_eq_true rfl) (w_X4_start (h0.2.1) e_c7 ?_)
      refine gw_iload_n dX8_setVariables_53 rfl rfl ?_
      cases H
      exact gw_iretX dX8_setVariables_54 rfl (by decide) (by decide) (hK rfl)
    · have H := bq_f q H
      exact gw_L (hJ_k1 _ H) (lvA_n)
set_option maxRecDepth 100000 in
set_option maxHeartbeats 4000000 in
theorem w_X8_requireVariable {Φ : gwC} {hb : gwHp} {M : Nat} {sh : Nat → Option gSh} {th : Nat} {p1 : Int} {c : W0} {r : Int × Int × W0} {K : Option Value → gwHp → Prop} {KX : String → gwHp → Prop} (h0 : sD sh th) (H : f_X8_requireVariable th p1 c = some r) (hK : r.1 = 0 → K none (hp Φ hb M sh r.2.2)) (hKX : ¬ r.1 = 0 → KX (xnm r.1) (hp Φ hb M sh r.2.2)) : gw_ConX Φ mX8_requireVariable [.ref (M + th), vI p1] (hp Φ hb M sh c) K KX := by
  unfold f_X8_requireVariable at H
  refine gw_startX okX8_requireVariable (Nat.le_of_ble_eq_true rfl) ?_
  refine gw_iload_n dX8_requireVariable_0 rfl rfl ?_
  obtain ⟨g, H⟩ := gd_i H
  obtain ⟨k1, e_k1, H⟩ := jn_i H
  have hJ_k1 : ∀ (u2 : Unit), k1 u2 = some r → G Φ mX8_requireVariable (gw_MX Φ mX8_requireVariable K KX) none 0 0 18 [] [] (hp Φ hb M sh c) := by
    intro u2 H
    subst e_k1
    cases H
    exact gw_throwW (text := "there is no such variable") (by decide +kernel) gw_nms_ok kw_464 kw_32 thw_IO (by decide +kernel) dX8_requireVariable_18 dX8_requireVariable_21 dX8_requireVariable_22 dX8_requireVariable_25 dX8_requireVariable_28 rfl (by decide) (by decide) (by decide) (by decide) (hKX (show ¬ (3 : Int) = 0 by decide))
  refine gw_if_ltZ (tgt := 18) dX8_requireVariable_1 rfl (by decide) g (fun q => ?_) (fun q => ?_)
  · have H := bq_t q H
    exact gw_L (hJ_k1 _ H) (lvA_n)
  · have H := bq_f q H
    refine gw_iload_n dX8_requireVariable_4 rfl rfl ?_
    refine gw_aload_n dX8_requireVariable_5 rfl rfl ?_
    refine gs_getR cl8 0 dX8_requireVariable_6 rfl kw_234 (by decide) (h0.1) rfl ?_
    refine gs_getRN cl4 0 dX8_requireVariable_9 rfl kw_120 (by decide) (h0.2.1.1) rfl ?_
    refine gs_getIN cl2 0 0 dX8_requireVariable_12 rfl kw_75 (by decide) (h0.2.1.2.1.1) rfl rfl ?_
    obtain ⟨g, H⟩ := gd_i H
    refine gw_icmp_ltZ (tgt := 29) dX8_requireVariable_15 rfl (by decide) g.1 g.2 (fun q => ?_) (fun q => ?_)
    · have H := bq_t q H
      cases H
      exact gw_vretX dX8_requireVariable_29 rfl (by decide) (by decide) (hK rfl)
    · have H := bq_f q H
      exact gw_L (hJ_k1 _ H) (lvA_n)
set_option maxRecDepth 100000 in
set_option maxHeartbeats 4000000 in
theorem w_X8_requireFactor {Φ : gwC} {hb : gwHp} {M : Nat} {sh : Nat → Option gSh} {p1 : Int} {c : W0} {r : Int × Int × W0} {K : Option Value → gwHp → Prop} {KX : String → gwHp → Prop}  (H : f_X8_requireFactor p1 c = some r) (hK : r.1 = 0 → K none (hp Φ hb M sh r.2.2)) (hKX : ¬ r.1 = 0 → KX (xnm r.1) (hp Φ hb M sh r.2.2)) : gw_ConX Φ mX8_requireFactor [vI p1] (hp Φ hb M sh c) K KX := by
  unfold f_X8_requireFactor at H
  refine gw_startX okX8_requireFactor (Nat.le_of_ble_eq_true rfl) ?_
  refine gw_iload_n dX8_requireFactor_0 rfl rfl ?_
  refine gw_bipushZ dX8_requireFactor_1 rfl (by decide) ?_
  obtain ⟨g, H⟩ := gd_i H
  obtain ⟨k1, e_k1, H⟩ := jn_i H
  have hJ_k1 : ∀ (u2 : Unit), k1 u2 = some r → G Φ mX8_requireFactor (gw_MX Φ mX8_requireFactor K KX) none 0 0 12 [] [] (hp Φ hb M sh c) := by
    intro u2 H
    subst e_k1
    cases H
    exact gw_throwW (text := "a profit or a coefficient is -9 to 9") (by decide +kernel) gw_nms_ok kw_391 kw_30 thw_IA (by decide +kernel) dX8_requireFactor_12 dX8_requireFactor_15 dX8_requireFactor_16 dX8_requireFactor_19 dX8_requireFactor_22 rfl (by decide) (by decide) (by decide) (by decide) (hKX (show ¬ (1 : Int) = 0 by decide))
  refine gw_icmp_ltZ (tgt := 12) dX8_requireFactor_3 rfl (by decide) g (by decide) (fun q => ?_) (fun q => ?_)
  · have H := bq_t q H
    exact gw_L (hJ_k1 _ H) (lvA_n)
  · have H := bq_f q H
    refine gw_iload_n dX8_requireFactor_6 rfl rfl ?_
    refine gw_bipushZ dX8_requireFactor_7 rfl (by decide) ?_
    obtain ⟨g, H⟩ := gd_i H
    refine gw_icmp_leZ (tgt := 23) dX8_requireFactor_9 rfl (by decide) g (by decide) (fun q => ?_) (fun q => ?_)
    · have H := bq_t q H
      cases H
      exact gw_vretX dX8_requireFactor_23 rfl (by decide) (by decide) (hK rfl)
    · have H := bq_f q H
      exact gw_L (hJ_k1 _ H) (lvA_n)
set_option maxRecDepth 100000 in
set_option maxHeartbeats 4000000 in
theorem w_X8_setProfit {Φ : gwC} {hb : gwHp} {M : Nat} {sh : Nat → Option gSh} {th : Nat} {p1 : Int} {p2 : Int} {c : W0} {r : Int × Int × W0} {K : Option Value → gwHp → Prop} {KX : String → gwHp → Prop} (h0 : sD sh th) (H : f_X8_setProfit th p1 p2 c = some r) (hK : r.1 = 0 → K (some (vI r.2.1)) (hp Φ hb M sh r.2.2)) (hKX : ¬ r.1 = 0 → KX (xnm r.1) (hp Φ hb M sh r.2.2)) : gw_ConX Φ mX8_setProfit [.ref (M + th), vI p1, vI p2] (hp Φ hb M sh c) K KX := by
  unfold f_X8_setProfit at H
  refine gw_startX okX8_setProfit (Nat.le_of_ble_eq_true rfl) ?_
  refine gw_aload_n dX8_setProfit_0 rfl rfl ?_
  refine gw_iload_n dX8_setProfit_1 rfl rfl ?_
  obtain ⟨e9, v2, c1, e_c1, H⟩ := cx_i H
  refine gw_VX1 okX8_requireVariable dX8_setProfit_2 kw_460 kw_462 kw_3 (hp_o (h0.1)) rfl ⟨by decide, by decide⟩ ⟨by decide, by decide⟩ (Nat.le_of_ble_eq_true rfl) (w_X8_requireVariable (h0) e_c1 (fun z => ?_) (fun z => ?_))
  · rcases H with ⟨-, H⟩ | ⟨z2, H⟩
    rotate_left
    · exact absurd z z2
    refine gw_iload_n dX8_setProfit_5 rfl rfl ?_
    obtain ⟨e9, v4, c3, e_c3, H⟩ := cx_i H
    refine gw_SX1 okX8_requireFactor dX8_setProfit_6 kw_480 kw_481 ⟨by decide, by decide⟩ ⟨by decide, by decide⟩ (Nat.le_of_ble_eq_true rfl) (w_X8_requireFactor  e_c3 (fun z => ?_) (fun z => ?_))
    · rcases H with ⟨-, H⟩ | ⟨z2, H⟩
      rotate_left
      · exact absurd z z2
      refine gw_aload_n dX8_setProfit_9 rfl rfl ?_
      obtain ⟨v6, c5, e_c5, H⟩ := cl_i H
      refine gw_V0 okX8_saveState dX8_setProfit_10 kw_407 kw_409 kw_1 (hp_o (h0.1)) rfl ⟨by decide, by decide⟩ ⟨by decide, by decide⟩ (Nat.le_of_ble_eq_true rfl) (w_X8_saveState (h0) e_c5 ?_)
      refine gw_aload_n dX8_setProfit_13 rfl rfl ?_
      refine gs_getR cl8 0 dX8_setProfit_14 rfl kw_234 (by decide) (h0.1) rfl ?_
      refine gs_getRN cl4 0 dX8_setProfit_17 rfl kw_120 (by decide) (h0.2.1.1) rfl ?_
      refine gw_iload_n dX8_setProfit_20 rfl rfl ?_
      obtain ⟨v7, e_v7, H⟩ := cv_i H
      refine gw_V1 okX2_profit dX8_setProfit_21 kw_484 kw_453 kw_454 (hp_o (h0.2.1.2.1.1)) rfl ⟨by decide, by decide⟩ ⟨by decide, by decide⟩ (Nat.le_of_ble_eq_true rfl) (w_X2_profit (h0.2.1.2.1) e_v7 ?_)
      refine gw_istore_n dX8_setProfit_24 rfl (by decide) ?_
      refine gw_aload_n dX8_setProfit_25 rfl rfl ?_
      refine gs_getR cl8 0 dX8_setProfit_26 rfl kw_234 (by decide) (h0.1) rfl ?_
      refine gs_getRN cl4 0 dX8_setProfit_29 rfl kw_120 (by decide) (h0.2.1.1) rfl ?_
      refine gw_iload_n dX8_setProfit_32 rfl rfl ?_
      refine gw_iload_n dX8_setProfit_33 rfl rfl ?_
      obtain ⟨v9, c8, e_c8, H⟩ := cl_i H
      refine gw_V2 okX2_putProfit dX8_setProfit_34 kw_485 kw_486 kw_487 (hp_o (h0.2.1.2.1.1)) rfl ⟨by decide, by decide⟩ ⟨by decide, by decide⟩ (Nat.le_of_ble_eq_true rfl) (w_X2_putProfit (h0.2.1.2.1) e_c8 ?_)
      refine gw_aload_n dX8_setProfit_37 rfl rfl ?_
      refine gs_getR cl8 0 dX8_setProfit_38 rfl kw_234 (by decide) (h0.1) rfl ?_
      obtain ⟨v11, c10, e_c10, H⟩ := cl_i H
      refine gw_V0 okX4_start dX8_setProfit_41 kw_423 kw_424 kw_425 (hp_o (h0.2.1.1)) rfl ⟨by decide, by decide⟩ ⟨by decide, by decide⟩ (Nat.le_of_ble_eq_true rfl) (w_X4_start (h0.2.1) e_c10 ?_)
      refine gw_iload_n dX8_setProfit_44 rfl rfl ?_
      cases H
      exact gw_iretX dX8_setProfit_45 rfl (by decide) (by decide) (hK rfl)
    · exact gw_out rfl (by decide) (by decide) (by rcases H with ⟨z2, H⟩ | ⟨z2, rfl⟩; (· exact absurd z2 z); exact hKX z)
  · exact gw_out rfl (by decide) (by decide) (by rcases H with ⟨z2, H⟩ | ⟨z2, rfl⟩; (· exact absurd z2 z); exact hKX z)
set_option maxRecDepth 100000 in
set_option maxHeartbeats 4000000 in
theorem w_X8_requireBound {Φ : gwC} {hb : gwHp} {M : Nat} {sh : Nat → Option gSh} {p1 : Int} {c : W0} {r : Int × Int × W0} {K : Option Value → gwHp → Prop} {KX : String → gwHp → Prop}  (H : f_X8_requireBound p1 c = some r) (hK : r.1 = 0 → K none (hp Φ hb M sh r.2.2)) (hKX : ¬ r.1 = 0 → KX (xnm r.1) (hp Φ hb M sh r.2.2)) : gw_ConX Φ mX8_requireBound [vI p1] (hp Φ hb M sh c) K KX := by
  unfold f_X8_requireBound at H
  refine gw_startX okX8_requireBound (Nat.le_of_ble_eq_true rfl) ?_
  refine gw_iload_n dX8_requireBound_0 rfl rfl ?_
  obtain ⟨g, H⟩ := gd_i H
  obtain ⟨k1, e_k1, H⟩ := jn_i H
  have hJ_k1 : ∀ (u2 : Unit), k1 u2 = some r → G Φ mX8_requireBound (gw_MX Φ mX8_requireBound K KX) none 0 0 10 [] [] (hp Φ hb M sh c) := by
    intro u2 H
    subst e_k1
    cases H
    exact gw_throwW (text := "a bound is 0 to 99") (by decide +kernel) gw_nms_ok kw_391 kw_30 thw_IA (by decide +kernel) dX8_requireBound_10 dX8_requireBound_13 dX8_requireBound_14 dX8_requireBound_17 dX8_requireBound_20 rfl (by decide) (by decide) (by decide) (by decide) (hKX (show ¬ (1 : Int) = 0 by decide))
  refine gw_if_ltZ (tgt := 10) dX8_requireBound_1 rfl (by decide) g (fun q => ?_) (fun q => ?_)
  · have H := bq_t q H
    exact gw_L (hJ_k1 _ H) (lvA_n)
  · have H := bq_f q H
    refine gw_iload_n dX8_requireBound_4 rfl rfl ?_
    refine gw_bipushZ dX8_requireBound_5 rfl (by decide) ?_
    obtain ⟨g, H⟩ := gd_i H
    refine gw_icmp_leZ (tgt := 21) dX8_requireBound_7 rfl (by decide) g (by decide) (fun q => ?_) (fun q => ?_)
    · have H := bq_t q H
      cases H
      exact gw_vretX dX8_requireBound_21 rfl (by decide) (by decide) (hK rfl)
    · have H := bq_f q H
      exact gw_L (hJ_k1 _ H) (lvA_n)
end FW
