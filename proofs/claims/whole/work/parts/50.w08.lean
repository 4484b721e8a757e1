section FW
set_option maxRecDepth 100000 in
set_option maxHeartbeats 4000000 in
theorem l_X9_readProblem_2 {Φ : gwC} {hb : gwHp} {M : Nat} {sh : Nat → Option gSh} {th : Nat} {κ : W0 → Option (Int × W0)} {r : Int × W0} {K : Option Value → gwHp → Prop} (h0 : sM sh th) (hK : K none (hp Φ hb M sh r.2)) (hκ : ∀ (c : W0), κ c = some r → G Φ mX9_readProblem (gw_M Φ mX9_readProblem K) none 0 0 21 [(0, .ref (M + th))] [] (hp Φ hb M sh c)) : ∀ (n : Nat) (l1 : Int) (c : W0), f_X9_readProblem_2 th κ n l1 c = some r → G Φ mX9_readProblem (gw_M Φ mX9_readProblem K) none 0 0 2 [(0, .ref (M + th)), (1, vI l1)] [] (hp Φ hb M sh c) := by
  intro n
  induction n with
  | zero => intro l1 c H; cases H
  | succ n ih =>
    intro l1 c H
    have H : b_X9_readProblem_2 th κ (f_X9_readProblem_2 th κ n) l1 c = some r := H
    unfold b_X9_readProblem_2 at H
    refine gw_iload_n dX9_readProblem_2 rfl rfl ?_
    refine gw_bipushZ dX9_readProblem_3 rfl (by decide) ?_
    obtain ⟨g, H⟩ := gd_i H
    refine gw_icmp_geZ (tgt := 21) dX9_readProblem_5 rfl (by decide) g (by decide) (fun q => ?_) (fun q => ?_)
    · have H := bq_t q H
      exact gw_L (hκ _ H) ((lvA_c rfl lvA_n))
    · have H := bq_f q H
      refine gw_aload_n dX9_readProblem_8 rfl rfl ?_
      refine gs_getR cl9 20 dX9_readProblem_9 rfl kw_1339 (by decide) (h0.1) rfl ?_
      refine gw_iload_n dX9_readProblem_12 rfl rfl ?_
      refine gw_iconstZ dX9_readProblem_13 rfl ?_
      obtain ⟨g, H⟩ := gd_i H
      obtain ⟨c1, e_c1, H⟩ := sto_i H
      refine gs_iastZE dX9_readProblem_14 rfl (h0.2.2.2.2.2.2.2.2.2.2.2.2.2.1) g (by decide) e_c1 ?_
      refine gw_iincZ dX9_readProblem_15 rfl rfl (by decide) ?_
      refine gw_goto (tgt := 2) dX9_readProblem_18 (by decide) ?_
      exact gw_L (ih _ _ H) ((lvA_c rfl (lvA_c rfl lvA_n)))
set_option maxRecDepth 100000 in
set_option maxHeartbeats 4000000 in
theorem l_X9_readProblem_77 {Φ : gwC} {hb : gwHp} {M : Nat} {sh : Nat → Option gSh} {th : Nat} {κ : W0 → Option (Int × W0)} {r : Int × W0} {K : Option Value → gwHp → Prop} (h0 : sM sh th) (hK : K none (hp Φ hb M sh r.2)) (hκ : ∀ (c : W0), κ c = some r → G Φ mX9_readProblem (gw_M Φ mX9_readProblem K) none 0 0 178 [(0, .ref (M + th))] [] (hp Φ hb M sh c)) : ∀ (n : Nat) (c : W0), f_X9_readProblem_77 th κ n c = some r → G Φ mX9_readProblem (gw_M Φ mX9_readProblem K) none 0 0 77 [(0, .ref (M + th))] [] (hp Φ hb M sh c) := by
  intro n
  induction n with
  | zero => intro c H; cases H
  | succ n ih =>
    intro c H
    have H : b_X9_readProblem_77 th κ (f_X9_readProblem_77 th κ n) c = some r := H
    unfold b_X9_readProblem_77 at H
    refine gw_aload_n dX9_readProblem_77 rfl rfl ?_
    refine gs_getI cl9 19 19 dX9_readProblem_78 rfl kw_1338 (by decide) (h0.1) rfl rfl ?_
    obtain ⟨g, H⟩ := gd_i H
    refine gw_if_neZ (tgt := 178) dX9_readProblem_81 rfl (by decide) g (fun q => ?_) (fun q => ?_)
    · have H := bq_f q H
      exact gw_L (hκ _ H) ((lvA_c rfl lvA_n))
    · have H := bq_t q H
      refine gw_aload_n dX9_readProblem_84 rfl rfl ?_
      refine gs_getI cl9 18 18 dX9_readProblem_85 rfl kw_1337 (by decide) (h0.1) rfl rfl ?_
      refine gw_aload_n dX9_readProblem_88 rfl rfl ?_
      refine gs_getI cl9 8 8 dX9_readProblem_89 rfl kw_1327 (by decide) (h0.1) rfl rfl ?_
      obtain ⟨g, H⟩ := gd_i H
      refine gw_icmp_geZ (tgt := 178) dX9_readProblem_92 rfl (by decide) g.1 g.2 (fun q => ?_) (fun q => ?_)
      · have H := bq_t q H
        exact gw_L (hκ _ H) ((lvA_c rfl lvA_n))
      · have H := bq_f q H
        refine gw_aload_n dX9_readProblem_95 rfl rfl ?_
        refine gs_getR cl9 20 dX9_readProblem_96 rfl kw_1339 (by decide) (h0.1) rfl ?_
        refine gw_iconstZ dX9_readProblem_99 rfl ?_
        refine gs_ialdZ dX9_readProblem_100 rfl (h0.2.2.2.2.2.2.2.2.2.2.2.2.2.1) (by decide) (by decide) ?_
        refine gw_iconstZ dX9_readProblem_101 rfl ?_
        obtain ⟨g, H⟩ := gd_i H
        refine gw_icmp_geZ (tgt := 178) dX9_readProblem_102 rfl (by decide) g (by decide) (fun q => ?_) (fun q => ?_)
        · have H := bq_t q H
          exact gw_L (hκ _ H) ((lvA_c rfl lvA_n))
        · have H := bq_f q H
          refine gw_aload_n dX9_readProblem_105 rfl rfl ?_
          refine gw_bipushZ dX9_readProblem_106 rfl (by decide) ?_
          refine gw_bipushZ dX9_readProblem_108 rfl (by decide) ?_
          obtain ⟨v1, c2, e_c2, H⟩ := cl_i H
          refine gw_V2 okX9_takes dX9_readProblem_110 kw_1615 kw_1617 kw_68 (hp_o (h0.1)) rfl ⟨by decide, by decide⟩ ⟨by decide, by decide⟩ (Nat.le_of_ble_eq_true rfl) (w_X9_takes (h0) e_c2 ?_)
          refine gw_istore_n dX9_readProblem_113 rfl (by decide) ?_
          refine gw_aload_n dX9_readProblem_114 rfl rfl ?_
          refine gw_bipushZ dX9_readProblem_115 rfl (by decide) ?_
          refine gw_bipushZ dX9_readProblem_117 rfl (by decide) ?_
          obtain ⟨v3, c4, e_c4, H⟩ := cl_i H
          refine gw_V2 okX9_takes dX9_readProblem_119 kw_1615 kw_1617 kw_68 (hp_o (h0.1)) rfl ⟨by decide, by decide⟩ ⟨by decide, by decide⟩ (Nat.le_of_ble_eq_true rfl) (w_X9_takes (h0) e_c4 ?_)
          refine gw_istore_n dX9_readProblem_122 rfl (by decide) ?_
          refine gw_aload_n dX9_readProblem_123 rfl rfl ?_
          refine gw_bipushZ dX9_readProblem_124 rfl (by decide) ?_
          refine gw_iconstZ dX9_readProblem_126 rfl ?_
          refine gw_aload_n dX9_readProblem_127 rfl rfl ?_
          refine gs_getR cl9 20 dX9_readProblem_128 rfl kw_1339 (by decide) (h0.1) rfl ?_
          refine gw_iconstZ dX9_readProblem_131 rfl ?_
          refine gs_ialdZ dX9_readProblem_132 rfl (h0.2.2.2.2.2.2.2.2.2.2.2.2.2.1) (by decide) (by decide) ?_
          refine gw_imulZ dX9_readProblem_133 rfl ?_
          refine gw_iaddZ dX9_readProblem_134 rfl ?_
          obtain ⟨v6, c5, e_c5, H⟩ := cl_i H
          refine gw_V1 okX9_readFactors dX9_readProblem_135 kw_1623 kw_1625 kw_70 (hp_o (h0.1)) rfl ⟨by decide, by decide⟩ ⟨by decide, by decide⟩ (Nat.le_of_ble_eq_true rfl) (w_X9_readFactors (h0) e_c5 ?_)
          refine gw_aload_n dX9_readProblem_138 rfl rfl ?_
          refine gw_bipushZ dX9_readProblem_139 rfl (by decide) ?_
          refine gw_bipushZ dX9_readProblem_141 rfl (by decide) ?_
          obtain ⟨v7, c8, e_c8, H⟩ := cl_i H
          refine gw_V2 okX9_takes dX9_readProblem_143 kw_1615 kw_1617 kw_68 (hp_o (h0.1)) rfl ⟨by decide, by decide⟩ ⟨by decide, by decide⟩ (Nat.le_of_ble_eq_true rfl) (w_X9_takes (h0) e_c8 ?_)
          refine gw_istore_n dX9_readProblem_146 rfl (by decide) ?_
          refine gw_aload_n dX9_readProblem_147 rfl rfl ?_
          refine gs_getR cl9 20 dX9_readProblem_148 rfl kw_1339 (by decide) (h0.1) rfl ?_
          refine gw_bipushZ dX9_readProblem_151 rfl (by decide) ?_
          refine gw_aload_n dX9_readProblem_153 rfl rfl ?_
          refine gs_getR cl9 20 dX9_readProblem_154 rfl kw_1339 (by decide) (h0.1) rfl ?_
          refine gw_iconstZ dX9_readProblem_157 rfl ?_
          refine gs_ialdZ dX9_readProblem_158 rfl (h0.2.2.2.2.2.2.2.2.2.2.2.2.2.1) (by decide) (by decide) ?_
          refine gw_iaddZ dX9_readProblem_159 rfl ?_
          refine gw_aload_n dX9_readProblem_160 rfl rfl ?_
          obtain ⟨v9, c10, e_c10, H⟩ := cl_i H
          refine gw_V0 okX9_bound dX9_readProblem_161 kw_1631 kw_1633 kw_72 (hp_o (h0.1)) rfl ⟨by decide, by decide⟩ ⟨by decide, by decide⟩ (Nat.le_of_ble_eq_true rfl) (w_X9_bound (h0) e_c10 ?_)
          obtain ⟨g, H⟩ := gd_i H
          obtain ⟨c11, e_c11, H⟩ := sto_i H
          refine gs_iastZE dX9_readProblem_164 rfl (h0.2.2.2.2.2.2.2.2.2.2.2.2.2.1) g (by decide) e_c11 ?_
          refine gw_aload_n dX9_readProblem_165 rfl rfl ?_
          refine gs_getR cl9 20 dX9_readProblem_166 rfl kw_1339 (by decide) (h0.1) rfl ?_
          refine gw_iconstZ dX9_readProblem_169 rfl ?_
          refine gw_dup2 dX9_readProblem_170 rfl rfl rfl ?_
          refine gs_ialdZ dX9_readProblem_171 rfl (h0.2.2.2.2.2.2.2.2.2.2.2.2.2.1) (by decide) (by decide) ?_
          refine gw_iconstZ dX9_readProblem_172 rfl ?_
          refine gw_iaddZ dX9_readProblem_173 rfl ?_
          obtain ⟨c12, e_c12, H⟩ := sto_i H
          refine gs_iastZE dX9_readProblem_174 rfl (h0.2.2.2.2.2.2.2.2.2.2.2.2.2.1) (by decide) (by decide) e_c12 ?_
          refine gw_goto (tgt := 77) dX9_readProblem_175 (by decide) ?_
          exact gw_L (ih _ H) ((lvA_c rfl lvA_n))
set_option maxRecDepth 100000 in
set_option maxHeartbeats 4000000 in
theorem w_X9_readProblem {Φ : gwC} {hb : gwHp} {M : Nat} {sh : Nat → Option gSh} {th : Nat} {c : W0} {r : Int × W0} {K : Option Value → gwHp → Prop} (h0 : sM sh th) (H : f_X9_readProblem th c = some r) (hK : K none (hp Φ hb M sh r.2)) : gw_Con Φ mX9_readProblem none [.ref (M + th)] (hp Φ hb M sh c) K := by
  unfold f_X9_readProblem at H
  refine gw_start okX9_readProblem (Nat.le_of_ble_eq_true rfl) ?_
  refine gw_iconstZ dX9_readProblem_0 rfl ?_
  refine gw_istore_n dX9_readProblem_1 rfl (by decide) ?_
  refine gw_L (l_X9_readProblem_2 h0 hK (fun c1 H => ?_) LF _ _ H) ((lvA_c rfl (lvA_c rfl lvA_n)))
  refine gw_aload_n dX9_readProblem_21 rfl rfl ?_
  refine gw_iconstZ dX9_readProblem_22 rfl ?_
  obtain ⟨c2, e_c2, H⟩ := sto_i H
  refine gs_putIE cl9 18 18 dX9_readProblem_23 rfl kw_1337 (by decide) rfl rfl (h0.1) rfl rfl e_c2 ?_
  refine gw_aload_n dX9_readProblem_26 rfl rfl ?_
  refine gw_iconstZ dX9_readProblem_27 rfl ?_
  obtain ⟨c3, e_c3, H⟩ := sto_i H
  refine gs_putZE cl9 19 19 dX9_readProblem_28 rfl kw_1338 (by decide) rfl rfl (h0.1) rfl rfl (by decide) e_c3 ?_
  refine gw_aload_n dX9_readProblem_31 rfl rfl ?_
  refine gw_bipushZ dX9_readProblem_32 rfl (by decide) ?_
  refine gw_bipushZ dX9_readProblem_34 rfl (by decide) ?_
  obtain ⟨v4, c5, e_c5, H⟩ := cl_i H
  refine gw_V2 okX9_takes dX9_readProblem_36 kw_1615 kw_1617 kw_68 (hp_o (h0.1)) rfl ⟨by decide, by decide⟩ ⟨by decide, by decide⟩ (Nat.le_of_ble_eq_true rfl) (w_X9_takes (h0) e_c5 ?_)
  refine gw_istore_n dX9_readProblem_39 rfl (by decide) ?_
  refine gw_aload_n dX9_readProblem_40 rfl rfl ?_
  refine gs_getR cl9 20 dX9_readProblem_41 rfl kw_1339 (by decide) (h0.1) rfl ?_
  refine gw_iconstZ dX9_readProblem_44 rfl ?_
  refine gw_aload_n dX9_readProblem_45 rfl rfl ?_
  refine gw_bipushZ dX9_readProblem_46 rfl (by decide) ?_
  refine gw_bipushZ dX9_readProblem_48 rfl (by decide) ?_
  obtain ⟨v6, c7, e_c7, H⟩ := cl_i H
  refine gw_V2 okX9_takes dX9_readProblem_50 kw_1615 kw_1617 kw_68 (hp_o (h0.1)) rfl ⟨by decide, by decide⟩ ⟨by decide, by decide⟩ (Nat.le_of_ble_eq_true rfl) (w_X9_takes (h0) e_c7 ?_)
  obtain ⟨c8, e_c8, H⟩ := sto_i H
  refine gs_iastZE dX9_readProblem_53 rfl (h0.2.2.2.2.2.2.2.2.2.2.2.2.2.1) (by decide) (by decide) e_c8 ?_
  refine gw_aload_n dX9_readProblem_54 rfl rfl ?_
  refine gw_bipushZ dX9_readProblem_55 rfl (by decide) ?_
  refine gw_bipushZ dX9_readProblem_57 rfl (by decide) ?_
  obtain ⟨v9, c10, e_c10, H⟩ := cl_i H
  refine gw_V2 okX9_takes dX9_readProblem_59 kw_1615 kw_1617 kw_68 (hp_o (h0.1)) rfl ⟨by decide, by decide⟩ ⟨by decide, by decide⟩ (Nat.le_of_ble_eq_true rfl) (w_X9_takes (h0) e_c10 ?_)
  refine gw_istore_n dX9_readProblem_62 rfl (by decide) ?_
  refine gw_aload_n dX9_readProblem_63 rfl rfl ?_
  refine gw_bipushZ dX9_readProblem_64 rfl (by decide) ?_
  refine gw_bipushZ dX9_readProblem_66 rfl (by decide) ?_
  obtain ⟨v11, c12, e_c12, H⟩ := cl_i H
  refine gw_V2 okX9_takes dX9_readProblem_68 kw_1615 kw_1617 kw_68 (hp_o (h0.1)) rfl ⟨by decide, by decide⟩ ⟨by decide, by decide⟩ (Nat.le_of_ble_eq_true rfl) (w_X9_takes (h0) e_c12 ?_)
  refine gw_istore_n dX9_readProblem_71 rfl (by decide) ?_
  refine gw_aload_n dX9_readProblem_72 rfl rfl ?_
  refine gw_iconstZ dX9_readProblem_73 rfl ?_
  obtain ⟨v14, c13, e_c13, H⟩ := cl_i H
  refine gw_V1 okX9_readFactors dX9_readProblem_74 kw_1623 kw_1625 kw_70 (hp_o (h0.1)) rfl ⟨by decide, by decide⟩ ⟨by decide, by decide⟩ (Nat.le_of_ble_eq_true rfl) (w_X9_readFactors (h0) e_c13 ?_)
  refine gw_L (l_X9_readProblem_77 h0 hK (fun c15 H => ?_) LF _ H) ((lvA_c rfl lvA_n))
  refine gw_aload_n dX9_readProblem_178 rfl rfl ?_
  refine gw_aload_n dX9_readProblem_179 rfl rfl ?_
  refine gs_getI cl9 19 19 dX9_readProblem_180 rfl kw_1338 (by decide) (h0.1) rfl rfl ?_
  obtain ⟨g, H⟩ := gd_i H
  refine gw_if_neZ (tgt := 197) dX9_readProblem_183 rfl (by decide) g (fun q => ?_) (fun q => ?_)
  · have H := bq_f q H
    refine gw_iconstZ dX9_readProblem_197 rfl ?_
    refine gw_goto (tgt := 202) dX9_readProblem_198 (by decide) ?_
    obtain ⟨c16, e_c16, H⟩ := sto_i H
    refine gs_putZE cl9 19 19 dX9_readProblem_202 rfl kw_1338 (by decide) rfl rfl (h0.1) rfl rfl (by decide) e_c16 ?_
    cases H
    exact gw_vret dX9_readProblem_205 rfl (by decide) (by decide) hK
  · have H := bq_t q H
    refine gw_aload_n dX9_readProblem_186 rfl rfl ?_
    refine gs_getI cl9 18 18 dX9_readProblem_187 rfl kw_1337 (by decide) (h0.1) rfl rfl ?_
    refine gw_aload_n dX9_readProblem_190 rfl rfl ?_
    refine gs_getI cl9 8 8 dX9_readProblem_191 rfl kw_1327 (by decide) (h0.1) rfl rfl ?_
    obtain ⟨g, H⟩ := gd_i H
    refine gw_icmp_geZ (tgt := 201) dX9_readProblem_194 rfl (by decide) g.1 g.2 (fun q => ?_) (fun q => ?_)
    · have H := bq_t q H
      refine gw_iconstZ dX9_readProblem_201 rfl ?_
      obtain ⟨c17, e_c17, H⟩ := sto_i H
      refine gs_putZE cl9 19 19 dX9_readProblem_202 rfl kw_1338 (by decide) rfl rfl (h0.1) rfl rfl (by decide) e_c17 ?_
      cases H
      exact gw_vret dX9_readProblem_205 rfl (by decide) (by decide) hK
    · have H := bq_f q H
      refine gw_iconstZ dX9_readProblem_197 rfl ?_
      refine gw_goto (tgt := 202) dX9_readProblem_198 (by decide) ?_
      obtain ⟨c18, e_c18, H⟩ := sto_i H
      refine gs_putZE cl9 19 19 dX9_readProblem_202 rfl kw_1338 (by decide) rfl rfl (h0.1) rfl rfl (by decide) e_c18 ?_
      cases H
      exact gw_vret dX9_readProblem_205 rfl (by decide) (by decide) hK
set_option maxRecDepth 100000 in
set_option maxHeartbeats 4000000 in
theorem w_X9_firstError {Φ : gwC} {hb : gwHp} {M : Nat} {sh : Nat → Option gSh} {th : Nat} {c : W0} {r : Int × W0} {K : Option Value → gwHp → Prop} (h0 : sM sh th) (H : f_X9_firstError th c = some r) (hK : K (some (vI r.1)) (hp Φ hb M sh r.2)) : gw_Con Φ mX9_firstError none [.ref (M + th)] (hp Φ hb M sh c) K := by
  unfold f_X9_firstError at H
  refine gw_start okX9_firstError (Nat.le_of_ble_eq_true rfl) ?_
  refine gw_aload_n dX9_firstError_0 rfl rfl ?_
  refine gw_iconstZ dX9_firstError_1 rfl ?_
  obtain ⟨c1, e_c1, H⟩ := sto_i H
  refine gs_putIE cl9 0 0 dX9_firstError_2 rfl kw_1319 (by decide) rfl rfl (h0.1) rfl rfl e_c1 ?_
  refine gw_aload_n dX9_firstError_5 rfl rfl ?_
  obtain ⟨v3, c2, e_c2, H⟩ := cl_i H
  refine gw_V0 okX9_readProblem dX9_firstError_6 kw_1611 kw_1613 kw_67 (hp_o (h0.1)) rfl ⟨by decide, by decide⟩ ⟨by decide, by decide⟩ (Nat.le_of_ble_eq_true rfl) (w_X9_readProblem (h0) e_c2 ?_)
  refine gw_aload_n dX9_firstError_9 rfl rfl ?_
  refine gs_getI cl9 18 18 dX9_firstError_10 rfl kw_1337 (by decide) (h0.1) rfl rfl ?_
  cases H
  exact gw_iret dX9_firstError_13 rfl (by decide) (by decide) hK
set_option maxRecDepth 100000 in
set_option maxHeartbeats 4000000 in
theorem l_X9_load_31 {Φ : gwC} {hb : gwHp} {M : Nat} {sh : Nat → Option gSh} {th : Nat} {κ : W0 → Option (Int × W0)} {r : Int × W0} {K : Option Value → gwHp → Prop} (h0 : sM sh th) (hK : K (some (vI r.1)) (hp Φ hb M sh r.2)) (hκ : ∀ (c : W0), κ c = some r → G Φ mX9_load (gw_M Φ mX9_load K) none 0 0 55 [(0, .ref (M + th))] [] (hp Φ hb M sh c)) : ∀ (n : Nat) (l1 : Int) (c : W0), f_X9_load_31 th κ n l1 c = some r → G Φ mX9_load (gw_M Φ mX9_load K) none 0 0 31 [(0, .ref (M + th)), (1, vI l1)] [] (hp Φ hb M sh c) := by
  intro n
  induction n with
  | zero => intro l1 c H; cases H
  | succ n ih =>
    intro l1 c H
    have H : b_X9_load_31 th κ (f_X9_load_31 th κ n) l1 c = some r := H
    unfold b_X9_load_31 at H
    refine gw_iload_n dX9_load_31 rfl rfl ?_
    refine gw_bipushZ dX9_load_32 rfl (by decide) ?_
    obtain ⟨g, H⟩ := gd_i H
    refine gw_icmp_geZ (tgt := 55) dX9_load_34 rfl (by decide) g (by decide) (fun q => ?_) (fun q => ?_)
    · have H := bq_t q H
      exact gw_L (hκ _ H) ((lvA_c rfl lvA_n))
    · have H := bq_f q H
      refine gw_aload_n dX9_load_37 rfl rfl ?_
      refine gs_getR cl9 1 dX9_load_38 rfl kw_1320 (by decide) (h0.1) rfl ?_
      refine gw_iload_n dX9_load_41 rfl rfl ?_
      refine gw_aload_n dX9_load_42 rfl rfl ?_
      refine gs_getR cl9 20 dX9_load_43 rfl kw_1339 (by decide) (h0.1) rfl ?_
      refine gw_iload_n dX9_load_46 rfl rfl ?_
      obtain ⟨g, H⟩ := gd_i H
      refine gs_ialdZ dX9_load_47 rfl (h0.2.2.2.2.2.2.2.2.2.2.2.2.2.1) g (by decide) ?_
      obtain ⟨g, H⟩ := gd_i H
      obtain ⟨c1, e_c1, H⟩ := sto_i H
      refine gs_iastZE dX9_load_48 rfl (h0.2.1) g (by decide) e_c1 ?_
      refine gw_iincZ dX9_load_49 rfl rfl (by decide) ?_
      refine gw_goto (tgt := 31) dX9_load_52 (by decide) ?_
      exact gw_L (ih _ _ H) ((lvA_c rfl (lvA_c rfl lvA_n)))
set_option maxRecDepth 100000 in
set_option maxHeartbeats 4000000 in
theorem w_X9_load {Φ : gwC} {hb : gwHp} {M : Nat} {sh : Nat → Option gSh} {th : Nat} {c : W0} {r : Int × W0} {K : Option Value → gwHp → Prop} (h0 : sM sh th) (H : f_X9_load th c = some r) (hK : K (some (vI r.1)) (hp Φ hb M sh r.2)) : gw_Con Φ mX9_load none [.ref (M + th)] (hp Φ hb M sh c) K := by
  unfold f_X9_load at H
  refine gw_start okX9_load (Nat.le_of_ble_eq_true rfl) ?_
  refine gw_aload_n dX9_load_0 rfl rfl ?_
  obtain ⟨v2, c1, e_c1, H⟩ := cl_i H
  refine gw_V0 okX9_readProblem dX9_load_1 kw_1611 kw_1613 kw_67 (hp_o (h0.1)) rfl ⟨by decide, by decide⟩ ⟨by decide, by decide⟩ (Nat.le_of_ble_eq_true rfl) (w_X9_readProblem (h0) e_c1 ?_)
  refine gw_aload_n dX9_load_4 rfl rfl ?_
  refine gw_aload_n dX9_load_5 rfl rfl ?_
  refine gs_getI cl9 19 19 dX9_load_6 rfl kw_1338 (by decide) (h0.1) rfl rfl ?_
  obtain ⟨g, H⟩ := gd_i H
  obtain ⟨k3, e_k3, H⟩ := jn_i H
  have hJ_k3 : ∀ (v4 : Int), k3 v4 = some r → G Φ mX9_load (gw_M Φ mX9_load K) none 0 0 17 [(0, .ref (M + th))] [vI v4, .ref (M + th)] (hp Φ hb M sh c1) := by
    intro v4 H
    subst e_k3
    obtain ⟨v5, c6, e_c6, H⟩ := cl_i H
    refine gw_V1 okX9_holds dX9_load_17 kw_1416 kw_1418 kw_33 (hp_o (h0.1)) rfl ⟨by decide, by decide⟩ ⟨by decide, by decide⟩ (Nat.le_of_ble_eq_true rfl) (w_X9_holds (h0) e_c6 ?_)
    obtain ⟨g, H⟩ := gd_i H
    refine gw_if_neZ (tgt := 25) dX9_load_20 rfl (by decide) g (fun q => ?_) (fun q => ?_)
    · have H := bq_f q H
      refine gw_aload_n dX9_load_25 rfl rfl ?_
      obtain ⟨v8, c7, e_c7, H⟩ := cl_i H
      refine gw_V0 okX9_save dX9_load_26 kw_1420 kw_1422 kw_34 (hp_o (h0.1)) rfl ⟨by decide, by decide⟩ ⟨by decide, by decide⟩ (Nat.le_of_ble_eq_true rfl) (w_X9_save (h0) e_c7 ?_)
      refine gw_iconstZ dX9_load_29 rfl ?_
      refine gw_istore_n dX9_load_30 rfl (by decide) ?_
      refine gw_L (l_X9_load_31 h0 hK (fun c9 H => ?_) LF _ _ H) ((lvA_c rfl (lvA_c rfl lvA_n)))
      refine gw_aload_n dX9_load_55 rfl rfl ?_
      obtain ⟨v11, c10, e_c10, H⟩ := cl_i H
      refine gw_V0 okX9_begins dX9_load_56 kw_1424 kw_1426 kw_35 (hp_o (h0.1)) rfl ⟨by decide, by decide⟩ ⟨by decide, by decide⟩ (Nat.le_of_ble_eq_true rfl) (w_X9_begins (h0) e_c10 ?_)
      refine gw_aload_n dX9_load_59 rfl rfl ?_
      refine gw_iconstZ dX9_load_60 rfl ?_
      obtain ⟨c12, e_c12, H⟩ := sto_i H
      refine gs_putIE cl9 8 8 dX9_load_61 rfl kw_1327 (by decide) rfl rfl (h0.1) rfl rfl e_c12 ?_
      refine gw_aload_n dX9_load_64 rfl rfl ?_
      refine gs_getR cl9 1 dX9_load_65 rfl kw_1320 (by decide) (h0.1) rfl ?_
      refine gw_iconstZ dX9_load_68 rfl ?_
      refine gs_ialdZ dX9_load_69 rfl (h0.2.1) (by decide) (by decide) ?_
      cases H
      exact gw_iret dX9_load_70 rfl (by decide) (by decide) hK
    · have H := bq_t q H
      refine gw_iconstZ dX9_load_23 rfl ?_
      cases H
      exact gw_iret dX9_load_24 rfl (by decide) (by decide) hK
  refine gw_if_eqZ (tgt := 16) dX9_load_9 rfl (by decide) g (fun q => ?_) (fun q => ?_)
  · have H := bq_t q H
    refine gw_iconstZ dX9_load_16 rfl ?_
    exact gw_L (hJ_k3 _ H) ((lvA_c rfl lvA_n))
  · have H := bq_f q H
    refine gw_iconstZ dX9_load_12 rfl ?_
    refine gw_goto (tgt := 17) dX9_load_13 (by decide) ?_
    exact gw_L (hJ_k3 _ H) ((lvA_c rfl lvA_n))
set_option maxRecDepth 100000 in
set_option maxHeartbeats 4000000 in
theorem w_X9_writes {Φ : gwC} {hb : gwHp} {M : Nat} {sh : Nat → Option gSh} {th : Nat} {p1 : Int} {c : W0} {r : Int × W0} {K : Option Value → gwHp → Prop} (h0 : sM sh th) (H : f_X9_writes th p1 c = some r) (hK : K none (hp Φ hb M sh r.2)) : gw_Con Φ mX9_writes none [.ref (M + th), vI p1] (hp Φ hb M sh c) K := by
  unfold f_X9_writes at H
  refine gw_start okX9_writes (Nat.le_of_ble_eq_true rfl) ?_
  refine gw_aload_n dX9_writes_0 rfl rfl ?_
  refine gs_getR cl9 21 dX9_writes_1 rfl kw_1340 (by decide) (h0.1) rfl ?_
  refine gw_aload_n dX9_writes_4 rfl rfl ?_
  refine gs_getI cl9 22 22 dX9_writes_5 rfl kw_1341 (by decide) (h0.1) rfl rfl ?_
  refine gw_iload_n dX9_writes_8 rfl rfl ?_
  obtain ⟨g, H⟩ := gd_i H
  obtain ⟨c1, e_c1, H⟩ := sto_i H
  refine gs_iastZE dX9_writes_9 rfl (h0.2.2.2.2.2.2.2.2.2.2.2.2.2.2) g (by decide) e_c1 ?_
  refine gw_aload_n dX9_writes_10 rfl rfl ?_
  refine gw_dup dX9_writes_11 rfl rfl ?_
  refine gs_getI cl9 22 22 dX9_writes_12 rfl kw_1341 (by decide) (h0.1) rfl rfl ?_
  refine gw_iconstZ dX9_writes_15 rfl ?_
  refine gw_iaddZ dX9_writes_16 rfl ?_
  obtain ⟨c2, e_c2, H⟩ := sto_i H
  refine gs_putIE cl9 22 22 dX9_writes_17 rfl kw_1341 (by decide) rfl rfl (h0.1) rfl rfl e_c2 ?_
  cases H
  exact gw_vret dX9_writes_20 rfl (by decide) (by decide) hK
set_option maxRecDepth 100000 in
set_option maxHeartbeats 4000000 in
theorem l_X9_writesFactors_2 {Φ : gwC} {hb : gwHp} {M : Nat} {sh : Nat → Option gSh} {th : Nat} {p1 : Int} {κ : W0 → Option (Int × W0)} {r : Int × W0} {K : Option Value → gwHp → Prop} (h0 : sM sh th) (hK : K none (hp Φ hb M sh r.2)) (hκ : ∀ (c : W0), κ c = some r → G Φ mX9_writesFactors (gw_M Φ mX9_writesFactors K) none 0 0 64 [] [] (hp Φ hb M sh c)) : ∀ (n : Nat) (l2 : Int) (c : W0), f_X9_writesFactors_2 th p1 κ n l2 c = some r → G Φ mX9_writesFactors (gw_M Φ mX9_writesFactors K) none 0 0 2 [(0, .ref (M + th)), (1, vI p1), (2, vI l2)] [] (hp Φ hb M sh c) := by
  intro n
  induction n with
  | zero => intro l2 c H; cases H
  | succ n ih =>
    intro l2 c H
    have H : b_X9_writesFactors_2 th p1 κ (f_X9_writesFactors_2 th p1 κ n) l2 c = some r := H
    unfold b_X9_writesFactors_2 at H
    refine gw_iload_n dX9_writesFactors_2 rfl rfl ?_
    refine gw_aload_n dX9_writesFactors_3 rfl rfl ?_
    refine gs_getR cl9 1 dX9_writesFactors_4 rfl kw_1320 (by decide) (h0.1) rfl ?_
    refine gw_iconstZ dX9_writesFactors_7 rfl ?_
    refine gs_ialdZ dX9_writesFactors_8 rfl (h0.2.1) (by decide) (by decide) ?_
    obtain ⟨g, H⟩ := gd_i H
    refine gw_icmp_geZ (tgt := 64) dX9_writesFactors_9 rfl (by decide) g.1 g.2 (fun q => ?_) (fun q => ?_)
    · have H := bq_t q H
      exact gw_L (hκ _ H) (lvA_n)
    · have H := bq_f q H
      refine gw_iload_n dX9_writesFactors_12 rfl rfl ?_
      obtain ⟨g, H⟩ := gd_i H
      obtain ⟨k1, e_k1, H⟩ := jn_i H
      have hJ_k1 : ∀ (c2 : W0), k1 c2 = some r → G Φ mX9_writesFactors (gw_M Φ mX9_writesFactors K) none 0 0 22 [(0, .ref (M + th)), (1, vI p1), (2, vI l2)] [] (hp Φ hb M sh c2) := by
        intro c2 H
        subst e_k1
        refine gw_aload_n dX9_writesFactors_22 rfl rfl ?_
        refine gs_getR cl9 1 dX9_writesFactors_23 rfl kw_1320 (by decide) (h0.1) rfl ?_
        refine gw_iload_n dX9_writesFactors_26 rfl rfl ?_
        refine gw_iload_n dX9_writesFactors_27 rfl rfl ?_
        refine gw_iaddZ dX9_writesFactors_28 rfl ?_
        obtain ⟨g, H⟩ := gd_i H
        refine gs_ialdZ dX9_writesFactors_29 rfl (h0.2.1) g (by decide) ?_
        refine gw_istore_n dX9_writesFactors_30 rfl (by decide) ?_
        refine gw_iload_n dX9_writesFactors_31 rfl rfl ?_
        obtain ⟨g, H⟩ := gd_i H
        obtain ⟨k3, e_k3, H⟩ := jn_i H
        have hJ_k3 : ∀ (c4 : W0), k3 c4 = some r → G Φ mX9_writesFactors (gw_M Φ mX9_writesFactors K) none 0 0 41 [(0, .ref (M + th)), (1, vI p1), (2, vI l2), (3, vI (c2 (th + 1) (p1 + l2)))] [] (hp Φ hb M sh c4) := by
          intro c4 H
          subst e_k3
          refine gw_aload_n dX9_writesFactors_41 rfl rfl ?_
          refine gw_bipushZ dX9_writesFactors_42 rfl (by decide) ?_
          refine gw_iload_n dX9_writesFactors_44 rfl rfl ?_
          obtain ⟨g, H⟩ := gd_i H
          refine gw_if_geZ (tgt := 53) dX9_writesFactors_45 rfl (by decide) g (fun q => ?_) (fun q => ?_)
          · have H := bq_t q H
            refine gw_iload_n dX9_writesFactors_53 rfl rfl ?_
            refine gw_iaddZ dX9_writesFactors_54 rfl ?_
            obtain ⟨v6, c5, e_c5, H⟩ := cl_i H
            refine gw_V1 okX9_writes dX9_writesFactors_55 kw_1647 kw_1649 kw_74 (hp_o (h0.1)) rfl ⟨by decide, by decide⟩ ⟨by decide, by decide⟩ (Nat.le_of_ble_eq_true rfl) (w_X9_writes (h0) e_c5 ?_)
            refine gw_iincZ dX9_writesFactors_58 rfl rfl (by decide) ?_
            refine gw_goto (tgt := 2) dX9_writesFactors_61 (by decide) ?_
            exact gw_L (ih _ _ H) ((lvA_c rfl (lvA_c rfl (lvA_c rfl lvA_n))))
          · have H := bq_f q H
            refine gw_iload_n dX9_writesFactors_48 rfl rfl ?_
            refine gw_inegZ dX9_writesFactors_49 rfl ?_
            refine gw_goto (tgt := 54) dX9_writesFactors_50 (by decide) ?_
            refine gw_iaddZ dX9_writesFactors_54 rfl ?_
            obtain ⟨v8, c7, e_c7, H⟩ := cl_i H
            refine gw_V1 okX9_writes dX9_writesFactors_55 kw_1647 kw_1649 kw_74 (hp_o (h0.1)) rfl ⟨by decide, by decide⟩ ⟨by decide, by decide⟩ (Nat.le_of_ble_eq_true rfl) (w_X9_writes (h0) e_c7 ?_)
            refine gw_iincZ dX9_writesFactors_58 rfl rfl (by decide) ?_
            refine gw_goto (tgt := 2) dX9_writesFactors_61 (by decide) ?_
            exact gw_L (ih _ _ H) ((lvA_c rfl (lvA_c rfl (lvA_c rfl lvA_n))))
        refine gw_if_geZ (tgt := 41) dX9_writesFactors_32 rfl (by decide) g (fun q => ?_) (fun q => ?_)
        · have H := bq_t q H
          exact gw_L (hJ_k3 _ H) ((lvA_c rfl (lvA_c rfl (lvA_c rfl (lvA_c rfl lvA_n)))))
        · have H := bq_f q H
          refine gw_aload_n dX9_writesFactors_35 rfl rfl ?_
          refine gw_bipushZ dX9_writesFactors_36 rfl (by decide) ?_
          obtain ⟨v10, c9, e_c9, H⟩ := cl_i H
          refine gw_V1 okX9_writes dX9_writesFactors_38 kw_1647 kw_1649 kw_74 (hp_o (h0.1)) rfl ⟨by decide, by decide⟩ ⟨by decide, by decide⟩ (Nat.le_of_ble_eq_true rfl) (w_X9_writes (h0) e_c9 ?_)
          exact gw_L (hJ_k3 _ H) ((lvA_c rfl (lvA_c rfl (lvA_c rfl (lvA_c rfl lvA_n)))))
      refine gw_if_leZ (tgt := 22) dX9_writesFactors_13 rfl (by decide) g (fun q => ?_) (fun q => ?_)
      · have H := bq_t q H
        exact gw_L (hJ_k1 _ H) ((lvA_c rfl (lvA_c rfl (lvA_c rfl lvA_n))))
      · have H := bq_f q H
        refine gw_aload_n dX9_writesFactors_16 rfl rfl ?_
        refine gw_bipushZ dX9_writesFactors_17 rfl (by decide) ?_
        obtain ⟨v12, c11, e_c11, H⟩ := cl_i H
        refine gw_V1 okX9_writes dX9_writesFactors_19 kw_1647 kw_1649 kw_74 (hp_o (h0.1)) rfl ⟨by decide, by decide⟩ ⟨by decide, by decide⟩ (Nat.le_of_ble_eq_true rfl) (w_X9_writes (h0) e_c11 ?_)
        exact gw_L (hJ_k1 _ H) ((lvA_c rfl (lvA_c rfl (lvA_c rfl lvA_n))))
set_option maxRecDepth 100000 in
set_option maxHeartbeats 4000000 in
theorem w_X9_writesFactors {Φ : gwC} {hb : gwHp} {M : Nat} {sh : Nat → Option gSh} {th : Nat} {p1 : Int} {c : W0} {r : Int × W0} {K : Option Value → gwHp → Prop} (h0 : sM sh th) (H : f_X9_writesFactors th p1 c = some r) (hK : K none (hp Φ hb M sh r.2)) : gw_Con Φ mX9_writesFactors none [.ref (M + th), vI p1] (hp Φ hb M sh c) K := by
  unfold f_X9_writesFactors at H
  refine gw_start okX9_writesFactors (Nat.le_of_ble_eq_true rfl) ?_
  refine gw_iconstZ dX9_writesFactors_0 rfl ?_
  refine gw_istore_n dX9_writesFactors_1 rfl (by decide) ?_
  refine gw_L (l_X9_writesFactors_2 h0 hK (fun c1 H => ?_) LF _ _ H) ((lvA_c rfl (lvA_c rfl (lvA_c rfl lvA_n))))
  cases H
  exact gw_vret dX9_writesFactors_64 rfl (by decide) (by decide) hK
set_option maxRecDepth 100000 in
set_option maxHeartbeats 4000000 in
theorem l_X9_writesProblem_43 {Φ : gwC} {hb : gwHp} {M : Nat} {sh : Nat → Option gSh} {th : Nat} {κ : W0 → Option (Int × W0)} {r : Int × W0} {K : Option Value → gwHp → Prop} (h0 : sM sh th) (hK : K none (hp Φ hb M sh r.2)) (hκ : ∀ (c : W0), κ c = some r → G Φ mX9_writesProblem (gw_M Φ mX9_writesProblem K) none 0 0 139 [] [] (hp Φ hb M sh c)) : ∀ (n : Nat) (l1 : Int) (c : W0), f_X9_writesProblem_43 th κ n l1 c = some r → G Φ mX9_writesProblem (gw_M Φ mX9_writesProblem K) none 0 0 43 [(0, .ref (M + th)), (1, vI l1)] [] (hp Φ hb M sh c) := by
  intro n
  induction n with
  | zero => intro l1 c H; cases H
  | succ n ih =>
    intro l1 c H
    have H : b_X9_writesProblem_43 th κ (f_X9_writesProblem_43 th κ n) l1 c = some r := H
    unfold b_X9_writesProblem_43 at H
    refine gw_iload_n dX9_writesProblem_43 rfl rfl ?_
    refine gw_aload_n dX9_writesProblem_44 rfl rfl ?_
    refine gs_getR cl9 1 dX9_writesProblem_45 rfl kw_1320 (by decide) (h0.1) rfl ?_
    refine gw_iconstZ dX9_writesProblem_48 rfl ?_
    refine gs_ialdZ dX9_writesProblem_49 rfl (h0.2.1) (by decide) (by decide) ?_
    obtain ⟨g, H⟩ := gd_i H
    refine gw_icmp_geZ (tgt := 139) dX9_writesProblem_50 rfl (by decide) g.1 g.2 (fun q => ?_) (fun q => ?_)
    · have H := bq_t q H
      exact gw_L (hκ _ H) (lvA_n)
    · have H := bq_f q H
      refine gw_aload_n dX9_writesProblem_53 rfl rfl ?_
      refine gw_bipushZ dX9_writesProblem_54 rfl (by decide) ?_
      obtain ⟨v2, c1, e_c1, H⟩ := cl_i H
      refine gw_V1 okX9_writes dX9_writesProblem_56 kw_1647 kw_1649 kw_74 (hp_o (h0.1)) rfl ⟨by decide, by decide⟩ ⟨by decide, by decide⟩ (Nat.le_of_ble_eq_true rfl) (w_X9_writes (h0) e_c1 ?_)
      refine gw_aload_n dX9_writesProblem_59 rfl rfl ?_
      refine gw_bipushZ dX9_writesProblem_60 rfl (by decide) ?_
      obtain ⟨v4, c3, e_c3, H⟩ := cl_i H
      refine gw_V1 okX9_writes dX9_writesProblem_62 kw_1647 kw_1649 kw_74 (hp_o (h0.1)) rfl ⟨by decide, by decide⟩ ⟨by decide, by decide⟩ (Nat.le_of_ble_eq_true rfl) (w_X9_writes (h0) e_c3 ?_)
      refine gw_aload_n dX9_writesProblem_65 rfl rfl ?_
      refine gw_bipushZ dX9_writesProblem_66 rfl (by decide) ?_
      refine gw_iconstZ dX9_writesProblem_68 rfl ?_
      refine gw_iload_n dX9_writesProblem_69 rfl rfl ?_
      refine gw_imulZ dX9_writesProblem_70 rfl ?_
      refine gw_iaddZ dX9_writesProblem_71 rfl ?_
      obtain ⟨v6, c5, e_c5, H⟩ := cl_i H
      refine gw_V1 okX9_writesFactors dX9_writesProblem_72 kw_1651 kw_1653 kw_75 (hp_o (h0.1)) rfl ⟨by decide, by decide⟩ ⟨by decide, by decide⟩ (Nat.le_of_ble_eq_true rfl) (w_X9_writesFactors (h0) e_c5 ?_)
      refine gw_aload_n dX9_writesProblem_75 rfl rfl ?_
      refine gw_bipushZ dX9_writesProblem_76 rfl (by decide) ?_
      obtain ⟨v8, c7, e_c7, H⟩ := cl_i H
      refine gw_V1 okX9_writes dX9_writesProblem_78 kw_1647 kw_1649 kw_74 (hp_o (h0.1)) rfl ⟨by decide, by decide⟩ ⟨by decide, by decide⟩ (Nat.le_of_ble_eq_true rfl) (w_X9_writes (h0) e_c7 ?_)
      refine gw_aload_n dX9_writesProblem_81 rfl rfl ?_
      refine gs_getR cl9 1 dX9_writesProblem_82 rfl kw_1320 (by decide) (h0.1) rfl ?_
      refine gw_bipushZ dX9_writesProblem_85 rfl (by decide) ?_
      refine gw_iload_n dX9_writesProblem_87 rfl rfl ?_
      refine gw_iaddZ dX9_writesProblem_88 rfl ?_
      obtain ⟨g, H⟩ := gd_i H
      refine gs_ialdZ dX9_writesProblem_89 rfl (h0.2.1) g (by decide) ?_
      refine gw_bipushZ dX9_writesProblem_90 rfl (by decide) ?_
      obtain ⟨g, H⟩ := gd_i H
      obtain ⟨k9, e_k9, H⟩ := jn_i H
      have hJ_k9 : ∀ (c10 : W0), k9 c10 = some r → G Φ mX9_writesProblem (gw_M Φ mX9_writesProblem K) none 0 0 114 [(0, .ref (M + th)), (1, vI l1)] [] (hp Φ hb M sh c10) := by
        intro c10 H
        subst e_k9
        refine gw_aload_n dX9_writesProblem_114 rfl rfl ?_
        refine gw_bipushZ dX9_writesProblem_115 rfl (by decide) ?_
        refine gw_aload_n dX9_writesProblem_117 rfl rfl ?_
        refine gs_getR cl9 1 dX9_writesProblem_118 rfl kw_1320 (by decide) (h0.1) rfl ?_
        refine gw_bipushZ dX9_writesProblem_121 rfl (by decide) ?_
        refine gw_iload_n dX9_writesProblem_123 rfl rfl ?_
        refine gw_iaddZ dX9_writesProblem_124 rfl ?_
        obtain ⟨g, H⟩ := gd_i H
        refine gs_ialdZ dX9_writesProblem_125 rfl (h0.2.1) g (by decide) ?_
        refine gw_bipushZ dX9_writesProblem_126 rfl (by decide) ?_
        obtain ⟨g, H⟩ := gd_i H
        refine gw_iremZ dX9_writesProblem_128 rfl (by decide) g (by decide) ?_
        refine gw_iaddZ dX9_writesProblem_129 rfl ?_
        obtain ⟨v12, c11, e_c11, H⟩ := cl_i H
        refine gw_V1 okX9_writes dX9_writesProblem_130 kw_1647 kw_1649 kw_74 (hp_o (h0.1)) rfl ⟨by decide, by decide⟩ ⟨by decide, by decide⟩ (Nat.le_of_ble_eq_true rfl) (w_X9_writes (h0) e_c11 ?_)
        refine gw_iincZ dX9_writesProblem_133 rfl rfl (by decide) ?_
        refine gw_goto (tgt := 43) dX9_writesProblem_136 (by decide) ?_
        exact gw_L (ih _ _ H) ((lvA_c rfl (lvA_c rfl lvA_n)))
      refine gw_icmp_leZ (tgt := 114) dX9_writesProblem_92 rfl (by decide) g (by decide) (fun q => ?_) (fun q => ?_)
      · have H := bq_t q H
        exact gw_L (hJ_k9 _ H) ((lvA_c rfl (lvA_c rfl lvA_n)))
      · have H := bq_f q H
        refine gw_aload_n dX9_writesProblem_95 rfl rfl ?_
        refine gw_bipushZ dX9_writesProblem_96 rfl (by decide) ?_
        refine gw_aload_n dX9_writesProblem_98 rfl rfl ?_
        refine gs_getR cl9 1 dX9_writesProblem_99 rfl kw_1320 (by decide) (h0.1) rfl ?_
        refine gw_bipushZ dX9_writesProblem_102 rfl (by decide) ?_
        refine gw_iload_n dX9_writesProblem_104 rfl rfl ?_
        refine gw_iaddZ dX9_writesProblem_105 rfl ?_
        obtain ⟨g, H⟩ := gd_i H
        refine gs_ialdZ dX9_writesProblem_106 rfl (h0.2.1) g (by decide) ?_
        refine gw_bipushZ dX9_writesProblem_107 rfl (by decide) ?_
        obtain ⟨g, H⟩ := gd_i H
        refine gw_idivZ dX9_writesProblem_109 rfl (by decide) g (by decide) ?_
        refine gw_iaddZ dX9_writesProblem_110 rfl ?_
        obtain ⟨v14, c13, e_c13, H⟩ := cl_i H
        refine gw_V1 okX9_writes dX9_writesProblem_111 kw_1647 kw_1649 kw_74 (hp_o (h0.1)) rfl ⟨by decide, by decide⟩ ⟨by decide, by decide⟩ (Nat.le_of_ble_eq_true rfl) (w_X9_writes (h0) e_c13 ?_)
        exact gw_L (hJ_k9 _ H) ((lvA_c rfl (lvA_c rfl lvA_n)))
set_option maxRecDepth 100000 in
set_option maxHeartbeats 4000000 in
theorem w_X9_writesProblem {Φ : gwC} {hb : gwHp} {M : Nat} {sh : Nat → Option gSh} {th : Nat} {c : W0} {r : Int × W0} {K : Option Value → gwHp → Prop} (h0 : sM sh th) (H : f_X9_writesProblem th c = some r) (hK : K none (hp Φ hb M sh r.2)) : gw_Con Φ mX9_writesProblem none [.ref (M + th)] (hp Φ hb M sh c) K := by
  unfold f_X9_writesProblem at H
  refine gw_start okX9_writesProblem (Nat.le_of_ble_eq_true rfl) ?_
  refine gw_aload_n dX9_writesProblem_0 rfl rfl ?_
  refine gw_iconstZ dX9_writesProblem_1 rfl ?_
  obtain ⟨c1, e_c1, H⟩ := sto_i H
  refine gs_putIE cl9 22 22 dX9_writesProblem_2 rfl kw_1341 (by decide) rfl rfl (h0.1) rfl rfl e_c1 ?_
  refine gw_aload_n dX9_writesProblem_5 rfl rfl ?_
  refine gw_bipushZ dX9_writesProblem_6 rfl (by decide) ?_
  obtain ⟨v3, c2, e_c2, H⟩ := cl_i H
  refine gw_V1 okX9_writes dX9_writesProblem_8 kw_1647 kw_1649 kw_74 (hp_o (h0.1)) rfl ⟨by decide, by decide⟩ ⟨by decide, by decide⟩ (Nat.le_of_ble_eq_true rfl) (w_X9_writes (h0) e_c2 ?_)
  refine gw_aload_n dX9_writesProblem_11 rfl rfl ?_
  refine gw_bipushZ dX9_writesProblem_12 rfl (by decide) ?_
  refine gw_aload_n dX9_writesProblem_14 rfl rfl ?_
  refine gs_getR cl9 1 dX9_writesProblem_15 rfl kw_1320 (by decide) (h0.1) rfl ?_
  refine gw_iconstZ dX9_writesProblem_18 rfl ?_
  refine gs_ialdZ dX9_writesProblem_19 rfl (h0.2.1) (by decide) (by decide) ?_
  refine gw_iaddZ dX9_writesProblem_20 rfl ?_
  obtain ⟨v5, c4, e_c4, H⟩ := cl_i H
  refine gw_V1 okX9_writes dX9_writesProblem_21 kw_1647 kw_1649 kw_74 (hp_o (h0.1)) rfl ⟨by decide, by decide⟩ ⟨by decide, by decide⟩ (Nat.le_of_ble_eq_true rfl) (w_X9_writes (h0) e_c4 ?_)
  refine gw_aload_n dX9_writesProblem_24 rfl rfl ?_
  refine gw_bipushZ dX9_writesProblem_25 rfl (by decide) ?_
  obtain ⟨v7, c6, e_c6, H⟩ := cl_i H
  refine gw_V1 okX9_writes dX9_writesProblem_27 kw_1647 kw_1649 kw_74 (hp_o (h0.1)) rfl ⟨by decide, by decide⟩ ⟨by decide, by decide⟩ (Nat.le_of_ble_eq_true rfl) (w_X9_writes (h0) e_c6 ?_)
  refine gw_aload_n dX9_writesProblem_30 rfl rfl ?_
  refine gw_bipushZ dX9_writesProblem_31 rfl (by decide) ?_
  obtain ⟨v9, c8, e_c8, H⟩ := cl_i H
  refine gw_V1 okX9_writes dX9_writesProblem_33 kw_1647 kw_1649 kw_74 (hp_o (h0.1)) rfl ⟨by decide, by decide⟩ ⟨by decide, by decide⟩ (Nat.le_of_ble_eq_true rfl) (w_X9_writes (h0) e_c8 ?_)
  refine gw_aload_n dX9_writesProblem_36 rfl rfl ?_
  refine gw_iconstZ dX9_writesProblem_37 rfl ?_
  obtain ⟨v11, c10, e_c10, H⟩ := cl_i H
  refine gw_V1 okX9_writesFactors dX9_writesProblem_38 kw_1651 kw_1653 kw_75 (hp_o (h0.1)) rfl ⟨by decide, by decide⟩ ⟨by decide, by decide⟩ (Nat.le_of_ble_eq_true rfl) (w_X9_writesFactors (h0) e_c10 ?_)
  refine gw_iconstZ dX9_writesProblem_41 rfl ?_
  refine gw_istore_n dX9_writesProblem_42 rfl (by decide) ?_
  refine gw_L (l_X9_writesProblem_43 h0 hK (fun c12 H => ?_) LF _ _ H) ((lvA_c rfl (lvA_c rfl lvA_n)))
  cases H
  exact gw_vret dX9_writesProblem_139 rfl (by decide) (by decide) hK
set_option maxRecDepth 100000 in
set_option maxHeartbeats 4000000 in
theorem l_X9_write_29 {Φ : gwC} {hb : gwHp} {M : Nat} {sh : Nat → Option gSh} {th : Nat} {κ : W0 → Option (Int × W0)} {r : Int × W0} {K : Option Value → gwHp → Prop} (h0 : sM sh th) (hK : K (some (vI r.1)) (hp Φ hb M sh r.2)) (hκ : ∀ (c : W0), κ c = some r → G Φ mX9_write (gw_M Φ mX9_write K) none 0 0 55 [(0, .ref (M + th))] [] (hp Φ hb M sh c)) : ∀ (n : Nat) (l1 : Int) (c : W0), f_X9_write_29 th κ n l1 c = some r → G Φ mX9_write (gw_M Φ mX9_write K) none 0 0 29 [(0, .ref (M + th)), (1, vI l1)] [] (hp Φ hb M sh c) := by
  intro n
  induction n with
  | zero => intro l1 c H; cases H
  | succ n ih =>
    intro l1 c H
    have H : b_X9_write_29 th κ (f_X9_write_29 th κ n) l1 c = some r := H
    unfold b_X9_write_29 at H
    refine gw_iload_n dX9_write_29 rfl rfl ?_
    refine gw_aload_n dX9_write_30 rfl rfl ?_
    refine gs_getI cl9 22 22 dX9_write_31 rfl kw_1341 (by decide) (h0.1) rfl rfl ?_
    obtain ⟨g, H⟩ := gd_i H
    refine gw_icmp_geZ (tgt := 55) dX9_write_34 rfl (by decide) g.1 g.2 (fun q => ?_) (fun q => ?_)
    · have H := bq_t q H
      exact gw_L (hκ _ H) ((lvA_c rfl lvA_n))
    · have H := bq_f q H
      refine gw_aload_n dX9_write_37 rfl rfl ?_
      refine gs_getR cl9 7 dX9_write_38 rfl kw_1326 (by decide) (h0.1) rfl ?_
      refine gw_iload_n dX9_write_41 rfl rfl ?_
      refine gw_aload_n dX9_write_42 rfl rfl ?_
      refine gs_getR cl9 21 dX9_write_43 rfl kw_1340 (by decide) (h0.1) rfl ?_
      refine gw_iload_n dX9_write_46 rfl rfl ?_
      obtain ⟨g, H⟩ := gd_i H
      refine gs_ialdZ dX9_write_47 rfl (h0.2.2.2.2.2.2.2.2.2.2.2.2.2.2) g (by decide) ?_
      obtain ⟨g, H⟩ := gd_i H
      obtain ⟨c1, e_c1, H⟩ := sto_i H
      refine gs_iastZE dX9_write_48 rfl (h0.2.2.2.2.2.1) g (by decide) e_c1 ?_
      refine gw_iincZ dX9_write_49 rfl rfl (by decide) ?_
      refine gw_goto (tgt := 29) dX9_write_52 (by decide) ?_
      exact gw_L (ih _ _ H) ((lvA_c rfl (lvA_c rfl lvA_n)))
set_option maxRecDepth 100000 in
set_option maxHeartbeats 4000000 in
theorem w_X9_write {Φ : gwC} {hb : gwHp} {M : Nat} {sh : Nat → Option gSh} {th : Nat} {c : W0} {r : Int × W0} {K : Option Value → gwHp → Prop} (h0 : sM sh th) (H : f_X9_write th c = some r) (hK : K (some (vI r.1)) (hp Φ hb M sh r.2)) : gw_Con Φ mX9_write none [.ref (M + th)] (hp Φ hb M sh c) K := by
  unfold f_X9_write at H
  refine gw_start okX9_write (Nat.le_of_ble_eq_true rfl) ?_
  refine gw_aload_n dX9_write_0 rfl rfl ?_
  obtain ⟨v2, c1, e_c1, H⟩ := cl_i H
  refine gw_V0 okX9_writesProblem dX9_write_1 kw_1643 kw_1645 kw_73 (hp_o (h0.1)) rfl ⟨by decide, by decide⟩ ⟨by decide, by decide⟩ (Nat.le_of_ble_eq_true rfl) (w_X9_writesProblem (h0) e_c1 ?_)
  refine gw_aload_n dX9_write_4 rfl rfl ?_
  refine gw_aload_n dX9_write_5 rfl rfl ?_
  refine gs_getI cl9 22 22 dX9_write_6 rfl kw_1341 (by decide) (h0.1) rfl rfl ?_
  refine gw_bipushZ dX9_write_9 rfl (by decide) ?_
  obtain ⟨g, H⟩ := gd_i H
  obtain ⟨k3, e_k3, H⟩ := jn_i H
  have hJ_k3 : ∀ (v4 : Int), k3 v4 = some r → G Φ mX9_write (gw_M Φ mX9_write K) none 0 0 19 [(0, .ref (M + th))] [vI v4, .ref (M + th)] (hp Φ hb M sh c1) := by
    intro v4 H
    subst e_k3
    obtain ⟨v5, c6, e_c6, H⟩ := cl_i H
    refine gw_V1 okX9_holds dX9_write_19 kw_1416 kw_1418 kw_33 (hp_o (h0.1)) rfl ⟨by decide, by decide⟩ ⟨by decide, by decide⟩ (Nat.le_of_ble_eq_true rfl) (w_X9_holds (h0) e_c6 ?_)
    obtain ⟨g, H⟩ := gd_i H
    refine gw_if_neZ (tgt := 27) dX9_write_22 rfl (by decide) g (fun q => ?_) (fun q => ?_)
    · have H := bq_f q H
      refine gw_iconstZ dX9_write_27 rfl ?_
      refine gw_istore_n dX9_write_28 rfl (by decide) ?_
      refine gw_L (l_X9_write_29 h0 hK (fun c7 H => ?_) LF _ _ H) ((lvA_c rfl (lvA_c rfl lvA_n)))
      refine gw_aload_n dX9_write_55 rfl rfl ?_
      refine gw_aload_n dX9_write_56 rfl rfl ?_
      refine gs_getI cl9 22 22 dX9_write_57 rfl kw_1341 (by decide) (h0.1) rfl rfl ?_
      obtain ⟨c8, e_c8, H⟩ := sto_i H
      refine gs_putIE cl9 8 8 dX9_write_60 rfl kw_1327 (by decide) rfl rfl (h0.1) rfl rfl e_c8 ?_
      refine gw_aload_n dX9_write_63 rfl rfl ?_
      refine gs_getI cl9 8 8 dX9_write_64 rfl kw_1327 (by decide) (h0.1) rfl rfl ?_
      cases H
      exact gw_iret dX9_write_67 rfl (by decide) (by decide) hK
    · have H := bq_t q H
      refine gw_iconstZ dX9_write_25 rfl ?_
      cases H
      exact gw_iret dX9_write_26 rfl (by decide) (by decide) hK
  refine gw_icmp_leZ (tgt := 18) dX9_write_11 rfl (by decide) g (by decide) (fun q => ?_) (fun q => ?_)
  · have H := bq_t q H
    refine gw_iconstZ dX9_write_18 rfl ?_
    exact gw_L (hJ_k3 _ H) ((lvA_c rfl lvA_n))
  · have H := bq_f q H
    refine gw_iconstZ dX9_write_14 rfl ?_
    refine gw_goto (tgt := 19) dX9_write_15 (by decide) ?_
    exact gw_L (hJ_k3 _ H) ((lvA_c rfl lvA_n))
set_option maxRecDepth 100000 in
set_option maxHeartbeats 4000000 in
theorem l_X9_undo_33 {Φ : gwC} {hb : gwHp} {M : Nat} {sh : Nat → Option gSh} {th : Nat} {κ : W0 → Option (Int × W0)} {r : Int × W0} {K : Option Value → gwHp → Prop} (h0 : sM sh th) (hK : K (some (vI r.1)) (hp Φ hb M sh r.2)) (hκ : ∀ (c : W0), κ c = some r → G Φ mX9_undo (gw_M Φ mX9_undo K) none 0 0 65 [(0, .ref (M + th))] [] (hp Φ hb M sh c)) : ∀ (n : Nat) (l1 : Int) (c : W0), f_X9_undo_33 th κ n l1 c = some r → G Φ mX9_undo (gw_M Φ mX9_undo K) none 0 0 33 [(0, .ref (M + th)), (1, vI l1)] [] (hp Φ hb M sh c) := by
  intro n
  induction n with
  | zero => intro l1 c H; cases H
  | succ n ih =>
    intro l1 c H
    have H : b_X9_undo_33 th κ (f_X9_undo_33 th κ n) l1 c = some r := H
    unfold b_X9_undo_33 at H
    refine gw_iload_n dX9_undo_33 rfl rfl ?_
    refine gw_bipushZ dX9_undo_34 rfl (by decide) ?_
    obtain ⟨g, H⟩ := gd_i H
    refine gw_icmp_geZ (tgt := 65) dX9_undo_36 rfl (by decide) g (by decide) (fun q => ?_) (fun q => ?_)
    · have H := bq_t q H
      exact gw_L (hκ _ H) ((lvA_c rfl lvA_n))
    · have H := bq_f q H
      refine gw_aload_n dX9_undo_39 rfl rfl ?_
      refine gs_getR cl9 1 dX9_undo_40 rfl kw_1320 (by decide) (h0.1) rfl ?_
      refine gw_iload_n dX9_undo_43 rfl rfl ?_
      refine gw_aload_n dX9_undo_44 rfl rfl ?_
      refine gs_getR cl9 3 dX9_undo_45 rfl kw_1322 (by decide) (h0.1) rfl ?_
      refine gw_bipushZ dX9_undo_48 rfl (by decide) ?_
      refine gw_aload_n dX9_undo_50 rfl rfl ?_
      refine gs_getI cl9 4 4 dX9_undo_51 rfl kw_1323 (by decide) (h0.1) rfl rfl ?_
      refine gw_imulZ dX9_undo_54 rfl ?_
      refine gw_iload_n dX9_undo_55 rfl rfl ?_
      refine gw_iaddZ dX9_undo_56 rfl ?_
      obtain ⟨g, H⟩ := gd_i H
      refine gs_ialdZ dX9_undo_57 rfl (h0.2.2.2.1) g (by decide) ?_
      obtain ⟨g, H⟩ := gd_i H
      obtain ⟨c1, e_c1, H⟩ := sto_i H
      refine gs_iastZE dX9_undo_58 rfl (h0.2.1) g (by decide) e_c1 ?_
      refine gw_iincZ dX9_undo_59 rfl rfl (by decide) ?_
      refine gw_goto (tgt := 33) dX9_undo_62 (by decide) ?_
      exact gw_L (ih _ _ H) ((lvA_c rfl (lvA_c rfl lvA_n)))
set_option maxRecDepth 100000 in
set_option maxHeartbeats 4000000 in
theorem w_X9_undo {Φ : gwC} {hb : gwHp} {M : Nat} {sh : Nat → Option gSh} {th : Nat} {c : W0} {r : Int × W0} {K : Option Value → gwHp → Prop} (h0 : sM sh th) (H : f_X9_undo th c = some r) (hK : K (some (vI r.1)) (hp Φ hb M sh r.2)) : gw_Con Φ mX9_undo none [.ref (M + th)] (hp Φ hb M sh c) K := by
  unfold f_X9_undo at H
  refine gw_start okX9_undo (Nat.le_of_ble_eq_true rfl) ?_
  refine gw_aload_n dX9_undo_0 rfl rfl ?_
  refine gw_aload_n dX9_undo_1 rfl rfl ?_
  refine gs_getI cl9 4 4 dX9_undo_2 rfl kw_1323 (by decide) (h0.1) rfl rfl ?_
  obtain ⟨g, H⟩ := gd_i H
  obtain ⟨k1, e_k1, H⟩ := jn_i H
  have hJ_k1 : ∀ (v2 : Int), k1 v2 = some r → G Φ mX9_undo (gw_M Φ mX9_undo K) none 0 0 13 [(0, .ref (M + th))] [vI v2, .ref (M + th)] (hp Φ hb M sh c) := by
    intro v2 H
    subst e_k1
    obtain ⟨v3, c4, e_c4, H⟩ := cl_i H
    refine gw_V1 okX9_holds dX9_undo_13 kw_1416 kw_1418 kw_33 (hp_o (h0.1)) rfl ⟨by decide, by decide⟩ ⟨by decide, by decide⟩ (Nat.le_of_ble_eq_true rfl) (w_X9_holds (h0) e_c4 ?_)
    obtain ⟨g, H⟩ := gd_i H
    refine gw_if_neZ (tgt := 21) dX9_undo_16 rfl (by decide) g (fun q => ?_) (fun q => ?_)
    · have H := bq_f q H
      refine gw_aload_n dX9_undo_21 rfl rfl ?_
      refine gw_dup dX9_undo_22 rfl rfl ?_
      refine gs_getI cl9 4 4 dX9_undo_23 rfl kw_1323 (by decide) (h0.1) rfl rfl ?_
      refine gw_iconstZ dX9_undo_26 rfl ?_
      refine gw_isubZ dX9_undo_27 rfl ?_
      obtain ⟨c5, e_c5, H⟩ := sto_i H
      refine gs_putIE cl9 4 4 dX9_undo_28 rfl kw_1323 (by decide) rfl rfl (h0.1) rfl rfl e_c5 ?_
      refine gw_iconstZ dX9_undo_31 rfl ?_
      refine gw_istore_n dX9_undo_32 rfl (by decide) ?_
      refine gw_L (l_X9_undo_33 h0 hK (fun c6 H => ?_) LF _ _ H) ((lvA_c rfl (lvA_c rfl lvA_n)))
      refine gw_aload_n dX9_undo_65 rfl rfl ?_
      refine gs_getI cl9 4 4 dX9_undo_66 rfl kw_1323 (by decide) (h0.1) rfl rfl ?_
      cases H
      exact gw_iret dX9_undo_69 rfl (by decide) (by decide) hK
    · have H := bq_t q H
      refine gw_iconstZ dX9_undo_19 rfl ?_
      cases H
      exact gw_iret dX9_undo_20 rfl (by decide) (by decide) hK
  refine gw_if_leZ (tgt := 12) dX9_undo_5 rfl (by decide) g (fun q => ?_) (fun q => ?_)
  · have H := bq_t q H
    refine gw_iconstZ dX9_undo_12 rfl ?_
    exact gw_L (hJ_k1 _ H) ((lvA_c rfl lvA_n))
  · have H := bq_f q H
    refine gw_iconstZ dX9_undo_8 rfl ?_
    refine gw_goto (tgt := 13) dX9_undo_9 (by decide) ?_
    exact gw_L (hJ_k1 _ H) ((lvA_c rfl lvA_n))
set_option maxRecDepth 100000 in
set_option maxHeartbeats 4000000 in
theorem l_X9_keep_7 {Φ : gwC} {hb : gwHp} {M : Nat} {sh : Nat → Option gSh} {th : Nat} {κ : W0 → Option (Int × W0)} {r : Int × W0} {K : Option Value → gwHp → Prop} (h0 : sM sh th) (hK : K (some (vI r.1)) (hp Φ hb M sh r.2)) (hκ : ∀ (c : W0), κ c = some r → G Φ mX9_keep (gw_M Φ mX9_keep K) none 0 0 31 [(0, .ref (M + th))] [] (hp Φ hb M sh c)) : ∀ (n : Nat) (l1 : Int) (c : W0), f_X9_keep_7 th κ n l1 c = some r → G Φ mX9_keep (gw_M Φ mX9_keep K) none 0 0 7 [(0, .ref (M + th)), (1, vI l1)] [] (hp Φ hb M sh c) := by
  intro n
  induction n with
  | zero => intro l1 c H; cases H
  | succ n ih =>
    intro l1 c H
    have H : b_X9_keep_7 th κ (f_X9_keep_7 th κ n) l1 c = some r := H
    unfold b_X9_keep_7 at H
    refine gw_iload_n dX9_keep_7 rfl rfl ?_
    refine gw_bipushZ dX9_keep_8 rfl (by decide) ?_
    obtain ⟨g, H⟩ := gd_i H
    refine gw_icmp_geZ (tgt := 31) dX9_keep_10 rfl (by decide) g (by decide) (fun q => ?_) (fun q => ?_)
    · have H := bq_t q H
      exact gw_L (hκ _ H) ((lvA_c rfl lvA_n))
    · have H := bq_f q H
      refine gw_aload_n dX9_keep_13 rfl rfl ?_
      refine gs_getR cl9 5 dX9_keep_14 rfl kw_1324 (by decide) (h0.1) rfl ?_
      refine gw_iload_n dX9_keep_17 rfl rfl ?_
      refine gw_aload_n dX9_keep_18 rfl rfl ?_
      refine gs_getR cl9 1 dX9_keep_19 rfl kw_1320 (by decide) (h0.1) rfl ?_
      refine gw_iload_n dX9_keep_22 rfl rfl ?_
      obtain ⟨g, H⟩ := gd_i H
      refine gs_ialdZ dX9_keep_23 rfl (h0.2.1) g (by decide) ?_
      obtain ⟨g, H⟩ := gd_i H
      obtain ⟨c1, e_c1, H⟩ := sto_i H
      refine gs_iastZE dX9_keep_24 rfl (h0.2.2.2.2.1) g (by decide) e_c1 ?_
      refine gw_iincZ dX9_keep_25 rfl rfl (by decide) ?_
      refine gw_goto (tgt := 7) dX9_keep_28 (by decide) ?_
      exact gw_L (ih _ _ H) ((lvA_c rfl (lvA_c rfl lvA_n)))
set_option maxRecDepth 100000 in
set_option maxHeartbeats 4000000 in
theorem w_X9_keep {Φ : gwC} {hb : gwHp} {M : Nat} {sh : Nat → Option gSh} {th : Nat} {c : W0} {r : Int × W0} {K : Option Value → gwHp → Prop} (h0 : sM sh th) (H : f_X9_keep th c = some r) (hK : K (some (vI r.1)) (hp Φ hb M sh r.2)) : gw_Con Φ mX9_keep none [.ref (M + th)] (hp Φ hb M sh c) K := by
  unfold f_X9_keep at H
  refine gw_start okX9_keep (Nat.le_of_ble_eq_true rfl) ?_
  refine gw_aload_n dX9_keep_0 rfl rfl ?_
  refine gw_iconstZ dX9_keep_1 rfl ?_
  obtain ⟨c1, e_c1, H⟩ := sto_i H
  refine gs_putIE cl9 0 0 dX9_keep_2 rfl kw_1319 (by decide) rfl rfl (h0.1) rfl rfl e_c1 ?_
  refine gw_iconstZ dX9_keep_5 rfl ?_
  refine gw_istore_n dX9_keep_6 rfl (by decide) ?_
  refine gw_L (l_X9_keep_7 h0 hK (fun c2 H => ?_) LF _ _ H) ((lvA_c rfl (lvA_c rfl lvA_n)))
  refine gw_aload_n dX9_keep_31 rfl rfl ?_
  refine gw_iconstZ dX9_keep_32 rfl ?_
  obtain ⟨c3, e_c3, H⟩ := sto_i H
  refine gs_putZE cl9 6 6 dX9_keep_33 rfl kw_1325 (by decide) rfl rfl (h0.1) rfl rfl (by decide) e_c3 ?_
  refine gw_aload_n dX9_keep_36 rfl rfl ?_
  refine gs_getR cl9 1 dX9_keep_37 rfl kw_1320 (by decide) (h0.1) rfl ?_
  refine gw_bipushZ dX9_keep_40 rfl (by decide) ?_
  refine gs_ialdZ dX9_keep_42 rfl (h0.2.1) (by decide) (by decide) ?_
  cases H
  exact gw_iret dX9_keep_43 rfl (by decide) (by decide) hK
set_option maxRecDepth 100000 in
set_option maxHeartbeats 4000000 in
theorem l_X9_restore_27 {Φ : gwC} {hb : gwHp} {M : Nat} {sh : Nat → Option gSh} {th : Nat} {κ : W0 → Option (Int × W0)} {r : Int × W0} {K : Option Value → gwHp → Prop} (h0 : sM sh th) (hK : K (some (vI r.1)) (hp Φ hb M sh r.2)) (hκ : ∀ (c : W0), κ c = some r → G Φ mX9_restore (gw_M Φ mX9_restore K) none 0 0 51 [(0, .ref (M + th))] [] (hp Φ hb M sh c)) : ∀ (n : Nat) (l1 : Int) (c : W0), f_X9_restore_27 th κ n l1 c = some r → G Φ mX9_restore (gw_M Φ mX9_restore K) none 0 0 27 [(0, .ref (M + th)), (1, vI l1)] [] (hp Φ hb M sh c) := by
  intro n
  induction n with
  | zero => intro l1 c H; cases H
  | succ n ih =>
    intro l1 c H
    have H : b_X9_restore_27 th κ (f_X9_restore_27 th κ n) l1 c = some r := H
    unfold b_X9_restore_27 at H
    refine gw_iload_n dX9_restore_27 rfl rfl ?_
    refine gw_bipushZ dX9_restore_28 rfl (by decide) ?_
    obtain ⟨g, H⟩ := gd_i H
    refine gw_icmp_geZ (tgt := 51) dX9_restore_30 rfl (by decide) g (by decide) (fun q => ?_) (fun q => ?_)
    · have H := bq_t q H
      exact gw_L (hκ _ H) ((lvA_c rfl lvA_n))
    · have H := bq_f q H
      refine gw_aload_n dX9_restore_33 rfl rfl ?_
      refine gs_getR cl9 1 dX9_restore_34 rfl kw_1320 (by decide) (h0.1) rfl ?_
      refine gw_iload_n dX9_restore_37 rfl rfl ?_
      refine gw_aload_n dX9_restore_38 rfl rfl ?_
      refine gs_getR cl9 5 dX9_restore_39 rfl kw_1324 (by decide) (h0.1) rfl ?_
      refine gw_iload_n dX9_restore_42 rfl rfl ?_
      obtain ⟨g, H⟩ := gd_i H
      refine gs_ialdZ dX9_restore_43 rfl (h0.2.2.2.2.1) g (by decide) ?_
      obtain ⟨g, H⟩ := gd_i H
      obtain ⟨c1, e_c1, H⟩ := sto_i H
      refine gs_iastZE dX9_restore_44 rfl (h0.2.1) g (by decide) e_c1 ?_
      refine gw_iincZ dX9_restore_45 rfl rfl (by decide) ?_
      refine gw_goto (tgt := 27) dX9_restore_48 (by decide) ?_
      exact gw_L (ih _ _ H) ((lvA_c rfl (lvA_c rfl lvA_n)))
set_option maxRecDepth 100000 in
set_option maxHeartbeats 4000000 in
theorem w_X9_restore {Φ : gwC} {hb : gwHp} {M : Nat} {sh : Nat → Option gSh} {th : Nat} {c : W0} {r : Int × W0} {K : Option Value → gwHp → Prop} (h0 : sM sh th) (H : f_X9_restore th c = some r) (hK : K (some (vI r.1)) (hp Φ hb M sh r.2)) : gw_Con Φ mX9_restore none [.ref (M + th)] (hp Φ hb M sh c) K := by
  unfold f_X9_restore at H
  refine gw_start okX9_restore (Nat.le_of_ble_eq_true rfl) ?_
  refine gw_aload_n dX9_restore_0 rfl rfl ?_
  refine gw_aload_n dX9_restore_1 rfl rfl ?_
  refine gs_getI cl9 6 6 dX9_restore_2 rfl kw_1325 (by decide) (h0.1) rfl rfl ?_
  obtain ⟨g, H⟩ := gd_i H
  obtain ⟨k1, e_k1, H⟩ := jn_i H
  have hJ_k1 : ∀ (v2 : Int), k1 v2 = some r → G Φ mX9_restore (gw_M Φ mX9_restore K) none 0 0 13 [(0, .ref (M + th))] [vI v2, .ref (M + th)] (hp Φ hb M sh c) := by
    intro v2 H
    subst e_k1
    obtain ⟨v3, c4, e_c4, H⟩ := cl_i H
    refine gw_V1 okX9_holds dX9_restore_13 kw_1416 kw_1418 kw_33 (hp_o (h0.1)) rfl ⟨by decide, by decide⟩ ⟨by decide, by decide⟩ (Nat.le_of_ble_eq_true rfl) (w_X9_holds (h0) e_c4 ?_)
    obtain ⟨g, H⟩ := gd_i H
    refine gw_if_neZ (tgt := 21) dX9_restore_16 rfl (by decide) g (fun q => ?_) (fun q => ?_)
    · have H := bq_f q H
      refine gw_aload_n dX9_restore_21 rfl rfl ?_
      obtain ⟨v6, c5, e_c5, H⟩ := cl_i H
      refine gw_V0 okX9_save dX9_restore_22 kw_1420 kw_1422 kw_34 (hp_o (h0.1)) rfl ⟨by decide, by decide⟩ ⟨by decide, by decide⟩ (Nat.le_of_ble_eq_true rfl) (w_X9_save (h0) e_c5 ?_)
      refine gw_iconstZ dX9_restore_25 rfl ?_
      refine gw_istore_n dX9_restore_26 rfl (by decide) ?_
      refine gw_L (l_X9_restore_27 h0 hK (fun c7 H => ?_) LF _ _ H) ((lvA_c rfl (lvA_c rfl lvA_n)))
      refine gw_aload_n dX9_restore_51 rfl rfl ?_
      refine gs_getR cl9 1 dX9_restore_52 rfl kw_1320 (by decide) (h0.1) rfl ?_
      refine gw_bipushZ dX9_restore_55 rfl (by decide) ?_
      refine gs_ialdZ dX9_restore_57 rfl (h0.2.1) (by decide) (by decide) ?_
      cases H
      exact gw_iret dX9_restore_58 rfl (by decide) (by decide) hK
    · have H := bq_t q H
      refine gw_iconstZ dX9_restore_19 rfl ?_
      cases H
      exact gw_iret dX9_restore_20 rfl (by decide) (by decide) hK
  refine gw_if_eqZ (tgt := 12) dX9_restore_5 rfl (by decide) g (fun q => ?_) (fun q => ?_)
  · have H := bq_t q H
    refine gw_iconstZ dX9_restore_12 rfl ?_
    exact gw_L (hJ_k1 _ H) ((lvA_c rfl lvA_n))
  · have H := bq_f q H
    refine gw_iconstZ dX9_restore_8 rfl ?_
    refine gw_goto (tgt := 13) dX9_restore_9 (by decide) ?_
    exact gw_L (hJ_k1 _ H) ((lvA_c rfl lvA_n))
set_option maxRecDepth 100000 in
set_option maxHeartbeats 4000000 in
theorem w_X9_savedStates {Φ : gwC} {hb : gwHp} {M : Nat} {sh : Nat → Option gSh} {th : Nat} {c : W0} {r : Int × W0} {K : Option Value → gwHp → Prop} (h0 : sM sh th) (H : f_X9_savedStates th c = some r) (hK : K (some (vI r.1)) (hp Φ hb M sh r.2)) : gw_Con Φ mX9_savedStates none [.ref (M + th)] (hp Φ hb M sh c) K := by
  unfold f_X9_savedStates at H
  refine gw_start okX9_savedStates (Nat.le_of_ble_eq_true rfl) ?_
  refine gw_aload_n dX9_savedStates_0 rfl rfl ?_
  refine gw_iconstZ dX9_savedStates_1 rfl ?_
  obtain ⟨c1, e_c1, H⟩ := sto_i H
  refine gs_putIE cl9 0 0 dX9_savedStates_2 rfl kw_1319 (by decide) rfl rfl (h0.1) rfl rfl e_c1 ?_
  refine gw_aload_n dX9_savedStates_5 rfl rfl ?_
  refine gs_getI cl9 4 4 dX9_savedStates_6 rfl kw_1323 (by decide) (h0.1) rfl rfl ?_
  cases H
  exact gw_iret dX9_savedStates_9 rfl (by decide) (by decide) hK
set_option maxRecDepth 100000 in
set_option maxHeartbeats 4000000 in
theorem w_X9_variables {Φ : gwC} {hb : gwHp} {M : Nat} {sh : Nat → Option gSh} {th : Nat} {c : W0} {r : Int × W0} {K : Option Value → gwHp → Prop} (h0 : sM sh th) (H : f_X9_variables th c = some r) (hK : K (some (vI r.1)) (hp Φ hb M sh r.2)) : gw_Con Φ mX9_variables none [.ref (M + th)] (hp Φ hb M sh c) K := by
  unfold f_X9_variables at H
  refine gw_start okX9_variables (Nat.le_of_ble_eq_true rfl) ?_
  refine gw_aload_n dX9_variables_0 rfl rfl ?_
  refine gw_iconstZ dX9_variables_1 rfl ?_
  obtain ⟨c1, e_c1, H⟩ := sto_i H
  refine gs_putIE cl9 0 0 dX9_variables_2 rfl kw_1319 (by decide) rfl rfl (h0.1) rfl rfl e_c1 ?_
  refine gw_aload_n dX9_variables_5 rfl rfl ?_
  refine gs_getR cl9 1 dX9_variables_6 rfl kw_1320 (by decide) (h0.1) rfl ?_
  refine gw_iconstZ dX9_variables_9 rfl ?_
  refine gs_ialdZ dX9_variables_10 rfl (h0.2.1) (by decide) (by decide) ?_
  cases H
  exact gw_iret dX9_variables_11 rfl (by decide) (by decide) hK
set_option maxRecDepth 100000 in
set_option maxHeartbeats 4000000 in
theorem w_X9_constraints {Φ : gwC} {hb : gwHp} {M : Nat} {sh : Nat → Option gSh} {th : Nat} {c : W0} {r : Int × W0} {K : Option Value → gwHp → Prop} (h0 : sM sh th) (H : f_X9_constraints th c = some r) (hK : K (some (vI r.1)) (hp Φ hb M sh r.2)) : gw_Con Φ mX9_constraints none [.ref (M + th)] (hp Φ hb M sh c) K := by
  unfold f_X9_constraints at H
  refine gw_start okX9_constraints (Nat.le_of_ble_eq_true rfl) ?_
  refine gw_aload_n dX9_constraints_0 rfl rfl ?_
  refine gw_iconstZ dX9_constraints_1 rfl ?_
  obtain ⟨c1, e_c1, H⟩ := sto_i H
  refine gs_putIE cl9 0 0 dX9_constraints_2 rfl kw_1319 (by decide) rfl rfl (h0.1) rfl rfl e_c1 ?_
  refine gw_aload_n dX9_constraints_5 rfl rfl ?_
  refine gs_getR cl9 1 dX9_constraints_6 rfl kw_1320 (by decide) (h0.1) rfl ?_
  refine gw_iconstZ dX9_constraints_9 rfl ?_
  refine gs_ialdZ dX9_constraints_10 rfl (h0.2.1) (by decide) (by decide) ?_
  cases H
  exact gw_iret dX9_constraints_11 rfl (by decide) (by decide) hK
set_option maxRecDepth 100000 in
set_option maxHeartbeats 4000000 in
theorem w_X9_profitOf {Φ : gwC} {hb : gwHp} {M : Nat} {sh : Nat → Option gSh} {th : Nat} {p1 : Int} {c : W0} {r : Int × W0} {K : Option Value → gwHp → Prop} (h0 : sM sh th) (H : f_X9_profitOf th p1 c = some r) (hK : K (some (vI r.1)) (hp Φ hb M sh r.2)) : gw_Con Φ mX9_profitOf none [.ref (M + th), vI p1] (hp Φ hb M sh c) K := by
  unfold f_X9_profitOf at H
  refine gw_start okX9_profitOf (Nat.le_of_ble_eq_true rfl) ?_
  refine gw_aload_n dX9_profitOf_0 rfl rfl ?_
  refine gw_aload_n dX9_profitOf_1 rfl rfl ?_
  refine gw_iload_n dX9_profitOf_2 rfl rfl ?_
  obtain ⟨v1, e_v1, H⟩ := cv_i H
  refine gw_V1 okX9_isVariable dX9_profitOf_3 kw_1432 kw_1434 kw_36 (hp_o (h0.1)) rfl ⟨by decide, by decide⟩ ⟨by decide, by decide⟩ (Nat.le_of_ble_eq_true rfl) (w_X9_isVariable (h0) e_v1 ?_)
  obtain ⟨g, H⟩ := gd_i H
  obtain ⟨k2, e_k2, H⟩ := jn_i H
  have hJ_k2 : ∀ (v3 : Int), k2 v3 = some r → G Φ mX9_profitOf (gw_M Φ mX9_profitOf K) none 0 0 14 [(0, .ref (M + th)), (1, vI p1)] [vI v3, .ref (M + th)] (hp Φ hb M sh c) := by
    intro v3 H
    subst e_k2
    obtain ⟨v4, c5, e_c5, H⟩ := cl_i H
    refine gw_V1 okX9_holds dX9_profitOf_14 kw_1416 kw_1418 kw_33 (hp_o (h0.1)) rfl ⟨by decide, by decide⟩ ⟨by decide, by decide⟩ (Nat.le_of_ble_eq_true rfl) (w_X9_holds (h0) e_c5 ?_)
    obtain ⟨g, H⟩ := gd_i H
    refine gw_if_eqZ (tgt := 31) dX9_profitOf_17 rfl (by decide) g (fun q => ?_) (fun q => ?_)
    · have H := bq_t q H
      refine gw_iconstZ dX9_profitOf_31 rfl ?_
      cases H
      exact gw_iret dX9_profitOf_32 rfl (by decide) (by decide) hK
    · have H := bq_f q H
      refine gw_aload_n dX9_profitOf_20 rfl rfl ?_
      refine gs_getR cl9 1 dX9_profitOf_21 rfl kw_1320 (by decide) (h0.1) rfl ?_
      refine gw_iconstZ dX9_profitOf_24 rfl ?_
      refine gw_iload_n dX9_profitOf_25 rfl rfl ?_
      refine gw_iaddZ dX9_profitOf_26 rfl ?_
      obtain ⟨g, H⟩ := gd_i H
      refine gs_ialdZ dX9_profitOf_27 rfl (h0.2.1) g (by decide) ?_
      refine gw_goto (tgt := 32) dX9_profitOf_28 (by decide) ?_
      cases H
      exact gw_iret dX9_profitOf_32 rfl (by decide) (by decide) hK
  refine gw_if_eqZ (tgt := 13) dX9_profitOf_6 rfl (by decide) g (fun q => ?_) (fun q => ?_)
  · have H := bq_t q H
    refine gw_iconstZ dX9_profitOf_13 rfl ?_
    exact gw_L (hJ_k2 _ H) ((lvA_c rfl (lvA_c rfl lvA_n)))
  · have H := bq_f q H
    refine gw_iconstZ dX9_profitOf_9 rfl ?_
    refine gw_goto (tgt := 14) dX9_profitOf_10 (by decide) ?_
    exact gw_L (hJ_k2 _ H) ((lvA_c rfl (lvA_c rfl lvA_n)))
set_option maxRecDepth 100000 in
set_option maxHeartbeats 4000000 in
theorem w_X9_coefficientOf {Φ : gwC} {hb : gwHp} {M : Nat} {sh : Nat → Option gSh} {th : Nat} {p1 : Int} {p2 : Int} {c : W0} {r : Int × W0} {K : Option Value → gwHp → Prop} (h0 : sM sh th) (H : f_X9_coefficientOf th p1 p2 c = some r) (hK : K (some (vI r.1)) (hp Φ hb M sh r.2)) : gw_Con Φ mX9_coefficientOf none [.ref (M + th), vI p1, vI p2] (hp Φ hb M sh c) K := by
  unfold f_X9_coefficientOf at H
  refine gw_start okX9_coefficientOf (Nat.le_of_ble_eq_true rfl) ?_
  refine gw_aload_n dX9_coefficientOf_0 rfl rfl ?_
  refine gw_aload_n dX9_coefficientOf_1 rfl rfl ?_
  refine gw_iload_n dX9_coefficientOf_2 rfl rfl ?_
  obtain ⟨v1, e_v1, H⟩ := cv_i H
  refine gw_V1 okX9_isConstraint dX9_coefficientOf_3 kw_1448 kw_1450 kw_38 (hp_o (h0.1)) rfl ⟨by decide, by decide⟩ ⟨by decide, by decide⟩ (Nat.le_of_ble_eq_true rfl) (w_X9_isConstraint (h0) e_v1 ?_)
  obtain ⟨g, H⟩ := gd_i H
  obtain ⟨k2, e_k2, H⟩ := jn_i H
  have hJ_k2 : ∀ (u3 : Unit), k2 u3 = some r → G Φ mX9_coefficientOf (gw_M Φ mX9_coefficientOf K) none 0 0 21 [(0, .ref (M + th)), (1, vI p1), (2, vI p2)] [.ref (M + th)] (hp Φ hb M sh c) := by
    intro u3 H
    subst e_k2
    refine gw_iconstZ dX9_coefficientOf_21 rfl ?_
    obtain ⟨v4, c5, e_c5, H⟩ := cl_i H
    refine gw_V1 okX9_holds dX9_coefficientOf_22 kw_1416 kw_1418 kw_33 (hp_o (h0.1)) rfl ⟨by decide, by decide⟩ ⟨by decide, by decide⟩ (Nat.le_of_ble_eq_true rfl) (w_X9_holds (h0) e_c5 ?_)
    obtain ⟨g, H⟩ := gd_i H
    refine gw_if_eqZ (tgt := 44) dX9_coefficientOf_25 rfl (by decide) g (fun q => ?_) (fun q => ?_)
    · have H := bq_t q H
      refine gw_iconstZ dX9_coefficientOf_44 rfl ?_
      cases H
      exact gw_iret dX9_coefficientOf_45 rfl (by decide) (by decide) hK
    · have H := bq_f q H
      refine gw_aload_n dX9_coefficientOf_28 rfl rfl ?_
      refine gs_getR cl9 1 dX9_coefficientOf_29 rfl kw_1320 (by decide) (h0.1) rfl ?_
      refine gw_bipushZ dX9_coefficientOf_32 rfl (by decide) ?_
      refine gw_iconstZ dX9_coefficientOf_34 rfl ?_
      refine gw_iload_n dX9_coefficientOf_35 rfl rfl ?_
      refine gw_imulZ dX9_coefficientOf_36 rfl ?_
      refine gw_iaddZ dX9_coefficientOf_37 rfl ?_
      refine gw_iload_n dX9_coefficientOf_38 rfl rfl ?_
      refine gw_iaddZ dX9_coefficientOf_39 rfl ?_
      obtain ⟨g, H⟩ := gd_i H
      refine gs_ialdZ dX9_coefficientOf_40 rfl (h0.2.1) g (by decide) ?_
      refine gw_goto (tgt := 45) dX9_coefficientOf_41 (by decide) ?_
      cases H
      exact gw_iret dX9_coefficientOf_45 rfl (by decide) (by decide) hK
  refine gw_if_eqZ (tgt := 21) dX9_coefficientOf_6 rfl (by decide) g (fun q => ?_) (fun q => ?_)
  · have H := bq_t q H
    exact gw_L (hJ_k2 _ H) ((lvA_c rfl (lvA_c rfl (lvA_c rfl lvA_n))))
  · have H := bq_f q H
    refine gw_aload_n dX9_coefficientOf_9 rfl rfl ?_
    refine gw_iload_n dX9_coefficientOf_10 rfl rfl ?_
    obtain ⟨v6, e_v6, H⟩ := cv_i H
    refine gw_V1 okX9_isVariable dX9_coefficientOf_11 kw_1432 kw_1434 kw_36 (hp_o (h0.1)) rfl ⟨by decide, by decide⟩ ⟨by decide, by decide⟩ (Nat.le_of_ble_eq_true rfl) (w_X9_isVariable (h0) e_v6 ?_)
    obtain ⟨g, H⟩ := gd_i H
    refine gw_if_eqZ (tgt := 21) dX9_coefficientOf_14 rfl (by decide) g (fun q => ?_) (fun q => ?_)
    · have H := bq_t q H
      exact gw_L (hJ_k2 _ H) ((lvA_c rfl (lvA_c rfl (lvA_c rfl lvA_n))))
    · have H := bq_f q H
      refine gw_iconstZ dX9_coefficientOf_17 rfl ?_
      refine gw_goto (tgt := 22) dX9_coefficientOf_18 (by decide) ?_
      obtain ⟨v7, c8, e_c8, H⟩ := cl_i H
      refine gw_V1 okX9_holds dX9_coefficientOf_22 kw_1416 kw_1418 kw_33 (hp_o (h0.1)) rfl ⟨by decide, by decide⟩ ⟨by decide, by decide⟩ (Nat.le_of_ble_eq_true rfl) (w_X9_holds (h0) e_c8 ?_)
      obtain ⟨g, H⟩ := gd_i H
      refine gw_if_eqZ (tgt := 44) dX9_coefficientOf_25 rfl (by decide) g (fun q => ?_) (fun q => ?_)
      · have H := bq_t q H
        refine gw_iconstZ dX9_coefficientOf_44 rfl ?_
        cases H
        exact gw_iret dX9_coefficientOf_45 rfl (by decide) (by decide) hK
      · have H := bq_f q H
        refine gw_aload_n dX9_coefficientOf_28 rfl rfl ?_
        refine gs_getR cl9 1 dX9_coefficientOf_29 rfl kw_1320 (by decide) (h0.1) rfl ?_
        refine gw_bipushZ dX9_coefficientOf_32 rfl (by decide) ?_
        refine gw_iconstZ dX9_coefficientOf_34 rfl ?_
        refine gw_iload_n dX9_coefficientOf_35 rfl rfl ?_
        refine gw_imulZ dX9_coefficientOf_36 rfl ?_
        refine gw_iaddZ dX9_coefficientOf_37 rfl ?_
        refine gw_iload_n dX9_coefficientOf_38 rfl rfl ?_
        refine gw_iaddZ dX9_coefficientOf_39 rfl ?_
        obtain ⟨g, H⟩ := gd_i H
        refine gs_ialdZ dX9_coefficientOf_40 rfl (h0.2.1) g (by decide) ?_
        refine gw_goto (tgt := 45) dX9_coefficientOf_41 (by decide) ?_
        cases H
        exact gw_iret dX9_coefficientOf_45 rfl (by decide) (by decide) hK
set_option maxRecDepth 100000 in
set_option maxHeartbeats 4000000 in
theorem w_X9_boundOf {Φ : gwC} {hb : gwHp} {M : Nat} {sh : Nat → Option gSh} {th : Nat} {p1 : Int} {c : W0} {r : Int × W0} {K : Option Value → gwHp → Prop} (h0 : sM sh th) (H : f_X9_boundOf th p1 c = some r) (hK : K (some (vI r.1)) (hp Φ hb M sh r.2)) : gw_Con Φ mX9_boundOf none [.ref (M + th), vI p1] (hp Φ hb M sh c) K := by
  unfold f_X9_boundOf at H
  refine gw_start okX9_boundOf (Nat.le_of_ble_eq_true rfl) ?_
  refine gw_aload_n dX9_boundOf_0 rfl rfl ?_
  refine gw_aload_n dX9_boundOf_1 rfl rfl ?_
  refine gw_iload_n dX9_boundOf_2 rfl rfl ?_
  obtain ⟨v1, e_v1, H⟩ := cv_i H
  refine gw_V1 okX9_isConstraint dX9_boundOf_3 kw_1448 kw_1450 kw_38 (hp_o (h0.1)) rfl ⟨by decide, by decide⟩ ⟨by decide, by decide⟩ (Nat.le_of_ble_eq_true rfl) (w_X9_isConstraint (h0) e_v1 ?_)
  obtain ⟨g, H⟩ := gd_i H
  obtain ⟨k2, e_k2, H⟩ := jn_i H
  have hJ_k2 : ∀ (v3 : Int), k2 v3 = some r → G Φ mX9_boundOf (gw_M Φ mX9_boundOf K) none 0 0 14 [(0, .ref (M + th)), (1, vI p1)] [vI v3, .ref (M + th)] (hp Φ hb M sh c) := by
    intro v3 H
    subst e_k2
    obtain ⟨v4, c5, e_c5, H⟩ := cl_i H
    refine gw_V1 okX9_holds dX9_boundOf_14 kw_1416 kw_1418 kw_33 (hp_o (h0.1)) rfl ⟨by decide, by decide⟩ ⟨by decide, by decide⟩ (Nat.le_of_ble_eq_true rfl) (w_X9_holds (h0) e_c5 ?_)
    obtain ⟨g, H⟩ := gd_i H
    refine gw_if_eqZ (tgt := 32) dX9_boundOf_17 rfl (by decide) g (fun q => ?_) (fun q => ?_)
    · have H := bq_t q H
      refine gw_iconstZ dX9_boundOf_32 rfl ?_
      cases H
      exact gw_iret dX9_boundOf_33 rfl (by decide) (by decide) hK
    · have H := bq_f q H
      refine gw_aload_n dX9_boundOf_20 rfl rfl ?_
      refine gs_getR cl9 1 dX9_boundOf_21 rfl kw_1320 (by decide) (h0.1) rfl ?_
      refine gw_bipushZ dX9_boundOf_24 rfl (by decide) ?_
      refine gw_iload_n dX9_boundOf_26 rfl rfl ?_
      refine gw_iaddZ dX9_boundOf_27 rfl ?_
      obtain ⟨g, H⟩ := gd_i H
      refine gs_ialdZ dX9_boundOf_28 rfl (h0.2.1) g (by decide) ?_
      refine gw_goto (tgt := 33) dX9_boundOf_29 (by decide) ?_
      cases H
      exact gw_iret dX9_boundOf_33 rfl (by decide) (by decide) hK
  refine gw_if_eqZ (tgt := 13) dX9_boundOf_6 rfl (by decide) g (fun q => ?_) (fun q => ?_)
  · have H := bq_t q H
    refine gw_iconstZ dX9_boundOf_13 rfl ?_
    exact gw_L (hJ_k2 _ H) ((lvA_c rfl (lvA_c rfl lvA_n)))
  · have H := bq_f q H
    refine gw_iconstZ dX9_boundOf_9 rfl ?_
    refine gw_goto (tgt := 14) dX9_boundOf_10 (by decide) ?_
    exact gw_L (hJ_k2 _ H) ((lvA_c rfl (lvA_c rfl lvA_n)))
set_option maxRecDepth 100000 in
set_option maxHeartbeats 4000000 in
theorem w_X9_rule {Φ : gwC} {hb : gwHp} {M : Nat} {sh : Nat → Option gSh} {th : Nat} {c : W0} {r : Int × W0} {K : Option Value → gwHp → Prop} (h0 : sM sh th) (H : f_X9_rule th c = some r) (hK : K (some (vI r.1)) (hp Φ hb M sh r.2)) : gw_Con Φ mX9_rule none [.ref (M + th)] (hp Φ hb M sh c) K := by
  unfold f_X9_rule at H
  refine gw_start okX9_rule (Nat.le_of_ble_eq_true rfl) ?_
  refine gw_aload_n dX9_rule_0 rfl rfl ?_
  refine gw_iconstZ dX9_rule_1 rfl ?_
  obtain ⟨c1, e_c1, H⟩ := sto_i H
  refine gs_putIE cl9 0 0 dX9_rule_2 rfl kw_1319 (by decide) rfl rfl (h0.1) rfl rfl e_c1 ?_
  refine gw_aload_n dX9_rule_5 rfl rfl ?_
  refine gs_getR cl9 1 dX9_rule_6 rfl kw_1320 (by decide) (h0.1) rfl ?_
  refine gw_bipushZ dX9_rule_9 rfl (by decide) ?_
  refine gs_ialdZ dX9_rule_11 rfl (h0.2.1) (by decide) (by decide) ?_
  cases H
  exact gw_iret dX9_rule_12 rfl (by decide) (by decide) hK
set_option maxRecDepth 100000 in
set_option maxHeartbeats 4000000 in
theorem w_X9_columnOf {Φ : gwC} {hb : gwHp} {M : Nat} {sh : Nat → Option gSh} {th : Nat} {p1 : Int} {c : W0} {r : Int × W0} {K : Option Value → gwHp → Prop} (h0 : sM sh th) (H : f_X9_columnOf th p1 c = some r) (hK : K (some (vI r.1)) (hp Φ hb M sh r.2)) : gw_Con Φ mX9_columnOf none [.ref (M + th), vI p1] (hp Φ hb M sh c) K := by
  unfold f_X9_columnOf at H
  refine gw_start okX9_columnOf (Nat.le_of_ble_eq_true rfl) ?_
  refine gw_aload_n dX9_columnOf_0 rfl rfl ?_
  refine gw_aload_n dX9_columnOf_1 rfl rfl ?_
  refine gw_iload_n dX9_columnOf_2 rfl rfl ?_
  obtain ⟨v1, e_v1, H⟩ := cv_i H
  refine gw_V1 okX9_isConstraint dX9_columnOf_3 kw_1448 kw_1450 kw_38 (hp_o (h0.1)) rfl ⟨by decide, by decide⟩ ⟨by decide, by decide⟩ (Nat.le_of_ble_eq_true rfl) (w_X9_isConstraint (h0) e_v1 ?_)
  obtain ⟨g, H⟩ := gd_i H
  obtain ⟨k2, e_k2, H⟩ := jn_i H
  have hJ_k2 : ∀ (v3 : Int), k2 v3 = some r → G Φ mX9_columnOf (gw_M Φ mX9_columnOf K) none 0 0 14 [(0, .ref (M + th)), (1, vI p1)] [vI v3, .ref (M + th)] (hp Φ hb M sh c) := by
    intro v3 H
    subst e_k2
    obtain ⟨v4, c5, e_c5, H⟩ := cl_i H
    refine gw_V1 okX9_holds dX9_columnOf_14 kw_1416 kw_1418 kw_33 (hp_o (h0.1)) rfl ⟨by decide, by decide⟩ ⟨by decide, by decide⟩ (Nat.le_of_ble_eq_true rfl) (w_X9_holds (h0) e_c5 ?_)
    obtain ⟨g, H⟩ := gd_i H
    refine gw_if_eqZ (tgt := 32) dX9_columnOf_17 rfl (by decide) g (fun q => ?_) (fun q => ?_)
    · have H := bq_t q H
      refine gw_iconstZ dX9_columnOf_32 rfl ?_
      cases H
      exact gw_iret dX9_columnOf_33 rfl (by decide) (by decide) hK
    · have H := bq_f q H
      refine gw_aload_n dX9_columnOf_20 rfl rfl ?_
      refine gs_getR cl9 1 dX9_columnOf_21 rfl kw_1320 (by decide) (h0.1) rfl ?_
      refine gw_bipushZ dX9_columnOf_24 rfl (by decide) ?_
      refine gw_iload_n dX9_columnOf_26 rfl rfl ?_
      refine gw_iaddZ dX9_columnOf_27 rfl ?_
      obtain ⟨g, H⟩ := gd_i H
      refine gs_ialdZ dX9_columnOf_28 rfl (h0.2.1) g (by decide) ?_
      refine gw_goto (tgt := 33) dX9_columnOf_29 (by decide) ?_
      cases H
      exact gw_iret dX9_columnOf_33 rfl (by decide) (by decide) hK
  refine gw_if_eqZ (tgt := 13) dX9_columnOf_6 rfl (by decide) g (fun q => ?_) (fun q => ?_)
  · have H := bq_t q H
    refine gw_iconstZ dX9_columnOf_13 rfl ?_
    exact gw_L (hJ_k2 _ H) ((lvA_c rfl (lvA_c rfl lvA_n)))
  · have H := bq_f q H
    refine gw_iconstZ dX9_columnOf_9 rfl ?_
    refine gw_goto (tgt := 14) dX9_columnOf_10 (by decide) ?_
    exact gw_L (hJ_k2 _ H) ((lvA_c rfl (lvA_c rfl lvA_n)))
set_option maxRecDepth 100000 in
set_option maxHeartbeats 4000000 in
theorem w_X9_isNamed {Φ : gwC} {hb : gwHp} {M : Nat} {sh : Nat → Option gSh} {th : Nat} {p1 : Int} {c : W0} {r : Int × W0} {K : Option Value → gwHp → Prop} (h0 : sM sh th) (H : f_X9_isNamed th p1 c = some r) (hK : K (some (vI r.1)) (hp Φ hb M sh r.2)) : gw_Con Φ mX9_isNamed none [.ref (M + th), vI p1] (hp Φ hb M sh c) K := by
  unfold f_X9_isNamed at H
  refine gw_start okX9_isNamed (Nat.le_of_ble_eq_true rfl) ?_
  refine gw_aload_n dX9_isNamed_0 rfl rfl ?_
  refine gw_aload_n dX9_isNamed_1 rfl rfl ?_
  refine gw_iload_n dX9_isNamed_2 rfl rfl ?_
  obtain ⟨v1, e_v1, H⟩ := cv_i H
  refine gw_V1 okX9_isColumn dX9_isNamed_3 kw_1472 kw_1474 kw_40 (hp_o (h0.1)) rfl ⟨by decide, by decide⟩ ⟨by decide, by decide⟩ (Nat.le_of_ble_eq_true rfl) (w_X9_isColumn (h0) e_v1 ?_)
  obtain ⟨g, H⟩ := gd_i H
  obtain ⟨k2, e_k2, H⟩ := jn_i H
  have hJ_k2 : ∀ (v3 : Int), k2 v3 = some r → G Φ mX9_isNamed (gw_M Φ mX9_isNamed K) none 0 0 14 [(0, .ref (M + th)), (1, vI p1)] [vI v3, .ref (M + th)] (hp Φ hb M sh c) := by
    intro v3 H
    subst e_k2
    obtain ⟨v4, c5, e_c5, H⟩ := cl_i H
    refine gw_V1 okX9_holds dX9_isNamed_14 kw_1416 kw_1418 kw_33 (hp_o (h0.1)) rfl ⟨by decide, by decide⟩ ⟨by decide, by decide⟩ (Nat.le_of_ble_eq_true rfl) (w_X9_holds (h0) e_c5 ?_)
    obtain ⟨g, H⟩ := gd_i H
    refine gw_if_eqZ (tgt := 32) dX9_isNamed_17 rfl (by decide) g (fun q => ?_) (fun q => ?_)
    · have H := bq_t q H
      refine gw_iconstZ dX9_isNamed_32 rfl ?_
      cases H
      exact gw_zret rfl dX9_isNamed_33 rfl (by decide) (by decide) hK
    · have H := bq_f q H
      refine gw_aload_n dX9_isNamed_20 rfl rfl ?_
      refine gw_iload_n dX9_isNamed_21 rfl rfl ?_
      obtain ⟨v6, e_v6, H⟩ := cv_i H
      refine gw_V1 okX9_isIn dX9_isNamed_22 kw_1515 kw_1517 kw_50 (hp_o (h0.1)) rfl ⟨by decide, by decide⟩ ⟨by decide, by decide⟩ (Nat.le_of_ble_eq_true rfl) (w_X9_isIn (h0) e_v6 ?_)
      obtain ⟨g, H⟩ := gd_i H
      refine gw_if_eqZ (tgt := 32) dX9_isNamed_25 rfl (by decide) g (fun q => ?_) (fun q => ?_)
      · have H := bq_t q H
        refine gw_iconstZ dX9_isNamed_32 rfl ?_
        cases H
        exact gw_zret rfl dX9_isNamed_33 rfl (by decide) (by decide) hK
      · have H := bq_f q H
        refine gw_iconstZ dX9_isNamed_28 rfl ?_
        refine gw_goto (tgt := 33) dX9_isNamed_29 (by decide) ?_
        cases H
        exact gw_zret rfl dX9_isNamed_33 rfl (by decide) (by decide) hK
  refine gw_if_eqZ (tgt := 13) dX9_isNamed_6 rfl (by decide) g (fun q => ?_) (fun q => ?_)
  · have H := bq_t q H
    refine gw_iconstZ dX9_isNamed_13 rfl ?_
    exact gw_L (hJ_k2 _ H) ((lvA_c rfl (lvA_c rfl lvA_n)))
  · have H := bq_f q H
    refine gw_iconstZ dX9_isNamed_9 rfl ?_
    refine gw_goto (tgt := 14) dX9_isNamed_10 (by decide) ?_
    exact gw_L (hJ_k2 _ H) ((lvA_c rfl (lvA_c rfl lvA_n)))
set_option maxRecDepth 100000 in
set_option maxHeartbeats 4000000 in
theorem w_X9_isOptimal {Φ : gwC} {hb : gwHp} {M : Nat} {sh : Nat → Option gSh} {th : Nat} {c : W0} {r : Int × W0} {K : Option Value → gwHp → Prop} (h0 : sM sh th) (H : f_X9_isOptimal th c = some r) (hK : K (some (vI r.1)) (hp Φ hb M sh r.2)) : gw_Con Φ mX9_isOptimal none [.ref (M + th)] (hp Φ hb M sh c) K := by
  unfold f_X9_isOptimal at H
  refine gw_start okX9_isOptimal (Nat.le_of_ble_eq_true rfl) ?_
  refine gw_aload_n dX9_isOptimal_0 rfl rfl ?_
  refine gw_iconstZ dX9_isOptimal_1 rfl ?_
  obtain ⟨c1, e_c1, H⟩ := sto_i H
  refine gs_putIE cl9 0 0 dX9_isOptimal_2 rfl kw_1319 (by decide) rfl rfl (h0.1) rfl rfl e_c1 ?_
  refine gw_aload_n dX9_isOptimal_5 rfl rfl ?_
  obtain ⟨v3, c2, e_c2, H⟩ := cl_i H
  refine gw_V0 okX9_laysNow dX9_isOptimal_6 kw_1484 kw_1486 kw_43 (hp_o (h0.1)) rfl ⟨by decide, by decide⟩ ⟨by decide, by decide⟩ (Nat.le_of_ble_eq_true rfl) (w_X9_laysNow (h0) e_c2 ?_)
  refine gw_aload_n dX9_isOptimal_9 rfl rfl ?_
  obtain ⟨v4, c5, e_c5, H⟩ := cl_i H
  refine gw_V0 okX9_isBest dX9_isOptimal_10 kw_1559 kw_1561 kw_60 (hp_o (h0.1)) rfl ⟨by decide, by decide⟩ ⟨by decide, by decide⟩ (Nat.le_of_ble_eq_true rfl) (w_X9_isBest (h0) e_c5 ?_)
  obtain ⟨g, H⟩ := gd_i H
  cases H
  exact gw_zret (gs_nz g) dX9_isOptimal_13 rfl (by decide) (by decide) hK
set_option maxRecDepth 100000 in
set_option maxHeartbeats 4000000 in
theorem w_X9_hasRay {Φ : gwC} {hb : gwHp} {M : Nat} {sh : Nat → Option gSh} {th : Nat} {c : W0} {r : Int × W0} {K : Option Value → gwHp → Prop} (h0 : sM sh th) (H : f_X9_hasRay th c = some r) (hK : K (some (vI r.1)) (hp Φ hb M sh r.2)) : gw_Con Φ mX9_hasRay none [.ref (M + th)] (hp Φ hb M sh c) K := by
  unfold f_X9_hasRay at H
  refine gw_start okX9_hasRay (Nat.le_of_ble_eq_true rfl) ?_
  refine gw_aload_n dX9_hasRay_0 rfl rfl ?_
  refine gw_iconstZ dX9_hasRay_1 rfl ?_
  obtain ⟨c1, e_c1, H⟩ := sto_i H
  refine gs_putIE cl9 0 0 dX9_hasRay_2 rfl kw_1319 (by decide) rfl rfl (h0.1) rfl rfl e_c1 ?_
  refine gw_aload_n dX9_hasRay_5 rfl rfl ?_
  obtain ⟨v3, c2, e_c2, H⟩ := cl_i H
  refine gw_V0 okX9_laysNow dX9_hasRay_6 kw_1484 kw_1486 kw_43 (hp_o (h0.1)) rfl ⟨by decide, by decide⟩ ⟨by decide, by decide⟩ (Nat.le_of_ble_eq_true rfl) (w_X9_laysNow (h0) e_c2 ?_)
  refine gw_aload_n dX9_hasRay_9 rfl rfl ?_
  obtain ⟨v4, c5, e_c5, H⟩ := cl_i H
  refine gw_V0 okX9_endless dX9_hasRay_10 kw_1563 kw_1565 kw_61 (hp_o (h0.1)) rfl ⟨by decide, by decide⟩ ⟨by decide, by decide⟩ (Nat.le_of_ble_eq_true rfl) (w_X9_endless (h0) e_c5 ?_)
  obtain ⟨g, H⟩ := gd_i H
  refine gw_if_ltZ (tgt := 20) dX9_hasRay_13 rfl (by decide) g (fun q => ?_) (fun q => ?_)
  · have H := bq_t q H
    refine gw_iconstZ dX9_hasRay_20 rfl ?_
    cases H
    exact gw_zret rfl dX9_hasRay_21 rfl (by decide) (by decide) hK
  · have H := bq_f q H
    refine gw_iconstZ dX9_hasRay_16 rfl ?_
    refine gw_goto (tgt := 21) dX9_hasRay_17 (by decide) ?_
    cases H
    exact gw_zret rfl dX9_hasRay_21 rfl (by decide) (by decide) hK
set_option maxRecDepth 100000 in
set_option maxHeartbeats 4000000 in
theorem w_X9_pivots {Φ : gwC} {hb : gwHp} {M : Nat} {sh : Nat → Option gSh} {th : Nat} {c : W0} {r : Int × W0} {K : Option Value → gwHp → Prop} (h0 : sM sh th) (H : f_X9_pivots th c = some r) (hK : K (some (vI r.1)) (hp Φ hb M sh r.2)) : gw_Con Φ mX9_pivots none [.ref (M + th)] (hp Φ hb M sh c) K := by
  unfold f_X9_pivots at H
  refine gw_start okX9_pivots (Nat.le_of_ble_eq_true rfl) ?_
  refine gw_aload_n dX9_pivots_0 rfl rfl ?_
  refine gw_iconstZ dX9_pivots_1 rfl ?_
  obtain ⟨c1, e_c1, H⟩ := sto_i H
  refine gs_putIE cl9 0 0 dX9_pivots_2 rfl kw_1319 (by decide) rfl rfl (h0.1) rfl rfl e_c1 ?_
  refine gw_aload_n dX9_pivots_5 rfl rfl ?_
  refine gs_getR cl9 1 dX9_pivots_6 rfl kw_1320 (by decide) (h0.1) rfl ?_
  refine gw_bipushZ dX9_pivots_9 rfl (by decide) ?_
  refine gs_ialdZ dX9_pivots_11 rfl (h0.2.1) (by decide) (by decide) ?_
  cases H
  exact gw_iret dX9_pivots_12 rfl (by decide) (by decide) hK
set_option maxRecDepth 100000 in
set_option maxHeartbeats 4000000 in
theorem w_X9_allPivots {Φ : gwC} {hb : gwHp} {M : Nat} {sh : Nat → Option gSh} {th : Nat} {c : W0} {r : Int × W0} {K : Option Value → gwHp → Prop} (h0 : sM sh th) (H : f_X9_allPivots th c = some r) (hK : K (some (vI r.1)) (hp Φ hb M sh r.2)) : gw_Con Φ mX9_allPivots none [.ref (M + th)] (hp Φ hb M sh c) K := by
  unfold f_X9_allPivots at H
  refine gw_start okX9_allPivots (Nat.le_of_ble_eq_true rfl) ?_
  refine gw_aload_n dX9_allPivots_0 rfl rfl ?_
  refine gw_iconstZ dX9_allPivots_1 rfl ?_
  obtain ⟨c1, e_c1, H⟩ := sto_i H
  refine gs_putIE cl9 0 0 dX9_allPivots_2 rfl kw_1319 (by decide) rfl rfl (h0.1) rfl rfl e_c1 ?_
  refine gw_aload_n dX9_allPivots_5 rfl rfl ?_
  refine gs_getR cl9 1 dX9_allPivots_6 rfl kw_1320 (by decide) (h0.1) rfl ?_
  refine gw_bipushZ dX9_allPivots_9 rfl (by decide) ?_
  refine gs_ialdZ dX9_allPivots_11 rfl (h0.2.1) (by decide) (by decide) ?_
  cases H
  exact gw_iret dX9_allPivots_12 rfl (by decide) (by decide) hK
set_option maxRecDepth 100000 in
set_option maxHeartbeats 4000000 in
theorem w_X9_idlePivots {Φ : gwC} {hb : gwHp} {M : Nat} {sh : Nat → Option gSh} {th : Nat} {c : W0} {r : Int × W0} {K : Option Value → gwHp → Prop} (h0 : sM sh th) (H : f_X9_idlePivots th c = some r) (hK : K (some (vI r.1)) (hp Φ hb M sh r.2)) : gw_Con Φ mX9_idlePivots none [.ref (M + th)] (hp Φ hb M sh c) K := by
  unfold f_X9_idlePivots at H
  refine gw_start okX9_idlePivots (Nat.le_of_ble_eq_true rfl) ?_
  refine gw_aload_n dX9_idlePivots_0 rfl rfl ?_
  refine gw_iconstZ dX9_idlePivots_1 rfl ?_
  obtain ⟨c1, e_c1, H⟩ := sto_i H
  refine gs_putIE cl9 0 0 dX9_idlePivots_2 rfl kw_1319 (by decide) rfl rfl (h0.1) rfl rfl e_c1 ?_
  refine gw_aload_n dX9_idlePivots_5 rfl rfl ?_
  refine gs_getR cl9 1 dX9_idlePivots_6 rfl kw_1320 (by decide) (h0.1) rfl ?_
  refine gw_bipushZ dX9_idlePivots_9 rfl (by decide) ?_
  refine gs_ialdZ dX9_idlePivots_11 rfl (h0.2.1) (by decide) (by decide) ?_
  cases H
  exact gw_iret dX9_idlePivots_12 rfl (by decide) (by decide) hK
set_option maxRecDepth 100000 in
set_option maxHeartbeats 4000000 in
theorem w_X9_entryOf {Φ : gwC} {hb : gwHp} {M : Nat} {sh : Nat → Option gSh} {th : Nat} {p1 : Int} {p2 : Int} {c : W0} {r : Int × W0} {K : Option Value → gwHp → Prop} (h0 : sM sh th) (H : f_X9_entryOf th p1 p2 c = some r) (hK : K none (hp Φ hb M sh r.2)) : gw_Con Φ mX9_entryOf none [.ref (M + th), vI p1, vI p2] (hp Φ hb M sh c) K := by
  unfold f_X9_entryOf at H
  refine gw_start okX9_entryOf (Nat.le_of_ble_eq_true rfl) ?_
  refine gw_aload_n dX9_entryOf_0 rfl rfl ?_
  obtain ⟨v2, c1, e_c1, H⟩ := cl_i H
  refine gw_V0 okX9_laysNow dX9_entryOf_1 kw_1484 kw_1486 kw_43 (hp_o (h0.1)) rfl ⟨by decide, by decide⟩ ⟨by decide, by decide⟩ (Nat.le_of_ble_eq_true rfl) (w_X9_laysNow (h0) e_c1 ?_)
  refine gw_aload_n dX9_entryOf_4 rfl rfl ?_
  refine gw_aload_n dX9_entryOf_5 rfl rfl ?_
  refine gs_getR cl9 9 dX9_entryOf_6 rfl kw_1328 (by decide) (h0.1) rfl ?_
  refine gw_bipushZ dX9_entryOf_9 rfl (by decide) ?_
  refine gw_iload_n dX9_entryOf_11 rfl rfl ?_
  refine gw_imulZ dX9_entryOf_12 rfl ?_
  refine gw_iload_n dX9_entryOf_13 rfl rfl ?_
  refine gw_iaddZ dX9_entryOf_14 rfl ?_
  obtain ⟨g, H⟩ := gd_i H
  refine gs_laldZ dX9_entryOf_15 rfl (h0.2.2.2.2.2.2.1) g (by decide) ?_
  refine gw_aload_n dX9_entryOf_16 rfl rfl ?_
  refine gs_getR cl9 10 dX9_entryOf_17 rfl kw_1329 (by decide) (h0.1) rfl ?_
  refine gw_bipushZ dX9_entryOf_20 rfl (by decide) ?_
  refine gw_iload_n dX9_entryOf_22 rfl rfl ?_
  refine gw_imulZ dX9_entryOf_23 rfl ?_
  refine gw_iload_n dX9_entryOf_24 rfl rfl ?_
  refine gw_iaddZ dX9_entryOf_25 rfl ?_
  obtain ⟨g, H⟩ := gd_i H
  refine gs_laldZ dX9_entryOf_26 rfl (h0.2.2.2.2.2.2.2.1) g (by decide) ?_
  obtain ⟨v4, c3, e_c3, H⟩ := cl_i H
  refine gw_V2 okX9_becomes dX9_entryOf_27 kw_1504 kw_1506 kw_48 (hp_o (h0.1)) rfl ⟨by decide, by decide⟩ ⟨by decide, by decide⟩ (Nat.le_of_ble_eq_true rfl) (w_X9_becomes (h0) e_c3 ?_)
  cases H
  exact gw_vret dX9_entryOf_30 rfl (by decide) (by decide) hK
set_option maxRecDepth 100000 in
set_option maxHeartbeats 4000000 in
theorem w_X9_entryNumerator {Φ : gwC} {hb : gwHp} {M : Nat} {sh : Nat → Option gSh} {th : Nat} {p1 : Int} {p2 : Int} {c : W0} {r : Int × W0} {K : Option Value → gwHp → Prop} (h0 : sM sh th) (H : f_X9_entryNumerator th p1 p2 c = some r) (hK : K (some (vL r.1)) (hp Φ hb M sh r.2)) : gw_Con Φ mX9_entryNumerator none [.ref (M + th), vI p1, vI p2] (hp Φ hb M sh c) K := by
  unfold f_X9_entryNumerator at H
  refine gw_start okX9_entryNumerator (Nat.le_of_ble_eq_true rfl) ?_
  refine gw_aload_n dX9_entryNumerator_0 rfl rfl ?_
  refine gw_aload_n dX9_entryNumerator_1 rfl rfl ?_
  refine gw_iload_n dX9_entryNumerator_2 rfl rfl ?_
  refine gw_iload_n dX9_entryNumerator_3 rfl rfl ?_
  obtain ⟨v1, e_v1, H⟩ := cv_i H
  refine gw_V2 okX9_isPlace dX9_entryNumerator_4 kw_1468 kw_1470 kw_39 (hp_o (h0.1)) rfl ⟨by decide, by decide⟩ ⟨by decide, by decide⟩ (Nat.le_of_ble_eq_true rfl) (w_X9_isPlace (h0) e_v1 ?_)
  obtain ⟨g, H⟩ := gd_i H
  obtain ⟨k2, e_k2, H⟩ := jn_i H
  have hJ_k2 : ∀ (v3 : Int), k2 v3 = some r → G Φ mX9_entryNumerator (gw_M Φ mX9_entryNumerator K) none 0 0 15 [(0, .ref (M + th)), (1, vI p1), (2, vI p2)] [vI v3, .ref (M + th)] (hp Φ hb M sh c) := by
    intro v3 H
    subst e_k2
    obtain ⟨v4, c5, e_c5, H⟩ := cl_i H
    refine gw_V1 okX9_holds dX9_entryNumerator_15 kw_1416 kw_1418 kw_33 (hp_o (h0.1)) rfl ⟨by decide, by decide⟩ ⟨by decide, by decide⟩ (Nat.le_of_ble_eq_true rfl) (w_X9_holds (h0) e_c5 ?_)
    obtain ⟨g, H⟩ := gd_i H
    refine gw_if_neZ (tgt := 23) dX9_entryNumerator_18 rfl (by decide) g (fun q => ?_) (fun q => ?_)
    · have H := bq_f q H
      refine gw_aload_n dX9_entryNumerator_23 rfl rfl ?_
      refine gw_iload_n dX9_entryNumerator_24 rfl rfl ?_
      refine gw_iload_n dX9_entryNumerator_25 rfl rfl ?_
      obtain ⟨v7, c6, e_c6, H⟩ := cl_i H
      refine gw_V2 okX9_entryOf dX9_entryNumerator_26 kw_1727 kw_1729 kw_76 (hp_o (h0.1)) rfl ⟨by decide, by decide⟩ ⟨by decide, by decide⟩ (Nat.le_of_ble_eq_true rfl) (w_X9_entryOf (h0) e_c6 ?_)
      refine gw_aload_n dX9_entryNumerator_29 rfl rfl ?_
      refine gs_getL cl9 16 16 dX9_entryNumerator_30 rfl kw_1335 (by decide) (h0.1) rfl rfl ?_
      cases H
      exact gw_lret dX9_entryNumerator_33 rfl (by decide) (by decide) hK
    · have H := bq_t q H
      refine gw_lconst0Z dX9_entryNumerator_21 rfl ?_
      cases H
      exact gw_lret dX9_entryNumerator_22 rfl (by decide) (by decide) hK
  refine gw_if_eqZ (tgt := 14) dX9_entryNumerator_7 rfl (by decide) g (fun q => ?_) (fun q => ?_)
  · have H := bq_t q H
    refine gw_iconstZ dX9_entryNumerator_14 rfl ?_
    exact gw_L (hJ_k2 _ H) ((lvA_c rfl (lvA_c rfl (lvA_c rfl lvA_n))))
  · have H := bq_f q H
    refine gw_iconstZ dX9_entryNumerator_10 rfl ?_
    refine gw_goto (tgt := 15) dX9_entryNumerator_11 (by decide) ?_
    exact gw_L (hJ_k2 _ H) ((lvA_c rfl (lvA_c rfl (lvA_c rfl lvA_n))))
end FW
