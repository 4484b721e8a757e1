section NW
abbrev nL_areAlike : gwY := (yL_areAlike, cL_areAlike, 5, (Option.some Jvm.ClassFile.FieldType.boolean), { frames := 4, cells := 0, slots := 0, locals := 107 }, [])
theorem oknL_areAlike : gw_ok nL_areAlike 2 := ⟨by decide +kernel, kw_651, kw_16, by decide +kernel, rfl⟩
set_option maxRecDepth 100000 in
set_option maxHeartbeats 4000000 in
theorem l_L_areAlike_74 {Φ : gwC} {hb : gwHp} {M : Nat} {sh : Nat → Option gSh} {p1 : Nat} {p2 : Nat} {κ : Int → W0 → Option (Int × W0)} {r : Int × W0} {K : Option Value → gwHp → Prop} (h0 : sD sh p1) (h1 : sD sh p2) (hK : K (some (vI r.1)) (hp Φ hb M sh r.2)) (hκ : ∀ (x2 : Int) (c : W0), κ x2 c = some r → G Φ nL_areAlike (gw_M Φ nL_areAlike K) none 0 0 111 [(0, .ref (M + p1)), (1, .ref (M + p2)), (2, vI x2)] [] (hp Φ hb M sh c)) : ∀ (n : Nat) (l2 : Int) (l3 : Int) (c : W0), f_L_areAlike_74 p1 p2 κ n l2 l3 c = some r → G Φ nL_areAlike (gw_M Φ nL_areAlike K) none 0 0 74 [(0, .ref (M + p1)), (1, .ref (M + p2)), (2, vI l2), (3, vI l3)] [] (hp Φ hb M sh c) := by
  intro n
  induction n with
  | zero => intro l2 l3 c H; cases H
  | succ n ih =>
    intro l2 l3 c H
    have H : b_L_areAlike_74 p1 p2 κ (f_L_areAlike_74 p1 p2 κ n) l2 l3 c = some r := H
    unfold b_L_areAlike_74 at H
    refine gw_iload_n dL_areAlike_74 rfl rfl ?_
    refine gw_aload_n dL_areAlike_75 rfl rfl ?_
    obtain ⟨v1, e_v1, H⟩ := cv_i H
    refine gw_V0 okX8_variables dL_areAlike_76 kw_377 kw_378 kw_379 (hp_o (h0.1)) rfl ⟨by decide, by decide⟩ ⟨by decide, by decide⟩ (Nat.le_of_ble_eq_true rfl) (w_X8_variables (h0) e_v1 ?_)
    obtain ⟨g, H⟩ := gd_i H
    refine gw_icmp_geZ (tgt := 111) dL_areAlike_79 rfl (by decide) g.1 g.2 (fun q => ?_) (fun q => ?_)
    · have H := bq_t q H
      exact gw_L (hκ _ _ H) ((lvA_c rfl (lvA_c rfl (lvA_c rfl lvA_n))))
    · have H := bq_f q H
      refine gw_iload_n dL_areAlike_82 rfl rfl ?_
      obtain ⟨g, H⟩ := gd_i H
      refine gw_if_eqZ (tgt := 111) dL_areAlike_83 rfl (by decide) g (fun q => ?_) (fun q => ?_)
      · have H := bq_t q H
        exact gw_L (hκ _ _ H) ((lvA_c rfl (lvA_c rfl (lvA_c rfl lvA_n))))
      · have H := bq_f q H
        refine gw_aload_n dL_areAlike_86 rfl rfl ?_
        refine gw_iload_n dL_areAlike_87 rfl rfl ?_
        obtain ⟨v2, c3, e_c3, H⟩ := cn_i H
        refine gw_V1 oknX8_profitOf dL_areAlike_88 kw_668 kw_669 kw_670 (hp_o (h0.1)) rfl ⟨by decide, by decide⟩ ⟨by decide, by decide⟩ (Nat.le_of_ble_eq_true rfl) (n_X8_profitOf (h0) e_c3 rfl ?_)
        refine gw_aload_n dL_areAlike_91 rfl rfl ?_
        refine gw_iload_n dL_areAlike_92 rfl rfl ?_
        obtain ⟨v4, c5, e_c5, H⟩ := cn_i H
        refine gw_V1 oknX8_profitOf dL_areAlike_93 kw_668 kw_669 kw_670 (hp_o (h1.1)) rfl ⟨by decide, by decide⟩ ⟨by decide, by decide⟩ (Nat.le_of_ble_eq_true rfl) (n_X8_profitOf (h1) e_c5 rfl ?_)
        obtain ⟨g, H⟩ := gd_i H
        refine gw_icmp_neZ (tgt := 103) dL_areAlike_96 rfl (by decide) g.1 g.2 (fun q => ?_) (fun q => ?_)
        · have H := bq_f q H
          refine gw_iconstZ dL_areAlike_103 rfl ?_
          refine gw_istore_n dL_areAlike_104 rfl (by decide) ?_
          refine gw_iincZ dL_areAlike_105 rfl rfl (by decide) ?_
          refine gw_goto (tgt := 74) dL_areAlike_108 (by decide) ?_
          exact gw_L (ih _ _ _ H) ((lvA_c rfl (lvA_c rfl (lvA_c rfl (lvA_c rfl lvA_n)))))
        · have H := bq_t q H
          refine gw_iconstZ dL_areAlike_99 rfl ?_
          refine gw_goto (tgt := 104) dL_areAlike_100 (by decide) ?_
          refine gw_istore_n dL_areAlike_104 rfl (by decide) ?_
          refine gw_iincZ dL_areAlike_105 rfl rfl (by decide) ?_
          refine gw_goto (tgt := 74) dL_areAlike_108 (by decide) ?_
          exact gw_L (ih _ _ _ H) ((lvA_c rfl (lvA_c rfl (lvA_c rfl (lvA_c rfl lvA_n)))))
set_option maxRecDepth 100000 in
set_option maxHeartbeats 4000000 in
theorem l_L_areAlike_160 {Φ : gwC} {hb : gwHp} {M : Nat} {sh : Nat → Option gSh} {p1 : Nat} {p2 : Nat} {l3 : Int} {κ : Int → W0 → Option (Int × W0)} {r : Int × W0} {K : Option Value → gwHp → Prop} (h0 : sD sh p1) (h1 : sD sh p2) (hK : K (some (vI r.1)) (hp Φ hb M sh r.2)) (hκ : ∀ (x2 : Int) (c : W0), κ x2 c = some r → G Φ nL_areAlike (gw_M Φ nL_areAlike K) none 0 0 202 [(0, .ref (M + p1)), (1, .ref (M + p2)), (2, vI x2), (3, vI l3)] [] (hp Φ hb M sh c)) : ∀ (n : Nat) (l2 : Int) (l4 : Int) (c : W0), f_L_areAlike_160 p1 p2 l3 κ n l2 l4 c = some r → G Φ nL_areAlike (gw_M Φ nL_areAlike K) none 0 0 160 [(0, .ref (M + p1)), (1, .ref (M + p2)), (2, vI l2), (3, vI l3), (4, vI l4)] [] (hp Φ hb M sh c) := by
  intro n
  induction n with
  | zero => intro l2 l4 c H; cases H
  | succ n ih =>
    intro l2 l4 c H
    have H : b_L_areAlike_160 p1 p2 l3 κ (f_L_areAlike_160 p1 p2 l3 κ n) l2 l4 c = some r := H
    unfold b_L_areAlike_160 at H
    refine gw_iload dL_areAlike_160 rfl rfl ?_
    refine gw_aload_n dL_areAlike_162 rfl rfl ?_
    obtain ⟨v1, e_v1, H⟩ := cv_i H
    refine gw_V0 okX8_variables dL_areAlike_163 kw_377 kw_378 kw_379 (hp_o (h0.1)) rfl ⟨by decide, by decide⟩ ⟨by decide, by decide⟩ (Nat.le_of_ble_eq_true rfl) (w_X8_variables (h0) e_v1 ?_)
    obtain ⟨g, H⟩ := gd_i H
    refine gw_icmp_geZ (tgt := 202) dL_areAlike_166 rfl (by decide) g.1 g.2 (fun q => ?_) (fun q => ?_)
    · have H := bq_t q H
      exact gw_L (hκ _ _ H) ((lvA_c rfl (lvA_c rfl (lvA_c rfl (lvA_c rfl lvA_n)))))
    · have H := bq_f q H
      refine gw_iload_n dL_areAlike_169 rfl rfl ?_
      obtain ⟨g, H⟩ := gd_i H
      refine gw_if_eqZ (tgt := 194) dL_areAlike_170 rfl (by decide) g (fun q => ?_) (fun q => ?_)
      · have H := bq_t q H
        refine gw_iconstZ dL_areAlike_194 rfl ?_
        refine gw_istore_n dL_areAlike_195 rfl (by decide) ?_
        refine gw_iincZ dL_areAlike_196 rfl rfl (by decide) ?_
        refine gw_goto (tgt := 160) dL_areAlike_199 (by decide) ?_
        exact gw_L (ih _ _ _ H) ((lvA_c rfl (lvA_c rfl (lvA_c rfl (lvA_c rfl (lvA_c rfl lvA_n))))))
      · have H := bq_f q H
        refine gw_aload_n dL_areAlike_173 rfl rfl ?_
        refine gw_iload_n dL_areAlike_174 rfl rfl ?_
        refine gw_iload dL_areAlike_175 rfl rfl ?_
        obtain ⟨v2, c3, e_c3, H⟩ := cn_i H
        refine gw_V2 oknX8_coefficientOf dL_areAlike_177 kw_680 kw_681 kw_682 (hp_o (h0.1)) rfl ⟨by decide, by decide⟩ ⟨by decide, by decide⟩ (Nat.le_of_ble_eq_true rfl) (n_X8_coefficientOf (h0) e_c3 rfl ?_)
        refine gw_aload_n dL_areAlike_180 rfl rfl ?_
        refine gw_iload_n dL_areAlike_181 rfl rfl ?_
        refine gw_iload dL_areAlike_182 rfl rfl ?_
        obtain ⟨v4, c5, e_c5, H⟩ := cn_i H
        refine gw_V2 oknX8_coefficientOf dL_areAlike_184 kw_680 kw_681 kw_682 (hp_o (h1.1)) rfl ⟨by decide, by decide⟩ ⟨by decide, by decide⟩ (Nat.le_of_ble_eq_true rfl) (n_X8_coefficientOf (h1) e_c5 rfl ?_)
        obtain ⟨g, H⟩ := gd_i H
        refine gw_icmp_neZ (tgt := 194) dL_areAlike_187 rfl (by decide) g.1 g.2 (fun q => ?_) (fun q => ?_)
        · have H := bq_f q H
          refine gw_iconstZ dL_areAlike_194 rfl ?_
          refine gw_istore_n dL_areAlike_195 rfl (by decide) ?_
          refine gw_iincZ dL_areAlike_196 rfl rfl (by decide) ?_
          refine gw_goto (tgt := 160) dL_areAlike_199 (by decide) ?_
          exact gw_L (ih _ _ _ H) ((lvA_c rfl (lvA_c rfl (lvA_c rfl (lvA_c rfl (lvA_c rfl lvA_n))))))
        · have H := bq_t q H
          refine gw_iconstZ dL_areAlike_190 rfl ?_
          refine gw_goto (tgt := 195) dL_areAlike_191 (by decide) ?_
          refine gw_istore_n dL_areAlike_195 rfl (by decide) ?_
          refine gw_iincZ dL_areAlike_196 rfl rfl (by decide) ?_
          refine gw_goto (tgt := 160) dL_areAlike_199 (by decide) ?_
          exact gw_L (ih _ _ _ H) ((lvA_c rfl (lvA_c rfl (lvA_c rfl (lvA_c rfl (lvA_c rfl lvA_n))))))
set_option maxRecDepth 100000 in
set_option maxHeartbeats 4000000 in
theorem l_L_areAlike_113 {Φ : gwC} {hb : gwHp} {M : Nat} {sh : Nat → Option gSh} {p1 : Nat} {p2 : Nat} {κ : Int → W0 → Option (Int × W0)} {r : Int × W0} {K : Option Value → gwHp → Prop} (h0 : sD sh p1) (h1 : sD sh p2) (hK : K (some (vI r.1)) (hp Φ hb M sh r.2)) (hκ : ∀ (x2 : Int) (c : W0), κ x2 c = some r → G Φ nL_areAlike (gw_M Φ nL_areAlike K) none 0 0 208 [(2, vI x2)] [] (hp Φ hb M sh c)) : ∀ (n : Nat) (l2 : Int) (l3 : Int) (c : W0), f_L_areAlike_113 p1 p2 κ n l2 l3 c = some r → G Φ nL_areAlike (gw_M Φ nL_areAlike K) none 0 0 113 [(0, .ref (M + p1)), (1, .ref (M + p2)), (2, vI l2), (3, vI l3)] [] (hp Φ hb M sh c) := by
  intro n
  induction n with
  | zero => intro l2 l3 c H; cases H
  | succ n ih =>
    intro l2 l3 c H
    have H : b_L_areAlike_113 p1 p2 κ (f_L_areAlike_113 p1 p2 κ n) l2 l3 c = some r := H
    unfold b_L_areAlike_113 at H
    refine gw_iload_n dL_areAlike_113 rfl rfl ?_
    refine gw_aload_n dL_areAlike_114 rfl rfl ?_
    obtain ⟨v1, e_v1, H⟩ := cv_i H
    refine gw_V0 okX8_constraints dL_areAlike_115 kw_373 kw_374 kw_375 (hp_o (h0.1)) rfl ⟨by decide, by decide⟩ ⟨by decide, by decide⟩ (Nat.le_of_ble_eq_true rfl) (w_X8_constraints (h0) e_v1 ?_)
    obtain ⟨g, H⟩ := gd_i H
    refine gw_icmp_geZ (tgt := 208) dL_areAlike_118 rfl (by decide) g.1 g.2 (fun q => ?_) (fun q => ?_)
    · have H := bq_t q H
      exact gw_L (hκ _ _ H) ((lvA_c rfl lvA_n))
    · have H := bq_f q H
      refine gw_iload_n dL_areAlike_121 rfl rfl ?_
      obtain ⟨g, H⟩ := gd_i H
      refine gw_if_eqZ (tgt := 208) dL_areAlike_122 rfl (by decide) g (fun q => ?_) (fun q => ?_)
      · have H := bq_t q H
        exact gw_L (hκ _ _ H) ((lvA_c rfl lvA_n))
      · have H := bq_f q H
        refine gw_aload_n dL_areAlike_125 rfl rfl ?_
        refine gw_iload_n dL_areAlike_126 rfl rfl ?_
        obtain ⟨v2, c3, e_c3, H⟩ := cn_i H
        refine gw_V1 oknX8_boundOf dL_areAlike_127 kw_672 kw_673 kw_674 (hp_o (h0.1)) rfl ⟨by decide, by decide⟩ ⟨by decide, by decide⟩ (Nat.le_of_ble_eq_true rfl) (n_X8_boundOf (h0) e_c3 rfl ?_)
        refine gw_aload_n dL_areAlike_130 rfl rfl ?_
        refine gw_iload_n dL_areAlike_131 rfl rfl ?_
        obtain ⟨v4, c5, e_c5, H⟩ := cn_i H
        refine gw_V1 oknX8_boundOf dL_areAlike_132 kw_672 kw_673 kw_674 (hp_o (h1.1)) rfl ⟨by decide, by decide⟩ ⟨by decide, by decide⟩ (Nat.le_of_ble_eq_true rfl) (n_X8_boundOf (h1) e_c5 rfl ?_)
        obtain ⟨g, H⟩ := gd_i H
        obtain ⟨k6, e_k6, H⟩ := jn_i H
        have hJ_k6 : ∀ (c7 : W0), k6 c7 = some r → G Φ nL_areAlike (gw_M Φ nL_areAlike K) none 0 0 155 [(0, .ref (M + p1)), (1, .ref (M + p2)), (3, vI l3)] [] (hp Φ hb M sh c7) := by
          intro c7 H
          subst e_k6
          refine gw_iconstZ dL_areAlike_155 rfl ?_
          refine gw_istore_n dL_areAlike_156 rfl (by decide) ?_
          refine gw_iconstZ dL_areAlike_157 rfl ?_
          refine gw_istore dL_areAlike_158 rfl (by decide) ?_
          refine gw_L (l_L_areAlike_160 h0 h1 hK (fun v8 c9 H => ?_) LF _ _ _ H) ((lvA_c rfl (lvA_c rfl (lvA_c rfl (lvA_c rfl (lvA_c rfl lvA_n))))))
          refine gw_iincZ dL_areAlike_202 rfl rfl (by decide) ?_
          refine gw_goto (tgt := 113) dL_areAlike_205 (by decide) ?_
          exact gw_L (ih _ _ _ H) ((lvA_c rfl (lvA_c rfl (lvA_c rfl (lvA_c rfl lvA_n)))))
        refine gw_icmp_neZ (tgt := 155) dL_areAlike_135 rfl (by decide) g.1 g.2 (fun q => ?_) (fun q => ?_)
        · have H := bq_f q H
          exact gw_L (hJ_k6 _ H) ((lvA_c rfl (lvA_c rfl (lvA_c rfl lvA_n))))
        · have H := bq_t q H
          refine gw_aload_n dL_areAlike_138 rfl rfl ?_
          refine gw_iload_n dL_areAlike_139 rfl rfl ?_
          obtain ⟨v10, c11, e_c11, H⟩ := cn_i H
          refine gw_V1 oknX8_columnOf dL_areAlike_140 kw_676 kw_677 kw_678 (hp_o (h0.1)) rfl ⟨by decide, by decide⟩ ⟨by decide, by decide⟩ (Nat.le_of_ble_eq_true rfl) (n_X8_columnOf (h0) e_c11 rfl ?_)
          refine gw_aload_n dL_areAlike_143 rfl rfl ?_
          refine gw_iload_n dL_areAlike_144 rfl rfl ?_
          obtain ⟨v12, c13, e_c13, H⟩ := cn_i H
          refine gw_V1 oknX8_columnOf dL_areAlike_145 kw_676 kw_677 kw_678 (hp_o (h1.1)) rfl ⟨by decide, by decide⟩ ⟨by decide, by decide⟩ (Nat.le_of_ble_eq_true rfl) (n_X8_columnOf (h1) e_c13 rfl ?_)
          obtain ⟨g, H⟩ := gd_i H
          refine gw_icmp_neZ (tgt := 155) dL_areAlike_148 rfl (by decide) g.1 g.2 (fun q => ?_) (fun q => ?_)
          · have H := bq_f q H
            exact gw_L (hJ_k6 _ H) ((lvA_c rfl (lvA_c rfl (lvA_c rfl lvA_n))))
          · have H := bq_t q H
            refine gw_iconstZ dL_areAlike_151 rfl ?_
            refine gw_goto (tgt := 156) dL_areAlike_152 (by decide) ?_
            refine gw_istore_n dL_areAlike_156 rfl (by decide) ?_
            refine gw_iconstZ dL_areAlike_157 rfl ?_
            refine gw_istore dL_areAlike_158 rfl (by decide) ?_
            refine gw_L (l_L_areAlike_160 h0 h1 hK (fun v14 c15 H => ?_) LF _ _ _ H) ((lvA_c rfl (lvA_c rfl (lvA_c rfl (lvA_c rfl (lvA_c rfl lvA_n))))))
            refine gw_iincZ dL_areAlike_202 rfl rfl (by decide) ?_
            refine gw_goto (tgt := 113) dL_areAlike_205 (by decide) ?_
            exact gw_L (ih _ _ _ H) ((lvA_c rfl (lvA_c rfl (lvA_c rfl (lvA_c rfl lvA_n)))))
set_option maxRecDepth 100000 in
set_option maxHeartbeats 4000000 in
theorem w_L_areAlike {Φ : gwC} {hb : gwHp} {M : Nat} {sh : Nat → Option gSh} {p1 : Nat} {p2 : Nat} {c : W0} {r : Int × W0} {K : Option Value → gwHp → Prop} (h0 : sD sh p1) (h1 : sD sh p2) (H : f_L_areAlike p1 p2 c = some r) (hK : K (some (vI r.1)) (hp Φ hb M sh r.2)) : gw_Con Φ nL_areAlike none [.ref (M + p1), .ref (M + p2)] (hp Φ hb M sh c) K := by
  unfold f_L_areAlike at H
  refine gw_start oknL_areAlike (Nat.le_of_ble_eq_true rfl) ?_
  refine gw_aload_n dL_areAlike_0 rfl rfl ?_
  obtain ⟨v1, e_v1, H⟩ := cv_i H
  refine gw_V0 okX8_variables dL_areAlike_1 kw_377 kw_378 kw_379 (hp_o (h0.1)) rfl ⟨by decide, by decide⟩ ⟨by decide, by decide⟩ (Nat.le_of_ble_eq_true rfl) (w_X8_variables (h0) e_v1 ?_)
  refine gw_aload_n dL_areAlike_4 rfl rfl ?_
  obtain ⟨v2, e_v2, H⟩ := cv_i H
  refine gw_V0 okX8_variables dL_areAlike_5 kw_377 kw_378 kw_379 (hp_o (h1.1)) rfl ⟨by decide, by decide⟩ ⟨by decide, by decide⟩ (Nat.le_of_ble_eq_true rfl) (w_X8_variables (h1) e_v2 ?_)
  obtain ⟨g, H⟩ := gd_i H
  obtain ⟨k3, e_k3, H⟩ := jn_i H
  have hJ_k3 : ∀ (u4 : Unit), k3 u4 = some r → G Φ nL_areAlike (gw_M Φ nL_areAlike K) none 0 0 70 [(0, .ref (M + p1)), (1, .ref (M + p2))] [] (hp Φ hb M sh c) := by
    intro u4 H
    subst e_k3
    refine gw_iconstZ dL_areAlike_70 rfl ?_
    refine gw_istore_n dL_areAlike_71 rfl (by decide) ?_
    refine gw_iconstZ dL_areAlike_72 rfl ?_
    refine gw_istore_n dL_areAlike_73 rfl (by decide) ?_
    refine gw_L (l_L_areAlike_74 h0 h1 hK (fun v5 c6 H => ?_) LF _ _ _ H) ((lvA_c rfl (lvA_c rfl (lvA_c rfl (lvA_c rfl lvA_n)))))
    refine gw_iconstZ dL_areAlike_111 rfl ?_
    refine gw_istore_n dL_areAlike_112 rfl (by decide) ?_
    refine gw_L (l_L_areAlike_113 h0 h1 hK (fun v7 c8 H => ?_) LF _ _ _ H) ((lvA_c rfl (lvA_c rfl (lvA_c rfl (lvA_c rfl lvA_n)))))
    refine gw_iload_n dL_areAlike_208 rfl rfl ?_
    obtain ⟨g, H⟩ := gd_i H
    cases H
    exact gw_zret (gs_nz g) dL_areAlike_209 rfl (by decide) (by decide) hK
  refine gw_icmp_neZ (tgt := 70) dL_areAlike_8 rfl (by decide) g.1 g.2 (fun q => ?_) (fun q => ?_)
  · have H := bq_f q H
    exact gw_L (hJ_k3 _ H) ((lvA_c rfl (lvA_c rfl lvA_n)))
  · have H := bq_t q H
    refine gw_aload_n dL_areAlike_11 rfl rfl ?_
    obtain ⟨v9, e_v9, H⟩ := cv_i H
    refine gw_V0 okX8_constraints dL_areAlike_12 kw_373 kw_374 kw_375 (hp_o (h0.1)) rfl ⟨by decide, by decide⟩ ⟨by decide, by decide⟩ (Nat.le_of_ble_eq_true rfl) (w_X8_constraints (h0) e_v9 ?_)
    refine gw_aload_n dL_areAlike_15 rfl rfl ?_
    obtain ⟨v10, e_v10, H⟩ := cv_i H
    refine gw_V0 okX8_constraints dL_areAlike_16 kw_373 kw_374 kw_375 (hp_o (h1.1)) rfl ⟨by decide, by decide⟩ ⟨by decide, by decide⟩ (Nat.le_of_ble_eq_true rfl) (w_X8_constraints (h1) e_v10 ?_)
    obtain ⟨g, H⟩ := gd_i H
    refine gw_icmp_neZ (tgt := 70) dL_areAlike_19 rfl (by decide) g.1 g.2 (fun q => ?_) (fun q => ?_)
    · have H := bq_f q H
      exact gw_L (hJ_k3 _ H) ((lvA_c rfl (lvA_c rfl lvA_n)))
    · have H := bq_t q H
      refine gw_aload_n dL_areAlike_22 rfl rfl ?_
      obtain ⟨v11, e_v11, H⟩ := cv_i H
      refine gw_V0 okX8_rule dL_areAlike_23 kw_652 kw_653 kw_654 (hp_o (h0.1)) rfl ⟨by decide, by decide⟩ ⟨by decide, by decide⟩ (Nat.le_of_ble_eq_true rfl) (w_X8_rule (h0) e_v11 ?_)
      refine gw_aload_n dL_areAlike_26 rfl rfl ?_
      obtain ⟨v12, e_v12, H⟩ := cv_i H
      refine gw_V0 okX8_rule dL_areAlike_27 kw_652 kw_653 kw_654 (hp_o (h1.1)) rfl ⟨by decide, by decide⟩ ⟨by decide, by decide⟩ (Nat.le_of_ble_eq_true rfl) (w_X8_rule (h1) e_v12 ?_)
      obtain ⟨g, H⟩ := gd_i H
      refine gw_icmp_neZ (tgt := 70) dL_areAlike_30 rfl (by decide) g.1 g.2 (fun q => ?_) (fun q => ?_)
      · have H := bq_f q H
        exact gw_L (hJ_k3 _ H) ((lvA_c rfl (lvA_c rfl lvA_n)))
      · have H := bq_t q H
        refine gw_aload_n dL_areAlike_33 rfl rfl ?_
        obtain ⟨v13, e_v13, H⟩ := cv_i H
        refine gw_V0 okX8_pivots dL_areAlike_34 kw_656 kw_657 kw_658 (hp_o (h0.1)) rfl ⟨by decide, by decide⟩ ⟨by decide, by decide⟩ (Nat.le_of_ble_eq_true rfl) (w_X8_pivots (h0) e_v13 ?_)
        refine gw_aload_n dL_areAlike_37 rfl rfl ?_
        obtain ⟨v14, e_v14, H⟩ := cv_i H
        refine gw_V0 okX8_pivots dL_areAlike_38 kw_656 kw_657 kw_658 (hp_o (h1.1)) rfl ⟨by decide, by decide⟩ ⟨by decide, by decide⟩ (Nat.le_of_ble_eq_true rfl) (w_X8_pivots (h1) e_v14 ?_)
        obtain ⟨g, H⟩ := gd_i H
        refine gw_icmp_neZ (tgt := 70) dL_areAlike_41 rfl (by decide) g.1 g.2 (fun q => ?_) (fun q => ?_)
        · have H := bq_f q H
          exact gw_L (hJ_k3 _ H) ((lvA_c rfl (lvA_c rfl lvA_n)))
        · have H := bq_t q H
          refine gw_aload_n dL_areAlike_44 rfl rfl ?_
          obtain ⟨v15, e_v15, H⟩ := cv_i H
          refine gw_V0 okX8_allPivots dL_areAlike_45 kw_660 kw_661 kw_662 (hp_o (h0.1)) rfl ⟨by decide, by decide⟩ ⟨by decide, by decide⟩ (Nat.le_of_ble_eq_true rfl) (w_X8_allPivots (h0) e_v15 ?_)
          refine gw_aload_n dL_areAlike_48 rfl rfl ?_
          obtain ⟨v16, e_v16, H⟩ := cv_i H
          refine gw_V0 okX8_allPivots dL_areAlike_49 kw_660 kw_661 kw_662 (hp_o (h1.1)) rfl ⟨by decide, by decide⟩ ⟨by decide, by decide⟩ (Nat.le_of_ble_eq_true rfl) (w_X8_allPivots (h1) e_v16 ?_)
          obtain ⟨g, H⟩ := gd_i H
          refine gw_icmp_neZ (tgt := 70) dL_areAlike_52 rfl (by decide) g.1 g.2 (fun q => ?_) (fun q => ?_)
          · have H := bq_f q H
            exact gw_L (hJ_k3 _ H) ((lvA_c rfl (lvA_c rfl lvA_n)))
          · have H := bq_t q H
            refine gw_aload_n dL_areAlike_55 rfl rfl ?_
            obtain ⟨v17, e_v17, H⟩ := cv_i H
            refine gw_V0 okX8_idlePivots dL_areAlike_56 kw_664 kw_665 kw_666 (hp_o (h0.1)) rfl ⟨by decide, by decide⟩ ⟨by decide, by decide⟩ (Nat.le_of_ble_eq_true rfl) (w_X8_idlePivots (h0) e_v17 ?_)
            refine gw_aload_n dL_areAlike_59 rfl rfl ?_
            obtain ⟨v18, e_v18, H⟩ := cv_i H
            refine gw_V0 okX8_idlePivots dL_areAlike_60 kw_664 kw_665 kw_666 (hp_o (h1.1)) rfl ⟨by decide, by decide⟩ ⟨by decide, by decide⟩ (Nat.le_of_ble_eq_true rfl) (w_X8_idlePivots (h1) e_v18 ?_)
            obtain ⟨g, H⟩ := gd_i H
            refine gw_icmp_neZ (tgt := 70) dL_areAlike_63 rfl (by decide) g.1 g.2 (fun q => ?_) (fun q => ?_)
            · have H := bq_f q H
              exact gw_L (hJ_k3 _ H) ((lvA_c rfl (lvA_c rfl lvA_n)))
            · have H := bq_t q H
              refine gw_iconstZ dL_areAlike_66 rfl ?_
              refine gw_goto (tgt := 71) dL_areAlike_67 (by decide) ?_
              refine gw_istore_n dL_areAlike_71 rfl (by decide) ?_
              refine gw_iconstZ dL_areAlike_72 rfl ?_
              refine gw_istore_n dL_areAlike_73 rfl (by decide) ?_
              refine gw_L (l_L_areAlike_74 h0 h1 hK (fun v19 c20 H => ?_) LF _ _ _ H) ((lvA_c rfl (lvA_c rfl (lvA_c rfl (lvA_c rfl lvA_n)))))
              refine gw_iconstZ dL_areAlike_111 rfl ?_
              refine gw_istore_n dL_areAlike_112 rfl (by decide) ?_
              refine gw_L (l_L_areAlike_113 h0 h1 hK (fun v21 c22 H => ?_) LF _ _ _ H) ((lvA_c rfl (lvA_c rfl (lvA_c rfl (lvA_c rfl lvA_n)))))
              refine gw_iload_n dL_areAlike_208 rfl rfl ?_
              obtain ⟨g, H⟩ := gd_i H
              cases H
              exact gw_zret (gs_nz g) dL_areAlike_209 rfl (by decide) (by decide) hK
end NW
