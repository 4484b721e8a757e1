section FW
set_option maxRecDepth 100000 in
set_option maxHeartbeats 4000000 in
theorem l_X6_start_59 {Φ : gwC} {hb : gwHp} {M : Nat} {sh : Nat → Option gSh} {th : Nat} {p1 : Nat} {l2 : Int} {κ : W0 → Option (Int × W0)} {r : Int × W0} {K : Option Value → gwHp → Prop} (h0 : sT sh th) (h1 : sP sh p1) (hK : K none (hp Φ hb M sh r.2)) (hκ : ∀ (c : W0), κ c = some r → G Φ mX6_start (gw_M Φ mX6_start K) none 0 0 89 [(0, .ref (M + th)), (1, .ref (M + p1)), (2, vI l2)] [] (hp Φ hb M sh c)) : ∀ (n : Nat) (l3 : Int) (c : W0), f_X6_start_59 th p1 l2 κ n l3 c = some r → G Φ mX6_start (gw_M Φ mX6_start K) none 0 0 59 [(0, .ref (M + th)), (1, .ref (M + p1)), (2, vI l2), (3, vI l3)] [] (hp Φ hb M sh c) := by
  intro n
  induction n with
  | zero => intro l3 c H; cases H
  | succ n ih =>
    intro l3 c H
    have H : b_X6_start_59 th p1 l2 κ (f_X6_start_59 th p1 l2 κ n) l3 c = some r := H
    unfold b_X6_start_59 at H
    refine gw_iload_n dX6_start_59 rfl rfl ?_
    refine gw_aload_n dX6_start_60 rfl rfl ?_
    refine gs_getI cl6 1 1 dX6_start_61 rfl kw_102 (by decide) (h0.1) rfl rfl ?_
    obtain ⟨g, H⟩ := gd_i H
    refine gw_icmp_geZ (tgt := 89) dX6_start_64 rfl (by decide) g.1 g.2 (fun q => ?_) (fun q => ?_)
    · have H := bq_t q H
      exact gw_L (hκ _ H) ((lvA_c rfl (lvA_c rfl (lvA_c rfl lvA_n))))
    · have H := bq_f q H
      refine gw_aload_n dX6_start_67 rfl rfl ?_
      refine gs_getR cl6 4 dX6_start_68 rfl kw_107 (by decide) (h0.1) rfl ?_
      refine gw_iload_n dX6_start_71 rfl rfl ?_
      refine gw_iload_n dX6_start_72 rfl rfl ?_
      refine gw_aload_n dX6_start_73 rfl rfl ?_
      refine gw_iload_n dX6_start_74 rfl rfl ?_
      refine gw_iload_n dX6_start_75 rfl rfl ?_
      obtain ⟨v1, e_v1, H⟩ := cv_i H
      refine gw_V2 okX2_firstFactor dX6_start_76 kw_432 kw_433 kw_434 (hp_o (h1.1)) rfl ⟨by decide, by decide⟩ ⟨by decide, by decide⟩ (Nat.le_of_ble_eq_true rfl) (w_X2_firstFactor (h1) e_v1 ?_)
      obtain ⟨g, H⟩ := gd_i H
      refine gw_i2lZ dX6_start_79 rfl g ?_
      obtain ⟨g, H⟩ := gd_i H
      obtain ⟨c2, e_c2, H⟩ := sto_i H
      refine gw_V3 okX1_put dX6_start_80 kw_431 kw_420 kw_421 (hp_o (h0.2.2.1)) rfl ⟨by decide, by decide⟩ ⟨by decide, by decide⟩ (Nat.le_of_ble_eq_true rfl) (k_putE (h0.2.2) (by decide) (by omega) (by omega) (by omega) (by decide) e_c2 ?_)
      refine gw_iincZ dX6_start_83 rfl rfl (by decide) ?_
      refine gw_goto (tgt := 59) dX6_start_86 (by decide) ?_
      exact gw_L (ih _ _ H) ((lvA_c rfl (lvA_c rfl (lvA_c rfl (lvA_c rfl lvA_n)))))
set_option maxRecDepth 100000 in
set_option maxHeartbeats 4000000 in
theorem l_X6_start_33 {Φ : gwC} {hb : gwHp} {M : Nat} {sh : Nat → Option gSh} {th : Nat} {p1 : Nat} {κ : W0 → Option (Int × W0)} {r : Int × W0} {K : Option Value → gwHp → Prop} (h0 : sT sh th) (h1 : sP sh p1) (hK : K none (hp Φ hb M sh r.2)) (hκ : ∀ (c : W0), κ c = some r → G Φ mX6_start (gw_M Φ mX6_start K) none 0 0 113 [(0, .ref (M + th)), (1, .ref (M + p1))] [] (hp Φ hb M sh c)) : ∀ (n : Nat) (l2 : Int) (c : W0), f_X6_start_33 th p1 κ n l2 c = some r → G Φ mX6_start (gw_M Φ mX6_start K) none 0 0 33 [(0, .ref (M + th)), (1, .ref (M + p1)), (2, vI l2)] [] (hp Φ hb M sh c) := by
  intro n
  induction n with
  | zero => intro l2 c H; cases H
  | succ n ih =>
    intro l2 c H
    have H : b_X6_start_33 th p1 κ (f_X6_start_33 th p1 κ n) l2 c = some r := H
    unfold b_X6_start_33 at H
    refine gw_iload_n dX6_start_33 rfl rfl ?_
    refine gw_aload_n dX6_start_34 rfl rfl ?_
    refine gs_getI cl6 0 0 dX6_start_35 rfl kw_100 (by decide) (h0.1) rfl rfl ?_
    obtain ⟨g, H⟩ := gd_i H
    refine gw_icmp_geZ (tgt := 113) dX6_start_38 rfl (by decide) g.1 g.2 (fun q => ?_) (fun q => ?_)
    · have H := bq_t q H
      exact gw_L (hκ _ H) ((lvA_c rfl (lvA_c rfl lvA_n)))
    · have H := bq_f q H
      refine gw_aload_n dX6_start_41 rfl rfl ?_
      refine gs_getR cl6 3 dX6_start_42 rfl kw_106 (by decide) (h0.1) rfl ?_
      refine gw_iconstZ dX6_start_45 rfl ?_
      refine gw_iload_n dX6_start_46 rfl rfl ?_
      refine gw_aload_n dX6_start_47 rfl rfl ?_
      refine gs_getIN cl2 0 0 dX6_start_48 rfl kw_73 (by decide) (h1.1) rfl rfl ?_
      refine gw_iload_n dX6_start_51 rfl rfl ?_
      refine gw_iaddZ dX6_start_52 rfl ?_
      obtain ⟨g, H⟩ := gd_i H
      refine gw_i2lZ dX6_start_53 rfl g ?_
      obtain ⟨g, H⟩ := gd_i H
      obtain ⟨c1, e_c1, H⟩ := sto_i H
      refine gw_V3 okX1_put dX6_start_54 kw_431 kw_420 kw_421 (hp_o (h0.2.1.1)) rfl ⟨by decide, by decide⟩ ⟨by decide, by decide⟩ (Nat.le_of_ble_eq_true rfl) (k_put0E (h0.2.1) (by decide) (by omega) (by omega) (by decide) e_c1 ?_)
      refine gw_iconstZ dX6_start_57 rfl ?_
      refine gw_istore_n dX6_start_58 rfl (by decide) ?_
      refine gw_L (l_X6_start_59 h0 h1 hK (fun c2 H => ?_) LF _ _ H) ((lvA_c rfl (lvA_c rfl (lvA_c rfl (lvA_c rfl lvA_n)))))
      refine gw_aload_n dX6_start_89 rfl rfl ?_
      refine gs_getR cl6 4 dX6_start_90 rfl kw_107 (by decide) (h0.1) rfl ?_
      refine gw_iload_n dX6_start_93 rfl rfl ?_
      refine gw_aload_n dX6_start_94 rfl rfl ?_
      refine gs_getI cl6 1 1 dX6_start_95 rfl kw_102 (by decide) (h0.1) rfl rfl ?_
      refine gw_aload_n dX6_start_98 rfl rfl ?_
      refine gw_iload_n dX6_start_99 rfl rfl ?_
      obtain ⟨v3, e_v3, H⟩ := cv_i H
      refine gw_V1 okX2_bound dX6_start_100 kw_444 kw_445 kw_446 (hp_o (h1.1)) rfl ⟨by decide, by decide⟩ ⟨by decide, by decide⟩ (Nat.le_of_ble_eq_true rfl) (w_X2_bound (h1) e_v3 ?_)
      obtain ⟨g, H⟩ := gd_i H
      refine gw_i2lZ dX6_start_103 rfl g ?_
      obtain ⟨g, H⟩ := gd_i H
      obtain ⟨c4, e_c4, H⟩ := sto_i H
      refine gw_V3 okX1_put dX6_start_104 kw_431 kw_420 kw_421 (hp_o (h0.2.2.1)) rfl ⟨by decide, by decide⟩ ⟨by decide, by decide⟩ (Nat.le_of_ble_eq_true rfl) (k_putE (h0.2.2) (by decide) (by omega) (by omega) (by omega) (by decide) e_c4 ?_)
      refine gw_iincZ dX6_start_107 rfl rfl (by decide) ?_
      refine gw_goto (tgt := 33) dX6_start_110 (by decide) ?_
      exact gw_L (ih _ _ H) ((lvA_c rfl (lvA_c rfl (lvA_c rfl lvA_n))))
set_option maxRecDepth 100000 in
set_option maxHeartbeats 4000000 in
theorem l_X6_start_115 {Φ : gwC} {hb : gwHp} {M : Nat} {sh : Nat → Option gSh} {th : Nat} {p1 : Nat} {κ : W0 → Option (Int × W0)} {r : Int × W0} {K : Option Value → gwHp → Prop} (h0 : sT sh th) (h1 : sP sh p1) (hK : K none (hp Φ hb M sh r.2)) (hκ : ∀ (c : W0), κ c = some r → G Φ mX6_start (gw_M Φ mX6_start K) none 0 0 147 [(0, .ref (M + th))] [] (hp Φ hb M sh c)) : ∀ (n : Nat) (l2 : Int) (c : W0), f_X6_start_115 th p1 κ n l2 c = some r → G Φ mX6_start (gw_M Φ mX6_start K) none 0 0 115 [(0, .ref (M + th)), (1, .ref (M + p1)), (2, vI l2)] [] (hp Φ hb M sh c) := by
  intro n
  induction n with
  | zero => intro l2 c H; cases H
  | succ n ih =>
    intro l2 c H
    have H : b_X6_start_115 th p1 κ (f_X6_start_115 th p1 κ n) l2 c = some r := H
    unfold b_X6_start_115 at H
    refine gw_iload_n dX6_start_115 rfl rfl ?_
    refine gw_aload_n dX6_start_116 rfl rfl ?_
    refine gs_getI cl6 1 1 dX6_start_117 rfl kw_102 (by decide) (h0.1) rfl rfl ?_
    obtain ⟨g, H⟩ := gd_i H
    refine gw_icmp_geZ (tgt := 147) dX6_start_120 rfl (by decide) g.1 g.2 (fun q => ?_) (fun q => ?_)
    · have H := bq_t q H
      exact gw_L (hκ _ H) ((lvA_c rfl lvA_n))
    · have H := bq_f q H
      refine gw_aload_n dX6_start_123 rfl rfl ?_
      refine gs_getR cl6 4 dX6_start_124 rfl kw_107 (by decide) (h0.1) rfl ?_
      refine gw_aload_n dX6_start_127 rfl rfl ?_
      refine gs_getI cl6 0 0 dX6_start_128 rfl kw_100 (by decide) (h0.1) rfl rfl ?_
      refine gw_iload_n dX6_start_131 rfl rfl ?_
      refine gw_aload_n dX6_start_132 rfl rfl ?_
      refine gw_iload_n dX6_start_133 rfl rfl ?_
      obtain ⟨v1, e_v1, H⟩ := cv_i H
      refine gw_V1 okX2_columnProfit dX6_start_134 kw_448 kw_449 kw_450 (hp_o (h1.1)) rfl ⟨by decide, by decide⟩ ⟨by decide, by decide⟩ (Nat.le_of_ble_eq_true rfl) (w_X2_columnProfit (h1) e_v1 ?_)
      obtain ⟨g, H⟩ := gd_i H
      refine gw_i2lZ dX6_start_137 rfl g ?_
      obtain ⟨g, H⟩ := gd_i H
      obtain ⟨c2, e_c2, H⟩ := sto_i H
      refine gw_V3 okX1_put dX6_start_138 kw_431 kw_420 kw_421 (hp_o (h0.2.2.1)) rfl ⟨by decide, by decide⟩ ⟨by decide, by decide⟩ (Nat.le_of_ble_eq_true rfl) (k_putE (h0.2.2) (by decide) (by omega) (by omega) (by omega) (by decide) e_c2 ?_)
      refine gw_iincZ dX6_start_141 rfl rfl (by decide) ?_
      refine gw_goto (tgt := 115) dX6_start_144 (by decide) ?_
      exact gw_L (ih _ _ H) ((lvA_c rfl (lvA_c rfl (lvA_c rfl lvA_n))))
set_option maxRecDepth 100000 in
set_option maxHeartbeats 4000000 in
theorem w_X6_start {Φ : gwC} {hb : gwHp} {M : Nat} {sh : Nat → Option gSh} {th : Nat} {p1 : Nat} {c : W0} {r : Int × W0} {K : Option Value → gwHp → Prop} (h0 : sT sh th) (h1 : sP sh p1) (H : f_X6_start th p1 c = some r) (hK : K none (hp Φ hb M sh r.2)) : gw_Con Φ mX6_start none [.ref (M + th), .ref (M + p1)] (hp Φ hb M sh c) K := by
  unfold f_X6_start at H
  refine gw_start okX6_start (Nat.le_of_ble_eq_true rfl) ?_
  refine gw_aload_n dX6_start_0 rfl rfl ?_
  refine gw_ifnonnull (tgt := 5) dX6_start_1 (by decide) ?_
  refine gw_aload_n dX6_start_5 rfl rfl ?_
  refine gw_aload_n dX6_start_6 rfl rfl ?_
  refine gs_getIN cl2 1 1 dX6_start_7 rfl kw_78 (by decide) (h1.1) rfl rfl ?_
  obtain ⟨c1, e_c1, H⟩ := sto_i H
  refine gs_putIE cl6 0 0 dX6_start_10 rfl kw_100 (by decide) rfl rfl (h0.1) rfl rfl e_c1 ?_
  refine gw_aload_n dX6_start_13 rfl rfl ?_
  refine gw_aload_n dX6_start_14 rfl rfl ?_
  refine gs_getIN cl2 0 0 dX6_start_15 rfl kw_73 (by decide) (h1.1) rfl rfl ?_
  refine gw_aload_n dX6_start_18 rfl rfl ?_
  refine gs_getIN cl2 1 1 dX6_start_19 rfl kw_78 (by decide) (h1.1) rfl rfl ?_
  refine gw_iaddZ dX6_start_22 rfl ?_
  obtain ⟨c2, e_c2, H⟩ := sto_i H
  refine gs_putIE cl6 1 1 dX6_start_23 rfl kw_102 (by decide) rfl rfl (h0.1) rfl rfl e_c2 ?_
  refine gw_aload_n dX6_start_26 rfl rfl ?_
  refine gw_lconst1Z dX6_start_27 rfl ?_
  obtain ⟨c3, e_c3, H⟩ := sto_i H
  refine gs_putLE cl6 2 2 dX6_start_28 rfl kw_104 (by decide) rfl rfl (h0.1) rfl rfl e_c3 ?_
  refine gw_iconstZ dX6_start_31 rfl ?_
  refine gw_istore_n dX6_start_32 rfl (by decide) ?_
  refine gw_L (l_X6_start_33 h0 h1 hK (fun c4 H => ?_) LF _ _ H) ((lvA_c rfl (lvA_c rfl (lvA_c rfl lvA_n))))
  refine gw_iconstZ dX6_start_113 rfl ?_
  refine gw_istore_n dX6_start_114 rfl (by decide) ?_
  refine gw_L (l_X6_start_115 h0 h1 hK (fun c5 H => ?_) LF _ _ H) ((lvA_c rfl (lvA_c rfl (lvA_c rfl lvA_n))))
  refine gw_aload_n dX6_start_147 rfl rfl ?_
  refine gs_getR cl6 4 dX6_start_148 rfl kw_107 (by decide) (h0.1) rfl ?_
  refine gw_aload_n dX6_start_151 rfl rfl ?_
  refine gs_getI cl6 0 0 dX6_start_152 rfl kw_100 (by decide) (h0.1) rfl rfl ?_
  refine gw_aload_n dX6_start_155 rfl rfl ?_
  refine gs_getI cl6 1 1 dX6_start_156 rfl kw_102 (by decide) (h0.1) rfl rfl ?_
  refine gw_lconst0Z dX6_start_159 rfl ?_
  obtain ⟨g, H⟩ := gd_i H
  obtain ⟨c6, e_c6, H⟩ := sto_i H
  refine gw_V3 okX1_put dX6_start_160 kw_431 kw_420 kw_421 (hp_o (h0.2.2.1)) rfl ⟨by decide, by decide⟩ ⟨by decide, by decide⟩ (Nat.le_of_ble_eq_true rfl) (k_putE (h0.2.2) (by decide) (by omega) (by omega) (by omega) (by decide) e_c6 ?_)
  cases H
  exact gw_vret dX6_start_163 rfl (by decide) (by decide) hK
set_option maxRecDepth 100000 in
set_option maxHeartbeats 4000000 in
theorem w_X4_start {Φ : gwC} {hb : gwHp} {M : Nat} {sh : Nat → Option gSh} {th : Nat} {c : W0} {r : Int × W0} {K : Option Value → gwHp → Prop} (h0 : sS sh th) (H : f_X4_start th c = some r) (hK : K none (hp Φ hb M sh r.2)) : gw_Con Φ mX4_start none [.ref (M + th)] (hp Φ hb M sh c) K := by
  unfold f_X4_start at H
  refine gw_start okX4_start (Nat.le_of_ble_eq_true rfl) ?_
  refine gw_aload_n dX4_start_0 rfl rfl ?_
  refine gs_getR cl4 1 dX4_start_1 rfl kw_122 (by decide) (h0.1) rfl ?_
  refine gw_aload_n dX4_start_4 rfl rfl ?_
  refine gs_getR cl4 0 dX4_start_5 rfl kw_119 (by decide) (h0.1) rfl ?_
  obtain ⟨v2, c1, e_c1, H⟩ := cl_i H
  refine gw_V1 okX6_start dX4_start_8 kw_427 kw_428 kw_429 (hp_o (h0.2.2.1)) rfl ⟨by decide, by decide⟩ ⟨by decide, by decide⟩ (Nat.le_of_ble_eq_true rfl) (w_X6_start (h0.2.2) (h0.2.1) e_c1 ?_)
  refine gw_aload_n dX4_start_11 rfl rfl ?_
  refine gw_iconstZ dX4_start_12 rfl ?_
  obtain ⟨c3, e_c3, H⟩ := sto_i H
  refine gs_putIE cl4 3 3 dX4_start_13 rfl kw_127 (by decide) rfl rfl (h0.1) rfl rfl e_c3 ?_
  cases H
  exact gw_vret dX4_start_16 rfl (by decide) (by decide) hK
set_option maxRecDepth 100000 in
set_option maxHeartbeats 4000000 in
theorem w_X6_reduced {Φ : gwC} {hb : gwHp} {M : Nat} {sh : Nat → Option gSh} {th : Nat} {p1 : Int} {c : W0} {r : Int} {K : Option Value → gwHp → Prop} (h0 : sT sh th) (H : f_X6_reduced th p1 c = some r) (hK : K (some (vL r)) (hp Φ hb M sh c)) : gw_Con Φ mX6_reduced none [.ref (M + th), vI p1] (hp Φ hb M sh c) K := by
  unfold f_X6_reduced at H
  refine gw_start okX6_reduced (Nat.le_of_ble_eq_true rfl) ?_
  refine gw_aload_n dX6_reduced_0 rfl rfl ?_
  refine gs_getR cl6 4 dX6_reduced_1 rfl kw_107 (by decide) (h0.1) rfl ?_
  refine gw_aload_n dX6_reduced_4 rfl rfl ?_
  refine gs_getI cl6 0 0 dX6_reduced_5 rfl kw_100 (by decide) (h0.1) rfl rfl ?_
  refine gw_iload_n dX6_reduced_8 rfl rfl ?_
  obtain ⟨g, H⟩ := gd_i H
  refine gw_V2 okX1_at dX6_reduced_9 kw_561 kw_441 kw_442 (hp_o (h0.2.2.1)) rfl ⟨by decide, by decide⟩ ⟨by decide, by decide⟩ (Nat.le_of_ble_eq_true rfl) (k_at (h0.2.2) (by decide) (by omega) (by omega) (by omega) (by decide) ?_)
  cases H
  exact gw_lret dX6_reduced_12 rfl (by decide) (by decide) hK
set_option maxRecDepth 100000 in
set_option maxHeartbeats 4000000 in
theorem l_X6_leastRow_10 {Φ : gwC} {hb : gwHp} {M : Nat} {sh : Nat → Option gSh} {th : Nat} {p1 : Int} {c : W0} {κ : Int → Option Int} {r : Int} {K : Option Value → gwHp → Prop} (h0 : sT sh th) (hK : K (some (vI r)) (hp Φ hb M sh c)) (hκ : ∀ (x2 : Int), κ x2 = some r → G Φ mX6_leastRow (gw_M Φ mX6_leastRow K) none 0 0 122 [(2, vI x2)] [] (hp Φ hb M sh c)) : ∀ (n : Nat) (l2 : Int) (l3 : Int) (l5 : Int) (l7 : Int), f_X6_leastRow_10 th p1 c κ n l2 l3 l5 l7 = some r → G Φ mX6_leastRow (gw_M Φ mX6_leastRow K) none 0 0 10 [(0, .ref (M + th)), (1, vI p1), (2, vI l2), (3, vL l3), (5, vL l5), (7, vI l7)] [] (hp Φ hb M sh c) := by
  intro n
  induction n with
  | zero => intro l2 l3 l5 l7 H; cases H
  | succ n ih =>
    intro l2 l3 l5 l7 H
    have H : b_X6_leastRow_10 th p1 c κ (f_X6_leastRow_10 th p1 c κ n) l2 l3 l5 l7 = some r := H
    unfold b_X6_leastRow_10 at H
    refine gw_iload dX6_leastRow_10 rfl rfl ?_
    refine gw_aload_n dX6_leastRow_12 rfl rfl ?_
    refine gs_getI cl6 0 0 dX6_leastRow_13 rfl kw_100 (by decide) (h0.1) rfl rfl ?_
    obtain ⟨g, H⟩ := gd_i H
    refine gw_icmp_geZ (tgt := 122) dX6_leastRow_16 rfl (by decide) g.1 g.2 (fun q => ?_) (fun q => ?_)
    · have H := bq_t q H
      exact gw_L (hκ _ H) ((lvA_c rfl lvA_n))
    · have H := bq_f q H
      refine gw_aload_n dX6_leastRow_19 rfl rfl ?_
      refine gs_getR cl6 4 dX6_leastRow_20 rfl kw_107 (by decide) (h0.1) rfl ?_
      refine gw_iload dX6_leastRow_23 rfl rfl ?_
      refine gw_iload_n dX6_leastRow_25 rfl rfl ?_
      obtain ⟨g, H⟩ := gd_i H
      refine gw_V2 okX1_at dX6_leastRow_26 kw_561 kw_441 kw_442 (hp_o (h0.2.2.1)) rfl ⟨by decide, by decide⟩ ⟨by decide, by decide⟩ (Nat.le_of_ble_eq_true rfl) (k_at (h0.2.2) (by decide) (by omega) (by omega) (by omega) (by decide) ?_)
      refine gw_lstore dX6_leastRow_29 rfl (by decide) ?_
      refine gw_aload_n dX6_leastRow_31 rfl rfl ?_
      refine gs_getR cl6 4 dX6_leastRow_32 rfl kw_107 (by decide) (h0.1) rfl ?_
      refine gw_iload dX6_leastRow_35 rfl rfl ?_
      refine gw_aload_n dX6_leastRow_37 rfl rfl ?_
      refine gs_getI cl6 1 1 dX6_leastRow_38 rfl kw_102 (by decide) (h0.1) rfl rfl ?_
      obtain ⟨g, H⟩ := gd_i H
      refine gw_V2 okX1_at dX6_leastRow_41 kw_561 kw_441 kw_442 (hp_o (h0.2.2.1)) rfl ⟨by decide, by decide⟩ ⟨by decide, by decide⟩ (Nat.le_of_ble_eq_true rfl) (k_at (h0.2.2) (by decide) (by omega) (by omega) (by omega) (by decide) ?_)
      refine gw_lstore dX6_leastRow_44 rfl (by decide) ?_
      refine gw_lload dX6_leastRow_46 rfl rfl ?_
      refine gw_lload_n dX6_leastRow_48 rfl rfl ?_
      refine gw_lmulZ dX6_leastRow_49 rfl ?_
      refine gw_lload dX6_leastRow_50 rfl rfl ?_
      refine gw_lload dX6_leastRow_52 rfl rfl ?_
      refine gw_lmulZ dX6_leastRow_54 rfl ?_
      refine gw_lsubZ dX6_leastRow_55 rfl ?_
      refine gw_lstore dX6_leastRow_56 rfl (by decide) ?_
      refine gw_lload dX6_leastRow_58 rfl rfl ?_
      refine gw_lconst0Z dX6_leastRow_60 rfl ?_
      obtain ⟨g, H⟩ := gd_i H
      refine gw_lc_leZ (tgt := 116) dX6_leastRow_61 rfl dX6_leastRow_62 rfl (by decide) g (by decide) (fun q => ?_) (fun q => ?_)
      · have H := bq_t q H
        refine gw_iincZ dX6_leastRow_116 rfl rfl (by decide) ?_
        refine gw_goto (tgt := 10) dX6_leastRow_119 (by decide) ?_
        exact gw_L (ih _ _ _ _ H) ((lvA_c rfl (lvA_c rfl (lvA_c rfl (lvA_c rfl (lvA_c rfl (lvA_c rfl lvA_n)))))))
      · have H := bq_f q H
        refine gw_iload_n dX6_leastRow_65 rfl rfl ?_
        obtain ⟨g, H⟩ := gd_i H
        obtain ⟨k1, e_k1, H⟩ := jn_i H
        have hJ_k1 : ∀ (u2 : Unit), k1 u2 = some r → G Φ mX6_leastRow (gw_M Φ mX6_leastRow K) none 0 0 106 [(0, .ref (M + th)), (1, vI p1), (7, vI l7), (8, vL (c (th + 4) (l7 * 9 + p1))), (10, vL (c (th + 4) (l7 * 9 + (c th 1))))] [] (hp Φ hb M sh c) := by
          intro u2 H
          subst e_k1
          refine gw_iload dX6_leastRow_106 rfl rfl ?_
          refine gw_istore_n dX6_leastRow_108 rfl (by decide) ?_
          refine gw_lload dX6_leastRow_109 rfl rfl ?_
          refine gw_lstore_n dX6_leastRow_111 rfl (by decide) ?_
          refine gw_lload dX6_leastRow_112 rfl rfl ?_
          refine gw_lstore dX6_leastRow_114 rfl (by decide) ?_
          refine gw_iincZ dX6_leastRow_116 rfl rfl (by decide) ?_
          refine gw_goto (tgt := 10) dX6_leastRow_119 (by decide) ?_
          exact gw_L (ih _ _ _ _ H) ((lvA_c rfl (lvA_c rfl (lvA_c rfl (lvA_c rfl (lvA_c rfl (lvA_c rfl lvA_n)))))))
        refine gw_if_ltZ (tgt := 106) dX6_leastRow_66 rfl (by decide) g (fun q => ?_) (fun q => ?_)
        · have H := bq_t q H
          exact gw_L (hJ_k1 _ H) ((lvA_c rfl (lvA_c rfl (lvA_c rfl (lvA_c rfl (lvA_c rfl lvA_n))))))
        · have H := bq_f q H
          refine gw_lload dX6_leastRow_69 rfl rfl ?_
          refine gw_lconst0Z dX6_leastRow_71 rfl ?_
          obtain ⟨g, H⟩ := gd_i H
          refine gw_lc_ltZ (tgt := 106) dX6_leastRow_72 rfl dX6_leastRow_73 rfl (by decide) g (by decide) (fun q => ?_) (fun q => ?_)
          · have H := bq_t q H
            exact gw_L (hJ_k1 _ H) ((lvA_c rfl (lvA_c rfl (lvA_c rfl (lvA_c rfl (lvA_c rfl lvA_n))))))
          · have H := bq_f q H
            refine gw_lload dX6_leastRow_76 rfl rfl ?_
            refine gw_lconst0Z dX6_leastRow_78 rfl ?_
            obtain ⟨g, H⟩ := gd_i H
            refine gw_lc_neZ (tgt := 116) dX6_leastRow_79 rfl dX6_leastRow_80 rfl (by decide) g (by decide) (fun q => ?_) (fun q => ?_)
            · have H := bq_f q H
              refine gw_iincZ dX6_leastRow_116 rfl rfl (by decide) ?_
              refine gw_goto (tgt := 10) dX6_leastRow_119 (by decide) ?_
              exact gw_L (ih _ _ _ _ H) ((lvA_c rfl (lvA_c rfl (lvA_c rfl (lvA_c rfl (lvA_c rfl (lvA_c rfl lvA_n)))))))
            · have H := bq_t q H
              refine gw_aload_n dX6_leastRow_83 rfl rfl ?_
              refine gs_getR cl6 3 dX6_leastRow_84 rfl kw_106 (by decide) (h0.1) rfl ?_
              refine gw_iconstZ dX6_leastRow_87 rfl ?_
              refine gw_iload dX6_leastRow_88 rfl rfl ?_
              obtain ⟨g, H⟩ := gd_i H
              refine gw_V2 okX1_at dX6_leastRow_90 kw_561 kw_441 kw_442 (hp_o (h0.2.1.1)) rfl ⟨by decide, by decide⟩ ⟨by decide, by decide⟩ (Nat.le_of_ble_eq_true rfl) (k_at0 (h0.2.1) (by decide) (by omega) (by omega) (by decide) ?_)
              refine gw_aload_n dX6_leastRow_93 rfl rfl ?_
              refine gs_getR cl6 3 dX6_leastRow_94 rfl kw_106 (by decide) (h0.1) rfl ?_
              refine gw_iconstZ dX6_leastRow_97 rfl ?_
              refine gw_iload_n dX6_leastRow_98 rfl rfl ?_
              obtain ⟨g, H⟩ := gd_i H
              refine gw_V2 okX1_at dX6_leastRow_99 kw_561 kw_441 kw_442 (hp_o (h0.2.1.1)) rfl ⟨by decide, by decide⟩ ⟨by decide, by decide⟩ (Nat.le_of_ble_eq_true rfl) (k_at0 (h0.2.1) (by decide) (by omega) (by omega) (by decide) ?_)
              obtain ⟨g, H⟩ := gd_i H
              refine gw_lc_geZ (tgt := 116) dX6_leastRow_102 rfl dX6_leastRow_103 rfl (by decide) g.1 g.2 (fun q => ?_) (fun q => ?_)
              · have H := bq_t q H
                refine gw_iincZ dX6_leastRow_116 rfl rfl (by decide) ?_
                refine gw_goto (tgt := 10) dX6_leastRow_119 (by decide) ?_
                exact gw_L (ih _ _ _ _ H) ((lvA_c rfl (lvA_c rfl (lvA_c rfl (lvA_c rfl (lvA_c rfl (lvA_c rfl lvA_n)))))))
              · have H := bq_f q H
                exact gw_L (hJ_k1 _ H) ((lvA_c rfl (lvA_c rfl (lvA_c rfl (lvA_c rfl (lvA_c rfl lvA_n))))))
set_option maxRecDepth 100000 in
set_option maxHeartbeats 4000000 in
theorem w_X6_leastRow {Φ : gwC} {hb : gwHp} {M : Nat} {sh : Nat → Option gSh} {th : Nat} {p1 : Int} {c : W0} {r : Int} {K : Option Value → gwHp → Prop} (h0 : sT sh th) (H : f_X6_leastRow th p1 c = some r) (hK : K (some (vI r)) (hp Φ hb M sh c)) : gw_Con Φ mX6_leastRow none [.ref (M + th), vI p1] (hp Φ hb M sh c) K := by
  unfold f_X6_leastRow at H
  refine gw_start okX6_leastRow (Nat.le_of_ble_eq_true rfl) ?_
  refine gw_iconstZ dX6_leastRow_0 rfl ?_
  refine gw_istore_n dX6_leastRow_1 rfl (by decide) ?_
  refine gw_lconst0Z dX6_leastRow_2 rfl ?_
  refine gw_lstore_n dX6_leastRow_3 rfl (by decide) ?_
  refine gw_lconst0Z dX6_leastRow_4 rfl ?_
  refine gw_lstore dX6_leastRow_5 rfl (by decide) ?_
  refine gw_iconstZ dX6_leastRow_7 rfl ?_
  refine gw_istore dX6_leastRow_8 rfl (by decide) ?_
  refine gw_L (l_X6_leastRow_10 h0 hK (fun v1 H => ?_) LF _ _ _ _ H) ((lvA_c rfl (lvA_c rfl (lvA_c rfl (lvA_c rfl (lvA_c rfl (lvA_c rfl lvA_n)))))))
  refine gw_iload_n dX6_leastRow_122 rfl rfl ?_
  cases H
  exact gw_iret dX6_leastRow_123 rfl (by decide) (by decide) hK
set_option maxRecDepth 100000 in
set_option maxHeartbeats 4000000 in
theorem w_X6_side {Φ : gwC} {hb : gwHp} {M : Nat} {sh : Nat → Option gSh} {th : Nat} {p1 : Int} {c : W0} {r : Int} {K : Option Value → gwHp → Prop} (h0 : sT sh th) (H : f_X6_side th p1 c = some r) (hK : K (some (vL r)) (hp Φ hb M sh c)) : gw_Con Φ mX6_side none [.ref (M + th), vI p1] (hp Φ hb M sh c) K := by
  unfold f_X6_side at H
  refine gw_start okX6_side (Nat.le_of_ble_eq_true rfl) ?_
  refine gw_aload_n dX6_side_0 rfl rfl ?_
  refine gs_getR cl6 4 dX6_side_1 rfl kw_107 (by decide) (h0.1) rfl ?_
  refine gw_iload_n dX6_side_4 rfl rfl ?_
  refine gw_aload_n dX6_side_5 rfl rfl ?_
  refine gs_getI cl6 1 1 dX6_side_6 rfl kw_102 (by decide) (h0.1) rfl rfl ?_
  obtain ⟨g, H⟩ := gd_i H
  refine gw_V2 okX1_at dX6_side_9 kw_561 kw_441 kw_442 (hp_o (h0.2.2.1)) rfl ⟨by decide, by decide⟩ ⟨by decide, by decide⟩ (Nat.le_of_ble_eq_true rfl) (k_at (h0.2.2) (by decide) (by omega) (by omega) (by omega) (by decide) ?_)
  cases H
  exact gw_lret dX6_side_12 rfl (by decide) (by decide) hK
set_option maxRecDepth 100000 in
set_option maxHeartbeats 4000000 in
theorem w_X6_entry {Φ : gwC} {hb : gwHp} {M : Nat} {sh : Nat → Option gSh} {th : Nat} {p1 : Int} {p2 : Int} {c : W0} {r : Int} {K : Option Value → gwHp → Prop} (h0 : sT sh th) (H : f_X6_entry th p1 p2 c = some r) (hK : K (some (vL r)) (hp Φ hb M sh c)) : gw_Con Φ mX6_entry none [.ref (M + th), vI p1, vI p2] (hp Φ hb M sh c) K := by
  unfold f_X6_entry at H
  refine gw_start okX6_entry (Nat.le_of_ble_eq_true rfl) ?_
  refine gw_aload_n dX6_entry_0 rfl rfl ?_
  refine gs_getR cl6 4 dX6_entry_1 rfl kw_107 (by decide) (h0.1) rfl ?_
  refine gw_iload_n dX6_entry_4 rfl rfl ?_
  refine gw_iload_n dX6_entry_5 rfl rfl ?_
  obtain ⟨g, H⟩ := gd_i H
  refine gw_V2 okX1_at dX6_entry_6 kw_561 kw_441 kw_442 (hp_o (h0.2.2.1)) rfl ⟨by decide, by decide⟩ ⟨by decide, by decide⟩ (Nat.le_of_ble_eq_true rfl) (k_at (h0.2.2) (by decide) (by omega) (by omega) (by omega) (by decide) ?_)
  cases H
  exact gw_lret dX6_entry_9 rfl (by decide) (by decide) hK
set_option maxRecDepth 100000 in
set_option maxHeartbeats 4000000 in
theorem w_X6_gainsMore {Φ : gwC} {hb : gwHp} {M : Nat} {sh : Nat → Option gSh} {th : Nat} {p1 : Int} {p2 : Int} {c : W0} {r : Int} {K : Option Value → gwHp → Prop} (h0 : sT sh th) (H : f_X6_gainsMore th p1 p2 c = some r) (hK : K (some (vI r)) (hp Φ hb M sh c)) : gw_Con Φ mX6_gainsMore none [.ref (M + th), vI p1, vI p2] (hp Φ hb M sh c) K := by
  unfold f_X6_gainsMore at H
  refine gw_start okX6_gainsMore (Nat.le_of_ble_eq_true rfl) ?_
  refine gw_aload_n dX6_gainsMore_0 rfl rfl ?_
  refine gw_iload_n dX6_gainsMore_1 rfl rfl ?_
  obtain ⟨v1, e_v1, H⟩ := cv_i H
  refine gw_V1 okX6_leastRow dX6_gainsMore_2 kw_570 kw_571 kw_572 (hp_o (h0.1)) rfl ⟨by decide, by decide⟩ ⟨by decide, by decide⟩ (Nat.le_of_ble_eq_true rfl) (w_X6_leastRow (h0) e_v1 ?_)
  refine gw_istore_n dX6_gainsMore_5 rfl (by decide) ?_
  refine gw_aload_n dX6_gainsMore_6 rfl rfl ?_
  refine gw_iload_n dX6_gainsMore_7 rfl rfl ?_
  obtain ⟨v2, e_v2, H⟩ := cv_i H
  refine gw_V1 okX6_leastRow dX6_gainsMore_8 kw_570 kw_571 kw_572 (hp_o (h0.1)) rfl ⟨by decide, by decide⟩ ⟨by decide, by decide⟩ (Nat.le_of_ble_eq_true rfl) (w_X6_leastRow (h0) e_v2 ?_)
  refine gw_istore dX6_gainsMore_11 rfl (by decide) ?_
  refine gw_aload_n dX6_gainsMore_13 rfl rfl ?_
  refine gw_iload_n dX6_gainsMore_14 rfl rfl ?_
  obtain ⟨v3, e_v3, H⟩ := cv_i H
  refine gw_V1 okX6_reduced dX6_gainsMore_15 kw_562 kw_563 kw_564 (hp_o (h0.1)) rfl ⟨by decide, by decide⟩ ⟨by decide, by decide⟩ (Nat.le_of_ble_eq_true rfl) (w_X6_reduced (h0) e_v3 ?_)
  refine gw_aload_n dX6_gainsMore_18 rfl rfl ?_
  refine gw_iload_n dX6_gainsMore_19 rfl rfl ?_
  obtain ⟨v4, e_v4, H⟩ := cv_i H
  refine gw_V1 okX6_side dX6_gainsMore_20 kw_574 kw_575 kw_576 (hp_o (h0.1)) rfl ⟨by decide, by decide⟩ ⟨by decide, by decide⟩ (Nat.le_of_ble_eq_true rfl) (w_X6_side (h0) e_v4 ?_)
  refine gw_lmulZ dX6_gainsMore_23 rfl ?_
  refine gw_aload_n dX6_gainsMore_24 rfl rfl ?_
  refine gw_iload dX6_gainsMore_25 rfl rfl ?_
  refine gw_iload_n dX6_gainsMore_27 rfl rfl ?_
  obtain ⟨v5, e_v5, H⟩ := cv_i H
  refine gw_V2 okX6_entry dX6_gainsMore_28 kw_566 kw_567 kw_568 (hp_o (h0.1)) rfl ⟨by decide, by decide⟩ ⟨by decide, by decide⟩ (Nat.le_of_ble_eq_true rfl) (w_X6_entry (h0) e_v5 ?_)
  refine gw_lmulZ dX6_gainsMore_31 rfl ?_
  refine gw_lstore dX6_gainsMore_32 rfl (by decide) ?_
  refine gw_aload_n dX6_gainsMore_34 rfl rfl ?_
  refine gw_iload_n dX6_gainsMore_35 rfl rfl ?_
  obtain ⟨v6, e_v6, H⟩ := cv_i H
  refine gw_V1 okX6_reduced dX6_gainsMore_36 kw_562 kw_563 kw_564 (hp_o (h0.1)) rfl ⟨by decide, by decide⟩ ⟨by decide, by decide⟩ (Nat.le_of_ble_eq_true rfl) (w_X6_reduced (h0) e_v6 ?_)
  refine gw_aload_n dX6_gainsMore_39 rfl rfl ?_
  refine gw_iload dX6_gainsMore_40 rfl rfl ?_
  obtain ⟨v7, e_v7, H⟩ := cv_i H
  refine gw_V1 okX6_side dX6_gainsMore_42 kw_574 kw_575 kw_576 (hp_o (h0.1)) rfl ⟨by decide, by decide⟩ ⟨by decide, by decide⟩ (Nat.le_of_ble_eq_true rfl) (w_X6_side (h0) e_v7 ?_)
  refine gw_lmulZ dX6_gainsMore_45 rfl ?_
  refine gw_aload_n dX6_gainsMore_46 rfl rfl ?_
  refine gw_iload_n dX6_gainsMore_47 rfl rfl ?_
  refine gw_iload_n dX6_gainsMore_48 rfl rfl ?_
  obtain ⟨v8, e_v8, H⟩ := cv_i H
  refine gw_V2 okX6_entry dX6_gainsMore_49 kw_566 kw_567 kw_568 (hp_o (h0.1)) rfl ⟨by decide, by decide⟩ ⟨by decide, by decide⟩ (Nat.le_of_ble_eq_true rfl) (w_X6_entry (h0) e_v8 ?_)
  refine gw_lmulZ dX6_gainsMore_52 rfl ?_
  refine gw_lstore dX6_gainsMore_53 rfl (by decide) ?_
  refine gw_lload dX6_gainsMore_55 rfl rfl ?_
  refine gw_lload dX6_gainsMore_57 rfl rfl ?_
  obtain ⟨g, H⟩ := gd_i H
  refine gw_lc_leZ (tgt := 67) dX6_gainsMore_59 rfl dX6_gainsMore_60 rfl (by decide) g.1 g.2 (fun q => ?_) (fun q => ?_)
  · have H := bq_t q H
    refine gw_iconstZ dX6_gainsMore_67 rfl ?_
    cases H
    exact gw_zret rfl dX6_gainsMore_68 rfl (by decide) (by decide) hK
  · have H := bq_f q H
    refine gw_iconstZ dX6_gainsMore_63 rfl ?_
    refine gw_goto (tgt := 68) dX6_gainsMore_64 (by decide) ?_
    cases H
    exact gw_zret rfl dX6_gainsMore_68 rfl (by decide) (by decide) hK
set_option maxRecDepth 100000 in
set_option maxHeartbeats 4000000 in
theorem l_X6_chosenColumn_4 {Φ : gwC} {hb : gwHp} {M : Nat} {sh : Nat → Option gSh} {th : Nat} {p1 : Int} {c : W0} {κ : Int → Option Int} {r : Int} {K : Option Value → gwHp → Prop} (h0 : sT sh th) (hK : K (some (vI r)) (hp Φ hb M sh c)) (hκ : ∀ (x2 : Int), κ x2 = some r → G Φ mX6_chosenColumn (gw_M Φ mX6_chosenColumn K) none 0 0 67 [(2, vI x2)] [] (hp Φ hb M sh c)) : ∀ (n : Nat) (l2 : Int) (l3 : Int), f_X6_chosenColumn_4 th p1 c κ n l2 l3 = some r → G Φ mX6_chosenColumn (gw_M Φ mX6_chosenColumn K) none 0 0 4 [(0, .ref (M + th)), (1, vI p1), (2, vI l2), (3, vI l3)] [] (hp Φ hb M sh c) := by
  intro n
  induction n with
  | zero => intro l2 l3 H; cases H
  | succ n ih =>
    intro l2 l3 H
    have H : b_X6_chosenColumn_4 th p1 c κ (f_X6_chosenColumn_4 th p1 c κ n) l2 l3 = some r := H
    unfold b_X6_chosenColumn_4 at H
    refine gw_iload_n dX6_chosenColumn_4 rfl rfl ?_
    refine gw_aload_n dX6_chosenColumn_5 rfl rfl ?_
    refine gs_getI cl6 1 1 dX6_chosenColumn_6 rfl kw_102 (by decide) (h0.1) rfl rfl ?_
    obtain ⟨g, H⟩ := gd_i H
    refine gw_icmp_geZ (tgt := 67) dX6_chosenColumn_9 rfl (by decide) g.1 g.2 (fun q => ?_) (fun q => ?_)
    · have H := bq_t q H
      exact gw_L (hκ _ H) ((lvA_c rfl lvA_n))
    · have H := bq_f q H
      refine gw_aload_n dX6_chosenColumn_12 rfl rfl ?_
      refine gw_iload_n dX6_chosenColumn_13 rfl rfl ?_
      obtain ⟨v1, e_v1, H⟩ := cv_i H
      refine gw_V1 okX6_reduced dX6_chosenColumn_14 kw_562 kw_563 kw_564 (hp_o (h0.1)) rfl ⟨by decide, by decide⟩ ⟨by decide, by decide⟩ (Nat.le_of_ble_eq_true rfl) (w_X6_reduced (h0) e_v1 ?_)
      refine gw_lconst0Z dX6_chosenColumn_17 rfl ?_
      obtain ⟨g, H⟩ := gd_i H
      refine gw_lc_leZ (tgt := 61) dX6_chosenColumn_18 rfl dX6_chosenColumn_19 rfl (by decide) g (by decide) (fun q => ?_) (fun q => ?_)
      · have H := bq_t q H
        refine gw_iincZ dX6_chosenColumn_61 rfl rfl (by decide) ?_
        refine gw_goto (tgt := 4) dX6_chosenColumn_64 (by decide) ?_
        exact gw_L (ih _ _ H) ((lvA_c rfl (lvA_c rfl (lvA_c rfl (lvA_c rfl lvA_n)))))
      · have H := bq_f q H
        refine gw_iload_n dX6_chosenColumn_22 rfl rfl ?_
        obtain ⟨g, H⟩ := gd_i H
        refine gw_if_ltZ (tgt := 59) dX6_chosenColumn_23 rfl (by decide) g (fun q => ?_) (fun q => ?_)
        · have H := bq_t q H
          refine gw_iload_n dX6_chosenColumn_59 rfl rfl ?_
          refine gw_istore_n dX6_chosenColumn_60 rfl (by decide) ?_
          refine gw_iincZ dX6_chosenColumn_61 rfl rfl (by decide) ?_
          refine gw_goto (tgt := 4) dX6_chosenColumn_64 (by decide) ?_
          exact gw_L (ih _ _ H) ((lvA_c rfl (lvA_c rfl (lvA_c rfl (lvA_c rfl lvA_n)))))
        · have H := bq_f q H
          refine gw_iload_n dX6_chosenColumn_26 rfl rfl ?_
          refine gw_iconstZ dX6_chosenColumn_27 rfl ?_
          obtain ⟨g, H⟩ := gd_i H
          obtain ⟨k2, e_k2, H⟩ := jn_i H
          have hJ_k2 : ∀ (u3 : Unit), k2 u3 = some r → G Φ mX6_chosenColumn (gw_M Φ mX6_chosenColumn K) none 0 0 45 [(0, .ref (M + th)), (1, vI p1), (2, vI l2), (3, vI l3)] [] (hp Φ hb M sh c) := by
            intro u3 H
            subst e_k2
            refine gw_iload_n dX6_chosenColumn_45 rfl rfl ?_
            refine gw_iconstZ dX6_chosenColumn_46 rfl ?_
            obtain ⟨g, H⟩ := gd_i H
            refine gw_icmp_neZ (tgt := 61) dX6_chosenColumn_47 rfl (by decide) g (by decide) (fun q => ?_) (fun q => ?_)
            · have H := bq_f q H
              refine gw_iincZ dX6_chosenColumn_61 rfl rfl (by decide) ?_
              refine gw_goto (tgt := 4) dX6_chosenColumn_64 (by decide) ?_
              exact gw_L (ih _ _ H) ((lvA_c rfl (lvA_c rfl (lvA_c rfl (lvA_c rfl lvA_n)))))
            · have H := bq_t q H
              refine gw_aload_n dX6_chosenColumn_50 rfl rfl ?_
              refine gw_iload_n dX6_chosenColumn_51 rfl rfl ?_
              refine gw_iload_n dX6_chosenColumn_52 rfl rfl ?_
              obtain ⟨v4, e_v4, H⟩ := cv_i H
              refine gw_V2 okX6_gainsMore dX6_chosenColumn_53 kw_624 kw_626 kw_8 (hp_o (h0.1)) rfl ⟨by decide, by decide⟩ ⟨by decide, by decide⟩ (Nat.le_of_ble_eq_true rfl) (w_X6_gainsMore (h0) e_v4 ?_)
              obtain ⟨g, H⟩ := gd_i H
              refine gw_if_eqZ (tgt := 61) dX6_chosenColumn_56 rfl (by decide) g (fun q => ?_) (fun q => ?_)
              · have H := bq_t q H
                refine gw_iincZ dX6_chosenColumn_61 rfl rfl (by decide) ?_
                refine gw_goto (tgt := 4) dX6_chosenColumn_64 (by decide) ?_
                exact gw_L (ih _ _ H) ((lvA_c rfl (lvA_c rfl (lvA_c rfl (lvA_c rfl lvA_n)))))
              · have H := bq_f q H
                refine gw_iload_n dX6_chosenColumn_59 rfl rfl ?_
                refine gw_istore_n dX6_chosenColumn_60 rfl (by decide) ?_
                refine gw_iincZ dX6_chosenColumn_61 rfl rfl (by decide) ?_
                refine gw_goto (tgt := 4) dX6_chosenColumn_64 (by decide) ?_
                exact gw_L (ih _ _ H) ((lvA_c rfl (lvA_c rfl (lvA_c rfl (lvA_c rfl lvA_n)))))
          refine gw_icmp_neZ (tgt := 45) dX6_chosenColumn_28 rfl (by decide) g (by decide) (fun q => ?_) (fun q => ?_)
          · have H := bq_f q H
            exact gw_L (hJ_k2 _ H) ((lvA_c rfl (lvA_c rfl (lvA_c rfl (lvA_c rfl lvA_n)))))
          · have H := bq_t q H
            refine gw_aload_n dX6_chosenColumn_31 rfl rfl ?_
            refine gw_iload_n dX6_chosenColumn_32 rfl rfl ?_
            obtain ⟨v5, e_v5, H⟩ := cv_i H
            refine gw_V1 okX6_reduced dX6_chosenColumn_33 kw_562 kw_563 kw_564 (hp_o (h0.1)) rfl ⟨by decide, by decide⟩ ⟨by decide, by decide⟩ (Nat.le_of_ble_eq_true rfl) (w_X6_reduced (h0) e_v5 ?_)
            refine gw_aload_n dX6_chosenColumn_36 rfl rfl ?_
            refine gw_iload_n dX6_chosenColumn_37 rfl rfl ?_
            obtain ⟨v6, e_v6, H⟩ := cv_i H
            refine gw_V1 okX6_reduced dX6_chosenColumn_38 kw_562 kw_563 kw_564 (hp_o (h0.1)) rfl ⟨by decide, by decide⟩ ⟨by decide, by decide⟩ (Nat.le_of_ble_eq_true rfl) (w_X6_reduced (h0) e_v6 ?_)
            obtain ⟨g, H⟩ := gd_i H
            refine gw_lc_gtZ (tgt := 59) dX6_chosenColumn_41 rfl dX6_chosenColumn_42 rfl (by decide) g.1 g.2 (fun q => ?_) (fun q => ?_)
            · have H := bq_t q H
              refine gw_iload_n dX6_chosenColumn_59 rfl rfl ?_
              refine gw_istore_n dX6_chosenColumn_60 rfl (by decide) ?_
              refine gw_iincZ dX6_chosenColumn_61 rfl rfl (by decide) ?_
              refine gw_goto (tgt := 4) dX6_chosenColumn_64 (by decide) ?_
              exact gw_L (ih _ _ H) ((lvA_c rfl (lvA_c rfl (lvA_c rfl (lvA_c rfl lvA_n)))))
            · have H := bq_f q H
              exact gw_L (hJ_k2 _ H) ((lvA_c rfl (lvA_c rfl (lvA_c rfl (lvA_c rfl lvA_n)))))
set_option maxRecDepth 100000 in
set_option maxHeartbeats 4000000 in
theorem w_X6_chosenColumn {Φ : gwC} {hb : gwHp} {M : Nat} {sh : Nat → Option gSh} {th : Nat} {p1 : Int} {c : W0} {r : Int} {K : Option Value → gwHp → Prop} (h0 : sT sh th) (H : f_X6_chosenColumn th p1 c = some r) (hK : K (some (vI r)) (hp Φ hb M sh c)) : gw_Con Φ mX6_chosenColumn none [.ref (M + th), vI p1] (hp Φ hb M sh c) K := by
  unfold f_X6_chosenColumn at H
  refine gw_start okX6_chosenColumn (Nat.le_of_ble_eq_true rfl) ?_
  refine gw_iconstZ dX6_chosenColumn_0 rfl ?_
  refine gw_istore_n dX6_chosenColumn_1 rfl (by decide) ?_
  refine gw_iconstZ dX6_chosenColumn_2 rfl ?_
  refine gw_istore_n dX6_chosenColumn_3 rfl (by decide) ?_
  refine gw_L (l_X6_chosenColumn_4 h0 hK (fun v1 H => ?_) LF _ _ H) ((lvA_c rfl (lvA_c rfl (lvA_c rfl (lvA_c rfl lvA_n)))))
  refine gw_iload_n dX6_chosenColumn_67 rfl rfl ?_
  cases H
  exact gw_iret dX6_chosenColumn_68 rfl (by decide) (by decide) hK
set_option maxRecDepth 100000 in
set_option maxHeartbeats 4000000 in
theorem w_X4_chosenColumn {Φ : gwC} {hb : gwHp} {M : Nat} {sh : Nat → Option gSh} {th : Nat} {c : W0} {r : Int} {K : Option Value → gwHp → Prop} (h0 : sS sh th) (H : f_X4_chosenColumn th c = some r) (hK : K (some (vI r)) (hp Φ hb M sh c)) : gw_Con Φ mX4_chosenColumn none [.ref (M + th)] (hp Φ hb M sh c) K := by
  unfold f_X4_chosenColumn at H
  refine gw_start okX4_chosenColumn (Nat.le_of_ble_eq_true rfl) ?_
  refine gw_aload_n dX4_chosenColumn_0 rfl rfl ?_
  refine gs_getR cl4 1 dX4_chosenColumn_1 rfl kw_122 (by decide) (h0.1) rfl ?_
  refine gw_aload_n dX4_chosenColumn_4 rfl rfl ?_
  refine gs_getI cl4 2 2 dX4_chosenColumn_5 rfl kw_125 (by decide) (h0.1) rfl rfl ?_
  obtain ⟨v1, e_v1, H⟩ := cv_i H
  refine gw_V1 okX6_chosenColumn dX4_chosenColumn_8 kw_620 kw_621 kw_622 (hp_o (h0.2.2.1)) rfl ⟨by decide, by decide⟩ ⟨by decide, by decide⟩ (Nat.le_of_ble_eq_true rfl) (w_X6_chosenColumn (h0.2.2) e_v1 ?_)
  cases H
  exact gw_iret dX4_chosenColumn_11 rfl (by decide) (by decide) hK
set_option maxRecDepth 100000 in
set_option maxHeartbeats 4000000 in
theorem l_X6_turn_17 {Φ : gwC} {hb : gwHp} {M : Nat} {sh : Nat → Option gSh} {th : Nat} {p1 : Int} {p2 : Int} {l3 : Int} {κ : W0 → Option (Int × W0)} {r : Int × W0} {K : Option Value → gwHp → Prop} (h0 : sT sh th) (hK : K none (hp Φ hb M sh r.2)) (hκ : ∀ (c : W0), κ c = some r → G Φ mX6_turn (gw_M Φ mX6_turn K) none 0 0 57 [(0, .ref (M + th)), (1, vI p1), (2, vI p2), (3, vL l3)] [] (hp Φ hb M sh c)) : ∀ (n : Nat) (l5 : Int) (c : W0), f_X6_turn_17 th p1 p2 l3 κ n l5 c = some r → G Φ mX6_turn (gw_M Φ mX6_turn K) none 0 0 17 [(0, .ref (M + th)), (1, vI p1), (2, vI p2), (3, vL l3), (5, vI l5)] [] (hp Φ hb M sh c) := by
  intro n
  induction n with
  | zero => intro l5 c H; cases H
  | succ n ih =>
    intro l5 c H
    have H : b_X6_turn_17 th p1 p2 l3 κ (f_X6_turn_17 th p1 p2 l3 κ n) l5 c = some r := H
    unfold b_X6_turn_17 at H
    refine gw_iload dX6_turn_17 rfl rfl ?_
    refine gw_aload_n dX6_turn_19 rfl rfl ?_
    refine gs_getI cl6 0 0 dX6_turn_20 rfl kw_100 (by decide) (h0.1) rfl rfl ?_
    obtain ⟨g, H⟩ := gd_i H
    refine gw_icmp_gtZ (tgt := 57) dX6_turn_23 rfl (by decide) g.1 g.2 (fun q => ?_) (fun q => ?_)
    · have H := bq_t q H
      exact gw_L (hκ _ H) ((lvA_c rfl (lvA_c rfl (lvA_c rfl (lvA_c rfl lvA_n)))))
    · have H := bq_f q H
      refine gw_iload dX6_turn_26 rfl rfl ?_
      refine gw_iload_n dX6_turn_28 rfl rfl ?_
      obtain ⟨g, H⟩ := gd_i H
      refine gw_icmp_eqZ (tgt := 51) dX6_turn_29 rfl (by decide) g.1 g.2 (fun q => ?_) (fun q => ?_)
      · have H := bq_t q H
        refine gw_iincZ dX6_turn_51 rfl rfl (by decide) ?_
        refine gw_goto (tgt := 17) dX6_turn_54 (by decide) ?_
        exact gw_L (ih _ _ H) ((lvA_c rfl (lvA_c rfl (lvA_c rfl (lvA_c rfl (lvA_c rfl lvA_n))))))
      · have H := bq_f q H
        refine gw_aload_n dX6_turn_32 rfl rfl ?_
        refine gs_getR cl6 4 dX6_turn_33 rfl kw_107 (by decide) (h0.1) rfl ?_
        refine gw_iload dX6_turn_36 rfl rfl ?_
        refine gw_iload_n dX6_turn_38 rfl rfl ?_
        refine gw_iload_n dX6_turn_39 rfl rfl ?_
        refine gw_aload_n dX6_turn_40 rfl rfl ?_
        refine gs_getI cl6 1 1 dX6_turn_41 rfl kw_102 (by decide) (h0.1) rfl rfl ?_
        refine gw_aload_n dX6_turn_44 rfl rfl ?_
        refine gs_getL cl6 2 2 dX6_turn_45 rfl kw_104 (by decide) (h0.1) rfl rfl ?_
        obtain ⟨g, H⟩ := gd_i H
        obtain ⟨c1, e_c1, H⟩ := stw_i H
        refine gw_V5 okX1_clear dX6_turn_48 kw_589 kw_590 kw_591 (hp_o (h0.2.2.1)) rfl ⟨by decide, by decide⟩ ⟨by decide, by decide⟩ (Nat.le_of_ble_eq_true rfl) (k_clearE (h0.2.2) (by decide) (by decide) (by decide) (by decide) g e_c1 ?_)
        refine gw_iincZ dX6_turn_51 rfl rfl (by decide) ?_
        refine gw_goto (tgt := 17) dX6_turn_54 (by decide) ?_
        exact gw_L (ih _ _ H) ((lvA_c rfl (lvA_c rfl (lvA_c rfl (lvA_c rfl (lvA_c rfl lvA_n))))))
set_option maxRecDepth 100000 in
set_option maxHeartbeats 4000000 in
theorem w_X6_turn {Φ : gwC} {hb : gwHp} {M : Nat} {sh : Nat → Option gSh} {th : Nat} {p1 : Int} {p2 : Int} {c : W0} {r : Int × W0} {K : Option Value → gwHp → Prop} (h0 : sT sh th) (H : f_X6_turn th p1 p2 c = some r) (hK : K none (hp Φ hb M sh r.2)) : gw_Con Φ mX6_turn none [.ref (M + th), vI p1, vI p2] (hp Φ hb M sh c) K := by
  unfold f_X6_turn at H
  refine gw_start okX6_turn (Nat.le_of_ble_eq_true rfl) ?_
  refine gw_aload_n dX6_turn_0 rfl rfl ?_
  refine gw_iload_n dX6_turn_1 rfl rfl ?_
  refine gw_iload_n dX6_turn_2 rfl rfl ?_
  obtain ⟨v1, e_v1, H⟩ := cv_i H
  refine gw_V2 okX6_entry dX6_turn_3 kw_566 kw_567 kw_568 (hp_o (h0.1)) rfl ⟨by decide, by decide⟩ ⟨by decide, by decide⟩ (Nat.le_of_ble_eq_true rfl) (w_X6_entry (h0) e_v1 ?_)
  refine gw_lstore_n dX6_turn_6 rfl (by decide) ?_
  refine gw_lload_n dX6_turn_7 rfl rfl ?_
  refine gw_lconst0Z dX6_turn_8 rfl ?_
  obtain ⟨g, H⟩ := gd_i H
  refine gw_lc_gtZ (tgt := 14) dX6_turn_9 rfl dX6_turn_10 rfl (by decide) g (by decide) (fun q => ?_) (fun q => ?_)
  · have H := bq_t q H
    refine gw_iconstZ dX6_turn_14 rfl ?_
    refine gw_istore dX6_turn_15 rfl (by decide) ?_
    refine gw_L (l_X6_turn_17 h0 hK (fun c2 H => ?_) LF _ _ H) ((lvA_c rfl (lvA_c rfl (lvA_c rfl (lvA_c rfl (lvA_c rfl lvA_n))))))
    refine gw_aload_n dX6_turn_57 rfl rfl ?_
    refine gs_getR cl6 3 dX6_turn_58 rfl kw_106 (by decide) (h0.1) rfl ?_
    refine gw_iconstZ dX6_turn_61 rfl ?_
    refine gw_iload_n dX6_turn_62 rfl rfl ?_
    refine gw_iload_n dX6_turn_63 rfl rfl ?_
    obtain ⟨g, H⟩ := gd_i H
    refine gw_i2lZ dX6_turn_64 rfl g ?_
    obtain ⟨g, H⟩ := gd_i H
    obtain ⟨c3, e_c3, H⟩ := sto_i H
    refine gw_V3 okX1_put dX6_turn_65 kw_431 kw_420 kw_421 (hp_o (h0.2.1.1)) rfl ⟨by decide, by decide⟩ ⟨by decide, by decide⟩ (Nat.le_of_ble_eq_true rfl) (k_put0E (h0.2.1) (by decide) (by omega) (by omega) (by decide) e_c3 ?_)
    refine gw_aload_n dX6_turn_68 rfl rfl ?_
    refine gw_lload_n dX6_turn_69 rfl rfl ?_
    obtain ⟨c4, e_c4, H⟩ := sto_i H
    refine gs_putLE cl6 2 2 dX6_turn_70 rfl kw_104 (by decide) rfl rfl (h0.1) rfl rfl e_c4 ?_
    cases H
    exact gw_vret dX6_turn_73 rfl (by decide) (by decide) hK
  · have H := bq_f q H
    cases H
    exact gw_vret dX6_turn_13 rfl (by decide) (by decide) hK
set_option maxRecDepth 100000 in
set_option maxHeartbeats 4000000 in
theorem w_X4_turn {Φ : gwC} {hb : gwHp} {M : Nat} {sh : Nat → Option gSh} {th : Nat} {p1 : Int} {p2 : Int} {c : W0} {r : Int × W0} {K : Option Value → gwHp → Prop} (h0 : sS sh th) (H : f_X4_turn th p1 p2 c = some r) (hK : K none (hp Φ hb M sh r.2)) : gw_Con Φ mX4_turn none [.ref (M + th), vI p1, vI p2] (hp Φ hb M sh c) K := by
  unfold f_X4_turn at H
  refine gw_start okX4_turn (Nat.le_of_ble_eq_true rfl) ?_
  refine gw_aload_n dX4_turn_0 rfl rfl ?_
  refine gs_getR cl4 1 dX4_turn_1 rfl kw_122 (by decide) (h0.1) rfl ?_
  refine gw_iload_n dX4_turn_4 rfl rfl ?_
  obtain ⟨v1, e_v1, H⟩ := cv_i H
  refine gw_V1 okX6_side dX4_turn_5 kw_584 kw_575 kw_576 (hp_o (h0.2.2.1)) rfl ⟨by decide, by decide⟩ ⟨by decide, by decide⟩ (Nat.le_of_ble_eq_true rfl) (w_X6_side (h0.2.2) e_v1 ?_)
  refine gw_lconst0Z dX4_turn_8 rfl ?_
  obtain ⟨g, H⟩ := gd_i H
  obtain ⟨k2, e_k2, H⟩ := jn_i H
  have hJ_k2 : ∀ (c3 : W0), k2 c3 = some r → G Φ mX4_turn (gw_M Φ mX4_turn K) none 0 0 23 [(0, .ref (M + th)), (1, vI p1), (2, vI p2)] [] (hp Φ hb M sh c3) := by
    intro c3 H
    subst e_k2
    refine gw_aload_n dX4_turn_23 rfl rfl ?_
    refine gs_getR cl4 1 dX4_turn_24 rfl kw_122 (by decide) (h0.1) rfl ?_
    refine gw_iload_n dX4_turn_27 rfl rfl ?_
    refine gw_iload_n dX4_turn_28 rfl rfl ?_
    obtain ⟨v5, c4, e_c4, H⟩ := cl_i H
    refine gw_V2 okX6_turn dX4_turn_29 kw_585 kw_586 kw_587 (hp_o (h0.2.2.1)) rfl ⟨by decide, by decide⟩ ⟨by decide, by decide⟩ (Nat.le_of_ble_eq_true rfl) (w_X6_turn (h0.2.2) e_c4 ?_)
    refine gw_aload_n dX4_turn_32 rfl rfl ?_
    refine gw_dup dX4_turn_33 rfl rfl ?_
    refine gs_getI cl4 3 3 dX4_turn_34 rfl kw_127 (by decide) (h0.1) rfl rfl ?_
    refine gw_iconstZ dX4_turn_37 rfl ?_
    refine gw_iaddZ dX4_turn_38 rfl ?_
    obtain ⟨c6, e_c6, H⟩ := sto_i H
    refine gs_putIE cl4 3 3 dX4_turn_39 rfl kw_127 (by decide) rfl rfl (h0.1) rfl rfl e_c6 ?_
    refine gw_aload_n dX4_turn_42 rfl rfl ?_
    refine gw_dup dX4_turn_43 rfl rfl ?_
    refine gs_getI cl4 4 4 dX4_turn_44 rfl kw_129 (by decide) (h0.1) rfl rfl ?_
    refine gw_iconstZ dX4_turn_47 rfl ?_
    refine gw_iaddZ dX4_turn_48 rfl ?_
    obtain ⟨c7, e_c7, H⟩ := sto_i H
    refine gs_putIE cl4 4 4 dX4_turn_49 rfl kw_129 (by decide) rfl rfl (h0.1) rfl rfl e_c7 ?_
    cases H
    exact gw_vret dX4_turn_52 rfl (by decide) (by decide) hK
  refine gw_lc_neZ (tgt := 23) dX4_turn_9 rfl dX4_turn_10 rfl (by decide) g (by decide) (fun q => ?_) (fun q => ?_)
  · have H := bq_f q H
    exact gw_L (hJ_k2 _ H) ((lvA_c rfl (lvA_c rfl (lvA_c rfl lvA_n))))
  · have H := bq_t q H
    refine gw_aload_n dX4_turn_13 rfl rfl ?_
    refine gw_dup dX4_turn_14 rfl rfl ?_
    refine gs_getI cl4 5 5 dX4_turn_15 rfl kw_131 (by decide) (h0.1) rfl rfl ?_
    refine gw_iconstZ dX4_turn_18 rfl ?_
    refine gw_iaddZ dX4_turn_19 rfl ?_
    obtain ⟨c8, e_c8, H⟩ := sto_i H
    refine gs_putIE cl4 5 5 dX4_turn_20 rfl kw_131 (by decide) rfl rfl (h0.1) rfl rfl e_c8 ?_
    exact gw_L (hJ_k2 _ H) ((lvA_c rfl (lvA_c rfl (lvA_c rfl lvA_n))))
set_option maxRecDepth 100000 in
set_option maxHeartbeats 4000000 in
theorem l_X6_isBest_2 {Φ : gwC} {hb : gwHp} {M : Nat} {sh : Nat → Option gSh} {th : Nat} {c : W0} {κ : Option Int} {r : Int} {K : Option Value → gwHp → Prop} (h0 : sT sh th) (hK : K (some (vI r)) (hp Φ hb M sh c)) (hκ : κ  = some r → G Φ mX6_isBest (gw_M Φ mX6_isBest K) none 0 0 28 [] [] (hp Φ hb M sh c)) : ∀ (n : Nat) (l1 : Int), f_X6_isBest_2 th c κ n l1 = some r → G Φ mX6_isBest (gw_M Φ mX6_isBest K) none 0 0 2 [(0, .ref (M + th)), (1, vI l1)] [] (hp Φ hb M sh c) := by
  intro n
  induction n with
  | zero => intro l1 H; cases H
  | succ n ih =>
    intro l1 H
    have H : b_X6_isBest_2 th c κ (f_X6_isBest_2 th c κ n) l1 = some r := H
    unfold b_X6_isBest_2 at H
    refine gw_iload_n dX6_isBest_2 rfl rfl ?_
    refine gw_aload_n dX6_isBest_3 rfl rfl ?_
    refine gs_getI cl6 1 1 dX6_isBest_4 rfl kw_102 (by decide) (h0.1) rfl rfl ?_
    obtain ⟨g, H⟩ := gd_i H
    refine gw_icmp_geZ (tgt := 28) dX6_isBest_7 rfl (by decide) g.1 g.2 (fun q => ?_) (fun q => ?_)
    · have H := bq_t q H
      exact gw_L (hκ H) (lvA_n)
    · have H := bq_f q H
      refine gw_aload_n dX6_isBest_10 rfl rfl ?_
      refine gw_iload_n dX6_isBest_11 rfl rfl ?_
      obtain ⟨v1, e_v1, H⟩ := cv_i H
      refine gw_V1 okX6_reduced dX6_isBest_12 kw_562 kw_563 kw_564 (hp_o (h0.1)) rfl ⟨by decide, by decide⟩ ⟨by decide, by decide⟩ (Nat.le_of_ble_eq_true rfl) (w_X6_reduced (h0) e_v1 ?_)
      refine gw_lconst0Z dX6_isBest_15 rfl ?_
      obtain ⟨g, H⟩ := gd_i H
      refine gw_lc_leZ (tgt := 22) dX6_isBest_16 rfl dX6_isBest_17 rfl (by decide) g (by decide) (fun q => ?_) (fun q => ?_)
      · have H := bq_t q H
        refine gw_iincZ dX6_isBest_22 rfl rfl (by decide) ?_
        refine gw_goto (tgt := 2) dX6_isBest_25 (by decide) ?_
        exact gw_L (ih _ H) ((lvA_c rfl (lvA_c rfl lvA_n)))
      · have H := bq_f q H
        refine gw_iconstZ dX6_isBest_20 rfl ?_
        cases H
        exact gw_zret rfl dX6_isBest_21 rfl (by decide) (by decide) hK
set_option maxRecDepth 100000 in
set_option maxHeartbeats 4000000 in
theorem w_X6_isBest {Φ : gwC} {hb : gwHp} {M : Nat} {sh : Nat → Option gSh} {th : Nat} {c : W0} {r : Int} {K : Option Value → gwHp → Prop} (h0 : sT sh th) (H : f_X6_isBest th c = some r) (hK : K (some (vI r)) (hp Φ hb M sh c)) : gw_Con Φ mX6_isBest none [.ref (M + th)] (hp Φ hb M sh c) K := by
  unfold f_X6_isBest at H
  refine gw_start okX6_isBest (Nat.le_of_ble_eq_true rfl) ?_
  refine gw_iconstZ dX6_isBest_0 rfl ?_
  refine gw_istore_n dX6_isBest_1 rfl (by decide) ?_
  refine gw_L (l_X6_isBest_2 h0 hK (fun H => ?_) LF _ H) ((lvA_c rfl (lvA_c rfl lvA_n)))
  refine gw_iconstZ dX6_isBest_28 rfl ?_
  cases H
  exact gw_zret rfl dX6_isBest_29 rfl (by decide) (by decide) hK
end FW
