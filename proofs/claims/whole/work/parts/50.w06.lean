section FW
set_option maxRecDepth 100000 in
set_option maxHeartbeats 4000000 in
theorem l_X9_isBest_4 {Φ : gwC} {hb : gwHp} {M : Nat} {sh : Nat → Option gSh} {th : Nat} {κ : Int → W0 → Option (Int × W0)} {r : Int × W0} {K : Option Value → gwHp → Prop} (h0 : sM sh th) (hK : K (some (vI r.1)) (hp Φ hb M sh r.2)) (hκ : ∀ (x1 : Int) (c : W0), κ x1 c = some r → G Φ mX9_isBest (gw_M Φ mX9_isBest K) none 0 0 36 [(1, vI x1)] [] (hp Φ hb M sh c)) : ∀ (n : Nat) (l1 : Int) (l2 : Int) (c : W0), f_X9_isBest_4 th κ n l1 l2 c = some r → G Φ mX9_isBest (gw_M Φ mX9_isBest K) none 0 0 4 [(0, .ref (M + th)), (1, vI l1), (2, vI l2)] [] (hp Φ hb M sh c) := by
  intro n
  induction n with
  | zero => intro l1 l2 c H; cases H
  | succ n ih =>
    intro l1 l2 c H
    have H : b_X9_isBest_4 th κ (f_X9_isBest_4 th κ n) l1 l2 c = some r := H
    unfold b_X9_isBest_4 at H
    refine gw_iload_n dX9_isBest_4 rfl rfl ?_
    refine gw_aload_n dX9_isBest_5 rfl rfl ?_
    obtain ⟨v1, e_v1, H⟩ := cv_i H
    refine gw_V0 okX9_columns dX9_isBest_6 kw_1476 kw_1478 kw_41 (hp_o (h0.1)) rfl ⟨by decide, by decide⟩ ⟨by decide, by decide⟩ (Nat.le_of_ble_eq_true rfl) (w_X9_columns (h0) e_v1 ?_)
    obtain ⟨g, H⟩ := gd_i H
    refine gw_icmp_geZ (tgt := 36) dX9_isBest_9 rfl (by decide) g.1 g.2 (fun q => ?_) (fun q => ?_)
    · have H := bq_t q H
      exact gw_L (hκ _ _ H) ((lvA_c rfl lvA_n))
    · have H := bq_f q H
      refine gw_iload_n dX9_isBest_12 rfl rfl ?_
      obtain ⟨g, H⟩ := gd_i H
      refine gw_if_eqZ (tgt := 28) dX9_isBest_13 rfl (by decide) g (fun q => ?_) (fun q => ?_)
      · have H := bq_t q H
        refine gw_iconstZ dX9_isBest_28 rfl ?_
        refine gw_istore_n dX9_isBest_29 rfl (by decide) ?_
        refine gw_iincZ dX9_isBest_30 rfl rfl (by decide) ?_
        refine gw_goto (tgt := 4) dX9_isBest_33 (by decide) ?_
        exact gw_L (ih _ _ _ H) ((lvA_c rfl (lvA_c rfl (lvA_c rfl lvA_n))))
      · have H := bq_f q H
        refine gw_aload_n dX9_isBest_16 rfl rfl ?_
        refine gw_iload_n dX9_isBest_17 rfl rfl ?_
        obtain ⟨v2, c3, e_c3, H⟩ := cl_i H
        refine gw_V1 okX9_isRising dX9_isBest_18 kw_1519 kw_1521 kw_51 (hp_o (h0.1)) rfl ⟨by decide, by decide⟩ ⟨by decide, by decide⟩ (Nat.le_of_ble_eq_true rfl) (w_X9_isRising (h0) e_c3 ?_)
        obtain ⟨g, H⟩ := gd_i H
        refine gw_if_neZ (tgt := 28) dX9_isBest_21 rfl (by decide) g (fun q => ?_) (fun q => ?_)
        · have H := bq_f q H
          refine gw_iconstZ dX9_isBest_28 rfl ?_
          refine gw_istore_n dX9_isBest_29 rfl (by decide) ?_
          refine gw_iincZ dX9_isBest_30 rfl rfl (by decide) ?_
          refine gw_goto (tgt := 4) dX9_isBest_33 (by decide) ?_
          exact gw_L (ih _ _ _ H) ((lvA_c rfl (lvA_c rfl (lvA_c rfl lvA_n))))
        · have H := bq_t q H
          refine gw_iconstZ dX9_isBest_24 rfl ?_
          refine gw_goto (tgt := 29) dX9_isBest_25 (by decide) ?_
          refine gw_istore_n dX9_isBest_29 rfl (by decide) ?_
          refine gw_iincZ dX9_isBest_30 rfl rfl (by decide) ?_
          refine gw_goto (tgt := 4) dX9_isBest_33 (by decide) ?_
          exact gw_L (ih _ _ _ H) ((lvA_c rfl (lvA_c rfl (lvA_c rfl lvA_n))))
set_option maxRecDepth 100000 in
set_option maxHeartbeats 4000000 in
theorem w_X9_isBest {Φ : gwC} {hb : gwHp} {M : Nat} {sh : Nat → Option gSh} {th : Nat} {c : W0} {r : Int × W0} {K : Option Value → gwHp → Prop} (h0 : sM sh th) (H : f_X9_isBest th c = some r) (hK : K (some (vI r.1)) (hp Φ hb M sh r.2)) : gw_Con Φ mX9_isBest none [.ref (M + th)] (hp Φ hb M sh c) K := by
  unfold f_X9_isBest at H
  refine gw_start okX9_isBest (Nat.le_of_ble_eq_true rfl) ?_
  refine gw_iconstZ dX9_isBest_0 rfl ?_
  refine gw_istore_n dX9_isBest_1 rfl (by decide) ?_
  refine gw_iconstZ dX9_isBest_2 rfl ?_
  refine gw_istore_n dX9_isBest_3 rfl (by decide) ?_
  refine gw_L (l_X9_isBest_4 h0 hK (fun v1 c2 H => ?_) LF _ _ _ H) ((lvA_c rfl (lvA_c rfl (lvA_c rfl lvA_n))))
  refine gw_iload_n dX9_isBest_36 rfl rfl ?_
  obtain ⟨g, H⟩ := gd_i H
  cases H
  exact gw_zret (gs_nz g) dX9_isBest_37 rfl (by decide) (by decide) hK
set_option maxRecDepth 100000 in
set_option maxHeartbeats 4000000 in
theorem l_X9_endless_9 {Φ : gwC} {hb : gwHp} {M : Nat} {sh : Nat → Option gSh} {th : Nat} {κ : Int → W0 → Option (Int × W0)} {r : Int × W0} {K : Option Value → gwHp → Prop} (h0 : sM sh th) (hK : K (some (vI r.1)) (hp Φ hb M sh r.2)) (hκ : ∀ (x1 : Int) (c : W0), κ x1 c = some r → G Φ mX9_endless (gw_M Φ mX9_endless K) none 0 0 41 [(1, vI x1)] [] (hp Φ hb M sh c)) : ∀ (n : Nat) (l1 : Int) (l2 : Int) (c : W0), f_X9_endless_9 th κ n l1 l2 c = some r → G Φ mX9_endless (gw_M Φ mX9_endless K) none 0 0 9 [(0, .ref (M + th)), (1, vI l1), (2, vI l2)] [] (hp Φ hb M sh c) := by
  intro n
  induction n with
  | zero => intro l1 l2 c H; cases H
  | succ n ih =>
    intro l1 l2 c H
    have H : b_X9_endless_9 th κ (f_X9_endless_9 th κ n) l1 l2 c = some r := H
    unfold b_X9_endless_9 at H
    refine gw_iload_n dX9_endless_9 rfl rfl ?_
    obtain ⟨g, H⟩ := gd_i H
    refine gw_if_ltZ (tgt := 41) dX9_endless_10 rfl (by decide) g (fun q => ?_) (fun q => ?_)
    · have H := bq_t q H
      exact gw_L (hκ _ _ H) ((lvA_c rfl lvA_n))
    · have H := bq_f q H
      refine gw_aload_n dX9_endless_13 rfl rfl ?_
      refine gw_iload_n dX9_endless_14 rfl rfl ?_
      obtain ⟨v1, c2, e_c2, H⟩ := cl_i H
      refine gw_V1 okX9_isRising dX9_endless_15 kw_1519 kw_1521 kw_51 (hp_o (h0.1)) rfl ⟨by decide, by decide⟩ ⟨by decide, by decide⟩ (Nat.le_of_ble_eq_true rfl) (w_X9_isRising (h0) e_c2 ?_)
      obtain ⟨g, H⟩ := gd_i H
      refine gw_if_eqZ (tgt := 33) dX9_endless_18 rfl (by decide) g (fun q => ?_) (fun q => ?_)
      · have H := bq_t q H
        refine gw_iload_n dX9_endless_33 rfl rfl ?_
        refine gw_istore_n dX9_endless_34 rfl (by decide) ?_
        refine gw_iincZ dX9_endless_35 rfl rfl (by decide) ?_
        refine gw_goto (tgt := 9) dX9_endless_38 (by decide) ?_
        exact gw_L (ih _ _ _ H) ((lvA_c rfl (lvA_c rfl (lvA_c rfl lvA_n))))
      · have H := bq_f q H
        refine gw_aload_n dX9_endless_21 rfl rfl ?_
        refine gw_iload_n dX9_endless_22 rfl rfl ?_
        obtain ⟨v3, e_v3, H⟩ := cv_i H
        refine gw_V1 okX9_hasEntry dX9_endless_23 kw_1567 kw_1569 kw_62 (hp_o (h0.1)) rfl ⟨by decide, by decide⟩ ⟨by decide, by decide⟩ (Nat.le_of_ble_eq_true rfl) (w_X9_hasEntry (h0) e_v3 ?_)
        obtain ⟨g, H⟩ := gd_i H
        refine gw_if_neZ (tgt := 33) dX9_endless_26 rfl (by decide) g (fun q => ?_) (fun q => ?_)
        · have H := bq_f q H
          refine gw_iload_n dX9_endless_33 rfl rfl ?_
          refine gw_istore_n dX9_endless_34 rfl (by decide) ?_
          refine gw_iincZ dX9_endless_35 rfl rfl (by decide) ?_
          refine gw_goto (tgt := 9) dX9_endless_38 (by decide) ?_
          exact gw_L (ih _ _ _ H) ((lvA_c rfl (lvA_c rfl (lvA_c rfl lvA_n))))
        · have H := bq_t q H
          refine gw_iload_n dX9_endless_29 rfl rfl ?_
          refine gw_goto (tgt := 34) dX9_endless_30 (by decide) ?_
          refine gw_istore_n dX9_endless_34 rfl (by decide) ?_
          refine gw_iincZ dX9_endless_35 rfl rfl (by decide) ?_
          refine gw_goto (tgt := 9) dX9_endless_38 (by decide) ?_
          exact gw_L (ih _ _ _ H) ((lvA_c rfl (lvA_c rfl (lvA_c rfl lvA_n))))
set_option maxRecDepth 100000 in
set_option maxHeartbeats 4000000 in
theorem w_X9_endless {Φ : gwC} {hb : gwHp} {M : Nat} {sh : Nat → Option gSh} {th : Nat} {c : W0} {r : Int × W0} {K : Option Value → gwHp → Prop} (h0 : sM sh th) (H : f_X9_endless th c = some r) (hK : K (some (vI r.1)) (hp Φ hb M sh r.2)) : gw_Con Φ mX9_endless none [.ref (M + th)] (hp Φ hb M sh c) K := by
  unfold f_X9_endless at H
  refine gw_start okX9_endless (Nat.le_of_ble_eq_true rfl) ?_
  refine gw_iconstZ dX9_endless_0 rfl ?_
  refine gw_istore_n dX9_endless_1 rfl (by decide) ?_
  refine gw_aload_n dX9_endless_2 rfl rfl ?_
  obtain ⟨v1, e_v1, H⟩ := cv_i H
  refine gw_V0 okX9_columns dX9_endless_3 kw_1476 kw_1478 kw_41 (hp_o (h0.1)) rfl ⟨by decide, by decide⟩ ⟨by decide, by decide⟩ (Nat.le_of_ble_eq_true rfl) (w_X9_columns (h0) e_v1 ?_)
  refine gw_iconstZ dX9_endless_6 rfl ?_
  refine gw_isubZ dX9_endless_7 rfl ?_
  refine gw_istore_n dX9_endless_8 rfl (by decide) ?_
  refine gw_L (l_X9_endless_9 h0 hK (fun v2 c3 H => ?_) LF _ _ _ H) ((lvA_c rfl (lvA_c rfl (lvA_c rfl lvA_n))))
  refine gw_iload_n dX9_endless_41 rfl rfl ?_
  cases H
  exact gw_iret dX9_endless_42 rfl (by decide) (by decide) hK
set_option maxRecDepth 100000 in
set_option maxHeartbeats 4000000 in
theorem w_X9_against {Φ : gwC} {hb : gwHp} {M : Nat} {sh : Nat → Option gSh} {th : Nat} {p1 : Int} {p2 : Int} {p3 : Int} {c : W0} {r : Int} {K : Option Value → gwHp → Prop} (h0 : sM sh th) (H : f_X9_against th p1 p2 p3 c = some r) (hK : K (some (vL r)) (hp Φ hb M sh c)) : gw_Con Φ mX9_against none [.ref (M + th), vI p1, vI p2, vI p3] (hp Φ hb M sh c) K := by
  unfold f_X9_against at H
  refine gw_start okX9_against (Nat.le_of_ble_eq_true rfl) ?_
  refine gw_aload_n dX9_against_0 rfl rfl ?_
  refine gw_iload_n dX9_against_1 rfl rfl ?_
  refine gw_bipushZ dX9_against_2 rfl (by decide) ?_
  obtain ⟨v1, e_v1, H⟩ := cv_i H
  refine gw_V2 okX9_entry dX9_against_4 kw_1531 kw_1533 kw_54 (hp_o (h0.1)) rfl ⟨by decide, by decide⟩ ⟨by decide, by decide⟩ (Nat.le_of_ble_eq_true rfl) (w_X9_entry (h0) e_v1 ?_)
  refine gw_aload_n dX9_against_7 rfl rfl ?_
  refine gs_getR cl9 10 dX9_against_8 rfl kw_1329 (by decide) (h0.1) rfl ?_
  refine gw_bipushZ dX9_against_11 rfl (by decide) ?_
  refine gw_iload_n dX9_against_13 rfl rfl ?_
  refine gw_imulZ dX9_against_14 rfl ?_
  refine gw_iload_n dX9_against_15 rfl rfl ?_
  refine gw_iaddZ dX9_against_16 rfl ?_
  obtain ⟨g, H⟩ := gd_i H
  refine gs_laldZ dX9_against_17 rfl (h0.2.2.2.2.2.2.2.1) g (by decide) ?_
  refine gw_lmulZ dX9_against_18 rfl ?_
  refine gw_lstore dX9_against_19 rfl (by decide) ?_
  refine gw_aload_n dX9_against_21 rfl rfl ?_
  refine gs_getR cl9 10 dX9_against_22 rfl kw_1329 (by decide) (h0.1) rfl ?_
  refine gw_bipushZ dX9_against_25 rfl (by decide) ?_
  refine gw_iload_n dX9_against_27 rfl rfl ?_
  refine gw_imulZ dX9_against_28 rfl ?_
  refine gw_bipushZ dX9_against_29 rfl (by decide) ?_
  refine gw_iaddZ dX9_against_31 rfl ?_
  refine gw_iconstZ dX9_against_32 rfl ?_
  refine gw_isubZ dX9_against_33 rfl ?_
  obtain ⟨g, H⟩ := gd_i H
  refine gs_laldZ dX9_against_34 rfl (h0.2.2.2.2.2.2.2.1) g (by decide) ?_
  refine gw_aload_n dX9_against_35 rfl rfl ?_
  refine gw_iload_n dX9_against_36 rfl rfl ?_
  refine gw_iload_n dX9_against_37 rfl rfl ?_
  obtain ⟨v2, e_v2, H⟩ := cv_i H
  refine gw_V2 okX9_entry dX9_against_38 kw_1531 kw_1533 kw_54 (hp_o (h0.1)) rfl ⟨by decide, by decide⟩ ⟨by decide, by decide⟩ (Nat.le_of_ble_eq_true rfl) (w_X9_entry (h0) e_v2 ?_)
  refine gw_lmulZ dX9_against_41 rfl ?_
  refine gw_lstore dX9_against_42 rfl (by decide) ?_
  refine gw_aload_n dX9_against_44 rfl rfl ?_
  refine gw_iload_n dX9_against_45 rfl rfl ?_
  refine gw_bipushZ dX9_against_46 rfl (by decide) ?_
  obtain ⟨v3, e_v3, H⟩ := cv_i H
  refine gw_V2 okX9_entry dX9_against_48 kw_1531 kw_1533 kw_54 (hp_o (h0.1)) rfl ⟨by decide, by decide⟩ ⟨by decide, by decide⟩ (Nat.le_of_ble_eq_true rfl) (w_X9_entry (h0) e_v3 ?_)
  refine gw_aload_n dX9_against_51 rfl rfl ?_
  refine gs_getR cl9 10 dX9_against_52 rfl kw_1329 (by decide) (h0.1) rfl ?_
  refine gw_bipushZ dX9_against_55 rfl (by decide) ?_
  refine gw_iload_n dX9_against_57 rfl rfl ?_
  refine gw_imulZ dX9_against_58 rfl ?_
  refine gw_iload_n dX9_against_59 rfl rfl ?_
  refine gw_iaddZ dX9_against_60 rfl ?_
  obtain ⟨g, H⟩ := gd_i H
  refine gs_laldZ dX9_against_61 rfl (h0.2.2.2.2.2.2.2.1) g (by decide) ?_
  refine gw_lmulZ dX9_against_62 rfl ?_
  refine gw_lstore dX9_against_63 rfl (by decide) ?_
  refine gw_aload_n dX9_against_65 rfl rfl ?_
  refine gs_getR cl9 10 dX9_against_66 rfl kw_1329 (by decide) (h0.1) rfl ?_
  refine gw_bipushZ dX9_against_69 rfl (by decide) ?_
  refine gw_iload_n dX9_against_71 rfl rfl ?_
  refine gw_imulZ dX9_against_72 rfl ?_
  refine gw_bipushZ dX9_against_73 rfl (by decide) ?_
  refine gw_iaddZ dX9_against_75 rfl ?_
  refine gw_iconstZ dX9_against_76 rfl ?_
  refine gw_isubZ dX9_against_77 rfl ?_
  obtain ⟨g, H⟩ := gd_i H
  refine gs_laldZ dX9_against_78 rfl (h0.2.2.2.2.2.2.2.1) g (by decide) ?_
  refine gw_aload_n dX9_against_79 rfl rfl ?_
  refine gw_iload_n dX9_against_80 rfl rfl ?_
  refine gw_iload_n dX9_against_81 rfl rfl ?_
  obtain ⟨v4, e_v4, H⟩ := cv_i H
  refine gw_V2 okX9_entry dX9_against_82 kw_1531 kw_1533 kw_54 (hp_o (h0.1)) rfl ⟨by decide, by decide⟩ ⟨by decide, by decide⟩ (Nat.le_of_ble_eq_true rfl) (w_X9_entry (h0) e_v4 ?_)
  refine gw_lmulZ dX9_against_85 rfl ?_
  refine gw_lstore dX9_against_86 rfl (by decide) ?_
  refine gw_lload dX9_against_88 rfl rfl ?_
  refine gw_lload dX9_against_90 rfl rfl ?_
  obtain ⟨v5, e_v5, H⟩ := cv_i H
  refine gw_S2 okX9_divisor dX9_against_92 kw_1508 kw_1509 ⟨by decide, by decide⟩ ⟨by decide, by decide⟩ (Nat.le_of_ble_eq_true rfl) (w_X9_divisor  e_v5 ?_)
  refine gw_lstore dX9_against_95 rfl (by decide) ?_
  refine gw_lload dX9_against_97 rfl rfl ?_
  refine gw_lload dX9_against_99 rfl rfl ?_
  obtain ⟨v6, e_v6, H⟩ := cv_i H
  refine gw_S2 okX9_divisor dX9_against_101 kw_1508 kw_1509 ⟨by decide, by decide⟩ ⟨by decide, by decide⟩ (Nat.le_of_ble_eq_true rfl) (w_X9_divisor  e_v6 ?_)
  refine gw_lstore dX9_against_104 rfl (by decide) ?_
  refine gw_lload dX9_against_106 rfl rfl ?_
  refine gw_lload dX9_against_108 rfl rfl ?_
  obtain ⟨g, H⟩ := gd_i H
  refine gw_ldivZ dX9_against_110 rfl g.1 g.2.1 g.2.2 ?_
  refine gw_lload dX9_against_111 rfl rfl ?_
  refine gw_lload dX9_against_113 rfl rfl ?_
  obtain ⟨g, H⟩ := gd_i H
  refine gw_ldivZ dX9_against_115 rfl g.1 g.2.1 g.2.2 ?_
  refine gw_lmulZ dX9_against_116 rfl ?_
  refine gw_lload dX9_against_117 rfl rfl ?_
  refine gw_lload dX9_against_119 rfl rfl ?_
  obtain ⟨g, H⟩ := gd_i H
  refine gw_ldivZ dX9_against_121 rfl g.1 g.2.1 g.2.2 ?_
  refine gw_lload dX9_against_122 rfl rfl ?_
  refine gw_lload dX9_against_124 rfl rfl ?_
  obtain ⟨g, H⟩ := gd_i H
  refine gw_ldivZ dX9_against_126 rfl g.1 g.2.1 g.2.2 ?_
  refine gw_lmulZ dX9_against_127 rfl ?_
  refine gw_lsubZ dX9_against_128 rfl ?_
  cases H
  exact gw_lret dX9_against_129 rfl (by decide) (by decide) hK
set_option maxRecDepth 100000 in
set_option maxHeartbeats 4000000 in
theorem l_X9_leastRow_4 {Φ : gwC} {hb : gwHp} {M : Nat} {sh : Nat → Option gSh} {th : Nat} {p1 : Int} {c : W0} {κ : Int → Option Int} {r : Int} {K : Option Value → gwHp → Prop} (h0 : sM sh th) (hK : K (some (vI r)) (hp Φ hb M sh c)) (hκ : ∀ (x2 : Int), κ x2 = some r → G Φ mX9_leastRow (gw_M Φ mX9_leastRow K) none 0 0 102 [(2, vI x2)] [] (hp Φ hb M sh c)) : ∀ (n : Nat) (l2 : Int) (l3 : Int), f_X9_leastRow_4 th p1 c κ n l2 l3 = some r → G Φ mX9_leastRow (gw_M Φ mX9_leastRow K) none 0 0 4 [(0, .ref (M + th)), (1, vI p1), (2, vI l2), (3, vI l3)] [] (hp Φ hb M sh c) := by
  intro n
  induction n with
  | zero => intro l2 l3 H; cases H
  | succ n ih =>
    intro l2 l3 H
    have H : b_X9_leastRow_4 th p1 c κ (f_X9_leastRow_4 th p1 c κ n) l2 l3 = some r := H
    unfold b_X9_leastRow_4 at H
    refine gw_iload_n dX9_leastRow_4 rfl rfl ?_
    refine gw_aload_n dX9_leastRow_5 rfl rfl ?_
    refine gs_getR cl9 1 dX9_leastRow_6 rfl kw_1320 (by decide) (h0.1) rfl ?_
    refine gw_iconstZ dX9_leastRow_9 rfl ?_
    refine gs_ialdZ dX9_leastRow_10 rfl (h0.2.1) (by decide) (by decide) ?_
    obtain ⟨g, H⟩ := gd_i H
    refine gw_icmp_geZ (tgt := 102) dX9_leastRow_11 rfl (by decide) g.1 g.2 (fun q => ?_) (fun q => ?_)
    · have H := bq_t q H
      exact gw_L (hκ _ H) ((lvA_c rfl lvA_n))
    · have H := bq_f q H
      refine gw_aload_n dX9_leastRow_14 rfl rfl ?_
      refine gw_iload_n dX9_leastRow_15 rfl rfl ?_
      refine gw_iload_n dX9_leastRow_16 rfl rfl ?_
      obtain ⟨v1, e_v1, H⟩ := cv_i H
      refine gw_V2 okX9_entry dX9_leastRow_17 kw_1531 kw_1533 kw_54 (hp_o (h0.1)) rfl ⟨by decide, by decide⟩ ⟨by decide, by decide⟩ (Nat.le_of_ble_eq_true rfl) (w_X9_entry (h0) e_v1 ?_)
      refine gw_lconst0Z dX9_leastRow_20 rfl ?_
      obtain ⟨g, H⟩ := gd_i H
      obtain ⟨k2, e_k2, H⟩ := jn_i H
      have hJ_k2 : ∀ (v3 : Int), k2 v3 = some r → G Φ mX9_leastRow (gw_M Φ mX9_leastRow K) none 0 0 30 [(0, .ref (M + th)), (1, vI p1), (2, vI l2), (3, vI l3)] [vI v3] (hp Φ hb M sh c) := by
        intro v3 H
        subst e_k2
        refine gw_istore dX9_leastRow_30 rfl (by decide) ?_
        refine gw_iload dX9_leastRow_32 rfl rfl ?_
        obtain ⟨g, H⟩ := gd_i H
        obtain ⟨k4, e_k4, H⟩ := jn_i H
        have hJ_k4 : ∀ (u5 : Unit), k4 u5 = some r → G Φ mX9_leastRow (gw_M Φ mX9_leastRow K) none 0 0 51 [(0, .ref (M + th)), (1, vI p1), (2, vI l2), (3, vI l3), (4, vI v3)] [] (hp Φ hb M sh c) := by
          intro u5 H
          subst e_k4
          refine gw_ldc2Z (z := -1) dX9_leastRow_51 rfl kw_1583 (by decide) ?_
          refine gw_lstore dX9_leastRow_54 rfl (by decide) ?_
          refine gw_iload dX9_leastRow_56 rfl rfl ?_
          obtain ⟨g, H⟩ := gd_i H
          refine gw_if_eqZ (tgt := 94) dX9_leastRow_58 rfl (by decide) g (fun q => ?_) (fun q => ?_)
          · have H := bq_t q H
            refine gw_iload_n dX9_leastRow_94 rfl rfl ?_
            refine gw_istore_n dX9_leastRow_95 rfl (by decide) ?_
            refine gw_iincZ dX9_leastRow_96 rfl rfl (by decide) ?_
            refine gw_goto (tgt := 4) dX9_leastRow_99 (by decide) ?_
            exact gw_L (ih _ _ H) ((lvA_c rfl (lvA_c rfl (lvA_c rfl (lvA_c rfl lvA_n)))))
          · have H := bq_f q H
            refine gw_lload dX9_leastRow_61 rfl rfl ?_
            refine gw_lconst0Z dX9_leastRow_63 rfl ?_
            obtain ⟨k6, e_k6, H⟩ := jn_i H
            have hJ_k6 : ∀ (u7 : Unit), k6 u7 = some r → G Φ mX9_leastRow (gw_M Φ mX9_leastRow K) none 0 0 90 [(0, .ref (M + th)), (1, vI p1), (3, vI l3)] [] (hp Φ hb M sh c) := by
              intro u7 H
              subst e_k6
              refine gw_iload_n dX9_leastRow_90 rfl rfl ?_
              refine gw_goto (tgt := 95) dX9_leastRow_91 (by decide) ?_
              refine gw_istore_n dX9_leastRow_95 rfl (by decide) ?_
              refine gw_iincZ dX9_leastRow_96 rfl rfl (by decide) ?_
              refine gw_goto (tgt := 4) dX9_leastRow_99 (by decide) ?_
              exact gw_L (ih _ _ H) ((lvA_c rfl (lvA_c rfl (lvA_c rfl (lvA_c rfl lvA_n)))))
            refine gw_lc_ltZ (tgt := 90) dX9_leastRow_64 rfl dX9_leastRow_65 rfl (by decide) (by decide) (by decide) (fun q => ?_) (fun q => ?_)
            · have H := bq_t q H
              exact gw_L (hJ_k6 _ H) ((lvA_c rfl (lvA_c rfl (lvA_c rfl lvA_n))))
            · have H := bq_f q H
              refine gw_lload dX9_leastRow_68 rfl rfl ?_
              refine gw_lconst0Z dX9_leastRow_70 rfl ?_
              refine gw_lc_neZ (tgt := 94) dX9_leastRow_71 rfl dX9_leastRow_72 rfl (by decide) (by decide) (by decide) (fun q => ?_) (fun q => ?_)
              · have H := bq_f q H
                refine gw_iload_n dX9_leastRow_94 rfl rfl ?_
                refine gw_istore_n dX9_leastRow_95 rfl (by decide) ?_
                refine gw_iincZ dX9_leastRow_96 rfl rfl (by decide) ?_
                refine gw_goto (tgt := 4) dX9_leastRow_99 (by decide) ?_
                exact gw_L (ih _ _ H) ((lvA_c rfl (lvA_c rfl (lvA_c rfl (lvA_c rfl lvA_n)))))
              · have H := bq_t q H
                refine gw_aload_n dX9_leastRow_75 rfl rfl ?_
                refine gs_getR cl9 11 dX9_leastRow_76 rfl kw_1330 (by decide) (h0.1) rfl ?_
                refine gw_iload_n dX9_leastRow_79 rfl rfl ?_
                obtain ⟨g, H⟩ := gd_i H
                refine gs_ialdZ dX9_leastRow_80 rfl (h0.2.2.2.2.2.2.2.2.1) g (by decide) ?_
                refine gw_aload_n dX9_leastRow_81 rfl rfl ?_
                refine gs_getR cl9 11 dX9_leastRow_82 rfl kw_1330 (by decide) (h0.1) rfl ?_
                refine gw_iload_n dX9_leastRow_85 rfl rfl ?_
                obtain ⟨g, H⟩ := gd_i H
                refine gs_ialdZ dX9_leastRow_86 rfl (h0.2.2.2.2.2.2.2.2.1) g (by decide) ?_
                obtain ⟨g, H⟩ := gd_i H
                refine gw_icmp_geZ (tgt := 94) dX9_leastRow_87 rfl (by decide) g.1 g.2 (fun q => ?_) (fun q => ?_)
                · have H := bq_t q H
                  refine gw_iload_n dX9_leastRow_94 rfl rfl ?_
                  refine gw_istore_n dX9_leastRow_95 rfl (by decide) ?_
                  refine gw_iincZ dX9_leastRow_96 rfl rfl (by decide) ?_
                  refine gw_goto (tgt := 4) dX9_leastRow_99 (by decide) ?_
                  exact gw_L (ih _ _ H) ((lvA_c rfl (lvA_c rfl (lvA_c rfl (lvA_c rfl lvA_n)))))
                · have H := bq_f q H
                  exact gw_L (hJ_k6 _ H) ((lvA_c rfl (lvA_c rfl (lvA_c rfl lvA_n))))
        refine gw_if_eqZ (tgt := 51) dX9_leastRow_34 rfl (by decide) g (fun q => ?_) (fun q => ?_)
        · have H := bq_t q H
          exact gw_L (hJ_k4 _ H) ((lvA_c rfl (lvA_c rfl (lvA_c rfl (lvA_c rfl (lvA_c rfl lvA_n))))))
        · have H := bq_f q H
          refine gw_iload_n dX9_leastRow_37 rfl rfl ?_
          obtain ⟨g, H⟩ := gd_i H
          refine gw_if_ltZ (tgt := 51) dX9_leastRow_38 rfl (by decide) g (fun q => ?_) (fun q => ?_)
          · have H := bq_t q H
            exact gw_L (hJ_k4 _ H) ((lvA_c rfl (lvA_c rfl (lvA_c rfl (lvA_c rfl (lvA_c rfl lvA_n))))))
          · have H := bq_f q H
            refine gw_aload_n dX9_leastRow_41 rfl rfl ?_
            refine gw_iload_n dX9_leastRow_42 rfl rfl ?_
            refine gw_iload_n dX9_leastRow_43 rfl rfl ?_
            refine gw_iload_n dX9_leastRow_44 rfl rfl ?_
            obtain ⟨v8, e_v8, H⟩ := cv_i H
            refine gw_V3 okX9_against dX9_leastRow_45 kw_1539 kw_1541 kw_56 (hp_o (h0.1)) rfl ⟨by decide, by decide⟩ ⟨by decide, by decide⟩ (Nat.le_of_ble_eq_true rfl) (w_X9_against (h0) e_v8 ?_)
            refine gw_goto (tgt := 54) dX9_leastRow_48 (by decide) ?_
            refine gw_lstore dX9_leastRow_54 rfl (by decide) ?_
            refine gw_iload dX9_leastRow_56 rfl rfl ?_
            obtain ⟨g, H⟩ := gd_i H
            refine gw_if_eqZ (tgt := 94) dX9_leastRow_58 rfl (by decide) g (fun q => ?_) (fun q => ?_)
            · have H := bq_t q H
              refine gw_iload_n dX9_leastRow_94 rfl rfl ?_
              refine gw_istore_n dX9_leastRow_95 rfl (by decide) ?_
              refine gw_iincZ dX9_leastRow_96 rfl rfl (by decide) ?_
              refine gw_goto (tgt := 4) dX9_leastRow_99 (by decide) ?_
              exact gw_L (ih _ _ H) ((lvA_c rfl (lvA_c rfl (lvA_c rfl (lvA_c rfl lvA_n)))))
            · have H := bq_f q H
              refine gw_lload dX9_leastRow_61 rfl rfl ?_
              refine gw_lconst0Z dX9_leastRow_63 rfl ?_
              obtain ⟨g, H⟩ := gd_i H
              obtain ⟨k9, e_k9, H⟩ := jn_i H
              have hJ_k9 : ∀ (u10 : Unit), k9 u10 = some r → G Φ mX9_leastRow (gw_M Φ mX9_leastRow K) none 0 0 90 [(0, .ref (M + th)), (1, vI p1), (3, vI l3)] [] (hp Φ hb M sh c) := by
                intro u10 H
                subst e_k9
                refine gw_iload_n dX9_leastRow_90 rfl rfl ?_
                refine gw_goto (tgt := 95) dX9_leastRow_91 (by decide) ?_
                refine gw_istore_n dX9_leastRow_95 rfl (by decide) ?_
                refine gw_iincZ dX9_leastRow_96 rfl rfl (by decide) ?_
                refine gw_goto (tgt := 4) dX9_leastRow_99 (by decide) ?_
                exact gw_L (ih _ _ H) ((lvA_c rfl (lvA_c rfl (lvA_c rfl (lvA_c rfl lvA_n)))))
              refine gw_lc_ltZ (tgt := 90) dX9_leastRow_64 rfl dX9_leastRow_65 rfl (by decide) g (by decide) (fun q => ?_) (fun q => ?_)
              · have H := bq_t q H
                exact gw_L (hJ_k9 _ H) ((lvA_c rfl (lvA_c rfl (lvA_c rfl lvA_n))))
              · have H := bq_f q H
                refine gw_lload dX9_leastRow_68 rfl rfl ?_
                refine gw_lconst0Z dX9_leastRow_70 rfl ?_
                obtain ⟨g, H⟩ := gd_i H
                refine gw_lc_neZ (tgt := 94) dX9_leastRow_71 rfl dX9_leastRow_72 rfl (by decide) g (by decide) (fun q => ?_) (fun q => ?_)
                · have H := bq_f q H
                  refine gw_iload_n dX9_leastRow_94 rfl rfl ?_
                  refine gw_istore_n dX9_leastRow_95 rfl (by decide) ?_
                  refine gw_iincZ dX9_leastRow_96 rfl rfl (by decide) ?_
                  refine gw_goto (tgt := 4) dX9_leastRow_99 (by decide) ?_
                  exact gw_L (ih _ _ H) ((lvA_c rfl (lvA_c rfl (lvA_c rfl (lvA_c rfl lvA_n)))))
                · have H := bq_t q H
                  refine gw_aload_n dX9_leastRow_75 rfl rfl ?_
                  refine gs_getR cl9 11 dX9_leastRow_76 rfl kw_1330 (by decide) (h0.1) rfl ?_
                  refine gw_iload_n dX9_leastRow_79 rfl rfl ?_
                  obtain ⟨g, H⟩ := gd_i H
                  refine gs_ialdZ dX9_leastRow_80 rfl (h0.2.2.2.2.2.2.2.2.1) g (by decide) ?_
                  refine gw_aload_n dX9_leastRow_81 rfl rfl ?_
                  refine gs_getR cl9 11 dX9_leastRow_82 rfl kw_1330 (by decide) (h0.1) rfl ?_
                  refine gw_iload_n dX9_leastRow_85 rfl rfl ?_
                  obtain ⟨g, H⟩ := gd_i H
                  refine gs_ialdZ dX9_leastRow_86 rfl (h0.2.2.2.2.2.2.2.2.1) g (by decide) ?_
                  obtain ⟨g, H⟩ := gd_i H
                  refine gw_icmp_geZ (tgt := 94) dX9_leastRow_87 rfl (by decide) g.1 g.2 (fun q => ?_) (fun q => ?_)
                  · have H := bq_t q H
                    refine gw_iload_n dX9_leastRow_94 rfl rfl ?_
                    refine gw_istore_n dX9_leastRow_95 rfl (by decide) ?_
                    refine gw_iincZ dX9_leastRow_96 rfl rfl (by decide) ?_
                    refine gw_goto (tgt := 4) dX9_leastRow_99 (by decide) ?_
                    exact gw_L (ih _ _ H) ((lvA_c rfl (lvA_c rfl (lvA_c rfl (lvA_c rfl lvA_n)))))
                  · have H := bq_f q H
                    exact gw_L (hJ_k9 _ H) ((lvA_c rfl (lvA_c rfl (lvA_c rfl lvA_n))))
      refine gw_lc_leZ (tgt := 29) dX9_leastRow_21 rfl dX9_leastRow_22 rfl (by decide) g (by decide) (fun q => ?_) (fun q => ?_)
      · have H := bq_t q H
        refine gw_iconstZ dX9_leastRow_29 rfl ?_
        exact gw_L (hJ_k2 _ H) ((lvA_c rfl (lvA_c rfl (lvA_c rfl (lvA_c rfl lvA_n)))))
      · have H := bq_f q H
        refine gw_iconstZ dX9_leastRow_25 rfl ?_
        refine gw_goto (tgt := 30) dX9_leastRow_26 (by decide) ?_
        exact gw_L (hJ_k2 _ H) ((lvA_c rfl (lvA_c rfl (lvA_c rfl (lvA_c rfl lvA_n)))))
set_option maxRecDepth 100000 in
set_option maxHeartbeats 4000000 in
theorem w_X9_leastRow {Φ : gwC} {hb : gwHp} {M : Nat} {sh : Nat → Option gSh} {th : Nat} {p1 : Int} {c : W0} {r : Int} {K : Option Value → gwHp → Prop} (h0 : sM sh th) (H : f_X9_leastRow th p1 c = some r) (hK : K (some (vI r)) (hp Φ hb M sh c)) : gw_Con Φ mX9_leastRow none [.ref (M + th), vI p1] (hp Φ hb M sh c) K := by
  unfold f_X9_leastRow at H
  refine gw_start okX9_leastRow (Nat.le_of_ble_eq_true rfl) ?_
  refine gw_iconstZ dX9_leastRow_0 rfl ?_
  refine gw_istore_n dX9_leastRow_1 rfl (by decide) ?_
  refine gw_iconstZ dX9_leastRow_2 rfl ?_
  refine gw_istore_n dX9_leastRow_3 rfl (by decide) ?_
  refine gw_L (l_X9_leastRow_4 h0 hK (fun v1 H => ?_) LF _ _ H) ((lvA_c rfl (lvA_c rfl (lvA_c rfl (lvA_c rfl lvA_n)))))
  refine gw_iload_n dX9_leastRow_102 rfl rfl ?_
  cases H
  exact gw_iret dX9_leastRow_103 rfl (by decide) (by decide) hK
set_option maxRecDepth 100000 in
set_option maxHeartbeats 4000000 in
theorem w_X9_weighs {Φ : gwC} {hb : gwHp} {M : Nat} {sh : Nat → Option gSh} {th : Nat} {p1 : Int} {c : W0} {r : Int × W0} {K : Option Value → gwHp → Prop} (h0 : sM sh th) (H : f_X9_weighs th p1 c = some r) (hK : K none (hp Φ hb M sh r.2)) : gw_Con Φ mX9_weighs none [.ref (M + th), vI p1] (hp Φ hb M sh c) K := by
  unfold f_X9_weighs at H
  refine gw_start okX9_weighs (Nat.le_of_ble_eq_true rfl) ?_
  refine gw_aload_n dX9_weighs_0 rfl rfl ?_
  refine gw_iload_n dX9_weighs_1 rfl rfl ?_
  obtain ⟨v2, c1, e_c1, H⟩ := cl_i H
  refine gw_V1 okX9_reduces dX9_weighs_2 kw_1523 kw_1525 kw_52 (hp_o (h0.1)) rfl ⟨by decide, by decide⟩ ⟨by decide, by decide⟩ (Nat.le_of_ble_eq_true rfl) (w_X9_reduces (h0) e_c1 ?_)
  refine gw_aload_n dX9_weighs_5 rfl rfl ?_
  refine gs_getR cl9 1 dX9_weighs_6 rfl kw_1320 (by decide) (h0.1) rfl ?_
  refine gw_bipushZ dX9_weighs_9 rfl (by decide) ?_
  refine gs_ialdZ dX9_weighs_11 rfl (h0.2.1) (by decide) (by decide) ?_
  refine gw_iconstZ dX9_weighs_12 rfl ?_
  obtain ⟨g, H⟩ := gd_i H
  refine gw_icmp_neZ (tgt := 88) dX9_weighs_13 rfl (by decide) g (by decide) (fun q => ?_) (fun q => ?_)
  · have H := bq_f q H
    cases H
    exact gw_vret dX9_weighs_88 rfl (by decide) (by decide) hK
  · have H := bq_t q H
    refine gw_aload_n dX9_weighs_16 rfl rfl ?_
    refine gw_iload_n dX9_weighs_17 rfl rfl ?_
    obtain ⟨v3, e_v3, H⟩ := cv_i H
    refine gw_V1 okX9_leastRow dX9_weighs_18 kw_1579 kw_1581 kw_65 (hp_o (h0.1)) rfl ⟨by decide, by decide⟩ ⟨by decide, by decide⟩ (Nat.le_of_ble_eq_true rfl) (w_X9_leastRow (h0) e_v3 ?_)
    refine gw_istore_n dX9_weighs_21 rfl (by decide) ?_
    refine gw_aload_n dX9_weighs_22 rfl rfl ?_
    refine gw_aload_n dX9_weighs_23 rfl rfl ?_
    refine gs_getL cl9 16 16 dX9_weighs_24 rfl kw_1335 (by decide) (h0.1) rfl rfl ?_
    refine gw_aload_n dX9_weighs_27 rfl rfl ?_
    refine gw_iload_n dX9_weighs_28 rfl rfl ?_
    refine gw_bipushZ dX9_weighs_29 rfl (by decide) ?_
    obtain ⟨v4, e_v4, H⟩ := cv_i H
    refine gw_V2 okX9_entry dX9_weighs_31 kw_1531 kw_1533 kw_54 (hp_o (h0.1)) rfl ⟨by decide, by decide⟩ ⟨by decide, by decide⟩ (Nat.le_of_ble_eq_true rfl) (w_X9_entry (h0) e_v4 ?_)
    refine gw_lmulZ dX9_weighs_34 rfl ?_
    refine gw_aload_n dX9_weighs_35 rfl rfl ?_
    refine gs_getL cl9 17 17 dX9_weighs_36 rfl kw_1336 (by decide) (h0.1) rfl rfl ?_
    refine gw_aload_n dX9_weighs_39 rfl rfl ?_
    refine gs_getR cl9 10 dX9_weighs_40 rfl kw_1329 (by decide) (h0.1) rfl ?_
    refine gw_bipushZ dX9_weighs_43 rfl (by decide) ?_
    refine gw_iload_n dX9_weighs_45 rfl rfl ?_
    refine gw_imulZ dX9_weighs_46 rfl ?_
    refine gw_bipushZ dX9_weighs_47 rfl (by decide) ?_
    refine gw_iaddZ dX9_weighs_49 rfl ?_
    refine gw_iconstZ dX9_weighs_50 rfl ?_
    refine gw_isubZ dX9_weighs_51 rfl ?_
    obtain ⟨g, H⟩ := gd_i H
    refine gs_laldZ dX9_weighs_52 rfl (h0.2.2.2.2.2.2.2.1) g (by decide) ?_
    refine gw_lmulZ dX9_weighs_53 rfl ?_
    obtain ⟨v6, c5, e_c5, H⟩ := cl_i H
    refine gw_V2 okX9_becomes dX9_weighs_54 kw_1504 kw_1506 kw_48 (hp_o (h0.1)) rfl ⟨by decide, by decide⟩ ⟨by decide, by decide⟩ (Nat.le_of_ble_eq_true rfl) (w_X9_becomes (h0) e_c5 ?_)
    refine gw_aload_n dX9_weighs_57 rfl rfl ?_
    refine gw_aload_n dX9_weighs_58 rfl rfl ?_
    refine gs_getL cl9 16 16 dX9_weighs_59 rfl kw_1335 (by decide) (h0.1) rfl rfl ?_
    refine gw_aload_n dX9_weighs_62 rfl rfl ?_
    refine gs_getR cl9 10 dX9_weighs_63 rfl kw_1329 (by decide) (h0.1) rfl ?_
    refine gw_bipushZ dX9_weighs_66 rfl (by decide) ?_
    refine gw_iload_n dX9_weighs_68 rfl rfl ?_
    refine gw_imulZ dX9_weighs_69 rfl ?_
    refine gw_iload_n dX9_weighs_70 rfl rfl ?_
    refine gw_iaddZ dX9_weighs_71 rfl ?_
    obtain ⟨g, H⟩ := gd_i H
    refine gs_laldZ dX9_weighs_72 rfl (h0.2.2.2.2.2.2.2.1) g (by decide) ?_
    refine gw_lmulZ dX9_weighs_73 rfl ?_
    refine gw_aload_n dX9_weighs_74 rfl rfl ?_
    refine gs_getL cl9 17 17 dX9_weighs_75 rfl kw_1336 (by decide) (h0.1) rfl rfl ?_
    refine gw_aload_n dX9_weighs_78 rfl rfl ?_
    refine gw_iload_n dX9_weighs_79 rfl rfl ?_
    refine gw_iload_n dX9_weighs_80 rfl rfl ?_
    obtain ⟨v7, e_v7, H⟩ := cv_i H
    refine gw_V2 okX9_entry dX9_weighs_81 kw_1531 kw_1533 kw_54 (hp_o (h0.1)) rfl ⟨by decide, by decide⟩ ⟨by decide, by decide⟩ (Nat.le_of_ble_eq_true rfl) (w_X9_entry (h0) e_v7 ?_)
    refine gw_lmulZ dX9_weighs_84 rfl ?_
    obtain ⟨v9, c8, e_c8, H⟩ := cl_i H
    refine gw_V2 okX9_becomes dX9_weighs_85 kw_1504 kw_1506 kw_48 (hp_o (h0.1)) rfl ⟨by decide, by decide⟩ ⟨by decide, by decide⟩ (Nat.le_of_ble_eq_true rfl) (w_X9_becomes (h0) e_c8 ?_)
    cases H
    exact gw_vret dX9_weighs_88 rfl (by decide) (by decide) hK
set_option maxRecDepth 100000 in
set_option maxHeartbeats 4000000 in
theorem l_X9_isMore_14 {Φ : gwC} {hb : gwHp} {M : Nat} {sh : Nat → Option gSh} {c : W0} {κ : Int → Int → Int → Int → Option Int} {r : Int} {K : Option Value → gwHp → Prop}  (hK : K (some (vI r)) (hp Φ hb M sh c)) (hκ : ∀ (x8 : Int) (x10 : Int) (x12 : Int) (x14 : Int), κ x8 x10 x12 x14 = some r → G Φ mX9_isMore (gw_M Φ mX9_isMore K) none 0 0 81 [(8, vL x8), (10, vL x10), (12, vL x12), (14, vL x14)] [] (hp Φ hb M sh c)) : ∀ (n : Nat) (l8 : Int) (l10 : Int) (l12 : Int) (l14 : Int), f_X9_isMore_14  κ n l8 l10 l12 l14 = some r → G Φ mX9_isMore (gw_M Φ mX9_isMore K) none 0 0 14 [(8, vL l8), (10, vL l10), (12, vL l12), (14, vL l14)] [] (hp Φ hb M sh c) := by
  intro n
  induction n with
  | zero => intro l8 l10 l12 l14 H; cases H
  | succ n ih =>
    intro l8 l10 l12 l14 H
    have H : b_X9_isMore_14  κ (f_X9_isMore_14  κ n) l8 l10 l12 l14 = some r := H
    unfold b_X9_isMore_14 at H
    refine gw_lload dX9_isMore_14 rfl rfl ?_
    refine gw_lload dX9_isMore_16 rfl rfl ?_
    obtain ⟨g, H⟩ := gd_i H
    refine gw_ldivZ dX9_isMore_18 rfl g.1 g.2.1 g.2.2 ?_
    refine gw_lload dX9_isMore_19 rfl rfl ?_
    refine gw_lload dX9_isMore_21 rfl rfl ?_
    obtain ⟨g, H⟩ := gd_i H
    refine gw_ldivZ dX9_isMore_23 rfl g.1 g.2.1 g.2.2 ?_
    obtain ⟨g, H⟩ := gd_i H
    refine gw_lc_neZ (tgt := 81) dX9_isMore_24 rfl dX9_isMore_25 rfl (by decide) g.1 g.2 (fun q => ?_) (fun q => ?_)
    · have H := bq_f q H
      exact gw_L (hκ _ _ _ _ H) ((lvA_c rfl (lvA_c rfl (lvA_c rfl (lvA_c rfl lvA_n)))))
    · have H := bq_t q H
      refine gw_lload dX9_isMore_28 rfl rfl ?_
      refine gw_lload dX9_isMore_30 rfl rfl ?_
      obtain ⟨g, H⟩ := gd_i H
      refine gw_lremZ dX9_isMore_32 rfl g.1 g.2.1 g.2.2 ?_
      refine gw_lconst0Z dX9_isMore_33 rfl ?_
      obtain ⟨g, H⟩ := gd_i H
      refine gw_lc_eqZ (tgt := 81) dX9_isMore_34 rfl dX9_isMore_35 rfl (by decide) g (by decide) (fun q => ?_) (fun q => ?_)
      · have H := bq_t q H
        exact gw_L (hκ _ _ _ _ H) ((lvA_c rfl (lvA_c rfl (lvA_c rfl (lvA_c rfl lvA_n)))))
      · have H := bq_f q H
        refine gw_lload dX9_isMore_38 rfl rfl ?_
        refine gw_lload dX9_isMore_40 rfl rfl ?_
        obtain ⟨g, H⟩ := gd_i H
        refine gw_lremZ dX9_isMore_42 rfl g.1 g.2.1 g.2.2 ?_
        refine gw_lconst0Z dX9_isMore_43 rfl ?_
        obtain ⟨g, H⟩ := gd_i H
        refine gw_lc_eqZ (tgt := 81) dX9_isMore_44 rfl dX9_isMore_45 rfl (by decide) g (by decide) (fun q => ?_) (fun q => ?_)
        · have H := bq_t q H
          exact gw_L (hκ _ _ _ _ H) ((lvA_c rfl (lvA_c rfl (lvA_c rfl (lvA_c rfl lvA_n)))))
        · have H := bq_f q H
          refine gw_lload dX9_isMore_48 rfl rfl ?_
          refine gw_lload dX9_isMore_50 rfl rfl ?_
          obtain ⟨g, H⟩ := gd_i H
          refine gw_lremZ dX9_isMore_52 rfl g.1 g.2.1 g.2.2 ?_
          refine gw_lstore dX9_isMore_53 rfl (by decide) ?_
          refine gw_lload dX9_isMore_55 rfl rfl ?_
          refine gw_lload dX9_isMore_57 rfl rfl ?_
          obtain ⟨g, H⟩ := gd_i H
          refine gw_lremZ dX9_isMore_59 rfl g.1 g.2.1 g.2.2 ?_
          refine gw_lstore dX9_isMore_60 rfl (by decide) ?_
          refine gw_lload dX9_isMore_62 rfl rfl ?_
          refine gw_lstore dX9_isMore_64 rfl (by decide) ?_
          refine gw_lload dX9_isMore_66 rfl rfl ?_
          refine gw_lstore dX9_isMore_68 rfl (by decide) ?_
          refine gw_lload dX9_isMore_70 rfl rfl ?_
          refine gw_lstore dX9_isMore_72 rfl (by decide) ?_
          refine gw_lload dX9_isMore_74 rfl rfl ?_
          refine gw_lstore dX9_isMore_76 rfl (by decide) ?_
          refine gw_goto (tgt := 14) dX9_isMore_78 (by decide) ?_
          exact gw_L (ih _ _ _ _ H) ((lvA_c rfl (lvA_c rfl (lvA_c rfl (lvA_c rfl lvA_n)))))
set_option maxRecDepth 100000 in
set_option maxHeartbeats 4000000 in
theorem w_X9_isMore {Φ : gwC} {hb : gwHp} {M : Nat} {sh : Nat → Option gSh} {p1 : Int} {p2 : Int} {p3 : Int} {p4 : Int} {c : W0} {r : Int} {K : Option Value → gwHp → Prop}  (H : f_X9_isMore p1 p2 p3 p4 = some r) (hK : K (some (vI r)) (hp Φ hb M sh c)) : gw_Con Φ mX9_isMore none [vL p1, vL p2, vL p3, vL p4] (hp Φ hb M sh c) K := by
  unfold f_X9_isMore at H
  refine gw_start okX9_isMore (Nat.le_of_ble_eq_true rfl) ?_
  refine gw_lload_n dX9_isMore_0 rfl rfl ?_
  refine gw_lstore dX9_isMore_1 rfl (by decide) ?_
  refine gw_lload_n dX9_isMore_3 rfl rfl ?_
  refine gw_lstore dX9_isMore_4 rfl (by decide) ?_
  refine gw_lload dX9_isMore_6 rfl rfl ?_
  refine gw_lstore dX9_isMore_8 rfl (by decide) ?_
  refine gw_lload dX9_isMore_10 rfl rfl ?_
  refine gw_lstore dX9_isMore_12 rfl (by decide) ?_
  refine gw_L (l_X9_isMore_14  hK (fun v1 v2 v3 v4 H => ?_) LF _ _ _ _ H) ((lvA_c rfl (lvA_c rfl (lvA_c rfl (lvA_c rfl lvA_n)))))
  refine gw_lload dX9_isMore_81 rfl rfl ?_
  refine gw_lload dX9_isMore_83 rfl rfl ?_
  obtain ⟨g, H⟩ := gd_i H
  refine gw_ldivZ dX9_isMore_85 rfl g.1 g.2.1 g.2.2 ?_
  refine gw_lload dX9_isMore_86 rfl rfl ?_
  refine gw_lload dX9_isMore_88 rfl rfl ?_
  obtain ⟨g, H⟩ := gd_i H
  refine gw_ldivZ dX9_isMore_90 rfl g.1 g.2.1 g.2.2 ?_
  obtain ⟨g, H⟩ := gd_i H
  refine gw_lc_eqZ (tgt := 117) dX9_isMore_91 rfl dX9_isMore_92 rfl (by decide) g.1 g.2 (fun q => ?_) (fun q => ?_)
  · have H := bq_t q H
    refine gw_lload dX9_isMore_117 rfl rfl ?_
    refine gw_lload dX9_isMore_119 rfl rfl ?_
    obtain ⟨g, H⟩ := gd_i H
    refine gw_lremZ dX9_isMore_121 rfl g.1 g.2.1 g.2.2 ?_
    refine gw_lconst0Z dX9_isMore_122 rfl ?_
    obtain ⟨g, H⟩ := gd_i H
    refine gw_lc_eqZ (tgt := 141) dX9_isMore_123 rfl dX9_isMore_124 rfl (by decide) g (by decide) (fun q => ?_) (fun q => ?_)
    · have H := bq_t q H
      refine gw_iconstZ dX9_isMore_141 rfl ?_
      cases H
      exact gw_zret rfl dX9_isMore_142 rfl (by decide) (by decide) hK
    · have H := bq_f q H
      refine gw_lload dX9_isMore_127 rfl rfl ?_
      refine gw_lload dX9_isMore_129 rfl rfl ?_
      obtain ⟨g, H⟩ := gd_i H
      refine gw_lremZ dX9_isMore_131 rfl g.1 g.2.1 g.2.2 ?_
      refine gw_lconst0Z dX9_isMore_132 rfl ?_
      obtain ⟨g, H⟩ := gd_i H
      refine gw_lc_neZ (tgt := 141) dX9_isMore_133 rfl dX9_isMore_134 rfl (by decide) g (by decide) (fun q => ?_) (fun q => ?_)
      · have H := bq_f q H
        refine gw_iconstZ dX9_isMore_141 rfl ?_
        cases H
        exact gw_zret rfl dX9_isMore_142 rfl (by decide) (by decide) hK
      · have H := bq_t q H
        refine gw_iconstZ dX9_isMore_137 rfl ?_
        refine gw_goto (tgt := 142) dX9_isMore_138 (by decide) ?_
        cases H
        exact gw_zret rfl dX9_isMore_142 rfl (by decide) (by decide) hK
  · have H := bq_f q H
    refine gw_lload dX9_isMore_95 rfl rfl ?_
    refine gw_lload dX9_isMore_97 rfl rfl ?_
    obtain ⟨g, H⟩ := gd_i H
    refine gw_ldivZ dX9_isMore_99 rfl g.1 g.2.1 g.2.2 ?_
    refine gw_lload dX9_isMore_100 rfl rfl ?_
    refine gw_lload dX9_isMore_102 rfl rfl ?_
    obtain ⟨g, H⟩ := gd_i H
    refine gw_ldivZ dX9_isMore_104 rfl g.1 g.2.1 g.2.2 ?_
    obtain ⟨g, H⟩ := gd_i H
    refine gw_lc_leZ (tgt := 113) dX9_isMore_105 rfl dX9_isMore_106 rfl (by decide) g.1 g.2 (fun q => ?_) (fun q => ?_)
    · have H := bq_t q H
      refine gw_iconstZ dX9_isMore_113 rfl ?_
      refine gw_goto (tgt := 142) dX9_isMore_114 (by decide) ?_
      cases H
      exact gw_zret rfl dX9_isMore_142 rfl (by decide) (by decide) hK
    · have H := bq_f q H
      refine gw_iconstZ dX9_isMore_109 rfl ?_
      refine gw_goto (tgt := 142) dX9_isMore_110 (by decide) ?_
      cases H
      exact gw_zret rfl dX9_isMore_142 rfl (by decide) (by decide) hK
set_option maxRecDepth 100000 in
set_option maxHeartbeats 4000000 in
theorem l_X9_bestColumn_10 {Φ : gwC} {hb : gwHp} {M : Nat} {sh : Nat → Option gSh} {th : Nat} {κ : Int → W0 → Option (Int × W0)} {r : Int × W0} {K : Option Value → gwHp → Prop} (h0 : sM sh th) (hK : K (some (vI r.1)) (hp Φ hb M sh r.2)) (hκ : ∀ (x1 : Int) (c : W0), κ x1 c = some r → G Φ mX9_bestColumn (gw_M Φ mX9_bestColumn K) none 0 0 120 [(1, vI x1)] [] (hp Φ hb M sh c)) : ∀ (n : Nat) (l1 : Int) (l2 : Int) (l4 : Int) (l6 : Int) (c : W0), f_X9_bestColumn_10 th κ n l1 l2 l4 l6 c = some r → G Φ mX9_bestColumn (gw_M Φ mX9_bestColumn K) none 0 0 10 [(0, .ref (M + th)), (1, vI l1), (2, vL l2), (4, vL l4), (6, vI l6)] [] (hp Φ hb M sh c) := by
  intro n
  induction n with
  | zero => intro l1 l2 l4 l6 c H; cases H
  | succ n ih =>
    intro l1 l2 l4 l6 c H
    have H : b_X9_bestColumn_10 th κ (f_X9_bestColumn_10 th κ n) l1 l2 l4 l6 c = some r := H
    unfold b_X9_bestColumn_10 at H
    refine gw_iload dX9_bestColumn_10 rfl rfl ?_
    refine gw_aload_n dX9_bestColumn_12 rfl rfl ?_
    obtain ⟨v1, e_v1, H⟩ := cv_i H
    refine gw_V0 okX9_columns dX9_bestColumn_13 kw_1476 kw_1478 kw_41 (hp_o (h0.1)) rfl ⟨by decide, by decide⟩ ⟨by decide, by decide⟩ (Nat.le_of_ble_eq_true rfl) (w_X9_columns (h0) e_v1 ?_)
    obtain ⟨g, H⟩ := gd_i H
    refine gw_icmp_geZ (tgt := 120) dX9_bestColumn_16 rfl (by decide) g.1 g.2 (fun q => ?_) (fun q => ?_)
    · have H := bq_t q H
      exact gw_L (hκ _ _ H) ((lvA_c rfl lvA_n))
    · have H := bq_f q H
      refine gw_aload_n dX9_bestColumn_19 rfl rfl ?_
      refine gw_iload dX9_bestColumn_20 rfl rfl ?_
      obtain ⟨v2, c3, e_c3, H⟩ := cl_i H
      refine gw_V1 okX9_isRising dX9_bestColumn_22 kw_1519 kw_1521 kw_51 (hp_o (h0.1)) rfl ⟨by decide, by decide⟩ ⟨by decide, by decide⟩ (Nat.le_of_ble_eq_true rfl) (w_X9_isRising (h0) e_c3 ?_)
      obtain ⟨g, H⟩ := gd_i H
      refine gw_if_eqZ (tgt := 114) dX9_bestColumn_25 rfl (by decide) g (fun q => ?_) (fun q => ?_)
      · have H := bq_t q H
        refine gw_iincZ dX9_bestColumn_114 rfl rfl (by decide) ?_
        refine gw_goto (tgt := 10) dX9_bestColumn_117 (by decide) ?_
        exact gw_L (ih _ _ _ _ _ H) ((lvA_c rfl (lvA_c rfl (lvA_c rfl (lvA_c rfl (lvA_c rfl lvA_n))))))
      · have H := bq_f q H
        refine gw_aload_n dX9_bestColumn_28 rfl rfl ?_
        refine gw_iload dX9_bestColumn_29 rfl rfl ?_
        obtain ⟨v5, c4, e_c4, H⟩ := cl_i H
        refine gw_V1 okX9_weighs dX9_bestColumn_31 kw_1575 kw_1577 kw_64 (hp_o (h0.1)) rfl ⟨by decide, by decide⟩ ⟨by decide, by decide⟩ (Nat.le_of_ble_eq_true rfl) (w_X9_weighs (h0) e_c4 ?_)
        refine gw_iload_n dX9_bestColumn_34 rfl rfl ?_
        obtain ⟨g, H⟩ := gd_i H
        obtain ⟨k6, e_k6, H⟩ := jn_i H
        have hJ_k6 : ∀ (u7 : Unit), k6 u7 = some r → G Φ mX9_bestColumn (gw_M Φ mX9_bestColumn K) none 0 0 65 [(0, .ref (M + th)), (1, vI l1), (2, vL l2), (4, vL l4), (6, vI l6)] [] (hp Φ hb M sh c4) := by
          intro u7 H
          subst e_k6
          refine gw_iconstZ dX9_bestColumn_65 rfl ?_
          refine gw_goto (tgt := 70) dX9_bestColumn_66 (by decide) ?_
          refine gw_istore dX9_bestColumn_70 rfl (by decide) ?_
          refine gw_iload dX9_bestColumn_72 rfl rfl ?_
          obtain ⟨k8, e_k8, H⟩ := jn_i H
          have hJ_k8 : ∀ (v9 : Int), k8 v9 = some r → G Φ mX9_bestColumn (gw_M Φ mX9_bestColumn K) none 0 0 83 [(0, .ref (M + th)), (2, vL l2), (4, vL l4), (6, vI l6), (7, vI 1)] [vI v9] (hp Φ hb M sh c4) := by
            intro v9 H
            subst e_k8
            refine gw_istore_n dX9_bestColumn_83 rfl (by decide) ?_
            refine gw_iload dX9_bestColumn_84 rfl rfl ?_
            obtain ⟨k10, e_k10, H⟩ := jn_i H
            have hJ_k10 : ∀ (v11 : Int), k10 v11 = some r → G Φ mX9_bestColumn (gw_M Φ mX9_bestColumn K) none 0 0 97 [(0, .ref (M + th)), (1, vI v9), (4, vL l4), (6, vI l6), (7, vI 1)] [vL v11] (hp Φ hb M sh c4) := by
              intro v11 H
              subst e_k10
              refine gw_lstore_n dX9_bestColumn_97 rfl (by decide) ?_
              refine gw_iload dX9_bestColumn_98 rfl rfl ?_
              refine gw_if_eqZ (tgt := 110) dX9_bestColumn_100 rfl (by decide) (by decide) (fun q => ?_) (fun q => ?_)
              · have H := bq_t (by omega) H
                refine gw_lload dX9_bestColumn_110 rfl rfl ?_
                refine gw_lstore dX9_bestColumn_112 rfl (by decide) ?_
                refine gw_iincZ dX9_bestColumn_114 rfl rfl (by decide) ?_
                refine gw_goto (tgt := 10) dX9_bestColumn_117 (by decide) ?_
                exact gw_L (ih _ _ _ _ _ H) ((lvA_c rfl (lvA_c rfl (lvA_c rfl (lvA_c rfl (lvA_c rfl lvA_n))))))
              · have H := bq_f (by omega) H
                refine gw_aload_n dX9_bestColumn_103 rfl rfl ?_
                refine gs_getL cl9 17 17 dX9_bestColumn_104 rfl kw_1336 (by decide) (h0.1) rfl rfl ?_
                refine gw_goto (tgt := 112) dX9_bestColumn_107 (by decide) ?_
                refine gw_lstore dX9_bestColumn_112 rfl (by decide) ?_
                refine gw_iincZ dX9_bestColumn_114 rfl rfl (by decide) ?_
                refine gw_goto (tgt := 10) dX9_bestColumn_117 (by decide) ?_
                exact gw_L (ih _ _ _ _ _ H) ((lvA_c rfl (lvA_c rfl (lvA_c rfl (lvA_c rfl (lvA_c rfl lvA_n))))))
            refine gw_if_eqZ (tgt := 96) dX9_bestColumn_86 rfl (by decide) (by decide) (fun q => ?_) (fun q => ?_)
            · have H := bq_t (by omega) H
              refine gw_lload_n dX9_bestColumn_96 rfl rfl ?_
              exact gw_L (hJ_k10 _ H) ((lvA_c rfl (lvA_c rfl (lvA_c rfl (lvA_c rfl (lvA_c rfl lvA_n))))))
            · have H := bq_f (by omega) H
              refine gw_aload_n dX9_bestColumn_89 rfl rfl ?_
              refine gs_getL cl9 16 16 dX9_bestColumn_90 rfl kw_1335 (by decide) (h0.1) rfl rfl ?_
              refine gw_goto (tgt := 97) dX9_bestColumn_93 (by decide) ?_
              exact gw_L (hJ_k10 _ H) ((lvA_c rfl (lvA_c rfl (lvA_c rfl (lvA_c rfl (lvA_c rfl lvA_n))))))
          refine gw_if_eqZ (tgt := 82) dX9_bestColumn_74 rfl (by decide) (by decide) (fun q => ?_) (fun q => ?_)
          · have H := bq_t (by omega) H
            refine gw_iload_n dX9_bestColumn_82 rfl rfl ?_
            exact gw_L (hJ_k8 _ H) ((lvA_c rfl (lvA_c rfl (lvA_c rfl (lvA_c rfl (lvA_c rfl lvA_n))))))
          · have H := bq_f (by omega) H
            refine gw_iload dX9_bestColumn_77 rfl rfl ?_
            refine gw_goto (tgt := 83) dX9_bestColumn_79 (by decide) ?_
            exact gw_L (hJ_k8 _ H) ((lvA_c rfl (lvA_c rfl (lvA_c rfl (lvA_c rfl (lvA_c rfl lvA_n))))))
        refine gw_if_ltZ (tgt := 65) dX9_bestColumn_35 rfl (by decide) g (fun q => ?_) (fun q => ?_)
        · have H := bq_t q H
          exact gw_L (hJ_k6 _ H) ((lvA_c rfl (lvA_c rfl (lvA_c rfl (lvA_c rfl (lvA_c rfl lvA_n))))))
        · have H := bq_f q H
          refine gw_aload_n dX9_bestColumn_38 rfl rfl ?_
          refine gs_getR cl9 1 dX9_bestColumn_39 rfl kw_1320 (by decide) (h0.1) rfl ?_
          refine gw_bipushZ dX9_bestColumn_42 rfl (by decide) ?_
          refine gs_ialdZ dX9_bestColumn_44 rfl (h0.2.1) (by decide) (by decide) ?_
          obtain ⟨g, H⟩ := gd_i H
          obtain ⟨k12, e_k12, H⟩ := jn_i H
          have hJ_k12 : ∀ (u13 : Unit), k12 u13 = some r → G Φ mX9_bestColumn (gw_M Φ mX9_bestColumn K) none 0 0 69 [(0, .ref (M + th)), (1, vI l1), (2, vL l2), (4, vL l4), (6, vI l6)] [] (hp Φ hb M sh c4) := by
            intro u13 H
            subst e_k12
            refine gw_iconstZ dX9_bestColumn_69 rfl ?_
            refine gw_istore dX9_bestColumn_70 rfl (by decide) ?_
            refine gw_iload dX9_bestColumn_72 rfl rfl ?_
            obtain ⟨k14, e_k14, H⟩ := jn_i H
            have hJ_k14 : ∀ (v15 : Int), k14 v15 = some r → G Φ mX9_bestColumn (gw_M Φ mX9_bestColumn K) none 0 0 83 [(0, .ref (M + th)), (2, vL l2), (4, vL l4), (6, vI l6), (7, vI 0)] [vI v15] (hp Φ hb M sh c4) := by
              intro v15 H
              subst e_k14
              refine gw_istore_n dX9_bestColumn_83 rfl (by decide) ?_
              refine gw_iload dX9_bestColumn_84 rfl rfl ?_
              obtain ⟨k16, e_k16, H⟩ := jn_i H
              have hJ_k16 : ∀ (v17 : Int), k16 v17 = some r → G Φ mX9_bestColumn (gw_M Φ mX9_bestColumn K) none 0 0 97 [(0, .ref (M + th)), (1, vI v15), (4, vL l4), (6, vI l6), (7, vI 0)] [vL v17] (hp Φ hb M sh c4) := by
                intro v17 H
                subst e_k16
                refine gw_lstore_n dX9_bestColumn_97 rfl (by decide) ?_
                refine gw_iload dX9_bestColumn_98 rfl rfl ?_
                refine gw_if_eqZ (tgt := 110) dX9_bestColumn_100 rfl (by decide) (by decide) (fun q => ?_) (fun q => ?_)
                · have H := bq_t (by omega) H
                  refine gw_lload dX9_bestColumn_110 rfl rfl ?_
                  refine gw_lstore dX9_bestColumn_112 rfl (by decide) ?_
                  refine gw_iincZ dX9_bestColumn_114 rfl rfl (by decide) ?_
                  refine gw_goto (tgt := 10) dX9_bestColumn_117 (by decide) ?_
                  exact gw_L (ih _ _ _ _ _ H) ((lvA_c rfl (lvA_c rfl (lvA_c rfl (lvA_c rfl (lvA_c rfl lvA_n))))))
                · have H := bq_f (by omega) H
                  refine gw_aload_n dX9_bestColumn_103 rfl rfl ?_
                  refine gs_getL cl9 17 17 dX9_bestColumn_104 rfl kw_1336 (by decide) (h0.1) rfl rfl ?_
                  refine gw_goto (tgt := 112) dX9_bestColumn_107 (by decide) ?_
                  refine gw_lstore dX9_bestColumn_112 rfl (by decide) ?_
                  refine gw_iincZ dX9_bestColumn_114 rfl rfl (by decide) ?_
                  refine gw_goto (tgt := 10) dX9_bestColumn_117 (by decide) ?_
                  exact gw_L (ih _ _ _ _ _ H) ((lvA_c rfl (lvA_c rfl (lvA_c rfl (lvA_c rfl (lvA_c rfl lvA_n))))))
              refine gw_if_eqZ (tgt := 96) dX9_bestColumn_86 rfl (by decide) (by decide) (fun q => ?_) (fun q => ?_)
              · have H := bq_t (by omega) H
                refine gw_lload_n dX9_bestColumn_96 rfl rfl ?_
                exact gw_L (hJ_k16 _ H) ((lvA_c rfl (lvA_c rfl (lvA_c rfl (lvA_c rfl (lvA_c rfl lvA_n))))))
              · have H := bq_f (by omega) H
                refine gw_aload_n dX9_bestColumn_89 rfl rfl ?_
                refine gs_getL cl9 16 16 dX9_bestColumn_90 rfl kw_1335 (by decide) (h0.1) rfl rfl ?_
                refine gw_goto (tgt := 97) dX9_bestColumn_93 (by decide) ?_
                exact gw_L (hJ_k16 _ H) ((lvA_c rfl (lvA_c rfl (lvA_c rfl (lvA_c rfl (lvA_c rfl lvA_n))))))
            refine gw_if_eqZ (tgt := 82) dX9_bestColumn_74 rfl (by decide) (by decide) (fun q => ?_) (fun q => ?_)
            · have H := bq_t (by omega) H
              refine gw_iload_n dX9_bestColumn_82 rfl rfl ?_
              exact gw_L (hJ_k14 _ H) ((lvA_c rfl (lvA_c rfl (lvA_c rfl (lvA_c rfl (lvA_c rfl lvA_n))))))
            · have H := bq_f (by omega) H
              refine gw_iload dX9_bestColumn_77 rfl rfl ?_
              refine gw_goto (tgt := 83) dX9_bestColumn_79 (by decide) ?_
              exact gw_L (hJ_k14 _ H) ((lvA_c rfl (lvA_c rfl (lvA_c rfl (lvA_c rfl (lvA_c rfl lvA_n))))))
          refine gw_if_leZ (tgt := 69) dX9_bestColumn_45 rfl (by decide) g (fun q => ?_) (fun q => ?_)
          · have H := bq_t q H
            exact gw_L (hJ_k12 _ H) ((lvA_c rfl (lvA_c rfl (lvA_c rfl (lvA_c rfl (lvA_c rfl lvA_n))))))
          · have H := bq_f q H
            refine gw_aload_n dX9_bestColumn_48 rfl rfl ?_
            refine gs_getL cl9 16 16 dX9_bestColumn_49 rfl kw_1335 (by decide) (h0.1) rfl rfl ?_
            refine gw_aload_n dX9_bestColumn_52 rfl rfl ?_
            refine gs_getL cl9 17 17 dX9_bestColumn_53 rfl kw_1336 (by decide) (h0.1) rfl rfl ?_
            refine gw_lload_n dX9_bestColumn_56 rfl rfl ?_
            refine gw_lload dX9_bestColumn_57 rfl rfl ?_
            obtain ⟨v18, e_v18, H⟩ := cv_i H
            refine gw_S4 okX9_isMore dX9_bestColumn_59 kw_1584 kw_1585 ⟨by decide, by decide⟩ ⟨by decide, by decide⟩ (Nat.le_of_ble_eq_true rfl) (w_X9_isMore  e_v18 ?_)
            obtain ⟨g, H⟩ := gd_i H
            refine gw_if_eqZ (tgt := 69) dX9_bestColumn_62 rfl (by decide) g (fun q => ?_) (fun q => ?_)
            · have H := bq_t q H
              exact gw_L (hJ_k12 _ H) ((lvA_c rfl (lvA_c rfl (lvA_c rfl (lvA_c rfl (lvA_c rfl lvA_n))))))
            · have H := bq_f q H
              exact gw_L (hJ_k6 _ H) ((lvA_c rfl (lvA_c rfl (lvA_c rfl (lvA_c rfl (lvA_c rfl lvA_n))))))
set_option maxRecDepth 100000 in
set_option maxHeartbeats 4000000 in
theorem w_X9_bestColumn {Φ : gwC} {hb : gwHp} {M : Nat} {sh : Nat → Option gSh} {th : Nat} {c : W0} {r : Int × W0} {K : Option Value → gwHp → Prop} (h0 : sM sh th) (H : f_X9_bestColumn th c = some r) (hK : K (some (vI r.1)) (hp Φ hb M sh r.2)) : gw_Con Φ mX9_bestColumn none [.ref (M + th)] (hp Φ hb M sh c) K := by
  unfold f_X9_bestColumn at H
  refine gw_start okX9_bestColumn (Nat.le_of_ble_eq_true rfl) ?_
  refine gw_iconstZ dX9_bestColumn_0 rfl ?_
  refine gw_istore_n dX9_bestColumn_1 rfl (by decide) ?_
  refine gw_lconst0Z dX9_bestColumn_2 rfl ?_
  refine gw_lstore_n dX9_bestColumn_3 rfl (by decide) ?_
  refine gw_lconst1Z dX9_bestColumn_4 rfl ?_
  refine gw_lstore dX9_bestColumn_5 rfl (by decide) ?_
  refine gw_iconstZ dX9_bestColumn_7 rfl ?_
  refine gw_istore dX9_bestColumn_8 rfl (by decide) ?_
  refine gw_L (l_X9_bestColumn_10 h0 hK (fun v1 c2 H => ?_) LF _ _ _ _ _ H) ((lvA_c rfl (lvA_c rfl (lvA_c rfl (lvA_c rfl (lvA_c rfl lvA_n))))))
  refine gw_iload_n dX9_bestColumn_120 rfl rfl ?_
  cases H
  exact gw_iret dX9_bestColumn_121 rfl (by decide) (by decide) hK
set_option maxRecDepth 100000 in
set_option maxHeartbeats 4000000 in
theorem w_X9_turns {Φ : gwC} {hb : gwHp} {M : Nat} {sh : Nat → Option gSh} {th : Nat} {p1 : Int} {p2 : Int} {c : W0} {r : Int × W0} {K : Option Value → gwHp → Prop} (h0 : sM sh th) (H : f_X9_turns th p1 p2 c = some r) (hK : K none (hp Φ hb M sh r.2)) : gw_Con Φ mX9_turns none [.ref (M + th), vI p1, vI p2] (hp Φ hb M sh c) K := by
  unfold f_X9_turns at H
  refine gw_start okX9_turns (Nat.le_of_ble_eq_true rfl) ?_
  refine gw_aload_n dX9_turns_0 rfl rfl ?_
  refine gs_getR cl9 1 dX9_turns_1 rfl kw_1320 (by decide) (h0.1) rfl ?_
  refine gw_bipushZ dX9_turns_4 rfl (by decide) ?_
  refine gw_dup2 dX9_turns_6 rfl rfl rfl ?_
  refine gs_ialdZ dX9_turns_7 rfl (h0.2.1) (by decide) (by decide) ?_
  refine gw_aload_n dX9_turns_8 rfl rfl ?_
  refine gw_iload_n dX9_turns_9 rfl rfl ?_
  refine gw_bipushZ dX9_turns_10 rfl (by decide) ?_
  obtain ⟨v1, e_v1, H⟩ := cv_i H
  refine gw_V2 okX9_entry dX9_turns_12 kw_1531 kw_1533 kw_54 (hp_o (h0.1)) rfl ⟨by decide, by decide⟩ ⟨by decide, by decide⟩ (Nat.le_of_ble_eq_true rfl) (w_X9_entry (h0) e_v1 ?_)
  refine gw_lconst0Z dX9_turns_15 rfl ?_
  obtain ⟨g, H⟩ := gd_i H
  obtain ⟨k2, e_k2, H⟩ := jn_i H
  have hJ_k2 : ∀ (v3 : Int), k2 v3 = some r → G Φ mX9_turns (gw_M Φ mX9_turns K) none 0 0 25 [(0, .ref (M + th)), (1, vI p1), (2, vI p2)] [vI v3, vI (c (th + 1) 33), vI 33, .ref (M + (th + 1))] (hp Φ hb M sh c) := by
    intro v3 H
    subst e_k2
    refine gw_iaddZ dX9_turns_25 rfl ?_
    obtain ⟨c4, e_c4, H⟩ := sto_i H
    refine gs_iastZE dX9_turns_26 rfl (h0.2.1) (by decide) (by decide) e_c4 ?_
    refine gw_aload_n dX9_turns_27 rfl rfl ?_
    refine gs_getR cl9 1 dX9_turns_28 rfl kw_1320 (by decide) (h0.1) rfl ?_
    refine gw_bipushZ dX9_turns_31 rfl (by decide) ?_
    refine gw_iload_n dX9_turns_33 rfl rfl ?_
    refine gw_iaddZ dX9_turns_34 rfl ?_
    refine gw_iload_n dX9_turns_35 rfl rfl ?_
    obtain ⟨g, H⟩ := gd_i H
    obtain ⟨c5, e_c5, H⟩ := sto_i H
    refine gs_iastZE dX9_turns_36 rfl (h0.2.1) g (by decide) e_c5 ?_
    refine gw_aload_n dX9_turns_37 rfl rfl ?_
    refine gs_getR cl9 1 dX9_turns_38 rfl kw_1320 (by decide) (h0.1) rfl ?_
    refine gw_bipushZ dX9_turns_41 rfl (by decide) ?_
    refine gw_dup2 dX9_turns_43 rfl rfl rfl ?_
    refine gs_ialdZ dX9_turns_44 rfl (h0.2.1) (by decide) (by decide) ?_
    refine gw_iconstZ dX9_turns_45 rfl ?_
    refine gw_iaddZ dX9_turns_46 rfl ?_
    obtain ⟨c6, e_c6, H⟩ := sto_i H
    refine gs_iastZE dX9_turns_47 rfl (h0.2.1) (by decide) (by decide) e_c6 ?_
    refine gw_aload_n dX9_turns_48 rfl rfl ?_
    refine gs_getR cl9 1 dX9_turns_49 rfl kw_1320 (by decide) (h0.1) rfl ?_
    refine gw_bipushZ dX9_turns_52 rfl (by decide) ?_
    refine gw_dup2 dX9_turns_54 rfl rfl rfl ?_
    refine gs_ialdZ dX9_turns_55 rfl (h0.2.1) (by decide) (by decide) ?_
    refine gw_iconstZ dX9_turns_56 rfl ?_
    refine gw_iaddZ dX9_turns_57 rfl ?_
    obtain ⟨c7, e_c7, H⟩ := sto_i H
    refine gs_iastZE dX9_turns_58 rfl (h0.2.1) (by decide) (by decide) e_c7 ?_
    refine gw_aload_n dX9_turns_59 rfl rfl ?_
    obtain ⟨v9, c8, e_c8, H⟩ := cl_i H
    refine gw_V0 okX9_laysNow dX9_turns_60 kw_1484 kw_1486 kw_43 (hp_o (h0.1)) rfl ⟨by decide, by decide⟩ ⟨by decide, by decide⟩ (Nat.le_of_ble_eq_true rfl) (w_X9_laysNow (h0) e_c8 ?_)
    cases H
    exact gw_vret dX9_turns_63 rfl (by decide) (by decide) hK
  refine gw_lc_neZ (tgt := 24) dX9_turns_16 rfl dX9_turns_17 rfl (by decide) g (by decide) (fun q => ?_) (fun q => ?_)
  · have H := bq_f q H
    refine gw_iconstZ dX9_turns_24 rfl ?_
    exact gw_L (hJ_k2 _ H) ((lvA_c rfl (lvA_c rfl (lvA_c rfl lvA_n))))
  · have H := bq_t q H
    refine gw_iconstZ dX9_turns_20 rfl ?_
    refine gw_goto (tgt := 25) dX9_turns_21 (by decide) ?_
    exact gw_L (hJ_k2 _ H) ((lvA_c rfl (lvA_c rfl (lvA_c rfl lvA_n))))
set_option maxRecDepth 100000 in
set_option maxHeartbeats 4000000 in
theorem w_X9_isOver {Φ : gwC} {hb : gwHp} {M : Nat} {sh : Nat → Option gSh} {th : Nat} {c : W0} {r : Int × W0} {K : Option Value → gwHp → Prop} (h0 : sM sh th) (H : f_X9_isOver th c = some r) (hK : K (some (vI r.1)) (hp Φ hb M sh r.2)) : gw_Con Φ mX9_isOver none [.ref (M + th)] (hp Φ hb M sh c) K := by
  unfold f_X9_isOver at H
  refine gw_start okX9_isOver (Nat.le_of_ble_eq_true rfl) ?_
  refine gw_aload_n dX9_isOver_0 rfl rfl ?_
  obtain ⟨v1, c2, e_c2, H⟩ := cl_i H
  refine gw_V0 okX9_isBest dX9_isOver_1 kw_1559 kw_1561 kw_60 (hp_o (h0.1)) rfl ⟨by decide, by decide⟩ ⟨by decide, by decide⟩ (Nat.le_of_ble_eq_true rfl) (w_X9_isBest (h0) e_c2 ?_)
  obtain ⟨g, H⟩ := gd_i H
  refine gw_if_neZ (tgt := 14) dX9_isOver_4 rfl (by decide) g (fun q => ?_) (fun q => ?_)
  · have H := bq_f q H
    refine gw_iconstZ dX9_isOver_14 rfl ?_
    refine gw_goto (tgt := 19) dX9_isOver_15 (by decide) ?_
    cases H
    exact gw_zret rfl dX9_isOver_19 rfl (by decide) (by decide) hK
  · have H := bq_t q H
    refine gw_aload_n dX9_isOver_7 rfl rfl ?_
    obtain ⟨v3, c4, e_c4, H⟩ := cl_i H
    refine gw_V0 okX9_endless dX9_isOver_8 kw_1563 kw_1565 kw_61 (hp_o (h0.1)) rfl ⟨by decide, by decide⟩ ⟨by decide, by decide⟩ (Nat.le_of_ble_eq_true rfl) (w_X9_endless (h0) e_c4 ?_)
    obtain ⟨g, H⟩ := gd_i H
    refine gw_if_ltZ (tgt := 18) dX9_isOver_11 rfl (by decide) g (fun q => ?_) (fun q => ?_)
    · have H := bq_t q H
      refine gw_iconstZ dX9_isOver_18 rfl ?_
      cases H
      exact gw_zret rfl dX9_isOver_19 rfl (by decide) (by decide) hK
    · have H := bq_f q H
      refine gw_iconstZ dX9_isOver_14 rfl ?_
      refine gw_goto (tgt := 19) dX9_isOver_15 (by decide) ?_
      cases H
      exact gw_zret rfl dX9_isOver_19 rfl (by decide) (by decide) hK
set_option maxRecDepth 100000 in
set_option maxHeartbeats 4000000 in
theorem l_X9_solves_6 {Φ : gwC} {hb : gwHp} {M : Nat} {sh : Nat → Option gSh} {th : Nat} {κ : Int → W0 → Option (Int × W0)} {r : Int × W0} {K : Option Value → gwHp → Prop} (h0 : sM sh th) (hK : K (some (vI r.1)) (hp Φ hb M sh r.2)) (hκ : ∀ (x1 : Int) (c : W0), κ x1 c = some r → G Φ mX9_solves (gw_M Φ mX9_solves K) none 0 0 40 [(1, vI x1)] [] (hp Φ hb M sh c)) : ∀ (n : Nat) (l1 : Int) (c : W0), f_X9_solves_6 th κ n l1 c = some r → G Φ mX9_solves (gw_M Φ mX9_solves K) none 0 0 6 [(0, .ref (M + th)), (1, vI l1)] [] (hp Φ hb M sh c) := by
  intro n
  induction n with
  | zero => intro l1 c H; cases H
  | succ n ih =>
    intro l1 c H
    have H : b_X9_solves_6 th κ (f_X9_solves_6 th κ n) l1 c = some r := H
    unfold b_X9_solves_6 at H
    refine gw_iload_n dX9_solves_6 rfl rfl ?_
    refine gw_bipushZ dX9_solves_7 rfl (by decide) ?_
    obtain ⟨g, H⟩ := gd_i H
    refine gw_icmp_geZ (tgt := 40) dX9_solves_9 rfl (by decide) g (by decide) (fun q => ?_) (fun q => ?_)
    · have H := bq_t q H
      exact gw_L (hκ _ _ H) ((lvA_c rfl lvA_n))
    · have H := bq_f q H
      refine gw_aload_n dX9_solves_12 rfl rfl ?_
      obtain ⟨v1, c2, e_c2, H⟩ := cl_i H
      refine gw_V0 okX9_isOver dX9_solves_13 kw_1555 kw_1557 kw_59 (hp_o (h0.1)) rfl ⟨by decide, by decide⟩ ⟨by decide, by decide⟩ (Nat.le_of_ble_eq_true rfl) (w_X9_isOver (h0) e_c2 ?_)
      obtain ⟨g, H⟩ := gd_i H
      refine gw_if_neZ (tgt := 40) dX9_solves_16 rfl (by decide) g (fun q => ?_) (fun q => ?_)
      · have H := bq_f q H
        exact gw_L (hκ _ _ H) ((lvA_c rfl lvA_n))
      · have H := bq_t q H
        refine gw_aload_n dX9_solves_19 rfl rfl ?_
        obtain ⟨v3, c4, e_c4, H⟩ := cl_i H
        refine gw_V0 okX9_bestColumn dX9_solves_20 kw_1571 kw_1573 kw_63 (hp_o (h0.1)) rfl ⟨by decide, by decide⟩ ⟨by decide, by decide⟩ (Nat.le_of_ble_eq_true rfl) (w_X9_bestColumn (h0) e_c4 ?_)
        refine gw_istore_n dX9_solves_23 rfl (by decide) ?_
        refine gw_aload_n dX9_solves_24 rfl rfl ?_
        refine gw_aload_n dX9_solves_25 rfl rfl ?_
        refine gw_iload_n dX9_solves_26 rfl rfl ?_
        obtain ⟨v5, e_v5, H⟩ := cv_i H
        refine gw_V1 okX9_leastRow dX9_solves_27 kw_1579 kw_1581 kw_65 (hp_o (h0.1)) rfl ⟨by decide, by decide⟩ ⟨by decide, by decide⟩ (Nat.le_of_ble_eq_true rfl) (w_X9_leastRow (h0) e_v5 ?_)
        refine gw_iload_n dX9_solves_30 rfl rfl ?_
        obtain ⟨v7, c6, e_c6, H⟩ := cl_i H
        refine gw_V2 okX9_turns dX9_solves_31 kw_1543 kw_1545 kw_57 (hp_o (h0.1)) rfl ⟨by decide, by decide⟩ ⟨by decide, by decide⟩ (Nat.le_of_ble_eq_true rfl) (w_X9_turns (h0) e_c6 ?_)
        refine gw_iincZ dX9_solves_34 rfl rfl (by decide) ?_
        refine gw_goto (tgt := 6) dX9_solves_37 (by decide) ?_
        exact gw_L (ih _ _ H) ((lvA_c rfl (lvA_c rfl lvA_n)))
set_option maxRecDepth 100000 in
set_option maxHeartbeats 4000000 in
theorem w_X9_solves {Φ : gwC} {hb : gwHp} {M : Nat} {sh : Nat → Option gSh} {th : Nat} {c : W0} {r : Int × W0} {K : Option Value → gwHp → Prop} (h0 : sM sh th) (H : f_X9_solves th c = some r) (hK : K (some (vI r.1)) (hp Φ hb M sh r.2)) : gw_Con Φ mX9_solves none [.ref (M + th)] (hp Φ hb M sh c) K := by
  unfold f_X9_solves at H
  refine gw_start okX9_solves (Nat.le_of_ble_eq_true rfl) ?_
  refine gw_aload_n dX9_solves_0 rfl rfl ?_
  obtain ⟨v2, c1, e_c1, H⟩ := cl_i H
  refine gw_V0 okX9_laysNow dX9_solves_1 kw_1484 kw_1486 kw_43 (hp_o (h0.1)) rfl ⟨by decide, by decide⟩ ⟨by decide, by decide⟩ (Nat.le_of_ble_eq_true rfl) (w_X9_laysNow (h0) e_c1 ?_)
  refine gw_iconstZ dX9_solves_4 rfl ?_
  refine gw_istore_n dX9_solves_5 rfl (by decide) ?_
  refine gw_L (l_X9_solves_6 h0 hK (fun v3 c4 H => ?_) LF _ _ H) ((lvA_c rfl (lvA_c rfl lvA_n)))
  refine gw_iload_n dX9_solves_40 rfl rfl ?_
  cases H
  exact gw_iret dX9_solves_41 rfl (by decide) (by decide) hK
set_option maxRecDepth 100000 in
set_option maxHeartbeats 4000000 in
theorem l_X9_setVariables_60 {Φ : gwC} {hb : gwHp} {M : Nat} {sh : Nat → Option gSh} {th : Nat} {l2 : Int} {l3 : Int} {κ : W0 → Option (Int × W0)} {r : Int × W0} {K : Option Value → gwHp → Prop} (h0 : sM sh th) (hK : K (some (vI r.1)) (hp Φ hb M sh r.2)) (hκ : ∀ (c : W0), κ c = some r → G Φ mX9_setVariables (gw_M Φ mX9_setVariables K) none 0 0 87 [(0, .ref (M + th)), (2, vI l2), (3, vI l3)] [] (hp Φ hb M sh c)) : ∀ (n : Nat) (l4 : Int) (c : W0), f_X9_setVariables_60 th l2 l3 κ n l4 c = some r → G Φ mX9_setVariables (gw_M Φ mX9_setVariables K) none 0 0 60 [(0, .ref (M + th)), (2, vI l2), (3, vI l3), (4, vI l4)] [] (hp Φ hb M sh c) := by
  intro n
  induction n with
  | zero => intro l4 c H; cases H
  | succ n ih =>
    intro l4 c H
    have H : b_X9_setVariables_60 th l2 l3 κ (f_X9_setVariables_60 th l2 l3 κ n) l4 c = some r := H
    unfold b_X9_setVariables_60 at H
    refine gw_iload dX9_setVariables_60 rfl rfl ?_
    refine gw_iconstZ dX9_setVariables_62 rfl ?_
    obtain ⟨g, H⟩ := gd_i H
    refine gw_icmp_geZ (tgt := 87) dX9_setVariables_63 rfl (by decide) g (by decide) (fun q => ?_) (fun q => ?_)
    · have H := bq_t q H
      exact gw_L (hκ _ H) ((lvA_c rfl (lvA_c rfl (lvA_c rfl lvA_n))))
    · have H := bq_f q H
      refine gw_aload_n dX9_setVariables_66 rfl rfl ?_
      refine gs_getR cl9 1 dX9_setVariables_67 rfl kw_1320 (by decide) (h0.1) rfl ?_
      refine gw_bipushZ dX9_setVariables_70 rfl (by decide) ?_
      refine gw_iconstZ dX9_setVariables_72 rfl ?_
      refine gw_iload dX9_setVariables_73 rfl rfl ?_
      refine gw_imulZ dX9_setVariables_75 rfl ?_
      refine gw_iaddZ dX9_setVariables_76 rfl ?_
      refine gw_iload_n dX9_setVariables_77 rfl rfl ?_
      refine gw_iaddZ dX9_setVariables_78 rfl ?_
      refine gw_iconstZ dX9_setVariables_79 rfl ?_
      obtain ⟨g, H⟩ := gd_i H
      obtain ⟨c1, e_c1, H⟩ := sto_i H
      refine gs_iastZE dX9_setVariables_80 rfl (h0.2.1) g (by decide) e_c1 ?_
      refine gw_iincZ dX9_setVariables_81 rfl rfl (by decide) ?_
      refine gw_goto (tgt := 60) dX9_setVariables_84 (by decide) ?_
      exact gw_L (ih _ _ H) ((lvA_c rfl (lvA_c rfl (lvA_c rfl (lvA_c rfl lvA_n)))))
set_option maxRecDepth 100000 in
set_option maxHeartbeats 4000000 in
theorem l_X9_setVariables_43 {Φ : gwC} {hb : gwHp} {M : Nat} {sh : Nat → Option gSh} {th : Nat} {l2 : Int} {κ : W0 → Option (Int × W0)} {r : Int × W0} {K : Option Value → gwHp → Prop} (h0 : sM sh th) (hK : K (some (vI r.1)) (hp Φ hb M sh r.2)) (hκ : ∀ (c : W0), κ c = some r → G Φ mX9_setVariables (gw_M Φ mX9_setVariables K) none 0 0 93 [(0, .ref (M + th)), (2, vI l2)] [] (hp Φ hb M sh c)) : ∀ (n : Nat) (l3 : Int) (c : W0), f_X9_setVariables_43 th l2 κ n l3 c = some r → G Φ mX9_setVariables (gw_M Φ mX9_setVariables K) none 0 0 43 [(0, .ref (M + th)), (2, vI l2), (3, vI l3)] [] (hp Φ hb M sh c) := by
  intro n
  induction n with
  | zero => intro l3 c H; cases H
  | succ n ih =>
    intro l3 c H
    have H : b_X9_setVariables_43 th l2 κ (f_X9_setVariables_43 th l2 κ n) l3 c = some r := H
    unfold b_X9_setVariables_43 at H
    refine gw_iload_n dX9_setVariables_43 rfl rfl ?_
    refine gw_iconstZ dX9_setVariables_44 rfl ?_
    obtain ⟨g, H⟩ := gd_i H
    refine gw_icmp_geZ (tgt := 93) dX9_setVariables_45 rfl (by decide) g (by decide) (fun q => ?_) (fun q => ?_)
    · have H := bq_t q H
      exact gw_L (hκ _ H) ((lvA_c rfl (lvA_c rfl lvA_n)))
    · have H := bq_f q H
      refine gw_aload_n dX9_setVariables_48 rfl rfl ?_
      refine gs_getR cl9 1 dX9_setVariables_49 rfl kw_1320 (by decide) (h0.1) rfl ?_
      refine gw_iconstZ dX9_setVariables_52 rfl ?_
      refine gw_iload_n dX9_setVariables_53 rfl rfl ?_
      refine gw_iaddZ dX9_setVariables_54 rfl ?_
      refine gw_iconstZ dX9_setVariables_55 rfl ?_
      obtain ⟨g, H⟩ := gd_i H
      obtain ⟨c1, e_c1, H⟩ := sto_i H
      refine gs_iastZE dX9_setVariables_56 rfl (h0.2.1) g (by decide) e_c1 ?_
      refine gw_iconstZ dX9_setVariables_57 rfl ?_
      refine gw_istore dX9_setVariables_58 rfl (by decide) ?_
      refine gw_L (l_X9_setVariables_60 h0 hK (fun c2 H => ?_) LF _ _ H) ((lvA_c rfl (lvA_c rfl (lvA_c rfl (lvA_c rfl lvA_n)))))
      refine gw_iincZ dX9_setVariables_87 rfl rfl (by decide) ?_
      refine gw_goto (tgt := 43) dX9_setVariables_90 (by decide) ?_
      exact gw_L (ih _ _ H) ((lvA_c rfl (lvA_c rfl (lvA_c rfl lvA_n))))
set_option maxRecDepth 100000 in
set_option maxHeartbeats 4000000 in
theorem w_X9_setVariables {Φ : gwC} {hb : gwHp} {M : Nat} {sh : Nat → Option gSh} {th : Nat} {p1 : Int} {c : W0} {r : Int × W0} {K : Option Value → gwHp → Prop} (h0 : sM sh th) (H : f_X9_setVariables th p1 c = some r) (hK : K (some (vI r.1)) (hp Φ hb M sh r.2)) : gw_Con Φ mX9_setVariables none [.ref (M + th), vI p1] (hp Φ hb M sh c) K := by
  unfold f_X9_setVariables at H
  refine gw_start okX9_setVariables (Nat.le_of_ble_eq_true rfl) ?_
  refine gw_aload_n dX9_setVariables_0 rfl rfl ?_
  refine gw_iload_n dX9_setVariables_1 rfl rfl ?_
  refine gw_iconstZ dX9_setVariables_2 rfl ?_
  refine gw_iconstZ dX9_setVariables_3 rfl ?_
  obtain ⟨v1, e_v1, H⟩ := cv_i H
  refine gw_S3 okX9_in dX9_setVariables_4 kw_1413 kw_1414 ⟨by decide, by decide⟩ ⟨by decide, by decide⟩ (Nat.le_of_ble_eq_true rfl) (w_X9_in  e_v1 ?_)
  obtain ⟨g, H⟩ := gd_i H
  obtain ⟨k2, e_k2, H⟩ := jn_i H
  have hJ_k2 : ∀ (v3 : Int), k2 v3 = some r → G Φ mX9_setVariables (gw_M Φ mX9_setVariables K) none 0 0 15 [(0, .ref (M + th)), (1, vI p1)] [vI v3, .ref (M + th)] (hp Φ hb M sh c) := by
    intro v3 H
    subst e_k2
    obtain ⟨v4, c5, e_c5, H⟩ := cl_i H
    refine gw_V1 okX9_holds dX9_setVariables_15 kw_1416 kw_1418 kw_33 (hp_o (h0.1)) rfl ⟨by decide, by decide⟩ ⟨by decide, by decide⟩ (Nat.le_of_ble_eq_true rfl) (w_X9_holds (h0) e_c5 ?_)
    obtain ⟨g, H⟩ := gd_i H
    refine gw_if_neZ (tgt := 23) dX9_setVariables_18 rfl (by decide) g (fun q => ?_) (fun q => ?_)
    · have H := bq_f q H
      refine gw_aload_n dX9_setVariables_23 rfl rfl ?_
      obtain ⟨v7, c6, e_c6, H⟩ := cl_i H
      refine gw_V0 okX9_save dX9_setVariables_24 kw_1420 kw_1422 kw_34 (hp_o (h0.1)) rfl ⟨by decide, by decide⟩ ⟨by decide, by decide⟩ (Nat.le_of_ble_eq_true rfl) (w_X9_save (h0) e_c6 ?_)
      refine gw_aload_n dX9_setVariables_27 rfl rfl ?_
      refine gs_getR cl9 1 dX9_setVariables_28 rfl kw_1320 (by decide) (h0.1) rfl ?_
      refine gw_iconstZ dX9_setVariables_31 rfl ?_
      refine gs_ialdZ dX9_setVariables_32 rfl (h0.2.1) (by decide) (by decide) ?_
      refine gw_istore_n dX9_setVariables_33 rfl (by decide) ?_
      refine gw_aload_n dX9_setVariables_34 rfl rfl ?_
      refine gs_getR cl9 1 dX9_setVariables_35 rfl kw_1320 (by decide) (h0.1) rfl ?_
      refine gw_iconstZ dX9_setVariables_38 rfl ?_
      refine gw_iload_n dX9_setVariables_39 rfl rfl ?_
      obtain ⟨c8, e_c8, H⟩ := sto_i H
      refine gs_iastZE dX9_setVariables_40 rfl (h0.2.1) (by decide) (by decide) e_c8 ?_
      refine gw_iload_n dX9_setVariables_41 rfl rfl ?_
      refine gw_istore_n dX9_setVariables_42 rfl (by decide) ?_
      refine gw_L (l_X9_setVariables_43 h0 hK (fun c9 H => ?_) LF _ _ H) ((lvA_c rfl (lvA_c rfl (lvA_c rfl lvA_n))))
      refine gw_aload_n dX9_setVariables_93 rfl rfl ?_
      obtain ⟨v11, c10, e_c10, H⟩ := cl_i H
      refine gw_V0 okX9_begins dX9_setVariables_94 kw_1424 kw_1426 kw_35 (hp_o (h0.1)) rfl ⟨by decide, by decide⟩ ⟨by decide, by decide⟩ (Nat.le_of_ble_eq_true rfl) (w_X9_begins (h0) e_c10 ?_)
      refine gw_iload_n dX9_setVariables_97 rfl rfl ?_
      cases H
      exact gw_iret dX9_setVariables_98 rfl (by decide) (by decide) hK
    · have H := bq_t q H
      refine gw_iconstZ dX9_setVariables_21 rfl ?_
      cases H
      exact gw_iret dX9_setVariables_22 rfl (by decide) (by decide) hK
  refine gw_if_eqZ (tgt := 14) dX9_setVariables_7 rfl (by decide) g (fun q => ?_) (fun q => ?_)
  · have H := bq_t q H
    refine gw_iconstZ dX9_setVariables_14 rfl ?_
    exact gw_L (hJ_k2 _ H) ((lvA_c rfl (lvA_c rfl lvA_n)))
  · have H := bq_f q H
    refine gw_iconstZ dX9_setVariables_10 rfl ?_
    refine gw_goto (tgt := 15) dX9_setVariables_11 (by decide) ?_
    exact gw_L (hJ_k2 _ H) ((lvA_c rfl (lvA_c rfl lvA_n)))
set_option maxRecDepth 100000 in
set_option maxHeartbeats 4000000 in
theorem w_X9_changes {Φ : gwC} {hb : gwHp} {M : Nat} {sh : Nat → Option gSh} {th : Nat} {p1 : Int} {p2 : Int} {c : W0} {r : Int × W0} {K : Option Value → gwHp → Prop} (h0 : sM sh th) (H : f_X9_changes th p1 p2 c = some r) (hK : K (some (vI r.1)) (hp Φ hb M sh r.2)) : gw_Con Φ mX9_changes none [.ref (M + th), vI p1, vI p2] (hp Φ hb M sh c) K := by
  unfold f_X9_changes at H
  refine gw_start okX9_changes (Nat.le_of_ble_eq_true rfl) ?_
  refine gw_aload_n dX9_changes_0 rfl rfl ?_
  obtain ⟨v2, c1, e_c1, H⟩ := cl_i H
  refine gw_V0 okX9_save dX9_changes_1 kw_1420 kw_1422 kw_34 (hp_o (h0.1)) rfl ⟨by decide, by decide⟩ ⟨by decide, by decide⟩ (Nat.le_of_ble_eq_true rfl) (w_X9_save (h0) e_c1 ?_)
  refine gw_aload_n dX9_changes_4 rfl rfl ?_
  refine gs_getR cl9 1 dX9_changes_5 rfl kw_1320 (by decide) (h0.1) rfl ?_
  refine gw_iload_n dX9_changes_8 rfl rfl ?_
  obtain ⟨g, H⟩ := gd_i H
  refine gs_ialdZ dX9_changes_9 rfl (h0.2.1) g (by decide) ?_
  refine gw_istore_n dX9_changes_10 rfl (by decide) ?_
  refine gw_aload_n dX9_changes_11 rfl rfl ?_
  refine gs_getR cl9 1 dX9_changes_12 rfl kw_1320 (by decide) (h0.1) rfl ?_
  refine gw_iload_n dX9_changes_15 rfl rfl ?_
  refine gw_iload_n dX9_changes_16 rfl rfl ?_
  obtain ⟨g, H⟩ := gd_i H
  obtain ⟨c3, e_c3, H⟩ := sto_i H
  refine gs_iastZE dX9_changes_17 rfl (h0.2.1) g (by decide) e_c3 ?_
  refine gw_aload_n dX9_changes_18 rfl rfl ?_
  obtain ⟨v5, c4, e_c4, H⟩ := cl_i H
  refine gw_V0 okX9_begins dX9_changes_19 kw_1424 kw_1426 kw_35 (hp_o (h0.1)) rfl ⟨by decide, by decide⟩ ⟨by decide, by decide⟩ (Nat.le_of_ble_eq_true rfl) (w_X9_begins (h0) e_c4 ?_)
  refine gw_iload_n dX9_changes_22 rfl rfl ?_
  cases H
  exact gw_iret dX9_changes_23 rfl (by decide) (by decide) hK
set_option maxRecDepth 100000 in
set_option maxHeartbeats 4000000 in
theorem w_X9_setProfit {Φ : gwC} {hb : gwHp} {M : Nat} {sh : Nat → Option gSh} {th : Nat} {p1 : Int} {p2 : Int} {c : W0} {r : Int × W0} {K : Option Value → gwHp → Prop} (h0 : sM sh th) (H : f_X9_setProfit th p1 p2 c = some r) (hK : K (some (vI r.1)) (hp Φ hb M sh r.2)) : gw_Con Φ mX9_setProfit none [.ref (M + th), vI p1, vI p2] (hp Φ hb M sh c) K := by
  unfold f_X9_setProfit at H
  refine gw_start okX9_setProfit (Nat.le_of_ble_eq_true rfl) ?_
  refine gw_aload_n dX9_setProfit_0 rfl rfl ?_
  refine gw_aload_n dX9_setProfit_1 rfl rfl ?_
  refine gw_iload_n dX9_setProfit_2 rfl rfl ?_
  obtain ⟨v1, e_v1, H⟩ := cv_i H
  refine gw_V1 okX9_isVariable dX9_setProfit_3 kw_1432 kw_1434 kw_36 (hp_o (h0.1)) rfl ⟨by decide, by decide⟩ ⟨by decide, by decide⟩ (Nat.le_of_ble_eq_true rfl) (w_X9_isVariable (h0) e_v1 ?_)
  obtain ⟨g, H⟩ := gd_i H
  obtain ⟨k2, e_k2, H⟩ := jn_i H
  have hJ_k2 : ∀ (v3 : Int), k2 v3 = some r → G Φ mX9_setProfit (gw_M Φ mX9_setProfit K) none 0 0 29 [(0, .ref (M + th)), (1, vI p1), (2, vI p2)] [vI v3, .ref (M + th)] (hp Φ hb M sh c) := by
    intro v3 H
    subst e_k2
    obtain ⟨v4, c5, e_c5, H⟩ := cl_i H
    refine gw_V1 okX9_holds dX9_setProfit_29 kw_1416 kw_1418 kw_33 (hp_o (h0.1)) rfl ⟨by decide, by decide⟩ ⟨by decide, by decide⟩ (Nat.le_of_ble_eq_true rfl) (w_X9_holds (h0) e_c5 ?_)
    obtain ⟨g, H⟩ := gd_i H
    refine gw_if_eqZ (tgt := 46) dX9_setProfit_32 rfl (by decide) g (fun q => ?_) (fun q => ?_)
    · have H := bq_t q H
      refine gw_iconstZ dX9_setProfit_46 rfl ?_
      cases H
      exact gw_iret dX9_setProfit_47 rfl (by decide) (by decide) hK
    · have H := bq_f q H
      refine gw_aload_n dX9_setProfit_35 rfl rfl ?_
      refine gw_iconstZ dX9_setProfit_36 rfl ?_
      refine gw_iload_n dX9_setProfit_37 rfl rfl ?_
      refine gw_iaddZ dX9_setProfit_38 rfl ?_
      refine gw_iload_n dX9_setProfit_39 rfl rfl ?_
      obtain ⟨v6, c7, e_c7, H⟩ := cl_i H
      refine gw_V2 okX9_changes dX9_setProfit_40 kw_1436 kw_1438 kw_37 (hp_o (h0.1)) rfl ⟨by decide, by decide⟩ ⟨by decide, by decide⟩ (Nat.le_of_ble_eq_true rfl) (w_X9_changes (h0) e_c7 ?_)
      refine gw_goto (tgt := 47) dX9_setProfit_43 (by decide) ?_
      cases H
      exact gw_iret dX9_setProfit_47 rfl (by decide) (by decide) hK
  refine gw_if_neZ (tgt := 13) dX9_setProfit_6 rfl (by decide) g (fun q => ?_) (fun q => ?_)
  · have H := bq_f q H
    refine gw_iload_n dX9_setProfit_13 rfl rfl ?_
    refine gw_bipushZ dX9_setProfit_14 rfl (by decide) ?_
    refine gw_bipushZ dX9_setProfit_16 rfl (by decide) ?_
    obtain ⟨v8, e_v8, H⟩ := cv_i H
    refine gw_S3 okX9_in dX9_setProfit_18 kw_1413 kw_1414 ⟨by decide, by decide⟩ ⟨by decide, by decide⟩ (Nat.le_of_ble_eq_true rfl) (w_X9_in  e_v8 ?_)
    obtain ⟨g, H⟩ := gd_i H
    refine gw_if_eqZ (tgt := 28) dX9_setProfit_21 rfl (by decide) g (fun q => ?_) (fun q => ?_)
    · have H := bq_t q H
      refine gw_iconstZ dX9_setProfit_28 rfl ?_
      exact gw_L (hJ_k2 _ H) ((lvA_c rfl (lvA_c rfl (lvA_c rfl lvA_n))))
    · have H := bq_f q H
      refine gw_iconstZ dX9_setProfit_24 rfl ?_
      refine gw_goto (tgt := 29) dX9_setProfit_25 (by decide) ?_
      exact gw_L (hJ_k2 _ H) ((lvA_c rfl (lvA_c rfl (lvA_c rfl lvA_n))))
  · have H := bq_t q H
    refine gw_iconstZ dX9_setProfit_9 rfl ?_
    refine gw_goto (tgt := 29) dX9_setProfit_10 (by decide) ?_
    exact gw_L (hJ_k2 _ H) ((lvA_c rfl (lvA_c rfl (lvA_c rfl lvA_n))))
set_option maxRecDepth 100000 in
set_option maxHeartbeats 4000000 in
theorem l_X9_addConstraint_61 {Φ : gwC} {hb : gwHp} {M : Nat} {sh : Nat → Option gSh} {th : Nat} {p1 : Int} {l2 : Int} {κ : W0 → Option (Int × W0)} {r : Int × W0} {K : Option Value → gwHp → Prop} (h0 : sM sh th) (hK : K (some (vI r.1)) (hp Φ hb M sh r.2)) (hκ : ∀ (c : W0), κ c = some r → G Φ mX9_addConstraint (gw_M Φ mX9_addConstraint K) none 0 0 86 [(0, .ref (M + th)), (1, vI p1), (2, vI l2)] [] (hp Φ hb M sh c)) : ∀ (n : Nat) (l3 : Int) (c : W0), f_X9_addConstraint_61 th p1 l2 κ n l3 c = some r → G Φ mX9_addConstraint (gw_M Φ mX9_addConstraint K) none 0 0 61 [(0, .ref (M + th)), (1, vI p1), (2, vI l2), (3, vI l3)] [] (hp Φ hb M sh c) := by
  intro n
  induction n with
  | zero => intro l3 c H; cases H
  | succ n ih =>
    intro l3 c H
    have H : b_X9_addConstraint_61 th p1 l2 κ (f_X9_addConstraint_61 th p1 l2 κ n) l3 c = some r := H
    unfold b_X9_addConstraint_61 at H
    refine gw_iload_n dX9_addConstraint_61 rfl rfl ?_
    refine gw_iconstZ dX9_addConstraint_62 rfl ?_
    obtain ⟨g, H⟩ := gd_i H
    refine gw_icmp_geZ (tgt := 86) dX9_addConstraint_63 rfl (by decide) g (by decide) (fun q => ?_) (fun q => ?_)
    · have H := bq_t q H
      exact gw_L (hκ _ H) ((lvA_c rfl (lvA_c rfl (lvA_c rfl lvA_n))))
    · have H := bq_f q H
      refine gw_aload_n dX9_addConstraint_66 rfl rfl ?_
      refine gs_getR cl9 1 dX9_addConstraint_67 rfl kw_1320 (by decide) (h0.1) rfl ?_
      refine gw_bipushZ dX9_addConstraint_70 rfl (by decide) ?_
      refine gw_iconstZ dX9_addConstraint_72 rfl ?_
      refine gw_iload_n dX9_addConstraint_73 rfl rfl ?_
      refine gw_imulZ dX9_addConstraint_74 rfl ?_
      refine gw_iaddZ dX9_addConstraint_75 rfl ?_
      refine gw_iload_n dX9_addConstraint_76 rfl rfl ?_
      refine gw_iaddZ dX9_addConstraint_77 rfl ?_
      refine gw_iconstZ dX9_addConstraint_78 rfl ?_
      obtain ⟨g, H⟩ := gd_i H
      obtain ⟨c1, e_c1, H⟩ := sto_i H
      refine gs_iastZE dX9_addConstraint_79 rfl (h0.2.1) g (by decide) e_c1 ?_
      refine gw_iincZ dX9_addConstraint_80 rfl rfl (by decide) ?_
      refine gw_goto (tgt := 61) dX9_addConstraint_83 (by decide) ?_
      exact gw_L (ih _ _ H) ((lvA_c rfl (lvA_c rfl (lvA_c rfl (lvA_c rfl lvA_n)))))
set_option maxRecDepth 100000 in
set_option maxHeartbeats 4000000 in
theorem w_X9_addConstraint {Φ : gwC} {hb : gwHp} {M : Nat} {sh : Nat → Option gSh} {th : Nat} {p1 : Int} {c : W0} {r : Int × W0} {K : Option Value → gwHp → Prop} (h0 : sM sh th) (H : f_X9_addConstraint th p1 c = some r) (hK : K (some (vI r.1)) (hp Φ hb M sh r.2)) : gw_Con Φ mX9_addConstraint none [.ref (M + th), vI p1] (hp Φ hb M sh c) K := by
  unfold f_X9_addConstraint at H
  refine gw_start okX9_addConstraint (Nat.le_of_ble_eq_true rfl) ?_
  refine gw_aload_n dX9_addConstraint_0 rfl rfl ?_
  refine gw_iload_n dX9_addConstraint_1 rfl rfl ?_
  refine gw_iconstZ dX9_addConstraint_2 rfl ?_
  refine gw_bipushZ dX9_addConstraint_3 rfl (by decide) ?_
  obtain ⟨v1, e_v1, H⟩ := cv_i H
  refine gw_S3 okX9_in dX9_addConstraint_5 kw_1413 kw_1414 ⟨by decide, by decide⟩ ⟨by decide, by decide⟩ (Nat.le_of_ble_eq_true rfl) (w_X9_in  e_v1 ?_)
  obtain ⟨g, H⟩ := gd_i H
  obtain ⟨k2, e_k2, H⟩ := jn_i H
  have hJ_k2 : ∀ (v3 : Int), k2 v3 = some r → G Φ mX9_addConstraint (gw_M Φ mX9_addConstraint K) none 0 0 30 [(0, .ref (M + th)), (1, vI p1)] [vI v3, .ref (M + th)] (hp Φ hb M sh c) := by
    intro v3 H
    subst e_k2
    obtain ⟨v4, c5, e_c5, H⟩ := cl_i H
    refine gw_V1 okX9_holds dX9_addConstraint_30 kw_1416 kw_1418 kw_33 (hp_o (h0.1)) rfl ⟨by decide, by decide⟩ ⟨by decide, by decide⟩ (Nat.le_of_ble_eq_true rfl) (w_X9_holds (h0) e_c5 ?_)
    obtain ⟨g, H⟩ := gd_i H
    refine gw_if_neZ (tgt := 38) dX9_addConstraint_33 rfl (by decide) g (fun q => ?_) (fun q => ?_)
    · have H := bq_f q H
      refine gw_aload_n dX9_addConstraint_38 rfl rfl ?_
      obtain ⟨v7, c6, e_c6, H⟩ := cl_i H
      refine gw_V0 okX9_save dX9_addConstraint_39 kw_1420 kw_1422 kw_34 (hp_o (h0.1)) rfl ⟨by decide, by decide⟩ ⟨by decide, by decide⟩ (Nat.le_of_ble_eq_true rfl) (w_X9_save (h0) e_c6 ?_)
      refine gw_aload_n dX9_addConstraint_42 rfl rfl ?_
      refine gs_getR cl9 1 dX9_addConstraint_43 rfl kw_1320 (by decide) (h0.1) rfl ?_
      refine gw_iconstZ dX9_addConstraint_46 rfl ?_
      refine gs_ialdZ dX9_addConstraint_47 rfl (h0.2.1) (by decide) (by decide) ?_
      refine gw_istore_n dX9_addConstraint_48 rfl (by decide) ?_
      refine gw_aload_n dX9_addConstraint_49 rfl rfl ?_
      refine gs_getR cl9 1 dX9_addConstraint_50 rfl kw_1320 (by decide) (h0.1) rfl ?_
      refine gw_iconstZ dX9_addConstraint_53 rfl ?_
      refine gw_dup2 dX9_addConstraint_54 rfl rfl rfl ?_
      refine gs_ialdZ dX9_addConstraint_55 rfl (h0.2.1) (by decide) (by decide) ?_
      refine gw_iconstZ dX9_addConstraint_56 rfl ?_
      refine gw_iaddZ dX9_addConstraint_57 rfl ?_
      obtain ⟨c8, e_c8, H⟩ := sto_i H
      refine gs_iastZE dX9_addConstraint_58 rfl (h0.2.1) (by decide) (by decide) e_c8 ?_
      refine gw_iconstZ dX9_addConstraint_59 rfl ?_
      refine gw_istore_n dX9_addConstraint_60 rfl (by decide) ?_
      refine gw_L (l_X9_addConstraint_61 h0 hK (fun c9 H => ?_) LF _ _ H) ((lvA_c rfl (lvA_c rfl (lvA_c rfl (lvA_c rfl lvA_n)))))
      refine gw_aload_n dX9_addConstraint_86 rfl rfl ?_
      refine gs_getR cl9 1 dX9_addConstraint_87 rfl kw_1320 (by decide) (h0.1) rfl ?_
      refine gw_bipushZ dX9_addConstraint_90 rfl (by decide) ?_
      refine gw_iload_n dX9_addConstraint_92 rfl rfl ?_
      refine gw_iaddZ dX9_addConstraint_93 rfl ?_
      refine gw_iload_n dX9_addConstraint_94 rfl rfl ?_
      obtain ⟨g, H⟩ := gd_i H
      obtain ⟨c10, e_c10, H⟩ := sto_i H
      refine gs_iastZE dX9_addConstraint_95 rfl (h0.2.1) g (by decide) e_c10 ?_
      refine gw_aload_n dX9_addConstraint_96 rfl rfl ?_
      obtain ⟨v12, c11, e_c11, H⟩ := cl_i H
      refine gw_V0 okX9_begins dX9_addConstraint_97 kw_1424 kw_1426 kw_35 (hp_o (h0.1)) rfl ⟨by decide, by decide⟩ ⟨by decide, by decide⟩ (Nat.le_of_ble_eq_true rfl) (w_X9_begins (h0) e_c11 ?_)
      refine gw_iload_n dX9_addConstraint_100 rfl rfl ?_
      cases H
      exact gw_iret dX9_addConstraint_101 rfl (by decide) (by decide) hK
    · have H := bq_t q H
      refine gw_iconstZ dX9_addConstraint_36 rfl ?_
      cases H
      exact gw_iret dX9_addConstraint_37 rfl (by decide) (by decide) hK
  refine gw_if_neZ (tgt := 15) dX9_addConstraint_8 rfl (by decide) g (fun q => ?_) (fun q => ?_)
  · have H := bq_f q H
    refine gw_aload_n dX9_addConstraint_15 rfl rfl ?_
    refine gs_getR cl9 1 dX9_addConstraint_16 rfl kw_1320 (by decide) (h0.1) rfl ?_
    refine gw_iconstZ dX9_addConstraint_19 rfl ?_
    refine gs_ialdZ dX9_addConstraint_20 rfl (h0.2.1) (by decide) (by decide) ?_
    refine gw_iconstZ dX9_addConstraint_21 rfl ?_
    obtain ⟨g, H⟩ := gd_i H
    refine gw_icmp_neZ (tgt := 29) dX9_addConstraint_22 rfl (by decide) g (by decide) (fun q => ?_) (fun q => ?_)
    · have H := bq_f q H
      refine gw_iconstZ dX9_addConstraint_29 rfl ?_
      exact gw_L (hJ_k2 _ H) ((lvA_c rfl (lvA_c rfl lvA_n)))
    · have H := bq_t q H
      refine gw_iconstZ dX9_addConstraint_25 rfl ?_
      refine gw_goto (tgt := 30) dX9_addConstraint_26 (by decide) ?_
      exact gw_L (hJ_k2 _ H) ((lvA_c rfl (lvA_c rfl lvA_n)))
  · have H := bq_t q H
    refine gw_iconstZ dX9_addConstraint_11 rfl ?_
    refine gw_goto (tgt := 30) dX9_addConstraint_12 (by decide) ?_
    exact gw_L (hJ_k2 _ H) ((lvA_c rfl (lvA_c rfl lvA_n)))
end FW
